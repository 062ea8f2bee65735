/-! calls: law, day -/
set_option maxRecDepth 8000 in
set_option maxHeartbeats 2000000 in
theorem call_law {M : zM} {v k : Int} (h : zI M) (hv : -2147483648 ≤ v ∧ v ≤ 2147483647) (hk : -2147483648 ≤ k ∧ k ≤ 2147483647) : zCall (f_X10_law v k M) (fun N => f_X11_law v k N) := by
  have hz := h
  obtain ⟨T, hI⟩ := h
  have w0 := hI.w0
  have hT := hI.txt
  generalize hAA : M 43 0 = A at w0 hT
  have hA := w0.head
  have h0 := hA.thg
  have h1 := hA.own
  generalize hWW : M 68 0 = W
  obtain ⟨l1, l2, l3⟩ := w0.lay (W := W)
  by_cases hr : 0 ≤ v ∧ v < A 1
  case neg =>
    refine zCall.same hz (v := -100000) ?_ ?_
    · unfold f_X10_law
      rw [X_isKept l1 hA l2 hv, if_neg (fun z => hr z.1)]
      simp only [zbs]
      rw [if_pos zw_0]
    · unfold f_X11_law
      rw [R_isThing hAA hA hv, if_neg hr]
      simp only [zbs]
      rw [if_pos zw_0]
  obtain ⟨t, rfl⟩ := Int.eq_ofNat_of_zero_le hr.1
  have hat := l2.at_ t hr.2
  have hlo : sLay A W (14 + t) = A (104 + t) := by rw [sLay_lo (by omega), show 90 + (14 + t) = 104 + t by omega]
  rw [hlo] at hat
  by_cases hkp : A (104 + t) = -1
  case neg =>
    refine zCall.same hz (v := -100000) ?_ ?_
    · unfold f_X10_law
      rw [X_isKept l1 hA l2 hv, if_neg (fun z => hkp (by rw [Int.toNat_natCast] at z; rw [← hlo]; exact z.2))]
      simp only [zbs]
      rw [if_pos zw_0]
    · unfold f_X11_law
      rw [R_isThing hAA hA hv, if_pos hr]
      simp (disch := omega) only [if_true, if_false, true_or, or_true, true_and, and_true, not_true_eq_false, not_false_eq_true, zbs, zw_id, if_neg, if_pos, zi104, hAA]
  have hkk : sLay A W (14 + t) = -1 := by rw [hlo]; exact hkp
  -- the reference's, on any memory that has its cells
  have ref : ∀ M1 : zM, frW M M1 → ∃ M2, frV M1 M2 ∧ M2 43 0 = A ∧ f_X11_law t k M1 = some (if k = 0 then sLaw T A (sLay A W) t 0 0 else if k = 1 then sLaw T A (sLay A W) t 1 0 else if k = 2 then sLaw T A (sLay A W) t 2 0 else if k = 3 then sLaw T A (sLay A W) t 3 (sLay A W (sLaw T A (sLay A W) t 2 0).toNat) else -100000, M2) := by
    intro M1 f1
    have hA1 : M1 43 0 = A := by rw [f1 43 0 (by unfold sc0; omega)]; exact hAA
    have hW1 : M1 68 0 = W := by rw [f1 68 0 (by unfold sc0; omega)]; exact hWW
    obtain ⟨N, d1, d2, d3⟩ := R_lay hA1
    rw [hW1] at d3
    have hAN : N 43 0 = A := by rw [d2 43 0 (by omega)]; exact hA1
    have hTN : textsOK N (A 3) T := hT.frame (fun k i hk => by rw [d2 k i (by unfold txK at hk; omega), f1 k i (by unfold txK at hk; unfold sc0; omega)])
    have start : f_X11_law t k M1 = (if zw k = 0 then (f_X11_dearsOf t N).bind fun p4 => some (p4.1, p4.2) else if zw k = 1 then (f_X11_afterOf t N).bind fun p6 => some (p6.1, p6.2) else if zw k = 2 then (f_X11_toOf t N).bind fun p8 => some (p8.1, p8.2) else if zw k = 3 then (f_X11_bringsOf t N).bind fun p10 => some (p10.1, p10.2) else some ((-100000), N)) := by
      unfold f_X11_law
      rw [R_isThing hA1 hA hv, if_pos hr]
      simp (disch := omega) only [if_true, if_false, true_or, or_true, true_and, and_true, not_true_eq_false, not_false_eq_true, zbs, zw_id, if_neg, if_pos, zi104, hA1, hkp]
      rw [d1]
      simp only [zbs]
    rw [start, zw_id (z := k) (by omega) (by omega)]
    by_cases k0 : k = 0
    · obtain ⟨M2, e1, e2⟩ := R_dears hAN d3 hA l2 hTN hr.2 hkk
      refine ⟨M2, (frV.of68 d2).trans (frR.of e2).v, by rw [e2 43 0 (by omega) (by omega)]; exact hAN, ?_⟩
      rw [if_pos k0, if_pos k0, e1]; rfl
    · rw [if_neg k0, if_neg k0]
      by_cases k1 : k = 1
      · obtain ⟨M2, e1, e2⟩ := R_after hAN d3 hA l2 hTN hr.2 hkk
        refine ⟨M2, (frV.of68 d2).trans (frR.of e2).v, by rw [e2 43 0 (by omega) (by omega)]; exact hAN, ?_⟩
        rw [if_pos k1, if_pos k1, e1]; rfl
      · rw [if_neg k1, if_neg k1]
        by_cases k2 : k = 2
        · obtain ⟨M2, e1, e2⟩ := R_to hAN d3 hA l2 hTN hr.2 hkk
          refine ⟨M2, (frV.of68 d2).trans (frR.of e2).v, by rw [e2 43 0 (by omega) (by omega)]; exact hAN, ?_⟩
          rw [if_pos k2, if_pos k2, e1]; rfl
        · rw [if_neg k2, if_neg k2]
          by_cases k3 : k = 3
          · obtain ⟨M2, e1, e2⟩ := R_brings hAN d3 hA l2 hTN hr.2 hkk
            refine ⟨M2, (frV.of68 d2).trans (frR.of e2).v, by rw [e2 43 0 (by omega) (by omega)]; exact hAN, ?_⟩
            rw [if_pos k3, if_pos k3, e1]; rfl
          · rw [if_neg k3, if_neg k3]
            exact ⟨N, frV.of68 d2, hAN, rfl⟩
  have fin : ∀ (M1 : zM) (x : Int), f_X10_law t k M = some (x, M1) → (∀ k i, k ≠ 18 → k ≠ 19 → M1 k i = M k i) → x = (if k = 0 then sLaw T A (sLay A W) t 0 0 else if k = 1 then sLaw T A (sLay A W) t 1 0 else if k = 2 then sLaw T A (sLay A W) t 2 0 else if k = 3 then sLaw T A (sLay A W) t 3 (sLay A W (sLaw T A (sLay A W) t 2 0).toNat) else -100000) → zCall (f_X10_law t k M) (fun N => f_X11_law t k N) := by
    intro M1 x hx hf he
    have f1 : frW M M1 := fun k i a => hf k i (by unfold sc0 at a; omega) (by unfold sc0 at a; omega)
    obtain ⟨M2, g1, g2, g3⟩ := ref M1 f1
    have w1 : worldR M1 0 A := w0.congr (fun s _ _ => by rw [hf 11 0 (by omega) (by omega)]) (fun q _ => by rw [hf 12 0 (by omega) (by omega), hf 13 0 (by omega) (by omega)]; exact ⟨rfl, rfl⟩) (fun q _ => by rw [hf 15 0 (by omega) (by omega)]) (fun t s _ _ => by rw [hf 16 _ (by omega) (by omega)]) (by rw [hf 20 0 (by omega) (by omega)]; exact ⟨rfl, rfl⟩) (fun r q _ _ => by rw [hf 22 _ (by omega) (by omega)]) (by rw [hf 23 0 (by omega) (by omega)]; exact ⟨rfl, rfl, rfl⟩) (fun q _ => by rw [hf 24 0 (by omega) (by omega), hf 25 0 (by omega) (by omega)]; exact ⟨rfl, rfl⟩) (fun q _ => by rw [hf 26 0 (by omega) (by omega), hf 28 0 (by omega) (by omega), hf 29 0 (by omega) (by omega), hf 30 0 (by omega) (by omega)]; exact ⟨rfl, rfl, rfl, rfl⟩) (fun q _ => rfl)
    exact zCall.mk hx (by rw [he]; exact g3) ⟨T, hI.step f1 w1 g1 g2 (by rw [hAA])⟩
  have hto := sTo_le (T := T) (pe := 0) hA l2 hr.2 hkk
  have startX : f_X10_law t k M = (f_X10_within k 0 3 M).bind (fun p2 => if ¬ zw p2.1 = 0 then (if ¬ zw k = 3 then f_X10_law_j42 t k (-1) p2.2 else (f_X0_lawOf 0 t 2 (-1) p2.2).bind fun p4 => f_X10_law_j42 t k p4.1 p4.2) else some ((-100000), p2.2)) := by
    unfold f_X10_law
    rw [X_isKept l1 hA l2 hv, if_pos ⟨hr, by rw [Int.toNat_natCast]; exact hkk⟩]
    simp only [zbs]
    rw [if_neg (by rw [zw01.2.1]; omega)]
  by_cases hk3 : 0 ≤ k ∧ k ≤ 3
  · obtain ⟨kn, rfl⟩ := Int.eq_ofNat_of_zero_le hk3.1
    rw [wth_yes hk3.1 hk3.2 hk (by omega) (by omega)] at startX
    simp only [zbs] at startX
    rw [if_pos (by rw [zw01.2.1]; omega), zw_nat (by omega)] at startX
    by_cases hb : kn = 3
    · subst hb
      rw [if_neg (show ¬ ¬ ((3 : Nat) : Int) = 3 from nn_ rfl)] at startX
      obtain ⟨M1, e1, e2⟩ := X_lawOf l1 hA l2 hT hr.2 hkk (k := 2) (to := -1) (by omega) (by omega)
      rw [if_neg (by omega)] at e1
      have l1' := l1.frame' (M' := M1) (fun k i _ _ => e2 k i (by omega) (by omega))
      have hT' := hT.frame (M' := M1) (fun k i hk => e2 k i (by unfold txK at hk; omega) (by unfold txK at hk; omega))
      obtain ⟨M2, e3, e4⟩ := X_lawOf l1' hA l2 hT' hr.2 hkk (k := 3) (to := sLaw T A (sLay A W) t 2 0) (by omega) (by omega)
      rw [if_pos hto] at e3
      have e1 : f_X0_lawOf 0 (t : Int) 2 (-1) M = some (sLaw T A (sLay A W) t 2 0, M1) := e1
      refine fin M2 (sLaw T A (sLay A W) t 3 (sLay A W (sLaw T A (sLay A W) t 2 0).toNat)) ?_ (fun k i a b => by rw [e4 k i a b, e2 k i a b]) ?_
      · rw [startX, e1]
        simp only [zbs]
        unfold f_X10_law_j42
        rw [e3]
        simp only [zbs]
      · rw [if_neg (by omega), if_neg (by omega), if_neg (by omega), if_pos (show ((3 : Nat) : Int) = 3 from rfl)]
    · rw [if_pos (by omega)] at startX
      obtain ⟨M1, e1, e2⟩ := X_lawOf l1 hA l2 hT hr.2 hkk (k := kn) (to := -1) (by omega) (by omega)
      rw [if_neg (by omega)] at e1
      refine fin M1 (sLaw T A (sLay A W) t kn 0) ?_ e2 ?_
      · rw [startX]
        unfold f_X10_law_j42
        rw [e1]
        simp only [zbs]
      · have hk012 : kn = 0 ∨ kn = 1 ∨ kn = 2 := by omega
        rcases hk012 with rfl | rfl | rfl <;> rfl
  · rw [wth_no (by omega) hk (by omega) (by omega)] at startX
    simp only [zbs] at startX
    rw [if_neg (nn_ zw_0)] at startX
    refine fin M (-100000) startX (fun _ _ _ _ => rfl) ?_
    rw [if_neg (by omega), if_neg (by omega), if_neg (by omega), if_neg (by omega)]
/-! days -/
def sDays (T : Nat → Nat → Option zLw) (A W : Nat → Int) : Nat → (Nat → Int) × (Nat → Int) × Int
  | 0 => (A, W, 0)
  | n + 1 => (sNow (sKeep (sDays T A W n).1) (sPass T (sKeep (sDays T A W n).1) (sLay (sDays T A W n).1 (sDays T A W n).2.1)).1, (sPass T (sKeep (sDays T A W n).1) (sLay (sDays T A W n).1 (sDays T A W n).2.1)).1, (sDays T A W n).2.2 + (sPass T (sKeep (sDays T A W n).1) (sLay (sDays T A W n).1 (sDays T A W n).2.1)).2)
set_option maxRecDepth 8000 in
set_option maxHeartbeats 2000000 in
theorem dayX {M : zM} {A W : Nat → Int} {T : Nat → Nat → Option zLw} (h : worldR M 0 A) (hT : textsOK M (A 3) T) (hd : A 128 < 9999) : ∃ M1 M', f_X5_keep 0 0 M = some M1 ∧ f_X0_passOne 0 M1 = some ((sPass T (sKeep A) (sLay A W)).2, M') ∧ worldR M' 0 (sNow (sKeep A) (sPass T (sKeep A) (sLay A W)).1) ∧ frW M M' ∧ textsOK M' (A 3) T ∧ sNow (sKeep A) (sPass T (sKeep A) (sLay A W)).1 128 = A 128 + 1 ∧ sNow (sKeep A) (sPass T (sKeep A) (sLay A W)).1 3 = A 3 := by
  obtain ⟨M1, b1, b2, b3, b4, b5, b6, b7⟩ := stepX (W := W) h hT
  have hA1 := b2.head
  have h0 := hA1.thg
  have h38 : sLay A W 38 = A 128 := sLay_lo (by omega)
  obtain ⟨M2, c1, c2, c3⟩ := X_passOne b5 hA1 b6 b4 (by omega)
  have hp : rowOK (sKeep A) (sPass T (sKeep A) (sLay A W)).1 := b6.passN hA1 (by omega) (by omega)
  have hp38 : (sPass T (sKeep A) (sLay A W)).1 38 = sLay A W 38 + 1 := sPassN_38 hA1 b6 (by omega) (by omega)
  refine ⟨M1, M2, b1, c1, b2.now c2 hp (by omega) c3, b3.trans c3.w0, ?_, ?_, ?_⟩
  · rw [← sKeep_lo (A := A) (q := 3) (by omega) (by omega)]
    exact c3.txt b4
  · rw [show (128 : Nat) = 90 + 38 from rfl, sNow_in (by omega), hp38, h38]
  · rw [sNow_out (by omega), sKeep_lo (by omega) (by omega)]
set_option maxRecDepth 8000 in
set_option maxHeartbeats 2000000 in
theorem days_ok {M : zM} {A W : Nat → Int} {T : Nat → Nat → Option zLw} (h : worldR M 0 A) (hT : textsOK M (A 3) T) {n : Nat} (hd : A 128 + n ≤ 9999) : ∀ i, i ≤ n → ∃ N, worldR N 0 (sDays T A W i).1 ∧ textsOK N (A 3) T ∧ (sDays T A W i).1 3 = A 3 ∧ (sDays T A W i).1 128 = A 128 + i := by
  intro i
  induction i with
  | zero => intro _; exact ⟨M, h, hT, rfl, by show A 128 = A 128 + ((0 : Nat) : Int); omega⟩
  | succ i ih =>
    intro hi
    obtain ⟨N, n1, n2, n3, n4⟩ := ih (by omega)
    rw [← n3] at n2
    obtain ⟨M1, M', e1, e2, e3, e4, e5, e6, e7⟩ := dayX (W := (sDays T A W i).2.1) n1 n2 (by omega)
    rw [n3] at e5 e7
    rw [n4] at e6
    exact ⟨M', e3, e5, e7, by rw [show (sDays T A W (i + 1)).1 128 = A 128 + i + 1 from e6]; omega⟩
set_option maxRecDepth 8000 in
set_option maxHeartbeats 2000000 in
theorem sDays_le {A W : Nat → Int} {T : Nat → Nat → Option zLw} (h8 : ∀ i, (sKeep (sDays T A W i).1 1).toNat ≤ 8) : ∀ i, 0 ≤ (sDays T A W i).2.2 ∧ (sDays T A W i).2.2 ≤ 8 * i := by
  intro i
  induction i with
  | zero => exact ⟨Int.le_refl _, Int.le_refl _⟩
  | succ i ih =>
    have h := sPassN_le (T := T) (A := sKeep (sDays T A W i).1) (w := sLay (sDays T A W i).1 (sDays T A W i).2.1) (n := (sKeep (sDays T A W i).1 1).toNat)
    have h2 := h8 i
    have e : (sDays T A W (i + 1)).2.2 = (sDays T A W i).2.2 + (sPass T (sKeep (sDays T A W i).1) (sLay (sDays T A W i).1 (sDays T A W i).2.1)).2 := rfl
    rw [e]
    unfold sPass
    omega
set_option maxRecDepth 8000 in
set_option maxHeartbeats 2000000 in
theorem X_days {M : zM} {A W : Nat → Int} {T : Nat → Nat → Option zLw} {n : Nat} (h : worldR M 0 A) (hT : textsOK M (A 3) T) (hn : n ≤ 60) (hd : A 128 + n ≤ 9999) : zT (zlp (fun s : Int × Int × zM => f_X10_day_L31 (n : Int) s.1 s.2.1 s.2.2) zF (0, 0, M)) (fun r => r.1 = (sDays T A W n).2.2 ∧ worldR r.2 0 (sDays T A W n).1 ∧ frW M r.2) := by
  have ok := days_ok (W := W) h hT hd
  refine zT_for (body := fun s : Int × Int × zM => f_X10_day_L31 (n : Int) s.1 s.2.1 s.2.2) (fun i s => s.1 = (sDays T A W i).2.2 ∧ s.2.1 = (i : Int) ∧ worldR s.2.2 0 (sDays T A W i).1 ∧ frW M s.2.2 ∧ textsOK s.2.2 (A 3) T) n ?_ (by unfold zF; omega) ⟨rfl, rfl, h, frW.rfl_, hT⟩
  rintro i ⟨x, y, N⟩ hi ⟨h1, h2, h3, h4, h5⟩
  dsimp only at h1 h2 h3 h4 h5 ⊢
  subst h1 h2
  obtain ⟨-, -, -, o3, o4⟩ := ok i hi
  unfold f_X10_day_L31
  rw [zw_nat (by omega), zw_nat (by omega)]
  by_cases hin : i = n
  · subst hin
    rw [if_pos (by omega)]
    exact zT_some (Or.inr ⟨_, rfl, rfl, h3, h4⟩)
  · rw [if_neg (by omega)]
    rw [← o3] at h5
    obtain ⟨M1, M', e1, e2, e3, e4, e5, e6, e7⟩ := dayX (W := (sDays T A W i).2.1) h3 h5 (by omega)
    rw [o3] at e5
    rw [e1]
    simp only [zbs]
    rw [e2]
    simp only [zbs]
    exact zT_some (Or.inl ⟨_, rfl, by omega, rfl, rfl, e3, h4.trans e4, e5⟩)
set_option maxRecDepth 8000 in
set_option maxHeartbeats 2000000 in
theorem R_days {M M0 : zM} {A W : Nat → Int} {T : Nat → Nat → Option zLw} {n : Nat} (h : worldR M0 0 A) (hT0 : textsOK M0 (A 3) T) (hT : textsOK M (A 3) T) (hM : M 43 0 = A) (hW : M 68 0 = W) (hn : n ≤ 60) (hd : A 128 + n ≤ 9999) : zT (zlp (fun s : Int × Int × zM => f_X11_day_L32 (n : Int) s.1 s.2.1 s.2.2) zF (0, 0, M)) (fun r => r.1 = (sDays T A W n).2.2 ∧ r.2 43 0 = (sDays T A W n).1 ∧ frV M r.2) := by
  have ok := days_ok (W := W) h hT0 hd
  refine zT_for (body := fun s : Int × Int × zM => f_X11_day_L32 (n : Int) s.1 s.2.1 s.2.2) (fun i s => s.1 = (sDays T A W i).2.2 ∧ s.2.1 = (i : Int) ∧ s.2.2 43 0 = (sDays T A W i).1 ∧ s.2.2 68 0 = (sDays T A W i).2.1 ∧ frV M s.2.2) n ?_ (by unfold zF; omega) ⟨rfl, rfl, hM, hW, frV.rfl_⟩
  rintro i ⟨x, y, N⟩ hi ⟨h1, h2, h3, h4, h5⟩
  dsimp only at h1 h2 h3 h4 h5 ⊢
  subst h1 h2
  obtain ⟨Nx, o1, o2, o3, o4⟩ := ok i hi
  unfold f_X11_day_L32
  rw [zw_nat (by omega), zw_nat (by omega)]
  by_cases hin : i = n
  · subst hin
    rw [if_pos (by omega)]
    exact zT_some (Or.inr ⟨_, rfl, rfl, h3, h5⟩)
  · rw [if_neg (by omega)]
    have hl := o1.lay (W := (sDays T A W i).2.1)
    obtain ⟨M1, b1, b2, b3, b4, b5, b6, b7⟩ := stepX (W := (sDays T A W i).2.1) (T := T) o1 (by rw [o3]; exact o2)
    have hA1 := b2.head
    have h38 : sLay (sDays T A W i).1 (sDays T A W i).2.1 38 = (sDays T A W i).1 128 := sLay_lo (by omega)
    obtain ⟨N1, d1, d2, d3⟩ := R_keepsStep h3 o1.head.stp
    obtain ⟨N2, e1, e2, e3⟩ := R_lay d3
    have hN168 : N1 68 0 = (sDays T A W i).2.1 := by rw [d2 68 0 (by omega)]; exact h4
    rw [hN168, sLay_keep] at e3
    have hN2 : N2 43 0 = sKeep (sDays T A W i).1 := by rw [e2 43 0 (by omega)]; exact d3
    have fN : frV M N2 := h5.trans ((frV.of43 d2).trans (frV.of68 e2))
    obtain ⟨N3, g1, g2, g3⟩ := R_dayPasses (T := T) hN2 e3 hA1 b6 (by
      rw [sKeep_lo (by omega) (by omega), o3]
      exact hT.frame (fun k i hk => fN k i (by unfold txK at hk; omega) (by unfold txK at hk; omega))) (by omega)
    have hN3 : N3 43 0 = sKeep (sDays T A W i).1 := by rw [g3 43 0 (by omega) (by omega) (by omega)]; exact hN2
    obtain ⟨N4, k1, k2, k3⟩ := R_now hN3 g2
    rw [d1]
    simp only [zbs]
    rw [e1]
    simp only [zbs]
    rw [g1]
    simp only [zbs]
    rw [k1]
    simp only [zbs]
    exact zT_some (Or.inl ⟨_, rfl, by omega, rfl, rfl, k3, (k2 68 0 (by omega)).trans g2, fN.trans (g3.v.trans (frV.of43 k2))⟩)
set_option maxRecDepth 8000 in
set_option maxHeartbeats 2000000 in
theorem call_day {M : zM} {v : Int} (h : zI M) (hv : -2147483648 ≤ v ∧ v ≤ 2147483647) : zCall (f_X10_day v M) (fun N => f_X11_day v N) := by
  have hz := h
  obtain ⟨T, hI⟩ := h
  have w0 := hI.w0
  have hT := hI.txt
  generalize hAA : M 43 0 = A at w0 hT
  have hA := w0.head
  have hd := w0.day
  have hrd := w0.row.day
  have h128 : rw_ A 90 38 = A 128 := rfl
  have hcd := w0.city.day
  rw [h128] at hcd hrd
  generalize hWW : M 68 0 = W
  by_cases hr : 1 ≤ v ∧ v ≤ 60
  case neg =>
    refine zCall.same hz (v := -1) ?_ ?_
    · unfold f_X10_day
      rw [wth_no (by omega) hv (by omega) (by omega)]
      simp only [zbs]
      rw [if_pos zw_0]
    · unfold f_X11_day
      rw [in_no (by omega) hv (by omega) (by omega)]
      simp only [zbs]
      rw [if_pos zw_0]
  obtain ⟨n, rfl⟩ := Int.eq_ofNat_of_zero_le (show 0 ≤ v by omega)
  by_cases hp : A 128 + n ≤ 9999
  · obtain ⟨⟨r1, M1⟩, x1, x2, x3, x4⟩ := X_days (W := W) (T := T) (n := n) w0 hT (by omega) hp
    dsimp only at x2 x3 x4
    have hA1 : M1 43 0 = A := by rw [x4 43 0 (by unfold sc0; omega)]; exact hAA
    have hW1 : M1 68 0 = W := by rw [x4 68 0 (by unfold sc0; omega)]; exact hWW
    have hT1 : textsOK M1 (A 3) T := hT.frame (fun k i hk => x4 k i (by unfold txK at hk; unfold sc0; omega))
    obtain ⟨⟨r2, M2⟩, y1, y2, y3, y4⟩ := R_days (n := n) w0 hT hT1 hA1 hW1 (by omega) hp
    dsimp only at y2 y3 y4
    obtain ⟨-, -, -, o3, -⟩ := days_ok (W := W) w0 hT hp n (by omega)
    refine zCall.mk (M1 := M1) (M2 := M2) (v := (sDays T A W n).2.2) ?_ ?_ ⟨T, hI.step x4 x3 y4 y3 (by rw [o3, hAA])⟩
    · unfold f_X10_day
      rw [wth_yes hr.1 hr.2 hv (by omega) (by omega)]
      simp (disch := omega) only [if_true, if_false, true_or, or_true, true_and, and_true, not_true_eq_false, not_false_eq_true, zbs, zw_id, if_neg, if_pos, hcd]
      rw [x1]
      simp only [zbs, x2]
    · unfold f_X11_day
      rw [in_yes hr.1 hr.2 hv (by omega) (by omega)]
      simp (disch := omega) only [if_true, if_false, true_or, or_true, true_and, and_true, not_true_eq_false, not_false_eq_true, zbs, zw_id, if_neg, if_pos, hA1]
      rw [y1]
      simp only [zbs, y2]
  · refine zCall.same hz (v := -1) ?_ ?_
    · unfold f_X10_day
      rw [wth_yes hr.1 hr.2 hv (by omega) (by omega)]
      simp (disch := omega) only [if_true, if_false, true_or, or_true, true_and, and_true, not_true_eq_false, not_false_eq_true, zbs, zw_id, if_neg, hcd]
    · unfold f_X11_day
      rw [in_yes hr.1 hr.2 hv (by omega) (by omega)]
      simp (disch := omega) only [if_true, if_false, true_or, or_true, true_and, and_true, not_true_eq_false, not_false_eq_true, zbs, zw_id, if_neg, hAA]
