/-! laws: each machine's turn, and its run -/
set_option maxRecDepth 8000 in
set_option maxHeartbeats 300000 in
theorem X_step {b : Bool} {c : Nat → Int × Int} {q pc pc' i k : Nat} {env : Nat → Int} {st st' : List Int} {tp : Int} {M : zM} (h : stepA b c q env (pc, st) = some (pc', st')) (hk : k < 4) (hi : i < 4) (hq : q ≤ 300) (h8 : M 8 i k = q) (h9 : M 9 i pc = (c pc).1) (h10 : M 10 i pc = (c pc).2) (hp : pileR (M 19 0) st) (hl : st.length ≤ 150) (htp : tp = st.length) (hg : goodSt st) (he : ∀ v : Nat, okName b v = true → M 18 0 v = env v) : zT (f_X1_workOut_L10 i k tp pc M) (fun r => ∃ M', r = .inl ((st'.length : Int), (pc' : Int), M') ∧ pileR (M' 19 0) st' ∧ ∀ k i, k ≠ 19 → M' k i = M k i) := by
  unfold stepA at h
  dsimp only at h
  generalize ho : (c pc).1 = o at h h9
  generalize hv : (c pc).2 = v at h h10
  split at h
  case isFalse => cases h
  rename_i hpq
  unfold f_X1_workOut_L10
  by_cases o25 : o = 25
  · subst o25
    rw [if_pos rfl] at h
    split at h
    case isFalse => cases h
    rename_i hc
    cases h
    simp (disch := omega) only [if_true, if_false, true_or, or_true, true_and, and_true, not_true_eq_false, not_false_eq_true, zw_id, zix_nat, if_neg, if_pos, h8, h9, h10]
    unfold f_X1_workOut_j58 f_X1_workOut_j82 f_X1_workOut_j258 zlet
    simp (disch := omega) only [if_true, if_false, true_or, or_true, true_and, and_true, not_true_eq_false, not_false_eq_true, zw_id, if_neg, if_pos]
    have e1 : zix tp = st.length := zix_id (by omega) (by omega)
    rw [e1]
    refine zT_some ⟨_, in3 (by rw [List.length_cons]; omega) (by omega) rfl, ⟨by rw [zput_eq], pileR_put hp (fun k hk => by rw [zput_j (by omega)])⟩, fun k i hk => by rw [zput_rowk (by omega)]⟩
  by_cases o50 : o = 50
  · subst o50
    rw [if_neg (by omega), if_pos rfl] at h
    split at h
    case isFalse => cases h
    rename_i hc
    cases h
    have hn := okName_le hc.1
    have e2 : zix v = v.toNat := zix_of (by omega) (by omega)
    have e3 := he v.toNat (by rw [Int.toNat_of_nonneg (by omega)]; exact hc.1)
    simp (disch := omega) only [if_true, if_false, true_or, or_true, true_and, and_true, not_true_eq_false, not_false_eq_true, zw_id, zix_nat, if_neg, if_pos, h8, h9, h10, if_true, not_true_eq_false, if_false]
    unfold f_X1_workOut_j58 f_X1_workOut_j82 f_X1_workOut_j258 zlet
    simp (disch := omega) only [if_true, if_false, true_or, or_true, true_and, and_true, not_true_eq_false, not_false_eq_true, zw_id, if_neg, if_pos]
    have e1 : zix tp = st.length := zix_id (by omega) (by omega)
    rw [e1, e2, e3]
    refine zT_some ⟨_, in3 (by rw [List.length_cons]; omega) (by omega) rfl, ⟨by rw [zput_eq], pileR_put hp (fun k hk => by rw [zput_j (by omega)])⟩, fun k i hk => by rw [zput_rowk (by omega)]⟩
  by_cases o20 : o = 20
  · subst o20
    rw [if_neg (by omega), if_neg (by omega), if_pos rfl] at h
    split at h
    case isFalse => cases h
    rename_i hc
    cases h
    simp (disch := omega) only [if_true, if_false, true_or, or_true, true_and, and_true, not_true_eq_false, not_false_eq_true, zw_id, zix_nat, if_neg, if_pos, h8, h9, h10, if_true, not_true_eq_false, if_false]
    unfold f_X1_workOut_j258
    refine zT_some ⟨M, in3 htp ?_ rfl, hp, fun k i hk => rfl⟩
    split <;> omega
  rw [if_neg o25, if_neg o50, if_neg o20] at h
  cases st with
  | nil => cases h
  | cons y r =>
    have hg2 := goodSt_cons.mp hg
    rw [List.length_cons] at hl htp
    dsimp only at h
    have e1 : zix (tp - 1) = r.length := zix_id (by omega) (by omega)
    by_cases o19 : o = 19
    · subst o19
      rw [if_pos rfl] at h
      split at h
      case isFalse => cases h
      rename_i hc
      cases h
      simp (disch := omega) only [if_true, if_false, true_or, or_true, true_and, and_true, not_true_eq_false, not_false_eq_true, zw_id, zix_nat, if_neg, if_pos, h8, h9, h10, if_true, not_true_eq_false, if_false, e1, hp.1]
      unfold f_X1_workOut_j155 f_X1_workOut_j258
      by_cases hy : y = 0
      · subst hy
        simp (disch := omega) only [if_true, if_false, true_or, or_true, true_and, and_true, not_true_eq_false, not_false_eq_true, zw_id, if_true, not_true_eq_false, if_false]
        refine zT_some ⟨M, in3 (by omega) ?_ rfl, hp.2, fun k i hk => rfl⟩
        split <;> omega
      · simp (disch := omega) only [if_true, if_false, true_or, or_true, true_and, and_true, not_true_eq_false, not_false_eq_true, zw_id, if_neg hy, if_pos, hy, not_false_eq_true, if_true]
        exact zT_some ⟨M, in3 (by omega) (by omega) rfl, hp.2, fun k i hk => rfl⟩
    rw [if_neg o19] at h
    by_cases o51 : o = 51
    · subst o51
      rw [if_pos rfl] at h
      cases h
      simp (disch := omega) only [if_true, if_false, true_or, or_true, true_and, and_true, not_true_eq_false, not_false_eq_true, zw_id, zix_nat, if_neg, if_pos, h8, h9, h10, if_true, not_true_eq_false, if_false]
      unfold f_X1_workOut_j174 f_X1_workOut_j216 f_X1_workOut_j258 zlet
      simp (disch := omega) only [if_true, if_false, true_or, or_true, true_and, and_true, not_true_eq_false, not_false_eq_true, zw_id, if_neg, if_pos, if_true, not_true_eq_false, if_false, e1, hp.1]
      exact zT_some ⟨_, in3 (by rw [List.length_cons]; omega) (by omega) rfl, ⟨by rw [zput_eq], pileR_put hp.2 (fun k hk => by rw [zput_j (by omega)])⟩, fun k i hk => by rw [zput_rowk (by omega)]⟩
    rw [if_neg o51] at h
    by_cases o24 : o = 24
    · subst o24
      rw [if_pos rfl] at h
      split at h
      case isFalse => cases h
      rename_i hc
      cases h
      simp (disch := omega) only [if_true, if_false, true_or, or_true, true_and, and_true, not_true_eq_false, not_false_eq_true, zw_id, zix_nat, if_neg, if_pos, h8, h9, h10, if_true, not_true_eq_false, if_false]
      unfold f_X1_workOut_j174 f_X1_workOut_j216 f_X1_workOut_j258 zlet
      simp (disch := omega) only [if_true, if_false, true_or, or_true, true_and, and_true, not_true_eq_false, not_false_eq_true, zw_id, if_neg, if_pos, if_true, not_true_eq_false, if_false, e1, hp.1]
      exact zT_some ⟨_, in3 (by rw [List.length_cons]; omega) (by omega) rfl, ⟨by rw [zput_eq], pileR_put hp.2 (fun k hk => by rw [zput_j (by omega)])⟩, fun k i hk => by rw [zput_rowk (by omega)]⟩
    rw [if_neg o24] at h
    cases r with
    | nil => cases h
    | cons x r2 =>
      have hg3 := goodSt_cons.mp hg2.2
      rw [List.length_cons] at hl htp e1
      dsimp only at h
      cases hb : binA o x y with
      | none => rw [hb] at h; cases h
      | some z =>
        rw [hb] at h
        cases h
        obtain ⟨u, hu1, hu2⟩ := X_bin (M := M) hg3.1 hg2.1 hb
        have hr := binA_rng hb
        have e2 : zix (tp - 1 - 1) = r2.length := zix_id (by omega) (by omega)
        have hp1 : M 19 0 (r2.length + 1) = y := hp.1
        have hp2 : M 19 0 r2.length = x := hp.2.1
        simp (disch := omega) only [if_true, if_false, true_or, or_true, true_and, and_true, not_true_eq_false, not_false_eq_true, zw_id, zix_nat, if_neg, if_pos, h8, h9, h10, e1, e2, hp1, hp2, hu1, hu2, zbs, zlt_]
        unfold f_X1_workOut_j258
        exact zT_some ⟨_, in3 (by rw [List.length_cons]; omega) (by omega) rfl, ⟨by rw [zput_eq], pileR_put hp.2.2 (fun k hk => by rw [zput_j (by omega)])⟩, fun k i hk => by rw [zput_rowk (by omega)]⟩
set_option maxRecDepth 8000 in
set_option maxHeartbeats 300000 in
theorem X_run {b : Bool} {c : Nat → Int × Int} {q i k : Nat} {env : Nat → Int} (hge : goodEnv env) (hk : k < 4) (hi : i < 4) (hq : q ≤ 300) : ∀ (n pc m : Nat) (st st' : List Int) (tp : Int) (M : zM) (_ : iterA b c q env n (pc, st) = some (q, st')) (_ : M 8 i k = q) (_ : ∀ x, pc ≤ x → x < q → M 9 i x = (c x).1 ∧ M 10 i x = (c x).2) (_ : pileR (M 19 0) st) (_ : st.length ≤ 150) (_ : tp = st.length) (_ : goodSt st) (_ : ∀ v : Nat, okName b v = true → M 18 0 v = env v) (_ : q - pc < m), zT (zlp (fun s : Int × Int × zM => f_X1_workOut_L10 i k s.1 s.2.1 s.2.2) m (tp, (pc : Int), M)) (fun M' => pileR (M' 19 0) st' ∧ ∀ k i, k ≠ 19 → M' k i = M k i) := by
  intro n
  induction n with
  | zero =>
    intro pc m st st' tp M h h8 hcd hp hl htp hg he hm
    cases h
    obtain ⟨m, rfl⟩ : ∃ k, m = k + 1 := ⟨m - 1, by omega⟩
    refine ⟨M, ?_, hp, fun k i hk => rfl⟩
    unfold zlp f_X1_workOut_L10
    dsimp only
    simp (disch := omega) only [if_true, if_false, true_or, or_true, true_and, and_true, not_true_eq_false, not_false_eq_true, zw_id, zix_nat, if_neg, if_pos, h8]
  | succ n ih =>
    intro pc m st st' tp M h h8 hcd hp hl htp hg he hm
    unfold iterA at h
    cases hs : stepA b c q env (pc, st) with
    | none => rw [hs] at h; cases h
    | some s1 =>
      obtain ⟨pc1, st1⟩ := s1
      rw [hs] at h
      have hgd := stepA_good hge hg hl hs
      obtain ⟨m, rfl⟩ : ∃ k, m = k + 1 := ⟨m - 1, by omega⟩
      obtain ⟨r, h1, M', rfl, h2, h3⟩ := X_step hs hk hi hq h8 (hcd pc (by omega) (by omega)).1 (hcd pc (by omega) (by omega)).2 hp hl htp hg he
      obtain ⟨M2, h4, h5, h6⟩ := ih pc1 m st1 st' st1.length M' h (by rw [h3 8 i (by omega)]; exact h8) (fun x hx hx2 => by rw [h3 9 i (by omega), h3 10 i (by omega)]; exact hcd x (by omega) hx2) h2 hgd.2.1 rfl hgd.1 (fun v hv => by rw [h3 18 0 (by omega)]; exact he v hv) (by omega)
      refine ⟨M2, ?_, h5, fun k i hk => by rw [h6 k i hk, h3 k i hk]⟩
      unfold zlp
      dsimp only
      rw [h1]
      exact h4
set_option maxRecDepth 8000 in
set_option maxHeartbeats 300000 in
theorem R_step {b : Bool} {c : Nat → Int × Int} {p q pc pc' at_ : Nat} {env : Nat → Int} {st st' : List Int} {h0 kk : Int} {M : zM} (h : stepA b c q env (pc, st) = some (pc', st')) (hpp : p ≤ pc) (hq : at_ + (q - p) < 1600) (hq2 : q ≤ 300) (h52 : M 52 0 (at_ + (pc - p)) = opR (c pc).1) (h53 : ((c pc).1 = 25 → M 53 0 (at_ + (pc - p)) = (c pc).2) ∧ ((c pc).1 = 50 → M 53 0 (at_ + (pc - p)) = nmR (c pc).2) ∧ (((c pc).1 = 19 ∨ (c pc).1 = 20) → M 53 0 (at_ + (pc - p)) = (c pc).2 - p + at_)) (hp : pileR (M 67 0) st) (hl : st.length ≤ 150) (hh0 : h0 = st.length) (hkk : kk = ((at_ + (pc - p) : Nat) : Int)) (hg : goodSt st) (hge : goodEnv env) (he : ∀ v : Nat, okName b v = true → M 66 0 (nmR v).toNat = env v) : zT (f_X11_saysOf_L4 h0 kk M) (fun r => ∃ M', r = .inl ((st'.length : Int), ((at_ + (pc' - p) : Nat) : Int), M') ∧ pileR (M' 67 0) st' ∧ ∀ k i, k ≠ 67 → M' k i = M k i) := by
  unfold stepA at h
  dsimp only at h
  generalize ho : (c pc).1 = o at h h52 h53
  generalize hv : (c pc).2 = v at h h53
  split at h
  case isFalse => cases h
  rename_i hpq
  unfold f_X11_saysOf_L4
  have ek : zix kk = at_ + (pc - p) := zix_id hkk (by omega)
  have z1 : 0 ≤ kk ∧ kk < 1600 := by omega
  rw [ek]
  by_cases o25 : o = 25
  · subst o25
    rw [if_pos rfl] at h
    split at h
    case isFalse => cases h
    rename_i hc
    cases h
    have e2 := h53.1 rfl
    simp (decide := true) only [opR, if_true, if_false] at h52
    simp (disch := omega) only [if_true, if_false, true_or, or_true, true_and, and_true, not_true_eq_false, not_false_eq_true, zw_id, if_neg, if_pos, h52]
    unfold f_X11_saysOf_j40 f_X11_saysOf_j75 f_X11_saysOf_j227 zlet
    rw [ek]
    have e1 : zix h0 = st.length := zix_id (by omega) (by omega)
    simp (disch := omega) only [if_true, if_false, true_or, or_true, true_and, and_true, not_true_eq_false, not_false_eq_true, zw_id, if_neg, if_pos, if_true, not_true_eq_false, if_false, e1, e2]
    refine zT_some ⟨_, in3 (by rw [List.length_cons]; omega) (by omega) rfl, ⟨by rw [zput_eq], pileR_put hp (fun k hk => by rw [zput_j (by omega)])⟩, fun k i hk => by rw [zput_rowk (by omega)]⟩
  by_cases o50 : o = 50
  · subst o50
    rw [if_neg (by omega), if_pos rfl] at h
    split at h
    case isFalse => cases h
    rename_i hc
    cases h
    have hn := okName_le hc.1
    have e2 := h53.2.1 rfl
    have e3 := he v.toNat (by rw [Int.toNat_of_nonneg (by omega)]; exact hc.1)
    rw [Int.toNat_of_nonneg (by omega)] at e3
    have hr : 0 ≤ nmR v ∧ nmR v < 8 := by unfold nmR; (repeat' split) <;> omega
    have e4 : zix (nmR v) = (nmR v).toNat := zix_of (by omega) (by omega)
    have hgv := hge v.toNat
    simp (decide := true) only [opR, if_true, if_false] at h52
    simp (disch := omega) only [if_true, if_false, true_or, or_true, true_and, and_true, not_true_eq_false, not_false_eq_true, zw_id, if_neg, if_pos, h52, if_true, not_true_eq_false, if_false]
    unfold f_X11_saysOf_j40 f_X11_saysOf_j75 f_X11_saysOf_j227 zlet
    rw [ek]
    have e1 : zix h0 = st.length := zix_id (by omega) (by omega)
    simp (disch := omega) only [if_true, if_false, true_or, or_true, true_and, and_true, not_true_eq_false, not_false_eq_true, zw_id, if_neg, if_pos, if_true, not_true_eq_false, if_false, e1, e2, e4, e3]
    refine zT_some ⟨_, in3 (by rw [List.length_cons]; omega) (by omega) rfl, ⟨by rw [zput_eq], pileR_put hp (fun k hk => by rw [zput_j (by omega)])⟩, fun k i hk => by rw [zput_rowk (by omega)]⟩
  by_cases o20 : o = 20
  · subst o20
    rw [if_neg (by omega), if_neg (by omega), if_pos rfl] at h
    split at h
    case isFalse => cases h
    rename_i hc
    cases h
    have e2 := h53.2.2 (Or.inr rfl)
    simp (decide := true) only [opR, if_true, if_false] at h52
    simp (disch := omega) only [if_true, if_false, true_or, or_true, true_and, and_true, not_true_eq_false, not_false_eq_true, zw_id, if_neg, if_pos, h52, if_true, not_true_eq_false, if_false, e2]
    unfold f_X11_saysOf_j227
    exact zT_some ⟨M, in3 hh0 (by omega) rfl, hp, fun k i hk => rfl⟩
  rw [if_neg o25, if_neg o50, if_neg o20] at h
  cases st with
  | nil => cases h
  | cons y r =>
    have hg2 := goodSt_cons.mp hg
    rw [List.length_cons] at hl hh0
    dsimp only at h
    have e1 : zix (h0 - 1) = r.length := zix_id (by omega) (by omega)
    have e1b : zix (h0 + -1) = r.length := zix_id (by omega) (by omega)
    by_cases o19 : o = 19
    · subst o19
      rw [if_pos rfl] at h
      split at h
      case isFalse => cases h
      rename_i hc
      cases h
      have e2 := h53.2.2 (Or.inl rfl)
      simp (decide := true) only [opR, if_true, if_false] at h52
      simp (disch := omega) only [if_true, if_false, true_or, or_true, true_and, and_true, not_true_eq_false, not_false_eq_true, zw_id, if_neg, if_pos, h52, if_true, not_true_eq_false, if_false, e2, e1b, hp.1, zlc_eq, zwl_id]
      unfold f_X11_saysOf_j116 f_X11_saysOf_j227
      by_cases hy : y = 0
      · subst hy
        simp only [if_true, not_true_eq_false, if_false]
        exact zT_some ⟨M, in3 (by omega) (by omega) rfl, hp.2, fun k i hk => rfl⟩
      · simp only [hy, not_false_eq_true, if_true, if_false]
        exact zT_some ⟨M, in3 (by omega) (by omega) rfl, hp.2, fun k i hk => rfl⟩
    rw [if_neg o19] at h
    by_cases o51 : o = 51
    · subst o51
      rw [if_pos rfl] at h
      cases h
      simp (decide := true) only [opR, if_true, if_false] at h52
      simp (disch := omega) only [if_true, if_false, true_or, or_true, true_and, and_true, not_true_eq_false, not_false_eq_true, zw_id, if_neg, if_pos, h52, if_true, not_true_eq_false, if_false, e1, hp.1, zlt_]
      unfold f_X11_saysOf_j227
      exact zT_some ⟨_, in3 (by rw [List.length_cons]; omega) (by omega) rfl, ⟨by rw [zput_eq], pileR_put hp.2 (fun k hk => by rw [zput_j (by omega)])⟩, fun k i hk => by rw [zput_rowk (by omega)]⟩
    rw [if_neg o51] at h
    by_cases o24 : o = 24
    · subst o24
      rw [if_pos rfl] at h
      split at h
      case isFalse => cases h
      rename_i hc
      cases h
      simp (decide := true) only [opR, if_true, if_false] at h52
      simp (disch := omega) only [if_true, if_false, true_or, or_true, true_and, and_true, not_true_eq_false, not_false_eq_true, zw_id, if_neg, if_pos, h52, if_true, not_true_eq_false, if_false, e1, hp.1, zlt_]
      unfold f_X11_saysOf_j227
      exact zT_some ⟨_, in3 (by rw [List.length_cons]; omega) (by omega) rfl, ⟨by rw [zput_eq], pileR_put hp.2 (fun k hk => by rw [zput_j (by omega)])⟩, fun k i hk => by rw [zput_rowk (by omega)]⟩
    rw [if_neg o24] at h
    cases r with
    | nil => cases h
    | cons x r2 =>
      have hg3 := goodSt_cons.mp hg2.2
      rw [List.length_cons] at hl hh0 e1b
      dsimp only at h
      cases hb : binA o x y with
      | none => rw [hb] at h; cases h
      | some z =>
        rw [hb] at h
        cases h
        have hu1 := R_bin (M := M) hg3.1 hg2.1 hb
        have hr := binA_rng hb
        have hro : 35 ≤ opR o ∧ opR o ≤ 407 ∧ opR o ≠ 400 ∧ opR o ≠ 401 ∧ opR o ≠ 402 ∧ opR o ≠ 404 ∧ opR o ≠ 405 := by
          rcases hr with rfl | rfl | rfl | rfl | rfl | rfl | rfl | rfl | rfl | rfl | rfl | rfl | rfl <;> decide
        have e2 : zix (h0 + -1 - 1) = r2.length := zix_id (by omega) (by omega)
        have hp1 : M 67 0 (r2.length + 1) = y := hp.1
        have hp2 : M 67 0 r2.length = x := hp.2.1
        simp (disch := omega) only [if_true, if_false, true_or, or_true, true_and, and_true, not_true_eq_false, not_false_eq_true, zw_id, if_neg, if_pos, h52, e1b, e2, hp1, hp2, hu1, zbs, zlt_]
        unfold f_X11_saysOf_j227
        exact zT_some ⟨_, in3 (by rw [List.length_cons]; omega) (by omega) rfl, ⟨by rw [zput_eq], pileR_put hp.2.2 (fun k hk => by rw [zput_j (by omega)])⟩, fun k i hk => by rw [zput_rowk (by omega)]⟩
set_option maxRecDepth 8000 in
set_option maxHeartbeats 300000 in
theorem R_run {b : Bool} {c : Nat → Int × Int} {p q at_ : Nat} {env : Nat → Int} (hge : goodEnv env) (hq : at_ + (q - p) < 1600) (hq2 : q ≤ 300) : ∀ (n pc m : Nat) (st st' : List Int) (h0 kk : Int) (M : zM) (_ : p ≤ pc) (_ : iterA b c q env n (pc, st) = some (q, st')) (_ : ∀ x, p ≤ x → x < q → M 52 0 (at_ + (x - p)) = opR (c x).1 ∧ ((c x).1 = 25 → M 53 0 (at_ + (x - p)) = (c x).2) ∧ ((c x).1 = 50 → M 53 0 (at_ + (x - p)) = nmR (c x).2) ∧ (((c x).1 = 19 ∨ (c x).1 = 20) → M 53 0 (at_ + (x - p)) = (c x).2 - p + at_)) (_ : M 52 0 (at_ + (q - p)) = 408) (_ : pileR (M 67 0) st) (_ : st.length ≤ 150) (_ : h0 = st.length) (_ : kk = ((at_ + (pc - p) : Nat) : Int)) (_ : goodSt st) (_ : ∀ v : Nat, okName b v = true → M 66 0 (nmR v).toNat = env v) (_ : q - pc < m), zT (zlp (fun s : Int × Int × zM => f_X11_saysOf_L4 s.1 s.2.1 s.2.2) m (h0, kk, M)) (fun M' => pileR (M' 67 0) st' ∧ ∀ k i, k ≠ 67 → M' k i = M k i) := by
  intro n
  induction n with
  | zero =>
    intro pc m st st' h0 kk M hpp h hcd hend hp hl hh0 hkk hg he hm
    cases h
    obtain ⟨m, rfl⟩ : ∃ k, m = k + 1 := ⟨m - 1, by omega⟩
    refine ⟨M, ?_, hp, fun k i hk => rfl⟩
    have ek : zix kk = at_ + (q - p) := zix_id hkk (by omega)
    unfold zlp f_X11_saysOf_L4
    dsimp only
    rw [ek]
    simp (disch := omega) only [if_true, if_false, true_or, or_true, true_and, and_true, not_true_eq_false, not_false_eq_true, zw_id, if_neg, if_pos, hend]
  | succ n ih =>
    intro pc m st st' h0 kk M hpp h hcd hend hp hl hh0 hkk hg he hm
    unfold iterA at h
    cases hs : stepA b c q env (pc, st) with
    | none => rw [hs] at h; cases h
    | some s1 =>
      obtain ⟨pc1, st1⟩ := s1
      rw [hs] at h
      have hgd := stepA_good hge hg hl hs
      obtain ⟨m, rfl⟩ : ∃ k, m = k + 1 := ⟨m - 1, by omega⟩
      obtain ⟨r, h1, M', rfl, h2, h3⟩ := R_step hs hpp hq hq2 (hcd pc hpp (by omega)).1 (hcd pc hpp (by omega)).2 hp hl hh0 hkk hg hge he
      obtain ⟨M2, h4, h5, h6⟩ := ih pc1 m st1 st' st1.length _ M' (by omega) h (fun x hx hx2 => by rw [h3 52 0 (by omega), h3 53 0 (by omega)]; exact hcd x hx hx2) (by rw [h3 52 0 (by omega)]; exact hend) h2 hgd.2.1 rfl rfl hgd.1 (fun v hv => by rw [h3 66 0 (by omega)]; exact he v hv) (by omega)
      refine ⟨M2, ?_, h5, fun k i hk => by rw [h6 k i hk, h3 k i hk]⟩
      unfold zlp
      dsimp only
      rw [h1]
      exact h4
