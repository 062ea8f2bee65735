/-! laws: what a text has of them, what a law says, and both sides of it -/
/-- what a law answers, of its names -/
abbrev zLw : Type := (Nat → Int) → Int
/-- a law of a text: both have orders for it that answer f -/
def lawHas (M : zM) (i k : Nat) (f : zLw) : Prop := ∃ (c : Nat → Int × Int) (p q at_ cl : Nat), (p ≤ q ∧ q ≤ 300 ∧ at_ + (q - p) < 1600 ∧ M 7 i k = p ∧ M 8 i k = q) ∧ (∀ x, p ≤ x → x < q → M 9 i x = (c x).1 ∧ M 10 i x = (c x).2) ∧ ((cl : Int) < M 46 0 i ∧ M 47 0 (24 * i + cl) = k ∧ M 48 0 (24 * i + cl) = at_) ∧ (∀ cl' : Nat, (cl' : Int) < M 46 0 i → M 47 0 (24 * i + cl') = k → cl' = cl) ∧ ((∀ x, p ≤ x → x < q → M 52 0 (at_ + (x - p)) = opR (c x).1 ∧ ((c x).1 = 25 → M 53 0 (at_ + (x - p)) = (c x).2) ∧ ((c x).1 = 50 → M 53 0 (at_ + (x - p)) = nmR (c x).2) ∧ (((c x).1 = 19 ∨ (c x).1 = 20) → M 53 0 (at_ + (x - p)) = (c x).2 - p + at_)) ∧ M 52 0 (at_ + (q - p)) = 408) ∧ (∀ env, goodEnv env → ∃ n, iterA (decide (k = 3)) c q env n (p, []) = some (q, [f env])) ∧ at_ + (q - p) < 400 * i + 400
def lawNo (M : zM) (i k : Nat) : Prop := M 7 i k = -1 ∧ ∀ cl : Nat, (cl : Int) < M 46 0 i → M 47 0 (24 * i + cl) ≠ k
def textOK (M : zM) (i : Nat) (T : Nat → Option zLw) : Prop :=
  (0 ≤ M 46 0 i ∧ M 46 0 i ≤ 24) ∧
  (M 2 i 8 = M 46 0 i) ∧
  (∀ k : Nat, k < 4 → T k = none → lawNo M i k) ∧
  (∀ (k : Nat) (f : zLw), k < 4 → T k = some f → lawHas M i k f) ∧
  (∀ cl : Nat, (cl : Int) < M 46 0 i → M 3 i cl = M 47 0 (24 * i + cl) ∧ 0 ≤ M 3 i cl ∧ M 3 i cl ≤ 10) ∧
  (∀ cl : Nat, (cl : Int) < M 46 0 i → 4 ≤ M 3 i cl → M 4 i cl = M 49 0 (24 * i + cl) ∧ 0 ≤ M 4 i cl ∧ M 4 i cl ≤ 99) ∧
  (∀ cl : Nat, (cl : Int) < M 46 0 i → (M 3 i cl = 5 ∨ M 3 i cl = 9) → M 5 i cl = M 50 0 (24 * i + cl) ∧ 0 ≤ M 5 i cl ∧ M 5 i cl ≤ 5) ∧
  (∀ cl : Nat, (cl : Int) < M 46 0 i → M 3 i cl = 5 → M 6 i cl = M 51 0 (24 * i + cl) ∧ 1 ≤ M 6 i cl ∧ M 6 i cl ≤ 9) ∧
  (∀ cl : Nat, (cl : Int) < M 46 0 i → M 3 i cl = 10 → 1 ≤ M 4 i cl ∧ M 4 i cl ≤ 60)
set_option maxRecDepth 8000 in
set_option maxHeartbeats 300000 in
theorem textOK.cls {M : zM} {i : Nat} {T : Nat → Option zLw} (h : textOK M i T) : 0 ≤ M 46 0 i ∧ M 46 0 i ≤ 24 := h.1
set_option maxRecDepth 8000 in
set_option maxHeartbeats 300000 in
theorem textOK.clsX {M : zM} {i : Nat} {T : Nat → Option zLw} (h : textOK M i T) : M 2 i 8 = M 46 0 i := h.2.1
set_option maxRecDepth 8000 in
set_option maxHeartbeats 300000 in
theorem textOK.no {M : zM} {i : Nat} {T : Nat → Option zLw} (h : textOK M i T) : ∀ k : Nat, k < 4 → T k = none → lawNo M i k := h.2.2.1
set_option maxRecDepth 8000 in
set_option maxHeartbeats 300000 in
theorem textOK.has {M : zM} {i : Nat} {T : Nat → Option zLw} (h : textOK M i T) : ∀ (k : Nat) (f : zLw), k < 4 → T k = some f → lawHas M i k f := h.2.2.2.1
set_option maxRecDepth 8000 in
set_option maxHeartbeats 300000 in
theorem textOK.word {M : zM} {i : Nat} {T : Nat → Option zLw} (h : textOK M i T) : ∀ cl : Nat, (cl : Int) < M 46 0 i → M 3 i cl = M 47 0 (24 * i + cl) ∧ 0 ≤ M 3 i cl ∧ M 3 i cl ≤ 10 := h.2.2.2.2.1
set_option maxRecDepth 8000 in
set_option maxHeartbeats 300000 in
theorem textOK.one {M : zM} {i : Nat} {T : Nat → Option zLw} (h : textOK M i T) : ∀ cl : Nat, (cl : Int) < M 46 0 i → 4 ≤ M 3 i cl → M 4 i cl = M 49 0 (24 * i + cl) ∧ 0 ≤ M 4 i cl ∧ M 4 i cl ≤ 99 := h.2.2.2.2.2.1
set_option maxRecDepth 8000 in
set_option maxHeartbeats 300000 in
theorem textOK.two {M : zM} {i : Nat} {T : Nat → Option zLw} (h : textOK M i T) : ∀ cl : Nat, (cl : Int) < M 46 0 i → (M 3 i cl = 5 ∨ M 3 i cl = 9) → M 5 i cl = M 50 0 (24 * i + cl) ∧ 0 ≤ M 5 i cl ∧ M 5 i cl ≤ 5 := h.2.2.2.2.2.2.1
set_option maxRecDepth 8000 in
set_option maxHeartbeats 300000 in
theorem textOK.three {M : zM} {i : Nat} {T : Nat → Option zLw} (h : textOK M i T) : ∀ cl : Nat, (cl : Int) < M 46 0 i → M 3 i cl = 5 → M 6 i cl = M 51 0 (24 * i + cl) ∧ 1 ≤ M 6 i cl ∧ M 6 i cl ≤ 9 := h.2.2.2.2.2.2.2.1
set_option maxRecDepth 8000 in
set_option maxHeartbeats 300000 in
theorem textOK.days {M : zM} {i : Nat} {T : Nat → Option zLw} (h : textOK M i T) : ∀ cl : Nat, (cl : Int) < M 46 0 i → M 3 i cl = 10 → 1 ≤ M 4 i cl ∧ M 4 i cl ≤ 60 := h.2.2.2.2.2.2.2.2
/-- all texts that are told (n of them) -/
def textsOK (M : zM) (n : Int) (T : Nat → Nat → Option zLw) : Prop := ∀ i : Nat, (i : Int) < n → textOK M i (T i)
/-- cells that texts are made of -/
def txK (k : Nat) : Prop := (2 ≤ k ∧ k ≤ 10) ∨ (46 ≤ k ∧ k ≤ 53)
set_option maxRecDepth 8000 in
set_option maxHeartbeats 300000 in
theorem textOK.frame {M M' : zM} {i : Nat} {T : Nat → Option zLw} (h : textOK M i T) (e : ∀ k j, txK k → M' k j = M k j) : textOK M' i T := by
  have e' : ∀ k j x, txK k → M' k j x = M k j x := fun k j x hk => by rw [e k j hk]
  have r2 := fun j => e 2 j (by unfold txK; omega)
  have r3 := fun j => e 3 j (by unfold txK; omega)
  have r4 := fun j => e 4 j (by unfold txK; omega)
  have r5 := fun j => e 5 j (by unfold txK; omega)
  have r6 := fun j => e 6 j (by unfold txK; omega)
  have r7 := fun j => e 7 j (by unfold txK; omega)
  have r8 := fun j => e 8 j (by unfold txK; omega)
  have r9 := fun j => e 9 j (by unfold txK; omega)
  have r10 := fun j => e 10 j (by unfold txK; omega)
  have r46 := fun j => e 46 j (by unfold txK; omega)
  have r47 := fun j => e 47 j (by unfold txK; omega)
  have r48 := fun j => e 48 j (by unfold txK; omega)
  have r49 := fun j => e 49 j (by unfold txK; omega)
  have r50 := fun j => e 50 j (by unfold txK; omega)
  have r51 := fun j => e 51 j (by unfold txK; omega)
  have r52 := fun j => e 52 j (by unfold txK; omega)
  have r53 := fun j => e 53 j (by unfold txK; omega)
  unfold textOK lawNo lawHas at h ⊢
  rw [r2, r3, r4, r5, r6, r7, r46, r47, r8, r9, r10, r48, r49, r50, r51, r52, r53]
  exact h
set_option maxRecDepth 8000 in
set_option maxHeartbeats 300000 in
theorem textsOK.frame {M M' : zM} {n : Int} {T : Nat → Nat → Option zLw} (h : textsOK M n T) (e : ∀ k j, txK k → M' k j = M k j) : textsOK M' n T := fun i hi => (h i hi).frame e
def sEnv (A w : Nat → Int) (t : Nat) (pe : Int) : Nat → Int := fun v => if v = 10 then w 38 else if v = 11 then w 38 - w (22 + t) else if v = 12 then w (6 + t) else if v = 13 then A (24 + t) else if v = 4 then A (16 + t) else if v = 14 then w (30 + t) else if v = 5 then t else pe
def clp (v lo hi : Int) : Int := if v < lo then lo else if hi < v then hi else v
set_option maxRecDepth 8000 in
set_option maxHeartbeats 300000 in
theorem clp_le {v lo hi : Int} (h : lo ≤ hi) : lo ≤ clp v lo hi ∧ clp v lo hi ≤ hi := by
  unfold clp
  split
  · omega
  · split <;> omega
set_option maxRecDepth 8000 in
set_option maxHeartbeats 300000 in
theorem X_between {v lo hi : Int} {M : zM} (h : lo ≤ hi) (hv : -2147483648 ≤ v ∧ v ≤ 2147483647) (hl : -2147483648 ≤ lo ∧ lo ≤ 2147483647) (hh : -2147483648 ≤ hi ∧ hi ≤ 2147483647) : f_X10_between v lo hi M = some (clp v lo hi, M) := by
  unfold f_X10_between clp
  simp (disch := omega) only [if_true, if_false, true_or, or_true, true_and, and_true, not_true_eq_false, not_false_eq_true, zw_id, zwif]
  all_goals (repeat' split) <;> first | rfl | omega | (simp only [Option.some.injEq, Prod.mk.injEq, and_true, true_and] <;> omega) | (exfalso; omega)
set_option maxRecDepth 8000 in
set_option maxHeartbeats 300000 in
theorem R_held {v lo hi : Int} {M : zM} (h : lo ≤ hi) (hv : -9000000000000 ≤ v ∧ v ≤ 9000000000000) (hl : -2147483648 ≤ lo ∧ lo ≤ 2147483647) (hh : -2147483648 ≤ hi ∧ hi ≤ 2147483647) : f_X11_held v lo hi M = some (clp v lo hi, M) := by
  unfold f_X11_held clp
  simp (disch := omega) only [if_true, if_false, true_or, or_true, true_and, and_true, not_true_eq_false, not_false_eq_true, zw_id, zwl_id, zlc_le, zlc_ge]
  all_goals (repeat' split) <;> first | rfl | omega | (simp only [Option.some.injEq, Prod.mk.injEq, and_true, true_and] <;> omega) | (exfalso; omega)
def sRaw (T : Nat → Nat → Option zLw) (A w : Nat → Int) (t k : Nat) (pe : Int) : Option Int := if A 4 < 0 then none else (T (A 4).toNat k).map (fun f => f (sEnv A w t pe))
/-- what a law says -/
def sLaw (T : Nat → Nat → Option zLw) (A w : Nat → Int) (t k : Nat) (pe : Int) : Int := match sRaw T A w t k pe with
  | none => if k = 0 then 1 else if k = 1 then 9 else if k = 2 then w (30 + t) else w (6 + t)
  | some v => if k = 0 then clp v (-99) 99 else if k = 1 then clp v 0 9999 else if k = 2 then clp v 0 (A 0 - 1) else clp v (-9999) 9999
set_option maxRecDepth 8000 in
set_option maxHeartbeats 300000 in
theorem sEnv_good {A w : Nat → Int} {t : Nat} {pe : Int} (hA : headOK A) (hw : rowOK A w) (ht : (t : Int) < A 1) (hk : w (14 + t) = -1) (hpe : -1000000 ≤ pe ∧ pe ≤ 1000000) : goodEnv (sEnv A w t pe) := by
  have h0 := hA.thg
  have h1 := hA.own
  have h2 := hw.day
  have h3 := hw.kept t ht hk
  have h4 := hw.dear t ht
  have h5 := hA.bulk t ht
  have h6 := hA.first t ht
  intro n
  unfold sEnv
  (repeat' split) <;> omega
set_option maxRecDepth 8000 in
set_option maxHeartbeats 300000 in
theorem iterA_good {b : Bool} {c : Nat → Int × Int} {q : Nat} {env : Nat → Int} (hge : goodEnv env) : ∀ (n pc pc' : Nat) (st st' : List Int), goodSt st → st.length ≤ 150 → iterA b c q env n (pc, st) = some (pc', st') → goodSt st' ∧ st'.length ≤ 150 := by
  intro n
  induction n with
  | zero =>
    intro pc pc' st st' hg hl h
    cases h
    exact ⟨hg, hl⟩
  | succ n ih =>
    intro pc pc' st st' hg hl h
    unfold iterA at h
    cases hs : stepA b c q env (pc, st) with
    | none => rw [hs] at h; cases h
    | some s1 =>
      obtain ⟨pc1, st1⟩ := s1
      rw [hs] at h
      have hgd := stepA_good hge hg hl hs
      exact ih pc1 pc' st1 st' hgd.1 hgd.2.1 h
set_option maxRecDepth 8000 in
set_option maxHeartbeats 300000 in
theorem goodSt_nil : goodSt [] := fun x hx => by cases hx
set_option maxRecDepth 8000 in
set_option maxHeartbeats 300000 in
theorem lawHas.bd {M : zM} {i k : Nat} {f : zLw} (h : lawHas M i k f) {env : Nat → Int} (hg : goodEnv env) : -1000000 ≤ f env ∧ f env ≤ 1000000 := by
  obtain ⟨c, p, q, at_, cl, h1, h2, h3, h4, h5, h6, -⟩ := h
  obtain ⟨n, hn⟩ := h6 env hg
  exact (iterA_good hg n p q [] _ goodSt_nil (by simp) hn).1 _ List.mem_cons_self
set_option maxRecDepth 8000 in
set_option maxHeartbeats 300000 in
theorem X_workOut {M : zM} {i k : Nat} {f : zLw} {env : Nat → Int} (hi : i < 4) (hk : k < 4) (h : lawHas M i k f) (hg : goodEnv env) (he : ∀ v : Nat, okName (decide (k = 3)) v = true → M 18 0 v = env v) : ∃ M', f_X1_workOut i k M = some (f env, M') ∧ ∀ k i, k ≠ 19 → M' k i = M k i := by
  obtain ⟨c, p, q, at_, cl, ⟨h1, h2, h3, h4, h5⟩, h6, h7, h8, h9, h10, -⟩ := h
  obtain ⟨n, hn⟩ := h10 env hg
  obtain ⟨M', e1, e2, e3⟩ := X_run hg hk hi h2 n p zF [] _ 0 M hn h5 h6 trivial (by simp) rfl goodSt_nil he (by unfold zF; omega)
  refine ⟨M', ?_, e3⟩
  unfold f_X1_workOut f_X1_workOut_j264
  have ek : zix (k : Int) = k := zix_nat (by omega)
  rw [ek, h4, e1]
  simp (disch := omega) only [if_true, if_false, true_or, or_true, true_and, and_true, not_true_eq_false, not_false_eq_true, zw_id, if_pos, zbs]
  rw [show M' 19 0 0 = f env from e2.1]
set_option maxRecDepth 8000 in
set_option maxHeartbeats 300000 in
theorem R_saysOf {M : zM} {i k cl : Nat} {f : zLw} {env : Nat → Int} {a_ : Int} (h : lawHas M i k f) (hcl : (cl : Int) < M 46 0 i ∧ M 47 0 (24 * i + cl) = k) (ha : a_ = M 48 0 (24 * i + cl)) (hg : goodEnv env) (he : ∀ v : Nat, okName (decide (k = 3)) v = true → M 66 0 (nmR v).toNat = env v) : ∃ M', f_X11_saysOf a_ M = some (f env, M') ∧ ∀ k i, k ≠ 67 → M' k i = M k i := by
  obtain ⟨c, p, q, at_, cl2, ⟨h1, h2, h3, h4, h5⟩, h6, h7, h8, h9, h10, -⟩ := h
  obtain ⟨n, hn⟩ := h10 env hg
  have e0 := h8 cl hcl.1 hcl.2
  subst e0
  obtain ⟨M', e1, e2, e3⟩ := R_run hg h3 h2 n p zF [] _ 0 a_ M (by omega) hn h9.1 h9.2 trivial (by simp) rfl (by rw [ha, h7.2.2]; congr 1; omega) goodSt_nil he (by unfold zF; omega)
  refine ⟨M', ?_, e3⟩
  unfold f_X11_saysOf
  rw [e1]
  simp only [zbs]
  rw [show M' 67 0 0 = f env from e2.1]
set_option maxRecDepth 8000 in
set_option maxHeartbeats 300000 in
/-- a law, as the class has it -/
theorem X_lawOf {M : zM} {j : Nat} {T : Nat → Nat → Option zLw} {A w : Nat → Int} {t k : Nat} {to : Int} (hc : cityR M j A w) (hA : headOK A) (hw : rowOK A w) (hT : textsOK M (A 3) T) (ht : (t : Int) < A 1) (hkp : w (14 + t) = -1) (hk : k < 4) (hto : -1 ≤ to ∧ to < 6) : ∃ M', f_X0_lawOf j t k to M = some (sLaw T A w t k (if 0 ≤ to ∧ to < A 0 then w to.toNat else 0), M') ∧ ∀ k i, k ≠ 18 → k ≠ 19 → M' k i = M k i := by
  have h0 := hA.thg
  have h1 := hA.own
  have hs := hA.some_
  have c1 := hc.day
  have c2 := hc.since t ht hkp
  have c3 := hc.dear t ht
  have c4 := hc.bulk t ht
  have c5 := hc.first t ht
  have c6 := hc.from_ t ht hkp
  have c7 := hc.txt
  have c8 := hc.txs
  have a1 := hA.txt
  have a2 := hA.txs
  have w1 := hw.day
  have w2 := hw.kept t ht hkp
  have w3 := hw.dear t ht
  have w4 := hA.bulk t ht
  have w5 := hA.first t ht
  generalize hpe : (if 0 ≤ to ∧ to < A 0 then w to.toNat else 0) = pe
  have hpb : -1000000 ≤ pe ∧ pe ≤ 1000000 := by
    rw [← hpe]
    split
    · exact hw.pence _ (by omega)
    · omega
  -- what stands behind the values
  have tail : ∀ (N : zM), (∀ v : Nat, okName (decide (k = 3)) v = true → v ≠ 15 → N 18 0 v = sEnv A w t pe v) → (∀ k i, k ≠ 18 → N k i = M k i) → ∃ M', f_X0_lawOf_j107 j k (t + 8 * j) pe 15 N = some (sLaw T A w t k pe, M') ∧ ∀ k i, k ≠ 18 → k ≠ 19 → M' k i = M k i := by
    intro N hv hf
    unfold f_X0_lawOf_j107
    have z15 : zix 15 = 15 := zix_id rfl (by omega)
    rw [z15, if_pos (by rw [zw_id (by omega) (by omega)]; omega)]
    unfold zlet
    have hf2 : ∀ k i, k ≠ 18 → zput N 18 0 15 pe k i = M k i := fun k i hk => by rw [zput_rowk (by omega)]; exact hf k i hk
    have hv2 : ∀ v : Nat, okName (decide (k = 3)) v = true → zput N 18 0 15 pe 18 0 v = sEnv A w t pe v := fun v hvn => by
      have hr := okName_le hvn
      by_cases h15 : v = 15
      · subst h15
        rw [zput_eq]
        unfold sEnv
        simp (disch := omega) only [if_true, if_false, true_or, or_true, true_and, and_true, not_true_eq_false, not_false_eq_true, if_neg]
      · rw [zput_j h15]
        exact hv v hvn h15
    generalize zput N 18 0 15 pe = N2 at hf2 hv2 ⊢
    have r11 := hf2 11 j (by omega)
    have r16 := hf2 16 (t + 8 * j) (by omega)
    have rT := hT.frame (M' := N2) (fun k i hk => hf2 k i (by unfold txK at hk; omega))
    have ekk : zix (k : Int) = k := zix_nat (by omega)
    -- no law
    have hno : ∀ (vs : Int), zw vs = 0 → sRaw T A w t k pe = none → f_X0_lawOf_j149 j k (t + 8 * j) vs N2 = some (sLaw T A w t k pe, N2) := by
      intro vs hvs hr
      unfold f_X0_lawOf_j149 f_X0_lawOf_j177 sLaw
      rw [hr]
      dsimp only
      rw [if_pos hvs, r16, c6, c3]
      simp only [hvs, if_true]
      rw [zw_nat (by omega)]
      have hk4 : k = 0 ∨ k = 1 ∨ k = 2 ∨ k = 3 := by omega
      rcases hk4 with rfl | rfl | rfl | rfl <;> rfl
    have hno2 : sRaw T A w t k pe = none → f_X0_lawOf_j148 j k (t + 8 * j) N2 = some (sLaw T A w t k pe, N2) := by
      intro hr
      unfold f_X0_lawOf_j148
      exact hno 0 rfl hr
    dsimp only
    rw [r11, c7, c8]
    by_cases h4 : A 4 < 0
    · have hr : sRaw T A w t k pe = none := by unfold sRaw; rw [if_pos h4]
      rw [zw_id (by omega) (by omega), if_pos h4]
      exact ⟨N2, hno2 hr, fun k i h18 _ => hf2 k i h18⟩
    · obtain ⟨x, hx⟩ := Int.eq_ofNat_of_zero_le (show 0 ≤ A 4 by omega)
      have hxt := rT x (by omega)
      rw [hx]
      have ex : zix (x : Int) = x := zix_nat (by omega)
      rw [zw_nat (n := x) (by omega), zw_id (z := A 3) (by omega) (by omega), zw_nat (n := k) (by omega), if_neg (by omega), if_neg (by omega), if_pos (by omega), if_pos (by omega), ex, ekk]
      cases hTk : T x k with
      | none =>
        have hr : sRaw T A w t k pe = none := by unfold sRaw; rw [if_neg h4, hx, Int.toNat_natCast, hTk]; rfl
        have hl := hxt.no k hk hTk
        rw [hl.1, zw_id (by omega) (by omega), if_pos rfl]
        exact ⟨N2, hno2 hr, fun k i h18 _ => hf2 k i h18⟩
      | some f =>
        have hr : sRaw T A w t k pe = some (f (sEnv A w t pe)) := by unfold sRaw; rw [if_neg h4, hx, Int.toNat_natCast, hTk]; rfl
        have hl := hxt.has k f hk hTk
        have hge := sEnv_good hA hw ht hkp hpb
        have hbd := hl.bd hge
        have hl2 := hl
        obtain ⟨c, p, q, at_, cl, ⟨g1, g2, g3, g4, g5⟩, g6⟩ := hl2
        rw [g4, zw_nat (by omega), if_neg (by omega)]
        unfold f_X0_lawOf_j149
        rw [r11, c7, hx, zw_nat (by omega), if_neg (by decide), if_pos (by omega), ex]
        obtain ⟨M', e1, e2⟩ := X_workOut (by omega) hk hl hge hv2
        rw [e1]
        simp only [zbs]
        refine ⟨M', ?_, fun k i h18 h19 => by rw [e2 k i h19]; exact hf2 k i h18⟩
        unfold f_X0_lawOf_j177 sLaw
        rw [hr, e2 11 j (by omega), r11, hc.own]
        dsimp only
        rw [zw_nat (by omega), show zw 1 = 1 from rfl]
        generalize f (sEnv A w t pe) = fv at hbd ⊢
        have hk4 : k = 0 ∨ k = 1 ∨ k = 2 ∨ k = 3 := by omega
        rcases hk4 with rfl | rfl | rfl | rfl
        · simp (decide := true) only [if_true, if_false]
          rw [X_between (by omega) (by omega) (by omega) (by omega)]
          rfl
        · simp (decide := true) only [if_true, if_false]
          rw [X_between (by omega) (by omega) (by omega) (by omega)]
          rfl
        · simp (decide := true) only [if_true, if_false]
          rw [X_between (by omega) (by omega) (by omega) (by omega)]
          rfl
        · simp (decide := true) only [if_true, if_false]
          rw [X_between (by omega) (by omega) (by omega) (by omega)]
          rfl
  unfold f_X0_lawOf zlet
  simp (disch := omega) only [if_true, if_false, true_or, or_true, true_and, and_true, not_true_eq_false, not_false_eq_true, zw_id, if_pos, zix_nat, zput_k, c1, c2, c3, c4, c5, c6]
  generalize hN : zput (zput (zput (zput (zput (zput (zput M 18 0 10 (w 38)) 18 0 11 (w 38 - w (22 + t))) 18 0 12 (w (6 + t))) 18 0 13 (A (24 + t))) 18 0 4 (A (16 + t))) 18 0 14 (w (30 + t))) 18 0 5 (t : Int) = N
  have hNf : ∀ k i, k ≠ 18 → N k i = M k i := by
    intro k i hk
    rw [← hN]
    simp (disch := omega) only [if_true, if_false, true_or, or_true, true_and, and_true, not_true_eq_false, not_false_eq_true, zput_rowk]
  have hNv : ∀ v : Nat, okName (decide (k = 3)) v = true → v ≠ 15 → N 18 0 v = sEnv A w t pe v := by
    intro v hvn h15
    rw [← hN]
    unfold okName at hvn
    rw [Bool.or_eq_true, Bool.and_eq_true, decide_eq_true_eq, decide_eq_true_eq] at hvn
    have hv6 : v = 4 ∨ v = 5 ∨ v = 10 ∨ v = 11 ∨ v = 12 ∨ v = 13 ∨ v = 14 := by omega
    rcases hv6 with rfl | rfl | rfl | rfl | rfl | rfl | rfl <;> simp (decide := true) only [zput_at, sEnv, if_true, if_false, and_true, true_and, and_false]
  have hcN : cityR N j A w := hc.frame' (fun k i _ _ => hNf k i (by omega))
  rw [X_hasOwner hcN hA (by omega)]
  simp only [zbs]
  by_cases hto2 : 0 ≤ to ∧ to < A 0
  · rw [if_pos hto2] at hpe
    have e1 := hcN.pence to.toNat (by omega)
    have e2 : zix to = to.toNat := zix_of hto2.1 (by omega)
    simp (disch := omega) only [if_true, if_false, true_or, or_true, true_and, and_true, not_true_eq_false, not_false_eq_true, if_pos hto2, zw_id, if_neg, if_pos, e1, e2]
    rw [hpe]
    exact tail N hNv hNf
  · rw [if_neg hto2] at hpe
    subst hpe
    simp (disch := omega) only [if_true, if_false, true_or, or_true, true_and, and_true, not_true_eq_false, not_false_eq_true, if_neg hto2, zw_id, if_pos]
    exact tail N hNv hNf
