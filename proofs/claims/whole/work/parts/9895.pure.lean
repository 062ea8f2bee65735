/-! text: what the descent's code answers -/
def szT (t : Nat) : Nat := if t = 2 then 1 else if t = 1 ∨ t = 8 then 2 else if t = 0 ∨ t = 7 then 3 else if t = 6 then 4 else if t = 5 ∨ t = 10 then 5 else 6
def vB (t : Nat) (v : Int) : Prop := t = 4 ∨ t = 5 ∨ t = 6 ∨ t = 9 ∨ t = 10 → v = 0 ∨ v = 1
def runP (f : Bool) (c : Nat → Int × Int) (q : Nat) (env : Nat → Int) (t o b : Nat) (cs : zCd) : Prop := (t < 7 → ∀ st : List Int, st.length + (6 * (8 - o) + szT t) ≤ 150 → ∃ v, vB t v ∧ rn f c q env (b, st) (b + cs.length, v :: st)) ∧ (7 ≤ t → ∀ (st : List Int) (x : Int), st.length + (6 * (8 - o) + szT t) ≤ 150 → vB t x → ∃ v, vB t v ∧ rn f c q env (b, x :: st) (b + cs.length, v :: st))
set_option maxRecDepth 8000 in
set_option maxHeartbeats 2000000 in
theorem mayNm_ok {law k : Int} {kk : Nat} (hl : law = kk) (h1 : isNm k = true) (h2 : mayNm law k = true) : okName (decide (kk = 3)) k = true := by
  unfold isNm at h1
  unfold mayNm at h2
  have h1 := of_decide_eq_true h1
  have h2 := of_decide_eq_true h2
  unfold okName
  rw [Bool.or_eq_true, Bool.and_eq_true, decide_eq_true_eq, decide_eq_true_eq, decide_eq_true_eq]
  omega
set_option maxRecDepth 8000 in
set_option maxHeartbeats 2000000 in
theorem zD_run {K V : Nat → Int} {law : Int} {kk : Nat} {c : Nat → Int × Int} {q : Nat} {env : Nat → Int} (hlaw : law = kk) (hV : ∀ i, K i = 25 → 0 ≤ V i) : ∀ (n t o i b i' : Nat) (cs : zCd), zD K V law n t o i b = pR i' cs → o ≤ 8 → cAt c b cs → b + cs.length ≤ q → runP (decide (kk = 3)) c q env t o b cs := by
  have sz0 : szT 0 = 3 := rfl
  have sz1 : szT 1 = 2 := rfl
  have sz2 : szT 2 = 1 := rfl
  have sz3 : szT 3 = 6 := rfl
  have sz4 : szT 4 = 6 := rfl
  have sz5 : szT 5 = 5 := rfl
  have sz6 : szT 6 = 4 := rfl
  have sz7 : szT 7 = 3 := rfl
  have sz8 : szT 8 = 2 := rfl
  have sz9 : szT 9 = 6 := rfl
  have sz10 : szT 10 = 5 := rfl
  intro n
  induction n with
  | zero => intro t o i b i' cs h; cases h
  | succ n ih =>
    have two : ∀ (t s l o i b i' : Nat) (cs : zCd), t < 7 → s < 7 → 7 ≤ l → szT s ≤ szT t → szT l ≤ szT t → (∀ v, vB s v ↔ vB l v) → (∀ v, vB l v → vB t v) → (pB (zD K V law n s o i b) fun i1 c1 => pB (zD K V law n l o i1 (b + c1.length)) fun i2 c2 => pR i2 (c1 ++ c2)) = pR i' cs → o ≤ 8 → cAt c b cs → b + cs.length ≤ q → runP (decide (kk = 3)) c q env t o b cs := by
      intro t s l o i b i' cs ht hs hl z1 z2 v1 v2 h ho hc hq
      refine ⟨fun _ st hst => ?_, fun z => by omega⟩
      rcases pB_inv h with ⟨w, f, h1, h2⟩ | ⟨i1, c1, h1, h2⟩
      · cases h2
      · rcases pB_inv h2 with ⟨w, f, h3, h4⟩ | ⟨i2, c2, h3, h4⟩
        · cases h4
        · cases h4
          rw [cAt_app] at hc
          rw [List.length_append] at hq ⊢
          obtain ⟨x, x1, x2⟩ := (ih s o i b i1 c1 h1 ho hc.1 (by omega)).1 hs st (by omega)
          obtain ⟨v, v3, v4⟩ := (ih l o i1 (b + c1.length) i' c2 h3 ho hc.2 (by omega)).2 hl st x (by omega) ((v1 x).mp x1)
          exact ⟨v, v2 v v3, x2.trans (by rw [show b + (c1.length + c2.length) = b + c1.length + c2.length by omega]; exact v4)⟩
    have loop : ∀ (t s o i b i' : Nat) (op : Int) (cs : zCd), 7 ≤ t → s < 7 → szT s + 1 ≤ szT t → (∀ x y, vB t x → vB s y → ∃ z, binA op x y = some z ∧ vB t z) → (pB (zD K V law n s o (i + 1) b) fun i1 c1 => pB (zD K V law n t o i1 (b + c1.length + 1)) fun i2 c2 => pR i2 (c1 ++ ((op, 0) :: c2))) = pR i' cs → o ≤ 8 → cAt c b cs → b + cs.length ≤ q → runP (decide (kk = 3)) c q env t o b cs := by
      intro t s o i b i' op cs ht hs z1 hop h ho hc hq
      refine ⟨fun z => by omega, fun _ st x hst hx => ?_⟩
      rcases pB_inv h with ⟨w, f, h1, h2⟩ | ⟨i1, c1, h1, h2⟩
      · cases h2
      · rcases pB_inv h2 with ⟨w, f, h3, h4⟩ | ⟨i2, c2, h3, h4⟩
        · cases h4
        · cases h4
          rw [cAt_app] at hc
          rw [List.length_append, List.length_cons] at hq ⊢
          obtain ⟨y, y1, y2⟩ := (ih s o (i + 1) b i1 c1 h1 ho hc.1 (by omega)).1 hs (x :: st) (by rw [List.length_cons]; omega)
          obtain ⟨z, z2, z3⟩ := hop x y hx y1
          obtain ⟨v, v3, v4⟩ := (ih t o i1 (b + c1.length + 1) i' c2 h3 ho hc.2.2 (by omega)).2 ht st z (by omega) z3
          refine ⟨v, v3, y2.trans ((rn_bin hc.2.1 (by omega) z2).trans ?_)⟩
          rw [show b + (c1.length + (c2.length + 1)) = b + c1.length + 1 + c2.length by omega]
          exact v4
    have idl : ∀ (t o b : Nat), 7 ≤ t → runP (decide (kk = 3)) c q env t o b [] := fun t o b ht => ⟨fun z => by omega, fun _ st x _ hx => ⟨x, hx, rn.rfl_⟩⟩
    have vt : ∀ {t : Nat} {v : Int}, t = 0 ∨ t = 1 ∨ t = 2 ∨ t = 3 ∨ t = 7 ∨ t = 8 → vB t v := fun ht hh => by omega
    intro t o i b i' cs h ho hc hq
    match t, h with
    | 0, h => exact two 0 1 7 o i b i' cs (by omega) (by omega) (by omega) (by omega) (by omega) (fun v => ⟨fun _ => vt (by omega), fun _ => vt (by omega)⟩) (fun v _ => vt (by omega)) h ho hc hq
    | 1, h => exact two 1 2 8 o i b i' cs (by omega) (by omega) (by omega) (by omega) (by omega) (fun v => ⟨fun _ => vt (by omega), fun _ => vt (by omega)⟩) (fun v _ => vt (by omega)) h ho hc hq
    | 4, h => exact two 4 5 9 o i b i' cs (by omega) (by omega) (by omega) (by omega) (by omega) (fun v => ⟨fun hv _ => hv (by omega), fun hv _ => hv (by omega)⟩) (fun v hv _ => hv (by omega)) h ho hc hq
    | 5, h => exact two 5 6 10 o i b i' cs (by omega) (by omega) (by omega) (by omega) (by omega) (fun v => ⟨fun hv _ => hv (by omega), fun hv _ => hv (by omega)⟩) (fun v hv _ => hv (by omega)) h ho hc hq
    | 7, h =>
      rw [zD_7] at h
      by_cases hk : K i = 32 ∨ K i = 33
      · rw [if_pos hk] at h
        refine loop 7 1 o i b i' _ cs (by omega) (by omega) (by omega) (fun x y _ _ => ?_) h ho hc hq
        obtain ⟨z, z1, -⟩ := binA_tot (o := K i) (x := x) (y := y) (by omega)
        exact ⟨z, z1, vt (by omega)⟩
      · rw [if_neg hk] at h; cases h; exact idl 7 o b (by omega)
    | 8, h =>
      rw [zD_8] at h
      by_cases hk : K i = 34 ∨ K i = 35
      · rw [if_pos hk] at h
        refine loop 8 2 o i b i' _ cs (by omega) (by omega) (by omega) (fun x y _ _ => ?_) h ho hc hq
        obtain ⟨z, z1, -⟩ := binA_tot (o := K i) (x := x) (y := y) (by omega)
        exact ⟨z, z1, vt (by omega)⟩
      · rw [if_neg hk] at h; cases h; exact idl 8 o b (by omega)
    | 9, h =>
      rw [zD_9] at h
      by_cases hk : K i = 22
      · rw [if_pos hk] at h
        refine loop 9 5 o i b i' _ cs (by omega) (by omega) (by omega) (fun x y hx hy => ?_) h ho hc hq
        obtain ⟨z, z1, z2⟩ := binA_and (o := 22) (x := x) (y := y) (by omega) (hx (by omega)) (hy (by omega))
        exact ⟨z, z1, fun _ => z2⟩
      · rw [if_neg hk] at h; cases h; exact idl 9 o b (by omega)
    | 10, h =>
      rw [zD_10] at h
      by_cases hk : K i = 23
      · rw [if_pos hk] at h
        refine loop 10 6 o i b i' _ cs (by omega) (by omega) (by omega) (fun x y hx hy => ?_) h ho hc hq
        obtain ⟨z, z1, z2⟩ := binA_and (o := 23) (x := x) (y := y) (by omega) (hx (by omega)) (hy (by omega))
        exact ⟨z, z1, fun _ => z2⟩
      · rw [if_neg hk] at h; cases h; exact idl 10 o b (by omega)
    | 2, h =>
      rw [zD_2] at h
      refine ⟨fun _ st hst => ?_, fun z => by omega⟩
      by_cases k1 : K i = 25
      · rw [if_pos k1] at h
        by_cases k2 : V i ≤ 9999
        · rw [if_pos k2] at h; cases h
          rw [List.length_singleton] at hq ⊢
          exact ⟨V i, vt (by omega), rn_num hc.1 (by omega) ⟨hV i k1, k2⟩ (by omega)⟩
        · rw [if_neg k2] at h; cases h
      · rw [if_neg k1] at h
        by_cases k2 : isNm (K i) = true
        · rw [if_pos k2] at h
          by_cases k3 : mayNm law (K i) = true
          · rw [if_pos k3] at h; cases h
            rw [List.length_singleton] at hq ⊢
            exact ⟨_, vt (by omega), rn_name hc.1 (by omega) (mayNm_ok hlaw k2 k3) (by omega)⟩
          · rw [if_neg k3] at h; cases h
        · rw [if_neg k2] at h
          by_cases k3 : K i = 36 ∨ K i = 33 ∨ K i = 17 ∨ K i = 18
          · rw [if_pos k3] at h
            by_cases k4 : o < 8
            · rw [if_pos k4] at h
              obtain ⟨v, v1, v2⟩ := (ih 3 (o + 1) i b i' cs h (by omega) hc hq).1 (by omega) st (by omega)
              exact ⟨v, vt (by omega), v2⟩
            · rw [if_neg k4] at h; cases h
          · rw [if_neg k3] at h; cases h
    | 3, h =>
      rw [zD_3] at h
      refine ⟨fun _ st hst => ?_, fun z => by omega⟩
      by_cases k1 : K i = 36
      · rw [if_pos k1] at h
        rcases pB_inv h with ⟨w, f, h1, h2⟩ | ⟨i1, c1, h1, h2⟩
        · cases h2
        · by_cases k2 : K i1 = 37
          · rw [if_pos k2] at h2; cases h2
            obtain ⟨v, v1, v2⟩ := (ih 0 o (i + 1) b i1 cs h1 ho hc hq).1 (by omega) st (by omega)
            exact ⟨v, vt (by omega), v2⟩
          · rw [if_neg k2] at h2; cases h2
      · rw [if_neg k1] at h
        by_cases k2 : K i = 33
        · rw [if_pos k2] at h
          rcases pB_inv h with ⟨w, f, h1, h2⟩ | ⟨i1, c1, h1, h2⟩
          · cases h2
          · cases h2
            rw [cAt_app] at hc
            rw [List.length_append, List.length_singleton] at hq ⊢
            obtain ⟨v, v1, v2⟩ := (ih 2 o (i + 1) b i' c1 h1 ho hc.1 (by omega)).1 (by omega) st (by omega)
            exact ⟨-v, vt (by omega), v2.trans (rn_neg hc.2.1 (by omega))⟩
        · rw [if_neg k2] at h
          by_cases k3 : K i = 17
          · rw [if_pos k3] at h
            rcases pB_inv h with ⟨w, f, h1, h2⟩ | ⟨i1, c1, h1, h2⟩
            · cases h2
            · by_cases k4 : K i1 = 16
              · rw [if_pos k4] at h2
                rcases pB_inv h2 with ⟨w, f, h3, h4⟩ | ⟨i2, c2, h3, h4⟩
                · cases h4
                · cases h4
                  rw [cAt_app, cAt_app] at hc
                  rw [List.length_append, List.length_append, List.length_singleton] at hq ⊢
                  obtain ⟨x, x1, x2⟩ := (ih 2 o (i + 1) b i1 c1 h1 ho hc.1 (by omega)).1 (by omega) st (by omega)
                  obtain ⟨y, y1, y2⟩ := (ih 2 o (i1 + 1) _ i' c2 h3 ho hc.2.1 (by omega)).1 (by omega) (x :: st) (by rw [List.length_cons]; omega)
                  obtain ⟨z, z1, -⟩ := binA_tot (o := 17) (x := x) (y := y) (by omega)
                  refine ⟨z, vt (by omega), x2.trans (y2.trans ?_)⟩
                  rw [show b + (c1.length + (c2.length + 1)) = b + c1.length + c2.length + 1 by omega]
                  exact rn_bin hc.2.2.1 (by omega) z1
              · rw [if_neg k4] at h2; cases h2
          · rw [if_neg k3] at h
            by_cases k18 : K i = 18
            · rw [if_pos k18] at h
              rcases pB_inv h with ⟨w, f, h1, h2⟩ | ⟨i1, c1, h1, h2⟩
              · cases h2
              · by_cases k4 : K i1 = 19
                · rw [if_pos k4] at h2
                  rcases pB_inv h2 with ⟨w, f, h3, h4⟩ | ⟨i2, c2, h3, h4⟩
                  · cases h4
                  · by_cases k5 : K i2 = 20
                    · rw [if_pos k5] at h4
                      rcases pB_inv h4 with ⟨w, f, h5, h6⟩ | ⟨i3, c3, h5, h6⟩
                      · cases h6
                      · by_cases k6 : K i3 = 21
                        · rw [if_pos k6] at h6
                          cases h6
                          rw [cAt_app] at hc
                          obtain ⟨q1, q2, q3⟩ := hc
                          rw [cAt_app] at q3
                          obtain ⟨q3, q4, q5⟩ := q3
                          rw [List.length_append, List.length_cons, List.length_append, List.length_cons] at hq ⊢
                          obtain ⟨x, x1, x2⟩ := (ih 4 o (i + 1) b i1 c1 h1 ho q1 (by omega)).1 (by omega) st (by omega)
                          have hv0 : b + c1.length < b + c1.length + 1 + c2.length + 1 ∧ b + c1.length + 1 + c2.length + 1 ≤ q := by omega
                          have g1 := rn_then (f := decide (kk = 3)) (env := env) (y := x) (st := st) q2 (by omega) hv0
                          by_cases hx : x = 0
                          · rw [if_pos hx] at g1
                            obtain ⟨y, y1, y2⟩ := (ih 0 o (i2 + 1) _ i3 c3 h5 ho q5 (by omega)).1 (by omega) st (by omega)
                            refine ⟨y, vt (by omega), x2.trans (g1.trans ?_)⟩
                            rw [show b + (c1.length + (c2.length + (c3.length + 1) + 1)) = b + c1.length + 1 + c2.length + 1 + c3.length by omega]
                            exact y2
                          · rw [if_neg hx] at g1
                            obtain ⟨y, y1, y2⟩ := (ih 0 o (i1 + 1) _ i2 c2 h3 ho q3 (by omega)).1 (by omega) st (by omega)
                            refine ⟨y, vt (by omega), x2.trans (g1.trans (y2.trans ?_))⟩
                            rw [show b + (c1.length + (c2.length + (c3.length + 1) + 1)) = b + c1.length + 1 + c2.length + 1 + c3.length by omega]
                            exact rn_over q4 (by omega) (by omega)
                        · rw [if_neg k6] at h6; cases h6
                    · rw [if_neg k5] at h4; cases h4
                · rw [if_neg k4] at h2; cases h2
            · rw [if_neg k18] at h; cases h
    | 6, h =>
      rw [zD_6] at h
      refine ⟨fun _ st hst => ?_, fun z => by omega⟩
      by_cases k1 : K i = 24
      · rw [if_pos k1] at h
        by_cases k2 : o < 8
        · rw [if_pos k2] at h
          rcases pB_inv h with ⟨w, f, h1, h2⟩ | ⟨i1, c1, h1, h2⟩
          · cases h2
          · cases h2
            rw [cAt_app] at hc
            rw [List.length_append, List.length_singleton] at hq ⊢
            obtain ⟨v, v1, v2⟩ := (ih 6 (o + 1) (i + 1) b i' c1 h1 (by omega) hc.1 (by omega)).1 (by omega) st (by omega)
            have hv := v1 (by omega)
            exact ⟨1 - v, fun _ => by omega, v2.trans (rn_not hc.2.1 (by omega) hv)⟩
        · rw [if_neg k2] at h; cases h
      · rw [if_neg k1] at h
        rcases pB_inv h with ⟨w, f, h1, h2⟩ | ⟨i1, c1, h1, h2⟩
        · cases h2
        · by_cases k4 : 26 ≤ K i1 ∧ K i1 ≤ 31
          · rw [if_pos k4] at h2
            rcases pB_inv h2 with ⟨w, f, h3, h4⟩ | ⟨i2, c2, h3, h4⟩
            · cases h4
            · cases h4
              rw [cAt_app, cAt_app] at hc
              rw [List.length_append, List.length_append, List.length_singleton] at hq ⊢
              obtain ⟨x, x1, x2⟩ := (ih 0 o i b i1 c1 h1 ho hc.1 (by omega)).1 (by omega) st (by omega)
              obtain ⟨y, y1, y2⟩ := (ih 0 o (i1 + 1) _ i' c2 h3 ho hc.2.1 (by omega)).1 (by omega) (x :: st) (by rw [List.length_cons]; omega)
              obtain ⟨z, z1, z2⟩ := binA_tot (o := K i1) (x := x) (y := y) (by omega)
              refine ⟨z, fun _ => z2 k4, x2.trans (y2.trans ?_)⟩
              rw [show b + (c1.length + (c2.length + 1)) = b + c1.length + c2.length + 1 by omega]
              exact rn_bin hc.2.2.1 (by omega) z1
          · rw [if_neg k4] at h2; cases h2
    | t + 11, h => cases h
