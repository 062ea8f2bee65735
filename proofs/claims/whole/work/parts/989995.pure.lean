/-! call: text -/
set_option maxRecDepth 8000 in
set_option maxHeartbeats 2000000 in
theorem worldR.setText {M M' : zM} {A A' : Nat → Int} (h : worldR M 0 A) (hA : headOK A') (e : ∀ q, q ≠ 3 → A' q = A q) (f : ∀ k i, 12 ≤ k → k ≤ 30 → M' k i = M k i) (f11 : ∀ s, s ≠ 12 → M' 11 0 s = M 11 0 s) (c3 : M' 11 0 12 = A' 3) : worldR M' 0 A' := by
  have h0 := h.head.thg
  have h1 := h.head.own
  have h5 := h.head.stp
  refine ⟨hA, h.row.congr h0.2 (fun q hq => e q (by omega)) (fun q hq => by unfold rw_; exact e _ (by omega)), by rw [e 128 (by omega)]; exact h.day, ?_, fun t ht => ?_, ?_, h.tld.head h.head (fun k h2 h3 => f k 0 (by omega) h3) (fun q hq => e q (by omega))⟩
  · obtain ⟨g1, g2, g3, g4, g5, g6, g7, g8, g9, g10, g11, g12, g13, g14, g15, g16, g17⟩ := h.city
    have r12 := f 12 0 (by omega) (by omega)
    have r13 := f 13 0 (by omega) (by omega)
    have r15 := f 15 0 (by omega) (by omega)
    have h9 := h.row.book
    have re : ∀ q, q < 161 → rw_ A' 90 q = rw_ A 90 q := fun q hq => by unfold rw_; exact e _ (by omega)
    unfold cityR
    rw [f11 6 (by omega), f11 7 (by omega), f11 8 (by omega), f11 9 (by omega), f11 10 (by omega), f11 11 (by omega), f11 13 (by omega), c3, e 0 (by omega), e 1 (by omega), e 2 (by omega), e 4 (by omega), r12, r13, r15, re 38 (by omega), re 39 (by omega), re 40 (by omega)]
    refine ⟨g1, g2, g3, g4, g5, g6, rfl, g8, fun i hi => ?_, fun i hi => ?_, fun t ht => ?_, fun t ht => ?_, fun t ht => ?_, fun t ht => ?_, fun t ht hk => ?_, fun t ht hk => ?_, fun i hi => ?_⟩
    · rw [e _ (by omega)]; exact g9 i hi
    · rw [re _ (by omega)]; exact g10 i hi
    · rw [f 16 _ (by omega) (by omega), e _ (by omega)]; exact g11 t ht
    · rw [f 16 _ (by omega) (by omega), e _ (by omega)]; exact g12 t ht
    · rw [f 16 _ (by omega) (by omega), re _ (by omega)]; exact g13 t ht
    · rw [f 16 _ (by omega) (by omega), re _ (by omega)]; exact g14 t ht
    · rw [re _ (by omega)] at hk
      rw [f 16 _ (by omega) (by omega), re _ (by omega)]; exact g15 t ht hk
    · rw [re _ (by omega)] at hk
      rw [f 16 _ (by omega) (by omega), re _ (by omega)]; exact g16 t ht hk
    · rw [g17 i hi]
      unfold cardOf
      rw [re _ (by omega), re _ (by omega), re _ (by omega), re _ (by omega)]
  · rw [e 1 (by omega)] at ht
    rw [f 16 _ (by omega) (by omega)]
    exact h.told t ht
  · obtain ⟨g1, g2, g3⟩ := h.steps
    unfold stepsR
    rw [f 20 0 (by omega) (by omega), e 5 (by omega)]
    refine ⟨g1, g2, fun i hi => ?_⟩
    obtain ⟨r, hr, k1, k2, k3, k4⟩ := g3 i hi
    refine ⟨r, hr, k1, ?_, k3.congr h0.2 (fun q hq => e q (by omega)) (fun q hq => by unfold rw_; exact e _ (by omega)), by rw [e _ (by omega)]; exact k4⟩
    obtain ⟨s1, s2, s3, s4, s5, s6, s7, s8, s9, s10, s11, s12, s13⟩ := k2
    have re : ∀ q, q < 161 → rw_ A' (260 + 161 * i) q = rw_ A (260 + 161 * i) q := fun q hq => by unfold rw_; exact e _ (by omega)
    have h9 := k3.book
    unfold savedR
    rw [f 22 _ (by omega) (by omega), e 0 (by omega), e 1 (by omega), re 38 (by omega), re 39 (by omega), re 40 (by omega)]
    refine ⟨s1, s2, s3, s4, s5, fun i hi h => ?_, fun i hi h => ?_, fun i hi => ?_, fun t ht => ?_, fun t ht => ?_, fun t ht hk => ?_, fun t ht hk => ?_, fun t ht ht2 => ?_⟩
    · rw [re _ (by omega)]; exact s6 i hi h
    · rw [re _ (by omega)]; exact s7 i hi h
    · rw [s8 i hi]
      unfold cardOf
      rw [re _ (by omega), re _ (by omega), re _ (by omega), re _ (by omega)]
    · rw [re _ (by omega)]; exact s9 t ht
    · rw [re _ (by omega)]; exact s10 t ht
    · rw [re _ (by omega)] at hk
      rw [re _ (by omega)]; exact s11 t ht hk
    · rw [re _ (by omega)] at hk
      rw [re _ (by omega)]; exact s12 t ht hk
    · rw [f 16 _ (by omega) (by omega), e _ (by omega), re _ (by omega), re _ (by omega), re _ (by omega), re _ (by omega)]; exact s13 t ht ht2
set_option maxRecDepth 8000 in
set_option maxHeartbeats 2000000 in
/-- a text that was told before stays -/
theorem textOK.keep {M M' : zM} {i t : Nat} {T : Nat → Option zLw} (h : textOK M i T) (hit : i < t) (hX : ∀ k, 2 ≤ k → k ≤ 10 → M' k i = M k i) (h46 : M' 46 0 i = M 46 0 i) (hR : ∀ k, 47 ≤ k → k ≤ 51 → ∀ j, j < 24 * t → M' k 0 j = M k 0 j) (hO : ∀ k, k = 52 ∨ k = 53 → ∀ j, j < 400 * t → M' k 0 j = M k 0 j) : textOK M' i T := by
  have hc := h.cls
  have r2 := hX 2 (by omega) (by omega)
  have r3 := hX 3 (by omega) (by omega)
  have r4 := hX 4 (by omega) (by omega)
  have r5 := hX 5 (by omega) (by omega)
  have r6 := hX 6 (by omega) (by omega)
  have r7 := hX 7 (by omega) (by omega)
  have r8 := hX 8 (by omega) (by omega)
  have r9 := hX 9 (by omega) (by omega)
  have r10 := hX 10 (by omega) (by omega)
  have at24 : ∀ cl : Nat, (cl : Int) < M 46 0 i → 24 * i + cl < 24 * t := fun cl hcl => by omega
  refine ⟨by rw [h46]; exact h.cls, by rw [r2, h46]; exact h.clsX, fun k hk hT => ?_, fun k f hk hT => ?_, fun cl hcl => ?_, fun cl hcl h4 => ?_, fun cl hcl h4 => ?_, fun cl hcl h4 => ?_, fun cl hcl h4 => ?_⟩
  · obtain ⟨n1, n2⟩ := h.no k hk hT
    refine ⟨by rw [r7]; exact n1, fun cl hcl => ?_⟩
    rw [h46] at hcl
    rw [hR 47 (by omega) (by omega) _ (at24 cl hcl)]
    exact n2 cl hcl
  · obtain ⟨c, p, q, at_, cl, ⟨h1, h2, h3, h4, h5⟩, h6, ⟨h7, h8, h9⟩, h10, ⟨h11, h12⟩, h13, h14⟩ := h.has k f hk hT
    refine ⟨c, p, q, at_, cl, ⟨h1, h2, h3, by rw [r7]; exact h4, by rw [r8]; exact h5⟩, fun x a b => by rw [r9, r10]; exact h6 x a b, ⟨by rw [h46]; exact h7, by rw [hR 47 (by omega) (by omega) _ (at24 cl h7)]; exact h8, by rw [hR 48 (by omega) (by omega) _ (at24 cl h7)]; exact h9⟩, fun cl' hcl' hw => ?_, ⟨fun x a b => ?_, ?_⟩, h13, h14⟩
    · rw [h46] at hcl'
      rw [hR 47 (by omega) (by omega) _ (at24 cl' hcl')] at hw
      exact h10 cl' hcl' hw
    · rw [hO 52 (Or.inl rfl) _ (by omega), hO 53 (Or.inr rfl) _ (by omega)]
      exact h11 x a b
    · rw [hO 52 (Or.inl rfl) _ (by omega)]
      exact h12
  · rw [h46] at hcl
    rw [r3, hR 47 (by omega) (by omega) _ (at24 cl hcl)]
    exact h.word cl hcl
  · rw [h46] at hcl
    rw [r3] at h4
    rw [r4, hR 49 (by omega) (by omega) _ (at24 cl hcl)]
    exact h.one cl hcl h4
  · rw [h46] at hcl
    rw [r3] at h4
    rw [r5, hR 50 (by omega) (by omega) _ (at24 cl hcl)]
    exact h.two cl hcl h4
  · rw [h46] at hcl
    rw [r3] at h4
    rw [r6, hR 51 (by omega) (by omega) _ (at24 cl hcl)]
    exact h.three cl hcl h4
  · rw [h46] at hcl
    rw [r3] at h4
    rw [r4]
    exact h.days cl hcl h4
set_option maxRecDepth 8000 in
set_option maxHeartbeats 2000000 in
/-- the text that is told now -/
theorem textOK_new {B : Nat → Int} {L n t : Nat} {M N : zM} {K V : Nat → Int} {Pl : Nat → Nat} {law : Int} {i i' m : Nat} {Cs : zCs} {e X : zCd} (ht : t < 4) (hX : clsX K V Pl m t law M i Cs e) (hR : clsR B L N i' Cs e X) (hs : sOK Cs e X) (hl : X.length ≤ 399) (h46 : M 46 0 t = Cs.length) (h47 : ∀ j, j < Cs.length → M 47 0 (24 * t + j) = N 59 0 j) (h48 : ∀ j, j < Cs.length → M 48 0 (24 * t + j) = 400 * (t : Int) + N 60 0 j) (h49 : ∀ j, j < Cs.length → M 49 0 (24 * t + j) = N 61 0 j) (h50 : ∀ j, j < Cs.length → M 50 0 (24 * t + j) = N 62 0 j) (h51 : ∀ j, j < Cs.length → M 51 0 (24 * t + j) = N 63 0 j) (h52 : ∀ j, j < X.length → M 52 0 (400 * t + j) = N 64 0 j) (h53 : ∀ j, j < X.length → M 53 0 (400 * t + j) = N 65 0 j + (if N 64 0 j = 404 ∨ N 64 0 j = 409 then 400 * (t : Int) else 0)) : ∃ T : Nat → Option zLw, textOK M t T := by
  have hc24 := hX.c24
  have rec_ : ∀ cl : Nat, (cl : Int) < M 46 0 t → ∃ R, Cs[cl]? = some R ∧ cl < Cs.length := fun cl hcl => by
    rw [h46] at hcl
    exact ⟨_, List.getElem?_eq_getElem (show cl < Cs.length by omega), by omega⟩
  -- a law of it
  have law_ : ∀ k : Nat, k < 4 → toldB Cs k = true → ∃ f, lawHas M t k f := by
    intro k hk hkt
    obtain ⟨cl, R, hcl, hRk⟩ := toldB_iff.mp hkt
    have hcl24 : cl < Cs.length := by
      refine Nat.lt_of_not_le (fun z => ?_)
      rw [List.getElem?_eq_none z] at hcl
      cases hcl
    obtain ⟨c1, nl, g1, g2, g3, g4, g5, g6, g7⟩ := (hs.recs cl R hcl).law (by omega)
    obtain ⟨l1, l2⟩ := hX.laws cl R hcl (by omega)
    have eRk : R.1.toNat = k := by omega
    rw [eRk] at l1 l2
    obtain ⟨r59, r60, -⟩ := hR.cls cl R hcl
    have r60 := r60 (by omega)
    have he := hX.lv.2.2.2.2.2.2.2.2
    have hce := cAt_at e 0 he.2
    have hcX := cAt_at X 0 hR.st.code
    -- the class's orders
    have cX : cAt (cM M t) R.2.2.2.2.1 c1 := cAt_congr _ _ g2 (fun j _ hj => by
      have := hce j (by omega)
      rw [Nat.zero_add] at this
      exact this)
    have cXa := cAt_at c1 _ cX
    have cRa := cAt_at _ _ g4
    have cR : ∀ d, d < c1.length + 1 → rcM N (R.2.2.2.2.2.2 + d) = lst (imL nl c1 ++ [(408, 0)]) d := fun d hd => by
      have h1 := hcX (R.2.2.2.2.2.2 + d) (by omega)
      rw [Nat.zero_add] at h1
      rw [h1]
      exact cRa d (by rw [List.length_append, imL_len, List.length_singleton]; omega)
    have hrun : ∀ env : Nat → Int, ∃ v, rn (decide (k = 3)) (cM M t) R.2.2.2.2.2.1 env (R.2.2.2.2.1, []) (R.2.2.2.2.2.1, [v]) := fun env => by
      obtain ⟨v, -, v2⟩ := (g7 k (cM M t) R.2.2.2.2.2.1 env hRk cX (Nat.le_refl _)).1 (by omega) [] (by decide)
      rw [g1] at v2
      exact ⟨v, v2⟩
    refine ⟨fun env => Classical.choose (hrun env), cM M t, R.2.2.2.2.1, R.2.2.2.2.2.1, 400 * t + R.2.2.2.2.2.2, cl, ⟨by omega, by omega, by omega, l1, l2⟩, fun x _ _ => ⟨rfl, rfl⟩, ⟨by rw [h46]; omega, ?_, ?_⟩, fun cl' hcl' hw => ?_, ⟨fun x hx1 hx2 => ?_, ?_⟩, fun env _ => Classical.choose_spec (hrun env), by omega⟩
    · rw [h47 cl hcl24, r59, hRk]
    · rw [h48 cl hcl24, r60]; omega
    · obtain ⟨R', hR', hlt'⟩ := rec_ cl' hcl'
      rw [h47 cl' hlt', (hR.cls cl' R' hR').1] at hw
      exact hs.uniq cl' cl R' R hR' hcl (by rw [hw, hRk]) (by omega)
    · obtain ⟨d, rfl⟩ : ∃ d, x = R.2.2.2.2.1 + d := ⟨x - R.2.2.2.2.1, by omega⟩
      have hd : d < c1.length := by omega
      have e1 := cR d (by omega)
      rw [lst_imL hd] at e1
      have e2 := cXa d hd
      rw [show 400 * t + R.2.2.2.2.2.2 + (R.2.2.2.2.1 + d - R.2.2.2.2.1) = 400 * t + (R.2.2.2.2.2.2 + d) by omega, h52 _ (by omega), h53 _ (by omega), e2]
      unfold rcM imC at e1
      rw [Prod.mk.injEq] at e1
      obtain ⟨e3, e4⟩ := e1
      rw [e3, e4]
      generalize lst c1 d = a
      refine ⟨rfl, fun h25 => ?_, fun h50 => ?_, fun h19 => ?_⟩
      · rw [h25, if_pos rfl, if_neg (by decide), Int.add_zero]
      · rw [h50, if_neg (by decide), if_pos rfl, if_neg (by decide), Int.add_zero]
      · have h404 : opR a.1 = 404 ∨ opR a.1 = 409 := by
          rcases h19 with z | z <;> rw [z] <;> decide
        rw [if_pos h404, if_neg (by omega), if_neg (by omega), if_pos h19]
        omega
    · have e1 := cR c1.length (by omega)
      rw [lst_mid (by rw [imL_len])] at e1
      unfold rcM at e1
      rw [Prod.mk.injEq] at e1
      rw [show 400 * t + R.2.2.2.2.2.2 + (R.2.2.2.2.2.1 - R.2.2.2.2.1) = 400 * t + (R.2.2.2.2.2.2 + c1.length) by omega, h52 _ (by omega)]
      exact e1.1
  refine ⟨fun k => if h : k < 4 ∧ toldB Cs k = true then some (Classical.choose (law_ k h.1 h.2)) else none, by rw [h46]; omega, by rw [hX.num, h46], fun k hk hT => ?_, fun k f hk hT => ?_, fun cl hcl => ?_, fun cl hcl h4 => ?_, fun cl hcl h4 => ?_, fun cl hcl h4 => ?_, fun cl hcl h4 => ?_⟩
  · dsimp only at hT
    have hno : toldB Cs k = false := by
      cases hb : toldB Cs k with
      | false => rfl
      | true => rw [dif_pos ⟨hk, hb⟩] at hT; cases hT
    refine ⟨hX.none_ k hk hno, fun cl hcl => ?_⟩
    obtain ⟨R, hR1, hlt⟩ := rec_ cl hcl
    rw [h47 cl hlt, (hR.cls cl R hR1).1]
    intro z
    rw [toldB_iff.mpr ⟨cl, R, hR1, z⟩] at hno
    cases hno
  · dsimp only at hT
    by_cases hb : k < 4 ∧ toldB Cs k = true
    · rw [dif_pos hb] at hT
      cases hT
      exact Classical.choose_spec (law_ k hb.1 hb.2)
    · rw [dif_neg hb] at hT
      cases hT
  · obtain ⟨R, hR1, hlt⟩ := rec_ cl hcl
    have hrg := (hs.recs cl R hR1).rng
    rw [h47 cl hlt, (hR.cls cl R hR1).1, (hX.cls cl R hR1).1]
    exact ⟨rfl, hrg.1, hrg.2⟩
  · obtain ⟨R, hR1, hlt⟩ := rec_ cl hcl
    rw [(hX.cls cl R hR1).1] at h4
    have hrg := (hs.recs cl R hR1).one h4
    rw [h49 cl hlt, (hR.cls cl R hR1).2.2.1 h4, (hX.cls cl R hR1).2.1 h4]
    exact ⟨rfl, hrg.1, hrg.2⟩
  · obtain ⟨R, hR1, hlt⟩ := rec_ cl hcl
    rw [(hX.cls cl R hR1).1] at h4
    have hrg := (hs.recs cl R hR1).two h4
    rw [h50 cl hlt, (hR.cls cl R hR1).2.2.2.1 h4, (hX.cls cl R hR1).2.2.1 h4]
    exact ⟨rfl, hrg.1, hrg.2⟩
  · obtain ⟨R, hR1, hlt⟩ := rec_ cl hcl
    rw [(hX.cls cl R hR1).1] at h4
    have hrg := (hs.recs cl R hR1).three h4
    rw [h51 cl hlt, (hR.cls cl R hR1).2.2.2.2 h4, (hX.cls cl R hR1).2.2.2 h4]
    exact ⟨rfl, hrg.1, hrg.2⟩
  · obtain ⟨R, hR1, hlt⟩ := rec_ cl hcl
    rw [(hX.cls cl R hR1).1] at h4
    have hrg := (hs.recs cl R hR1).days h4
    rw [(hX.cls cl R hR1).2.1 (by omega)]
    exact hrg
