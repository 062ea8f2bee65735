/-! fewest: the class's side -/
def cd (A : Nat → Int) (a : Nat) : Int := if (a : Int) ≤ A 1 then a else a - A 1 + 9
/-- cells that a look from depth k on may change -/
def frL (k : Nat) (M M' : zM) : Prop := fr2 M M' ∧ (∀ r, r < k → M' 22 (r + 60) = M 22 (r + 60)) ∧ (∀ r, r < k → M' 33 0 r = M 33 0 r) ∧ (M' 31 0 5 = M 31 0 5 ∧ M' 31 0 6 = M 31 0 6 ∧ M' 31 0 7 = M 31 0 7) ∧ ∀ t, t < 8 → M' 16 (t + 8 * 2) 0 = M 16 (t + 8 * 2) 0
set_option maxRecDepth 8000 in
set_option maxHeartbeats 2000000 in
theorem frL.rfl_ {k : Nat} {M : zM} : frL k M M := ⟨fr2.rfl_, fun _ _ => rfl, fun _ _ => rfl, ⟨rfl, rfl, rfl⟩, fun _ _ => rfl⟩
set_option maxRecDepth 8000 in
set_option maxHeartbeats 2000000 in
theorem frL.trans {k : Nat} {M M' M2 : zM} (h : frL k M M') (h2 : frL k M' M2) : frL k M M2 := ⟨h.1.trans h2.1, fun r hr => by rw [h2.2.1 r hr, h.2.1 r hr], fun r hr => by rw [h2.2.2.1 r hr, h.2.2.1 r hr], ⟨by rw [h2.2.2.2.1.1, h.2.2.2.1.1], by rw [h2.2.2.2.1.2.1, h.2.2.2.1.2.1], by rw [h2.2.2.2.1.2.2, h.2.2.2.1.2.2]⟩, fun t ht => by rw [h2.2.2.2.2 t ht, h.2.2.2.2 t ht]⟩
set_option maxRecDepth 8000 in
set_option maxHeartbeats 2000000 in
theorem frL.less {k : Nat} {M M' : zM} (h : frL (k + 1) M M') : frL k M M' := ⟨h.1, fun r hr => h.2.1 r (by omega), fun r hr => h.2.2.1 r (by omega), h.2.2.2.1, h.2.2.2.2⟩
set_option maxRecDepth 8000 in
set_option maxHeartbeats 2000000 in
theorem frL.of {k : Nat} {M M' : zM} (h : frX 2 M M') : frL k M M' := by
  have f : ∀ k i, k = 22 ∨ k = 31 ∨ k = 33 → M' k i = M k i := fun k i hk => h.1 k i (by omega) (by omega) (by omega) (by omega) (by omega) (by omega)
  exact ⟨h.two, fun r _ => f 22 _ (by omega), fun r _ => by rw [f 33 0 (by omega)], by rw [f 31 0 (by omega)]; exact ⟨rfl, rfl, rfl⟩, h.2⟩
set_option maxRecDepth 8000 in
set_option maxHeartbeats 2000000 in
theorem frL.saved {k r : Nat} {M M' : zM} {A w : Nat → Int} (h : frL k M M') (hA : headOK A) (hs : savedR M (r + 60) 2 A w) (hr : r < k) : savedR M' (r + 60) 2 A w := hs.frame hA.thg.2 (h.2.1 r hr) h.2.2.2.2
/-- what the class has of the fewest yet -/
def srX (A : Nat → Int) (n : Nat) (s : zBS) (M : zM) : Prop := (0 ≤ s.1 ∧ s.1 ≤ n + 1) ∧ M 31 0 4 = s.1 ∧ (s.1 ≤ n → ∀ k, k < n → M 34 0 k = cd A (s.2 k))
set_option maxRecDepth 8000 in
set_option maxHeartbeats 2000000 in
theorem srX.of {A : Nat → Int} {n : Nat} {s : zBS} {M M' : zM} (h : srX A n s M) (e31 : M' 31 0 4 = M 31 0 4) (e34 : M' 34 0 = M 34 0) : srX A n s M' := by
  unfold srX at h ⊢
  rw [e31, e34]
  exact h
set_option maxRecDepth 8000 in
set_option maxHeartbeats 2000000 in
theorem srX.frX {A : Nat → Int} {n : Nat} {s : zBS} {M M' : zM} (h : srX A n s M) (f : frX 2 M M') : srX A n s M' := h.of (by rw [f.1 31 0 (by omega) (by omega) (by omega) (by omega) (by omega) (by omega)]) (f.1 34 0 (by omega) (by omega) (by omega) (by omega) (by omega) (by omega))
def lookOK (T : Nat → Nat → Option zLw) (A : Nat → Int) (th : Nat) (ow : Int) (n d : Nat) : Prop := ∀ (k f : Nat) (w : Nat → Int) (pre : Nat → Nat) (c : Int) (s : zBS) (M : zM), k + d = n → 2 * d + 1 ≤ f → cityR M 2 A w → rowOK A w → w 38 ≤ 9999 → textsOK M (A 3) T → srX A n s M → (0 ≤ c ∧ c ≤ k) → (∀ r, r < k → M 33 0 r = cd A (pre r)) → M 31 0 5 = th → M 31 0 6 = ow → M 31 0 7 = n → ∃ M', zfixS f 7 k c 0 M = some M' ∧ cityR M' 2 A w ∧ srX A n (rT T A th ow d k w pre c s) M' ∧ frL k M M'
set_option maxRecDepth 8000 in
set_option maxHeartbeats 2000000 in
theorem X_look0 {T : Nat → Nat → Option zLw} {A : Nat → Int} {th n : Nat} {ow : Int} (hA : headOK A) (hth : (th : Int) < A 1) (how : 0 ≤ ow ∧ ow < 6) (hn : n ≤ 3) : lookOK T A th ow n 0 := by
  intro k f w pre c s M hk hf hc hw hd hT hs hcc hpre h5 h6 h7
  have h0 := hA.thg
  have h1 := hA.own
  obtain ⟨f, rfl⟩ : ∃ g, f = g + 1 := ⟨f - 1, by omega⟩
  have hkn : k = n := by omega
  subst hkn
  have e4 := hs.2.1
  have hs1 := hs.1
  have hat := hw.at_ th hth
  have hwi := hc.with_ th hth
  show ∃ M', f_X3_look (zfixS f) k c M = some M' ∧ _
  unfold f_X3_look f_X3_look_j22 rT leafU
  rw [e4, h5, h6, h7, zw_id (z := c) (by omega) (by omega), zw_id (z := s.1) (by omega) (by omega), zw_nat (n := k) (by omega), zw_nat (n := th) (by omega), zix_nat (n := th) (by omega), zw_id (z := ow) (by omega) (by omega)]
  by_cases hlt : c < s.1
  · rw [if_pos hlt, if_pos (Int.le_refl _), if_pos (by omega)]
    have e16 : M 16 (th + 16) 4 = w (14 + th) := hwi
    rw [e16, zw_id (z := w (14 + th)) (by omega) (by omega)]
    by_cases hg : w (14 + th) = ow
    · rw [if_neg (nn_ hg), if_pos ⟨hlt, hg⟩, zlt_, zlt_]
      have fz : ∀ kk i, kk ≠ 31 → kk ≠ 34 → zcopy (zput M 31 0 4 c) 33 0 0 34 0 0 3 kk i = M kk i := fun kk i a b => by rw [zcopy_rowk (by omega), zput_rowk (by omega)]
      refine ⟨_, rfl, hc.frame' (fun kk i a b => fz kk i (by omega) (by omega)), ⟨⟨hcc.1, by dsimp only; omega⟩, ?_, fun _ r hr => ?_⟩, ⟨fun kk i a => fz kk i (by unfold sc2 at a; omega) (by unfold sc2 at a; omega), fun r _ => fz 22 _ (by omega) (by omega), fun r _ => by rw [fz 33 0 (by omega) (by omega)], ?_, fun t _ => by rw [fz 16 _ (by omega) (by omega)]⟩⟩
      · rw [zcopy_k (by omega), zput_eq]
      · rw [zcopy_in (by omega) (by omega), zput_k (by omega), show 0 + (r - 0) = r by omega]
        exact hpre r hr
      · rw [zcopy_k (by omega), zput_j (by omega), zcopy_k (by omega), zput_j (by omega), zcopy_k (by omega), zput_j (by omega)]
        exact ⟨rfl, rfl, rfl⟩
    · rw [if_pos hg, if_neg (fun z => hg z.2)]
      exact ⟨M, rfl, hc, hs, frL.rfl_⟩
  · rw [if_neg hlt, if_neg (fun z => hlt z.1)]
    exact ⟨M, rfl, hc, hs, frL.rfl_⟩
set_option maxRecDepth 8000 in
set_option maxHeartbeats 2000000 in
theorem X_goOn {T : Nat → Nat → Option zLw} {A : Nat → Int} {th n d : Nat} {ow : Int} (hA : headOK A) (hn : n ≤ 3) (ih : lookOK T A th ow n d) {k f a : Nat} {w : Nat → Int} {pre : Nat → Nat} {c : Int} {s : zBS} {M : zM} (hk : k + (d + 1) = n) (hf : 2 * d + 2 ≤ f) (hc : cityR M 2 A (sAct T A w a)) (hw : rowOK A w) (hd : w 38 ≤ 9999) (hT : textsOK M (A 3) T) (hs : srX A n s M) (hcc : 0 ≤ c ∧ c ≤ k + 1) (hpre : ∀ r, r < k → M 33 0 r = cd A (pre r)) (h5 : M 31 0 5 = th) (h6 : M 31 0 6 = ow) (h7 : M 31 0 7 = n) (hsv : savedR M (k + 60) 2 A w) (ha : (a : Int) ≤ 2 * A 1) : ∃ M', zfixS f 8 k c (cd A a) M = some M' ∧ cityR M' 2 A w ∧ srX A n (rT T A th ow d (k + 1) (sGo T A w a) (fup pre k a) c s) M' ∧ frL k M M' ∧ savedR M' (k + 60) 2 A w := by
  have h0 := hA.thg
  obtain ⟨f, rfl⟩ : ∃ g, f = g + 1 := ⟨f - 1, by omega⟩
  obtain ⟨o1, o2, -⟩ := sAct_ok (T := T) hA hw hd ha
  obtain ⟨p1, p2, -⟩ := sGo_ok (T := T) hA hw hd ha
  generalize hM1 : zput M 33 0 k (cd A a) = M1
  have f1 : ∀ kk i, kk ≠ 33 → M1 kk i = M kk i := fun kk i h => by rw [← hM1, zput_rowk (by omega)]
  have f33 : ∀ r, r < k + 1 → M1 33 0 r = cd A (fup pre k a r) := fun r hr => by
    unfold fup
    by_cases h : r = k
    · subst h; rw [if_pos rfl, ← hM1, zput_eq]
    · rw [if_neg h, ← hM1, zput_j h]; exact hpre r (by omega)
  have c1 : cityR M1 2 A (sAct T A w a) := hc.frame' (fun kk i _ _ => f1 kk i (by omega))
  have T1 : textsOK M1 (A 3) T := hT.frame (fun kk i h => f1 kk i (by unfold txK at h; omega))
  have s1 : srX A n s M1 := hs.of (by rw [f1 31 0 (by omega)]) (f1 34 0 (by omega))
  have sv1 : savedR M1 (k + 60) 2 A w := hsv.frame h0.2 (f1 22 _ (by omega)) (fun t _ => by rw [f1 16 _ (by omega)])
  have l1 : frL k M M1 := ⟨fun kk i h => f1 kk i (by unfold sc2 at h; omega), fun r _ => f1 22 _ (by omega), fun r hr => by rw [← hM1, zput_j (by omega)], by rw [f1 31 0 (by omega)]; exact ⟨rfl, rfl, rfl⟩, fun t _ => by rw [f1 16 _ (by omega)]⟩
  -- a look, and all as it was
  have tail : ∀ N, cityR N 2 A (sGo T A w a) → frX 2 M1 N → ∃ M', f_X3_goOn_j28 (zfixS f) k c N = some M' ∧ cityR M' 2 A w ∧ srX A n (rT T A th ow d (k + 1) (sGo T A w a) (fup pre k a) c s) M' ∧ frL k M M' ∧ savedR M' (k + 60) 2 A w := by
    intro N cN fN
    have lN : frL (k + 1) M1 N := frL.of fN
    obtain ⟨N2, b1, b2, b3, b4⟩ := ih (k + 1) f (sGo T A w a) (fup pre k a) c s N (by omega) (by omega) cN p1 p2 (fN.txt T1) (s1.frX fN) (by omega) (fun r hr => by rw [lN.2.2.1 r hr]; exact f33 r hr) (by rw [lN.2.2.2.1.1, l1.2.2.2.1.1]; exact h5) (by rw [lN.2.2.2.1.2.1, l1.2.2.2.1.2.1]; exact h6) (by rw [lN.2.2.2.1.2.2, l1.2.2.2.1.2.2]; exact h7)
    have svN := b4.saved hA (lN.saved hA sv1 (by omega)) (show k < k + 1 by omega)
    obtain ⟨N3, d1, d2, d3⟩ := X_load b2 hA hw svN
    have l3 : frL (k + 1) N2 N3 := frL.of d3
    refine ⟨N3, ?_, d2, b3.frX d3, l1.trans (lN.less.trans (b4.less.trans l3.less)), l3.saved hA svN (by omega)⟩
    unfold f_X3_goOn_j28
    rw [show ((k : Int) + 1) = ((k + 1 : Nat) : Int) from rfl, b1]
    simp only [zbs]
    rw [zw_nat (by omega), if_pos (by omega), zix_nat (by omega), d1]
    exact zbs _ _
  show ∃ M', f_X3_goOn (zfixS f) k c (cd A a) M = some M' ∧ _
  unfold f_X3_goOn
  rw [zw_nat (by omega), if_pos (by omega), zix_nat (by omega), zlt_, hM1, c1.day]
  have hday := o1.day
  rw [zw_id (by omega) (by omega)]
  by_cases hp : 9999 ≤ sAct T A w a 38
  · rw [if_pos hp]
    have e : sGo T A w a = sAct T A w a := by unfold sGo sThru sThru; rw [if_neg (by omega)]
    exact tail M1 (by rw [e]; exact c1) frX.rfl_
  · rw [if_neg hp]
    obtain ⟨N, q1, q2, q3⟩ := X_passOne (T := T) c1 hA o1 T1 (by omega)
    have e : sGo T A w a = (sPass T A (sAct T A w a)).1 := by unfold sGo sThru sThru; rw [if_pos (by omega)]
    rw [q1]
    simp only [zbs]
    exact tail N (by rw [e]; exact q2) q3
