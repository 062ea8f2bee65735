/-! call: lying -/
set_option maxRecDepth 8000 in
set_option maxHeartbeats 2000000 in
theorem call_lying {M : zM} {v y : Int} (h : zI M) (hv : -2147483648 ≤ v ∧ v ≤ 2147483647) : zCall (f_X10_lying v y M) (fun N => f_X11_lying v y N) := by
  have hz := h
  obtain ⟨T, hI⟩ := h
  have w0 := hI.w0
  have hA := w0.head
  have h7 := hA.vts
  have hvt := w0.tld.votes
  by_cases hr : 0 ≤ v ∧ v < M 43 0 7
  case neg =>
    refine zCall.same hz (v := -1) ?_ ?_
    · unfold f_X10_lying
      rw [hvt, wth_no (by omega) hv (by omega) (by omega)]
      simp only [zbs]
      rw [if_neg (nn_ zw_0)]
    · unfold f_X11_lying
      rw [in_no (by omega) hv (by omega) (by omega)]
      simp only [zbs]
      rw [if_neg (nn_ zw_0)]
  obtain ⟨n, hn⟩ := Int.eq_ofNat_of_zero_le h7.1
  obtain ⟨k, rfl⟩ := Int.eq_ofNat_of_zero_le hr.1
  have hkn : k < n := by omega
  generalize hf : (fun i => M 43 0 (48 + i)) = f
  have hfi : ∀ i, M 43 0 (48 + i) = f i := fun i => by rw [← hf]
  have fb : ∀ i, i < n → 0 ≤ f i ∧ f i ≤ 99 := fun i hi => by rw [← hfi]; exact hA.vote i (by omega)
  have f26 : ∀ i, i < n → M 26 0 i = f i := fun i hi => by rw [← hfi]; exact w0.tld.vote i (by omega)
  obtain ⟨M1, e1, e2, e3⟩ := X_outcome (M := M) (n := n) (f := f) (y := y) (by omega) (by rw [hvt, hn]) (fun i hi => ⟨f26 i hi, fb i hi⟩)
  generalize hb : decide (zw y ≠ 0) = b at e1 e2
  generalize hH : outF f n b = H at e1 e2
  have hoff := awy_le (fb k hkn) e2
  -- each lie's outcome is a vote's number
  have lieb : ∀ lie : Nat, lie < 100 → ∀ i, i < n → 0 ≤ lieF f k (lie : Int) i ∧ lieF f k (lie : Int) i ≤ 99 := fun lie hl i hi => by
    unfold lieF
    have := fb i hi
    split <;> omega
  have outb : ∀ lie : Nat, lie < 100 → 0 ≤ outF (lieF f k (lie : Int)) n b ∧ outF (lieF f k (lie : Int)) n b ≤ 99 := fun lie hl => by
    obtain ⟨-, -, q, -⟩ := X_outcome (M := zput (fun _ _ q => lieF f k (lie : Int) q) 23 0 8 n) (n := n) (f := lieF f k (lie : Int)) (y := y) (by omega) (zput_eq _ _ _ _ _) (fun i hi => ⟨zput_k (by omega), lieb lie hl i hi⟩)
    rw [hb] at q
    exact q
  have ab : ∀ lie : Nat, lie < 100 → 0 ≤ awy (f k) (outF (lieF f k (lie : Int)) n b) ∧ awy (f k) (outF (lieF f k (lie : Int)) n b) ≤ 99 := fun lie hl => awy_le (fb k hkn) (outb lie hl)
  have mo := lyM_le (f := f) (n := n) (k := k) (b := b) (off := awy (f k) H) hoff (fun i hi => (ab i hi).1)
  have hMk : M 26 0 k = f k := f26 k hkn
  -- the class
  have keyX := zT_for (body := fun s : Int × Int × zM => f_X10_lying_L51 (k : Int) y (f k) (awy (f k) H) s.1 s.2.1 s.2.2) (fun i s => s.1 = awy (f k) H - lyM f n k b (awy (f k) H) i ∧ s.2.1 = (i : Int) ∧ (∀ k' q, ¬ (k' = 27 ∧ q = 0) → ¬ (k' = 26 ∧ q = 0) → s.2.2 k' q = M k' q) ∧ ∀ q, q ≠ k → s.2.2 26 0 q = M 26 0 q) 100 (Q := fun e => e.1 = awy (f k) H - lyM f n k b (awy (f k) H) 100 ∧ (∀ k' q, ¬ (k' = 27 ∧ q = 0) → ¬ (k' = 26 ∧ q = 0) → e.2 k' q = M k' q) ∧ ∀ q, q ≠ k → e.2 26 0 q = M 26 0 q) ?_ (m := zF) (by unfold zF; omega) (s := (awy (f k) H, 0, M1)) ⟨by show _ = _ - 0; omega, rfl, fun k' q a c => e3 k' q a, fun q _ => congrFun (e3 26 0 (by omega)) q⟩
  · obtain ⟨⟨r1, M2⟩, x1, x2, x3, x4⟩ := keyX
    dsimp only at x2 x3 x4
    have hM3 : ∀ k' q, ¬ (k' = 27 ∧ q = 0) → zput M2 26 0 k (f k) k' q = M k' q := fun k' q a => by
      by_cases hc : k' = 26 ∧ q = 0
      · obtain ⟨rfl, rfl⟩ := hc
        funext j
        by_cases hj : j = k
        · subst hj; rw [zput_eq, hMk]
        · rw [zput_j hj]; exact x4 j hj
      · rw [zput_rowk (by omega)]; exact x3 k' q a hc
    have hX : f_X10_lying k y M = some (lyM f n k b (awy (f k) H) 100, zput M2 26 0 k (f k)) := by
      unfold f_X10_lying
      rw [hvt, wth_yes hr.1 (by omega) hv (by omega) (by omega)]
      simp only [zbs]
      rw [if_pos (by rw [zw01.2.1]; omega), zw_nat (by omega), if_pos (by omega), e1]
      simp only [zbs]
      rw [zix_nat (by omega), hMk, awy_X (fb k hkn) e2, x1]
      simp only [zbs]
      rw [if_pos (by omega)]
      simp only [zlt_]
      rw [x2]
      congr 2
      omega
    generalize zput M2 26 0 k (f k) = M3 at hM3 hX
    have hA3 : M3 43 0 = M 43 0 := hM3 43 0 (by omega)
    have m7 : M3 43 0 7 = (n : Int) := by rw [hA3, hn]
    have m48 : M3 43 0 (48 + k) = f k := by rw [hA3]; exact hfi k
    have hg : ∀ (j : Int) (g : Nat → Int), (∀ i, i < n → g i = f i) → outF g n b = outF f n b → True := fun _ _ _ _ => trivial
    have hR0 := R_votedBy (M := M3) (A := M 43 0) (g := f) (n := n) (k := -1) (other := 0) (y := y) hA3 (by omega) hn (by omega) (by omega) (fun i hi => hA.vote i (by omega)) (fun i hi => by rw [if_neg (by omega), hfi])
    rw [hb, hH] at hR0
    have hRl : ∀ lie : Nat, lie < 100 → f_X11_votedBy (k : Int) (lie : Int) y M3 = some (outF (lieF f k (lie : Int)) n b, M3) := fun lie hl => by
      have := R_votedBy (M := M3) (A := M 43 0) (g := lieF f k (lie : Int)) (n := n) (k := (k : Int)) (other := (lie : Int)) (y := y) hA3 (by omega) hn (by omega) (by omega) (fun i hi => hA.vote i (by omega)) (fun i hi => by
        unfold lieF
        by_cases hik : i = k
        · rw [if_pos hik, if_pos (by omega)]
        · rw [if_neg hik, if_neg (by omega), hfi])
      rw [hb] at this
      exact this
    have keyR : zlp (fun s : Int × Int × zM => f_X11_lying_L48 (k : Int) y (f k) (awy (f k) H) s.1 s.2.1 s.2.2) zF (0, 0, M3) = some (lyM f n k b (awy (f k) H) 100, M3) := zlp_fun (body := fun s : Int × Int × zM => f_X11_lying_L48 (k : Int) y (f k) (awy (f k) H) s.1 s.2.1 s.2.2) (fun i => (lyM f n k b (awy (f k) H) i, (i : Int), M3)) 100 (lyM f n k b (awy (f k) H) 100, M3) (fun i hi => by
      have hst : lyM f n k b (awy (f k) H) (i + 1) = if lyM f n k b (awy (f k) H) i < awy (f k) H - awy (f k) (outF (lieF f k (i : Nat)) n b) then awy (f k) H - awy (f k) (outF (lieF f k (i : Nat)) n b) else lyM f n k b (awy (f k) H) i := rfl
      have h1 := mo i (by omega)
      have h2 := ab i hi
      have haw : (if outF (lieF f k (i : Nat)) n b ≤ f k then f k - outF (lieF f k (i : Nat)) n b else outF (lieF f k (i : Nat)) n b - f k) = awy (f k) (outF (lieF f k (i : Nat)) n b) := rfl
      unfold f_X11_lying_L48 f_X11_lying_j86
      dsimp only
      rw [zw_nat (by omega), if_neg (by omega), hRl i hi]
      simp only [zbs]
      rw [R_away (fb k hkn) (outb i hi), haw, hst]
      simp only [zbs]
      generalize awy (f k) (outF (lieF f k (i : Nat)) n b) = q at h2 ⊢
      generalize lyM f n k b (awy (f k) H) i = p at h1 ⊢
      rw [zw_id (by omega) (by omega), zw_id (by omega) (by omega)]
      by_cases hc : p < awy (f k) H - q
      · rw [if_neg (by omega), if_pos hc]; rfl
      · rw [if_pos (by omega), if_neg hc]; rfl) (by
      unfold f_X11_lying_L48
      dsimp only
      rw [zw_nat (by omega), if_pos (by omega)]) (m := zF) (by unfold zF; omega)
    have g3 : ∀ k, k ≠ 27 → M3 k 0 = M k 0 := fun k hk => hM3 k 0 (by omega)
    refine zCall.mk (M1 := M3) (M2 := M3) (v := lyM f n k b (awy (f k) H) 100) hX ?_ ⟨T, hI.told hA (fun q _ => rfl) (fun k i a => hM3 k i (by omega)) (w0.tld.congr hA ?_ (fun q _ => ?_) (fun q _ => ?_) (fun q _ => rfl)) frV.rfl_ hA3⟩
    · unfold f_X11_lying
      rw [m7, in_yes hr.1 (by omega) hv (by omega) (by omega)]
      simp only [zbs]
      rw [if_pos (by rw [zw01.2.1]; omega), zw_id (z := 48 + (k : Int)) (by omega) (by omega), if_pos (by omega), hR0]
      simp only [zbs]
      rw [zi48 (by omega), m48, R_away (fb k hkn) e2]
      simp only [zbs]
      rw [show (if H ≤ f k then f k - H else H - f k) = awy (f k) H from rfl, keyR]
      simp only [zbs]
    · rw [g3 23 (by omega)]; exact ⟨rfl, rfl, rfl⟩
    · rw [g3 24 (by omega), g3 25 (by omega)]; exact ⟨rfl, rfl⟩
    · rw [g3 26 (by omega), g3 28 (by omega), g3 29 (by omega), g3 30 (by omega)]; exact ⟨rfl, rfl, rfl, rfl⟩
  · rintro i ⟨x, c, N⟩ hi ⟨q1, q2, q3, q4⟩
    dsimp only at q1 q2 q3 q4 ⊢
    subst q1 q2
    have h1 := mo i (by omega)
    unfold f_X10_lying_L51
    rw [zw_nat (by omega)]
    by_cases h100 : i = 100
    · subst h100
      rw [if_pos (by omega)]
      exact zT_some (Or.inr ⟨_, rfl, rfl, q3, q4⟩)
    · have h2 := ab i (by omega)
      have hst : lyM f n k b (awy (f k) H) (i + 1) = if lyM f n k b (awy (f k) H) i < awy (f k) H - awy (f k) (outF (lieF f k (i : Nat)) n b) then awy (f k) H - awy (f k) (outF (lieF f k (i : Nat)) n b) else lyM f n k b (awy (f k) H) i := rfl
      obtain ⟨N2, g1, g2, g3⟩ := X_outcome (M := zput N 26 0 k (i : Int)) (n := n) (f := lieF f k (i : Int)) (y := y) (by omega) (by rw [zput_k (by omega), q3 23 0 (by omega) (by omega), hvt, hn]) (fun j hj => ⟨by
        unfold lieF
        by_cases hjk : j = k
        · subst hjk; rw [zput_eq, if_pos rfl]
        · rw [zput_j hjk, q4 j hjk, if_neg hjk]; exact f26 j hj, lieb i (by omega) j hj⟩)
      rw [hb] at g1 g2
      rw [if_neg (by omega), zw_nat (n := k) (by omega), if_pos (by omega), zix_nat (by omega)]
      simp only [zlt_]
      rw [g1]
      simp only [zbs]
      rw [awy_X (fb k hkn) g2]
      refine zT_some (Or.inl ⟨_, rfl, by omega, ?_, by dsimp only; omega, fun k' q a c => ?_, fun q hq => ?_⟩)
      · dsimp only
        rw [hst]
        generalize awy (f k) (outF (lieF f k (i : Nat)) n b) = q at h2 ⊢
        generalize lyM f n k b (awy (f k) H) i = p at h1 ⊢
        rw [zw_id (by omega) (by omega), zw_id (by omega) (by omega)]
        (repeat' split) <;> omega
      · dsimp only
        rw [g3 k' q a, zput_rowk (by omega)]; exact q3 k' q a c
      · dsimp only
        rw [g3 26 0 (by omega), zput_j hq]; exact q4 q hq
