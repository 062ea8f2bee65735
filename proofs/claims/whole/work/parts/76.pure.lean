/-! calls: feed, ofOwner, of -/
set_option maxRecDepth 8000 in
set_option maxHeartbeats 2000000 in
theorem zand255 (x : Int) : zand x 255 = x % 256 := by
  have e : (BitVec.ofInt 32 x &&& BitVec.ofInt 32 255).toNat = (x % 256).toNat := by
    rw [BitVec.toNat_and, BitVec.toNat_ofInt, show (BitVec.ofInt 32 255).toNat = 2 ^ 8 - 1 from rfl, Nat.and_two_pow_sub_one_eq_mod]
    omega
  show (BitVec.ofInt 32 x &&& BitVec.ofInt 32 255).toInt = _
  rw [BitVec.toInt_eq_toNat_of_lt (by rw [e]; omega), e]
  omega
set_option maxRecDepth 8000 in
set_option maxHeartbeats 2000000 in
theorem bmod256 (x : Int) : Int.bmod x 256 = if x % 256 < 128 then x % 256 else x % 256 - 256 := by
  unfold Int.bmod
  rfl
set_option maxRecDepth 8000 in
set_option maxHeartbeats 2000000 in
theorem byte_ok (x : Int) : byteR (zand x 255) (Int.bmod x 256) := by
  rw [zand255, bmod256]
  exact ⟨by omega, rfl⟩
/-- what is fed -/
def fedX (c : Nat → Int) (n0 : Nat) (M0 M : zM) (n : Nat) : Prop := M 35 0 1 = n ∧ (∀ q, n0 ≤ q → q < n → M 36 0 q = zand (c q) 255) ∧ (∀ q, q < n0 → M 36 0 q = M0 36 0 q) ∧ ∀ k i, k ≠ 35 → k ≠ 36 → M k i = M0 k i
def fedR (c : Nat → Int) (n0 : Nat) (M0 M : zM) (n : Nat) : Prop := M 42 0 3 = n ∧ (∀ q, n0 ≤ q → q < n → M 45 0 q = Int.bmod (c q) 256) ∧ (∀ q, q < n0 → M 45 0 q = M0 45 0 q) ∧ (∀ k i, ¬ (k = 42 ∧ i = 0) → k ≠ 45 → M k i = M0 k i) ∧ ∀ s, s ≠ 3 → M 42 0 s = M0 42 0 s
set_option maxRecDepth 8000 in
set_option maxHeartbeats 2000000 in
theorem X_add {c : Nat → Int} {n0 n : Nat} {M0 M : zM} {v : Int} (h : fedX c n0 M0 M n) (hn : n + 4 ≤ 300) (h0 : n0 ≤ n) (hc : ∀ i : Nat, i < 4 → c (n + i) = zshr v (24 - 8 * (i : Int))) : ∃ M', f_X6_add v M = some M' ∧ fedX c n0 M0 M' (n + 4) := by
  have key := zT_for (body := fun s : Int × zM => f_X6_add_L3 v s.1 s.2) (fun i s => s.1 = 24 - 8 * (i : Int) ∧ fedX c n0 M0 s.2 (n + i)) 4 (Q := fun N => fedX c n0 M0 N (n + 4)) ?_ (m := zF) (by unfold zF; omega) (s := (24, M)) ⟨rfl, h⟩
  · obtain ⟨M', k1, k2⟩ := key
    refine ⟨M', ?_, k2⟩
    unfold f_X6_add
    rw [k1]
    simp only [zbs]
  · rintro i ⟨x, N⟩ hi ⟨h1, h2, h3, h4, h5⟩
    dsimp only at h1 h2 h3 h4 h5 ⊢
    subst h1
    unfold f_X6_add_L3
    rw [zw_id (by omega) (by omega)]
    by_cases hc4 : i = 4
    · subst hc4
      rw [if_pos (by omega)]
      exact zT_some (Or.inr ⟨N, rfl, h2, h3, h4, h5⟩)
    · rw [if_neg (by omega), h2, zw_nat (by omega), if_pos (by omega), zix_nat (by omega)]
      simp (disch := omega) only [if_true, if_false, true_or, or_true, true_and, and_true, not_true_eq_false, not_false_eq_true, zlt_, zput_k, h2]
      refine zT_some (Or.inl ⟨_, rfl, by omega, by dsimp only; omega, ?_, fun q a b => ?_, fun q a => ?_, fun k i2 a b => ?_⟩)
      · dsimp only; rw [zput_eq]; omega
      · dsimp only
        rw [zput_k (by omega)]
        by_cases hq : q = n + i
        · subst hq; rw [zput_eq, hc i (by omega)]
        · rw [zput_j hq]; exact h3 q a (by omega)
      · dsimp only
        rw [zput_k (by omega), zput_j (by omega)]; exact h4 q a
      · dsimp only
        rw [zput_rowk (by omega), zput_rowk (by omega)]; exact h5 k i2 a b
set_option maxRecDepth 8000 in
set_option maxHeartbeats 2000000 in
theorem R_put {c : Nat → Int} {n0 n : Nat} {M0 M : zM} {v : Int} (h : fedR c n0 M0 M n) (hn : n + 4 ≤ 300) (h0 : n0 ≤ n) (hc : ∀ i : Nat, i < 4 → c (n + i) = zshr v (24 - 8 * (i : Int))) : ∃ M', f_X11_put v M = some M' ∧ fedR c n0 M0 M' (n + 4) := by
  have key := zT_for (body := fun s : Int × zM => f_X11_put_L3 v s.1 s.2) (fun i s => s.1 = 24 - 8 * (i : Int) ∧ fedR c n0 M0 s.2 (n + i)) 4 (Q := fun N => fedR c n0 M0 N (n + 4)) ?_ (m := zF) (by unfold zF; omega) (s := (24, M)) ⟨rfl, h⟩
  · obtain ⟨M', k1, k2⟩ := key
    refine ⟨M', ?_, k2⟩
    unfold f_X11_put
    rw [k1]
    simp only [zbs]
  · rintro i ⟨x, N⟩ hi ⟨h1, h2, h3, h4, h5, h6⟩
    dsimp only at h1 h2 h3 h4 h5 h6 ⊢
    subst h1
    unfold f_X11_put_L3
    rw [zw_id (by omega) (by omega)]
    by_cases hc4 : i = 4
    · subst hc4
      rw [if_pos (by omega)]
      exact zT_some (Or.inr ⟨N, rfl, h2, h3, h4, h5, h6⟩)
    · rw [if_neg (by omega), h2, zw_nat (by omega), if_pos (by omega), zix_nat (by omega)]
      simp (disch := omega) only [if_true, if_false, true_or, or_true, true_and, and_true, not_true_eq_false, not_false_eq_true, zlt_, zput_k, h2]
      refine zT_some (Or.inl ⟨_, rfl, by omega, by dsimp only; omega, ?_, fun q a b => ?_, fun q a => ?_, fun k i2 a b => ?_, fun s a => ?_⟩)
      · dsimp only; rw [zput_eq]; omega
      · dsimp only
        rw [zput_k (by omega)]
        by_cases hq : q = n + i
        · subst hq; rw [zput_eq, hc i (by omega)]
        · rw [zput_j hq]; exact h3 q a (by omega)
      · dsimp only
        rw [zput_k (by omega), zput_j (by omega)]; exact h4 q a
      · dsimp only
        rw [zput_rowk (by omega), zput_rowk (by omega)]; exact h5 k i2 a b
      · dsimp only
        rw [zput_j a, zput_k (by omega)]; exact h6 s a
set_option maxRecDepth 8000 in
set_option maxHeartbeats 2000000 in
theorem call_feed {M : zM} {a b c d e : Int} (h : zI M) : zCall (f_X10_feed a b c d e M) (fun N => f_X11_feed a b c d e N) := by
  have hz := h
  obtain ⟨T, hI⟩ := h
  obtain ⟨l1, l2, l3⟩ := hI.len
  obtain ⟨n, hn⟩ := Int.eq_ofNat_of_zero_le l2
  by_cases hr : n + 20 ≤ 300
  · obtain ⟨g, hg⟩ : ∃ g : Nat → Int, ∀ i : Nat, i < 4 → g (n + i) = zshr a (24 - 8 * (i : Int)) ∧ g (n + 4 + i) = zshr b (24 - 8 * (i : Int)) ∧ g (n + 4 + 4 + i) = zshr c (24 - 8 * (i : Int)) ∧ g (n + 4 + 4 + 4 + i) = zshr d (24 - 8 * (i : Int)) ∧ g (n + 4 + 4 + 4 + 4 + i) = zshr e (24 - 8 * (i : Int)) := by
      refine ⟨fun q => if q < n + 4 then zshr a (24 - 8 * ((q - n : Nat) : Int)) else if q < n + 8 then zshr b (24 - 8 * ((q - n - 4 : Nat) : Int)) else if q < n + 12 then zshr c (24 - 8 * ((q - n - 8 : Nat) : Int)) else if q < n + 16 then zshr d (24 - 8 * ((q - n - 12 : Nat) : Int)) else zshr e (24 - 8 * ((q - n - 16 : Nat) : Int)), fun i hi => ⟨?_, ?_, ?_, ?_, ?_⟩⟩
      · dsimp only; rw [if_pos (by omega), show n + i - n = i by omega]
      · dsimp only; rw [if_neg (by omega), if_pos (by omega), show n + 4 + i - n - 4 = i by omega]
      · dsimp only; rw [if_neg (by omega), if_neg (by omega), if_pos (by omega), show n + 4 + 4 + i - n - 8 = i by omega]
      · dsimp only; rw [if_neg (by omega), if_neg (by omega), if_neg (by omega), if_pos (by omega), show n + 4 + 4 + 4 + i - n - 12 = i by omega]
      · dsimp only; rw [if_neg (by omega), if_neg (by omega), if_neg (by omega), if_neg (by omega), show n + 4 + 4 + 4 + 4 + i - n - 16 = i by omega]
    obtain ⟨X1, x1, y1⟩ := X_add (c := g) (n0 := n) (M0 := M) (M := M) (v := a) ⟨by rw [l1, hn], fun q p q => by omega, fun q _ => rfl, fun _ _ _ _ => rfl⟩ (by omega) (by omega) (fun i hi => (hg i hi).1)
    obtain ⟨X2, x2, y2⟩ := X_add y1 (v := b) (by omega) (by omega) (fun i hi => (hg i hi).2.1)
    obtain ⟨X3, x3, y3⟩ := X_add y2 (v := c) (by omega) (by omega) (fun i hi => (hg i hi).2.2.1)
    obtain ⟨X4, x4, y4⟩ := X_add y3 (v := d) (by omega) (by omega) (fun i hi => (hg i hi).2.2.2.1)
    obtain ⟨X5, x5, z1, z2, z3, z4⟩ := X_add y4 (v := e) (by omega) (by omega) (fun i hi => (hg i hi).2.2.2.2)
    have m3 : X5 42 0 3 = n := by rw [z4 42 0 (by omega) (by omega)]; exact hn
    obtain ⟨R1, r1, s1⟩ := R_put (c := g) (n0 := n) (M0 := X5) (M := X5) (v := a) ⟨m3, fun q p q => by omega, fun q _ => rfl, fun _ _ _ _ => rfl, fun _ _ => rfl⟩ (by omega) (by omega) (fun i hi => (hg i hi).1)
    obtain ⟨R2, r2, s2⟩ := R_put s1 (v := b) (by omega) (by omega) (fun i hi => (hg i hi).2.1)
    obtain ⟨R3, r3, s3⟩ := R_put s2 (v := c) (by omega) (by omega) (fun i hi => (hg i hi).2.2.1)
    obtain ⟨R4, r4, s4⟩ := R_put s3 (v := d) (by omega) (by omega) (fun i hi => (hg i hi).2.2.2.1)
    obtain ⟨R5, r5, t1, t2, t3, t4, t5⟩ := R_put s4 (v := e) (by omega) (by omega) (fun i hi => (hg i hi).2.2.2.2)
    refine zCall.mk (M1 := X5) (M2 := R5) (v := ((n + 4 + 4 + 4 + 4 + 4 : Nat) : Int)) ?_ ?_ ⟨T, hI.taped (M1 := M) (fun k i p q => ?_) (fun s hs => ?_) ?_ (fun i hi => ?_)⟩
    · unfold f_X10_feed
      rw [l1, hn, zw_id (by omega) (by omega), if_pos (by omega), x1]
      simp only [zbs]
      rw [x2]
      simp only [zbs]
      rw [x3]
      simp only [zbs]
      rw [x4]
      simp only [zbs]
      rw [x5]
      simp only [zbs, z1]
    · unfold f_X11_feed
      rw [m3, zw_id (by omega) (by omega), if_pos (by omega), r1]
      simp only [zbs]
      rw [r2]
      simp only [zbs]
      rw [r3]
      simp only [zbs]
      rw [r4]
      simp only [zbs]
      rw [r5]
      simp only [zbs, t1]
    · rw [t4 k i q (by omega), z4 k i (by omega) (by omega)]
    · rw [t5 s hs, z4 42 0 (by omega) (by omega)]
    · rw [t4 35 0 (by omega) (by omega), z1, t1]; exact ⟨rfl, by omega, by omega⟩
    · rw [t1] at hi
      rw [t4 36 0 (by omega) (by omega)]
      by_cases hq : i < n
      · rw [z3 i hq, t3 i hq, z4 45 0 (by omega) (by omega)]
        exact hI.tape i (by omega)
      · rw [z2 i (by omega) (by omega), t2 i (by omega) (by omega)]
        exact byte_ok _
  · refine zCall.same hz (v := -1) ?_ ?_
    · unfold f_X10_feed
      rw [l1, hn, zw_id (by omega) (by omega), if_neg (by omega)]
    · unfold f_X11_feed
      rw [hn, zw_id (by omega) (by omega), if_neg (by omega)]
set_option maxRecDepth 8000 in
set_option maxHeartbeats 2000000 in
theorem call_ofOwner {M : zM} {v k : Int} (h : zI M) (hv : -2147483648 ≤ v ∧ v ≤ 2147483647) (hk : -2147483648 ≤ k ∧ k ≤ 2147483647) : zCall (f_X10_ofOwner v k M) (fun N => f_X11_ofOwner v k N) := by
  have hz := h
  obtain ⟨T, hI⟩ := h
  have w0 := hI.w0
  generalize hAA : M 43 0 = A at w0
  have hA := w0.head
  have h0 := hA.thg
  have h1 := hA.own
  by_cases hr : 0 ≤ v ∧ v < A 0
  case neg =>
    refine zCall.same hz (v := -2000000) ?_ ?_
    · unfold f_X10_ofOwner
      rw [X_hasOwner w0.city hA hv, if_neg hr]
      simp only [zbs]
      rw [if_neg (nn_ zw_0)]
    · unfold f_X11_ofOwner
      rw [R_isOwner hAA hA hv, if_neg hr]
      simp only [zbs]
      rw [if_neg (nn_ zw_0)]
  obtain ⟨o, rfl⟩ := Int.eq_ofNat_of_zero_le hr.1
  obtain ⟨n, hn⟩ := Int.eq_ofNat_of_zero_le h0.1
  have c1 := w0.city.lives o hr.2
  have c2 := w0.city.pence o (by omega)
  have m1 : M 43 0 1 = A 1 := by rw [hAA]
  have key : zlp (fun s : Int × Int => f_X11_ofOwner_L17 (o : Int) k s.1 s.2 M) zF (0, 0) = some (((bS (pW (rw_ A 90) o) n : Nat) : Int)) := zlp_fun (body := fun s : Int × Int => f_X11_ofOwner_L17 (o : Int) k s.1 s.2 M) (fun i => (((bS (pW (rw_ A 90) o) i : Nat) : Int), (i : Int))) n _ (fun i hi => by
    have h3 := w0.row.at_ i (by omega)
    have m2 : M 43 0 (104 + i) = rw_ A 90 (14 + i) := by rw [hAA]; unfold rw_; rw [show 90 + (14 + i) = 104 + i by omega]
    unfold f_X11_ofOwner_L17 f_X11_ofOwner_j51
    dsimp only
    rw [m1, zi104 (by omega), m2]
    simp (disch := omega) only [if_true, if_false, true_or, or_true, true_and, and_true, not_true_eq_false, not_false_eq_true, zw_id, if_neg, if_pos]
    by_cases hq : rw_ A 90 (14 + i) = o
    · rw [if_neg (nn_ hq), bS_step (by omega) (by unfold pW; simp [hq])]
      rfl
    · rw [if_pos hq, bS_none (by unfold pW; simp [hq])]
      have hb := bS_lt8 (pW (rw_ A 90) (o : Int)) (show i ≤ 8 by omega)
      have e0 : zor ((bS (pW (rw_ A 90) (o : Int)) i : Nat) : Int) 0 = ((bS (pW (rw_ A 90) (o : Int)) i : Nat) : Int) := by
        have := zor_nat (a := bS (pW (rw_ A 90) (o : Int)) i) (b := 0) (by omega) (by omega)
        rw [Nat.or_zero] at this
        exact this
      rw [e0]
      rfl) (by
    unfold f_X11_ofOwner_L17
    dsimp only
    rw [m1]
    simp (disch := omega) only [if_true, if_false, true_or, or_true, true_and, and_true, not_true_eq_false, not_false_eq_true, zw_id, if_pos]) (by unfold zF; omega)
  refine zCall.same hz (v := if k = 0 then A (10 + o) else if k = 1 then rw_ A 90 o else if k = 2 then ((bS (pW (rw_ A 90) o) n : Nat) : Int) else -2000000) ?_ ?_
  · unfold f_X10_ofOwner
    rw [X_hasOwner w0.city hA hv, if_pos hr]
    simp only [zbs]
    rw [if_pos (by rw [zw01.2.1]; omega), zw_id (z := k) (by omega) (by omega), zw_nat (by omega), if_pos (show 0 ≤ (o : Int) ∧ (o : Int) < 6 by omega), zix_nat (by omega), c1, c2]
    rw [X_thingsWith w0.city hA w0.row (by omega), show (A 1).toNat = n by omega]
    simp only [zbs]
    (repeat' split) <;> first | rfl | omega
  · have m3 : M 43 0 (10 + o) = A (10 + o) := by rw [hAA]
    have m4 : M 43 0 (90 + o) = rw_ A 90 o := by rw [hAA]; rfl
    unfold f_X11_ofOwner
    rw [R_isOwner hAA hA hv, if_pos hr]
    simp only [zbs]
    rw [if_pos (by rw [zw01.2.1]; omega), key]
    simp only [zbs]
    rw [zw_id (z := k) (by omega) (by omega), zi10 (by omega), zi90 (by omega), m3, m4, zw_id (z := 90 + (o : Int)) (by omega) (by omega), zw_id (z := 10 + (o : Int)) (by omega) (by omega)]
    by_cases k0 : k = 0
    · rw [if_neg (nn_ k0), if_pos k0, if_pos (by omega)]
    · rw [if_pos k0, if_neg k0]
      by_cases k1 : k = 1
      · rw [if_neg (nn_ k1), if_pos k1, if_pos (by omega)]
      · rw [if_pos k1, if_neg k1]
        by_cases k2 : k = 2
        · rw [if_neg (nn_ k2), if_pos k2]
        · rw [if_pos k2, if_neg k2]
set_option maxRecDepth 8000 in
set_option maxHeartbeats 2000000 in
theorem call_of {M : zM} {v k : Int} (h : zI M) (hv : -2147483648 ≤ v ∧ v ≤ 2147483647) (hk : -2147483648 ≤ k ∧ k ≤ 2147483647) : zCall (f_X10_of v k M) (fun N => f_X11_of v k N) := by
  have hz := h
  obtain ⟨T, hI⟩ := h
  have w0 := hI.w0
  generalize hAA : M 43 0 = A at w0
  have hA := w0.head
  have h0 := hA.thg
  have h1 := hA.own
  by_cases hr : 0 ≤ v ∧ v < A 1
  case neg =>
    refine zCall.same hz (v := -2) ?_ ?_
    · unfold f_X10_of
      rw [X_hasThing w0.city hA hv, if_neg hr]
      simp only [zbs]
      rw [if_neg (nn_ zw_0)]
    · unfold f_X11_of
      rw [R_isThing hAA hA hv, if_neg hr]
      simp only [zbs]
      rw [if_neg (nn_ zw_0)]
  obtain ⟨t, rfl⟩ := Int.eq_ofNat_of_zero_le hr.1
  have c1 : M 16 t 3 = A (96 + t) := (w0.city.dear t hr.2).trans (by unfold rw_; rw [show 90 + (6 + t) = 96 + t by omega])
  have c2 : M 16 t 2 = A (24 + t) := w0.city.bulk t hr.2
  have c3 : M 16 t 1 = A (16 + t) := w0.city.first t hr.2
  have e14 : rw_ A 90 (14 + t) = A (104 + t) := by unfold rw_; rw [show 90 + (14 + t) = 104 + t by omega]
  have e22 : rw_ A 90 (22 + t) = A (112 + t) := by unfold rw_; rw [show 90 + (22 + t) = 112 + t by omega]
  have e30 : rw_ A 90 (30 + t) = A (120 + t) := by unfold rw_; rw [show 90 + (30 + t) = 120 + t by omega]
  have c4 : M 16 t 4 = A (104 + t) := (w0.city.with_ t hr.2).trans e14
  have c5 := w0.city.since t hr.2
  have c6 := w0.city.from_ t hr.2
  have w4 := w0.row.at_ t hr.2
  have w5 := w0.row.free t hr.2
  rw [e14, e22] at c5
  rw [e14, e30] at c6
  rw [e14] at w4
  rw [e14, e22, e30] at w5
  have c5 : A (104 + t) = -1 → M 16 t 5 = A (112 + t) := c5
  have c6 : A (104 + t) = -1 → M 16 t 6 = A (120 + t) := c6
  refine zCall.same hz (v := if k = 0 then A (96 + t) else if k = 1 then A (24 + t) else if k = 2 then A (16 + t) else if k = 3 then A (104 + t) else if k = 4 then A (112 + t) else if k = 5 then A (120 + t) else -2) ?_ ?_
  · unfold f_X10_of
    rw [X_hasThing w0.city hA hv, if_pos hr]
    simp only [zbs]
    rw [if_pos (by rw [zw01.2.1]; omega), zw_id (z := k) (by omega) (by omega), zw_nat (by omega), if_pos (by omega), zix_nat (by omega), c1, c2, c3, c4, zw_id (z := A (104 + t)) (by omega) (by omega)]
    by_cases k0 : k = 0
    · rw [if_pos k0, if_pos k0]
    · rw [if_neg k0, if_neg k0]
      by_cases k1 : k = 1
      · rw [if_pos k1, if_pos k1]
      · rw [if_neg k1, if_neg k1]
        by_cases k2 : k = 2
        · rw [if_pos k2, if_pos k2]
        · rw [if_neg k2, if_neg k2]
          by_cases k3 : k = 3
          · rw [if_pos k3, if_pos k3]
          · rw [if_neg k3, if_neg k3]
            by_cases k4 : k = 4
            · rw [if_pos k4, if_pos k4]
              by_cases hq : A (104 + t) = -1
              · rw [if_neg (nn_ hq), c5 hq]
              · rw [if_pos hq, (w5 hq).1]
            · rw [if_neg k4, if_neg k4]
              by_cases k5 : k = 5
              · rw [if_pos k5, if_pos k5]
                by_cases hq : A (104 + t) = -1
                · rw [if_neg (nn_ hq), c6 hq]
                · rw [if_pos hq, (w5 hq).2]
              · rw [if_neg k5, if_neg k5]
  · have e96 : zix (96 + (t : Int)) = 96 + t := zix_id (by omega) (by omega)
    have e112 : zix (112 + (t : Int)) = 112 + t := zix_id (by omega) (by omega)
    have e120 : zix (120 + (t : Int)) = 120 + t := zix_id (by omega) (by omega)
    unfold f_X11_of
    rw [R_isThing hAA hA hv, if_pos hr]
    simp only [zbs]
    rw [if_pos (by rw [zw01.2.1]; omega), zw_id (z := k) (by omega) (by omega), e96, zi24 (by omega), zi16 (by omega), zi104 (by omega), e112, e120, hAA]
    rw [zw_id (z := 96 + (t : Int)) (by omega) (by omega), zw_id (z := 24 + (t : Int)) (by omega) (by omega), zw_id (z := 16 + (t : Int)) (by omega) (by omega), zw_id (z := 104 + (t : Int)) (by omega) (by omega), zw_id (z := 112 + (t : Int)) (by omega) (by omega), zw_id (z := 120 + (t : Int)) (by omega) (by omega)]
    rw [if_pos (show 0 ≤ 96 + (t : Int) ∧ 96 + (t : Int) < 5090 by omega), if_pos (show 0 ≤ 24 + (t : Int) ∧ 24 + (t : Int) < 5090 by omega), if_pos (show 0 ≤ 16 + (t : Int) ∧ 16 + (t : Int) < 5090 by omega), if_pos (show 0 ≤ 104 + (t : Int) ∧ 104 + (t : Int) < 5090 by omega), if_pos (show 0 ≤ 112 + (t : Int) ∧ 112 + (t : Int) < 5090 by omega), if_pos (show 0 ≤ 120 + (t : Int) ∧ 120 + (t : Int) < 5090 by omega)]
    (repeat' split) <;> first | rfl | omega
