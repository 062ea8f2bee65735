/-! call: odds -/
set_option maxRecDepth 8000 in
set_option maxHeartbeats 2000000 in
theorem zlp_inl {S E : Type} {body : S → Option (S ⊕ E)} {m : Nat} {s s' : S} {r : Option E} (h : body s = some (.inl s')) (h2 : zlp body m s' = r) : zlp body (m + 1) s = r := by
  unfold zlp
  rw [h]
  exact h2
set_option maxRecDepth 8000 in
set_option maxHeartbeats 2000000 in
theorem zlp_inr {S E : Type} {body : S → Option (S ⊕ E)} {m : Nat} {s : S} {e : E} (h : body s = some (.inr e)) : zlp body (m + 1) s = some e := by
  unfold zlp
  rw [h]
set_option maxRecDepth 8000 in
set_option maxHeartbeats 2000000 in
theorem X_power {b : Int} {n : Nat} {M : zM} (hn : n < 1000) : f_X10_power b n M = some (b ^ n, M) := by
  have key : zlp (fun s : Int × Int => f_X10_power_L5 b (n : Int) s.1 s.2 M) zF (b ^ 0, ((0 : Nat) : Int)) = some (b ^ n) := zlp_fun (body := fun s : Int × Int => f_X10_power_L5 b (n : Int) s.1 s.2 M) (fun i => (b ^ i, (i : Int))) n (b ^ n) (fun i hi => by
    unfold f_X10_power_L5
    dsimp only
    rw [zw_nat (by omega), zw_nat (by omega), if_neg (by omega), Int.pow_succ]
    rfl) (by
    unfold f_X10_power_L5
    dsimp only
    rw [zw_nat (by omega), if_pos (by omega)]) (m := zF) (by unfold zF; omega)
  rw [Int.pow_zero] at key
  unfold f_X10_power
  rw [show zlp (fun s : Int × Int => f_X10_power_L5 b (n : Int) s.1 s.2 M) zF (1, 0) = _ from key]
  simp only [zbs]
set_option maxRecDepth 8000 in
set_option maxHeartbeats 2000000 in
theorem R_power {b : Int} {n : Nat} {M : zM} (hn : n < 1000) : f_X11_power b n M = some (b ^ n, M) := by
  have key : zlp (fun s : Int × Int => f_X11_power_L5 b (n : Int) s.1 s.2 M) zF (b ^ 0, ((0 : Nat) : Int)) = some (b ^ n) := zlp_fun (body := fun s : Int × Int => f_X11_power_L5 b (n : Int) s.1 s.2 M) (fun i => (b ^ i, (i : Int))) n (b ^ n) (fun i hi => by
    unfold f_X11_power_L5
    dsimp only
    rw [zw_nat (by omega), zw_nat (by omega), if_neg (by omega), Int.pow_succ]
    rfl) (by
    unfold f_X11_power_L5
    dsimp only
    rw [zw_nat (by omega), if_pos (by omega)]) (m := zF) (by unfold zF; omega)
  rw [Int.pow_zero] at key
  unfold f_X11_power
  rw [show zlp (fun s : Int × Int => f_X11_power_L5 b (n : Int) s.1 s.2 M) zF (1, 0) = _ from key]
  simp only [zbs]
/-- numbers of which Euclid needs so many turns -/
def fpN : Nat → Nat × Nat
  | 0 => (1, 2)
  | n + 1 => match fpN n with | (a, b) => (b, a + b)
set_option maxRecDepth 8000 in
set_option maxHeartbeats 2000000 in
theorem fpN_2 (n : Nat) : (fpN (n + 1)).1 = (fpN n).2 ∧ (fpN (n + 1)).2 = (fpN n).1 + (fpN n).2 := by
  constructor
  · show (match fpN n with | (a, b) => (b, a + b)).1 = _
    cases fpN n; rfl
  · show (match fpN n with | (a, b) => (b, a + b)).2 = _
    cases fpN n; rfl
set_option maxRecDepth 8000 in
set_option maxHeartbeats 2000000 in
theorem fpN_86 : 1000000000000000000 < (fpN 86).1 := by decide +kernel
set_option maxRecDepth 8000 in
set_option maxHeartbeats 2000000 in
theorem gcd_turns (T : Nat → Nat → Nat → Prop) (h0 : ∀ b k, T 0 b k) (h1 : ∀ a b k, 0 < a → T (b % a) a k → T a b (k + 1)) : ∀ k, (∀ a b, a < (fpN k).1 → T a b k) ∧ (∀ a b, a < (fpN k).2 → T a b (k + 1)) := by
  intro k
  induction k with
  | zero =>
    constructor
    · intro a b ha
      have : a < 1 := ha
      have : a = 0 := by omega
      subst this
      exact h0 b 0
    · intro a b ha
      have : a < 2 := ha
      by_cases h : a = 0
      · subst h; exact h0 b _
      · have : a = 1 := by omega
        subst this
        exact h1 1 b 0 (by omega) (by rw [Nat.mod_one]; exact h0 _ _)
  | succ k ih =>
    obtain ⟨i1, i2⟩ := ih
    obtain ⟨f1, f2⟩ := fpN_2 k
    constructor
    · intro a b ha
      rw [f1] at ha
      exact i2 a b ha
    · intro a b ha
      rw [f2] at ha
      by_cases h : a = 0
      · subst h; exact h0 b _
      · have hr : b % a < a := Nat.mod_lt _ (by omega)
        refine h1 a b (k + 1) (by omega) ?_
        by_cases hlt : b % a < (fpN k).2
        · exact i2 _ _ hlt
        · by_cases h2 : b % a = 0
          · rw [h2]; exact h0 _ _
          · have h3 : a % (b % a) ≤ a - b % a := by
              have := Nat.mod_eq_sub_mod (show a ≥ b % a by omega)
              rw [this]
              exact Nat.mod_le _ _
            exact h1 _ _ k (by omega) (i1 _ _ (by omega))
set_option maxRecDepth 8000 in
set_option maxHeartbeats 2000000 in
theorem X_gcd {M : zM} {a b : Nat} (ha : a ≤ 1000000000000000000) (hb : b ≤ 1000000000000000000) : f_X10_commonMeasure a b M = some (((Nat.gcd a b : Nat) : Int), M) := by
  have key := (gcd_turns (fun a b k => a ≤ 1000000000000000000 → b ≤ 1000000000000000000 → ∀ (i m : Nat), i + k < 100 → k < m → zlp (fun s : Int × Int × Int => f_X10_commonMeasure_L3 s.1 s.2.1 s.2.2 M) m ((a : Int), (b : Int), (i : Int)) = some ((Nat.gcd a b : Nat) : Int)) (fun b k _ hb i m hi hm => by
    obtain ⟨m, rfl⟩ : ∃ k, m = k + 1 := ⟨m - 1, by omega⟩
    unfold zlp f_X10_commonMeasure_L3
    dsimp only
    rw [zw_nat (by omega), if_neg (by omega)]
    simp only [zlc_eq]
    rw [zwl_id (by omega) (by omega), if_pos (by rfl), Nat.gcd_zero_left]) (fun a b k ha ih ha2 hb i m hi hm => by
    obtain ⟨m, rfl⟩ : ∃ k, m = k + 1 := ⟨m - 1, by omega⟩
    have hmod : b % a < a := Nat.mod_lt _ ha
    have := ih (by omega) ha2 (i + 1) m (by omega) (by omega)
    rw [Nat.gcd_rec, ← this]
    have e : f_X10_commonMeasure_L3 (a : Int) (b : Int) (i : Int) M = some (.inl (((b % a : Nat) : Int), (a : Int), ((i + 1 : Nat) : Int))) := by
      unfold f_X10_commonMeasure_L3
      rw [zw_nat (by omega), if_neg (by omega)]
      simp only [zlc_eq]
      rw [zwl_id (z := (a : Int)) (by omega) (by omega), zwl_id (z := (b : Int)) (by omega) (by omega), if_neg (by omega), if_neg (by omega), zrem_pos (by omega)]
      rfl
    exact zlp_inl e rfl) 86).1 a b (by have := fpN_86; omega) ha hb 0 zF (by omega) (by unfold zF; omega)
  unfold f_X10_commonMeasure
  rw [show zlp (fun s : Int × Int × Int => f_X10_commonMeasure_L3 s.1 s.2.1 s.2.2 M) zF ((a : Int), (b : Int), 0) = _ from key]
  simp only [zbs]
set_option maxRecDepth 8000 in
set_option maxHeartbeats 2000000 in
theorem R_gcd {M : zM} {a b : Nat} (ha : a ≤ 1000000000000000000) (hb : b ≤ 1000000000000000000) : f_X11_common b a M = some (((Nat.gcd a b : Nat) : Int), M) := by
  have key := (gcd_turns (fun a b k => a ≤ 1000000000000000000 → b ≤ 1000000000000000000 → ∀ (m : Nat), k < m → zlp (fun s : Int × Int => f_X11_common_L6 s.1 s.2 M) m ((b : Int), (a : Int)) = some ((Nat.gcd a b : Nat) : Int)) (fun b k _ hb m hm => by
    obtain ⟨m, rfl⟩ : ∃ k, m = k + 1 := ⟨m - 1, by omega⟩
    unfold zlp f_X11_common_L6
    dsimp only
    simp only [zlc_eq]
    rw [zwl_id (by omega) (by omega), if_pos (by rfl), Nat.gcd_zero_left]) (fun a b k ha ih ha2 hb m hm => by
    obtain ⟨m, rfl⟩ : ∃ k, m = k + 1 := ⟨m - 1, by omega⟩
    have hmod : b % a < a := Nat.mod_lt _ ha
    have := ih (by omega) ha2 m (by omega)
    rw [Nat.gcd_rec, ← this]
    have e : f_X11_common_L6 (b : Int) (a : Int) M = some (.inl ((a : Int), ((b % a : Nat) : Int))) := by
      unfold f_X11_common_L6
      simp only [zlc_eq]
      rw [zwl_id (z := (a : Int)) (by omega) (by omega), zwl_id (z := (b : Int)) (by omega) (by omega), if_neg (by omega), if_neg (by omega), zrem_pos (by omega)]
      rfl
    exact zlp_inl e rfl) 86).1 a b (by have := fpN_86; omega) ha hb zF (by unfold zF; omega)
  unfold f_X11_common
  rw [key]
  simp only [zbs]
/-- how many bits -/
def pcN : Nat → Nat → Nat
  | 0, _ => 0
  | n + 1, s => s % 2 + pcN n (s / 2)
def cSb (s : Nat) : Nat → Nat
  | 0 => 0
  | k + 1 => cSb s k + (if s.testBit k then 1 else 0)
set_option maxRecDepth 8000 in
set_option maxHeartbeats 2000000 in
theorem pcN_cS : ∀ k, k < 7 → ∀ s, s < 2 ^ k → pcN 6 s = cSb s k := by decide +kernel
set_option maxRecDepth 8000 in
set_option maxHeartbeats 2000000 in
theorem zand_1 : ∀ s, s < 64 → zand (s : Nat) 1 = ((s % 2 : Nat) : Int) ∧ zshr (s : Nat) 1 = ((s / 2 : Nat) : Int) := by decide +kernel
set_option maxRecDepth 8000 in
set_option maxHeartbeats 2000000 in
theorem pcN_zero : ∀ n, pcN n 0 = 0 := by
  intro n
  induction n with
  | zero => rfl
  | succ n ih =>
    show 0 % 2 + pcN n (0 / 2) = 0
    rw [Nat.zero_mod, Nat.zero_div, ih]
set_option maxRecDepth 8000 in
set_option maxHeartbeats 2000000 in
theorem R_many {M : zM} {s : Nat} (hs : s < 64) : f_X11_many s M = some (((pcN 6 s : Nat) : Int), M) := by
  have key : ∀ (n s acc m : Nat), s < 2 ^ n → s < 64 → n < m → zlp (fun q : Int × Int => f_X11_many_L4 q.1 q.2 M) m ((acc : Int), (s : Int)) = some (((acc + pcN n s : Nat) : Int)) := by
    intro n
    induction n with
    | zero =>
      intro s acc m h1 h2 h3
      obtain ⟨m, rfl⟩ : ∃ k, m = k + 1 := ⟨m - 1, by omega⟩
      have : s = 0 := by have : s < 1 := h1; omega
      subst this
      unfold zlp f_X11_many_L4
      dsimp only
      rw [show zw ((0 : Nat) : Int) = 0 from zw_0, if_pos rfl]
      rfl
    | succ n ih =>
      intro s acc m h1 h2 h3
      obtain ⟨m, rfl⟩ : ∃ k, m = k + 1 := ⟨m - 1, by omega⟩
      by_cases h0 : s = 0
      · subst h0
        have e : f_X11_many_L4 (acc : Int) ((0 : Nat) : Int) M = some (.inr (acc : Int)) := by
          unfold f_X11_many_L4
          rw [show zw ((0 : Nat) : Int) = 0 from zw_0, if_pos rfl]
        rw [pcN_zero]
        exact zlp_inr e
      · obtain ⟨z1, z2⟩ := zand_1 s h2
        have e : f_X11_many_L4 (acc : Int) (s : Int) M = some (.inl (((acc + s % 2 : Nat) : Int), ((s / 2 : Nat) : Int))) := by
          unfold f_X11_many_L4
          rw [zw_nat (by omega), if_neg (by omega), z1, z2]
          rfl
        have hp : 2 ^ (n + 1) = 2 ^ n * 2 := Nat.pow_succ 2 n
        have := ih (s / 2) (acc + s % 2) m (by omega) (by omega) (by omega)
        refine zlp_inl e (this.trans ?_)
        show some (((acc + s % 2 + pcN n (s / 2) : Nat) : Int)) = some (((acc + (s % 2 + pcN n (s / 2)) : Nat) : Int))
        rw [Nat.add_assoc]
  have := key 6 s 0 zF (by show s < 64; omega) hs (by unfold zF; omega)
  unfold f_X11_many
  rw [show zlp (fun q : Int × Int => f_X11_many_L4 q.1 q.2 M) zF (0, (s : Int)) = _ from this]
  simp only [zbs, Nat.zero_add]
def upN (A : Nat → Int) (s n : Nat) : Nat → Nat
  | 0 => 1
  | k + 1 => upN A s n k * (if s.testBit k then (A (10 + k)).toNat ^ n else 1)
set_option maxRecDepth 8000 in
set_option maxHeartbeats 2000000 in
theorem upN_le {A : Nat → Int} {s n : Nat} (hA : headOK A) : ∀ k, k ≤ 6 → upN A s n k ≤ 10 ^ (n * cSb s k) := by
  intro k
  induction k with
  | zero => intro _; exact Nat.le_refl _
  | succ k ih =>
    intro hk
    have h1 := ih (by omega)
    have h2 := hA.lives k (by omega)
    show upN A s n k * (if s.testBit k then (A (10 + k)).toNat ^ n else 1) ≤ 10 ^ (n * (cSb s k + (if s.testBit k then 1 else 0)))
    cases s.testBit k
    · simp only [Bool.false_eq_true, if_false, Nat.mul_one, Nat.add_zero]; exact h1
    · simp only [if_true]
      rw [Nat.mul_add, Nat.mul_one, Nat.pow_add]
      exact Nat.mul_le_mul h1 (Nat.pow_le_pow_left (by omega) n)
set_option maxRecDepth 8000 in
set_option maxHeartbeats 2000000 in
theorem cS_le {s : Nat} : ∀ k, cSb s k ≤ k := by
  intro k
  induction k with
  | zero => exact Nat.le_refl _
  | succ k ih => unfold cSb; split <;> omega
set_option maxRecDepth 8000 in
set_option maxHeartbeats 2000000 in
theorem call_odds {M : zM} {v n y : Int} (h : zI M) (hv : -2147483648 ≤ v ∧ v ≤ 2147483647) (hn : -2147483648 ≤ n ∧ n ≤ 2147483647) : zCall (f_X10_odds v n y M) (fun N => f_X11_odds v n y N) := by
  have hz := h
  obtain ⟨T, hI⟩ := h
  have w0 := hI.w0
  generalize hAA : M 43 0 = A at w0
  have hA := w0.head
  have h1 := hA.own
  obtain ⟨k, hk⟩ := Int.eq_ofNat_of_zero_le h1.1
  have hown := w0.city.own
  have m0 : M 43 0 0 = A 0 := by rw [hAA]
  have e1 : zshl 1 (A 0) = ((2 ^ k : Nat) : Int) := by rw [hk]; exact zshl_1 k (by omega)
  have hp : 2 ^ k ≤ 2 ^ 6 := Nat.pow_le_pow_right (by omega) (by omega)
  have hp : 2 ^ k ≤ 64 := hp
  have hp0 : 1 ≤ 2 ^ k := Nat.two_pow_pos k
  by_cases hr : 1 ≤ v ∧ v < ((2 ^ k : Nat) : Int)
  case neg =>
    refine zCall.same hz (v := -1) ?_ ?_
    · unfold f_X10_odds
      rw [hown, e1, zw_id (z := v) (by omega) (by omega), zw_nat (n := 2 ^ k) (by omega)]
      by_cases hc : v < 1
      · rw [if_pos hc]
      · rw [if_neg hc, if_pos (by omega)]
    · unfold f_X11_odds
      rw [m0, e1, in_no (by omega) hv (by omega) (by omega)]
      simp only [zbs]
      rw [if_pos zw_0]
  obtain ⟨s, rfl⟩ := Int.eq_ofNat_of_zero_le (show 0 ≤ v by omega)
  by_cases hq : 0 ≤ n ∧ n ≤ 3
  case neg =>
    refine zCall.same hz (v := -1) ?_ ?_
    · unfold f_X10_odds
      rw [hown, e1, zw_nat (n := s) (by omega), zw_nat (n := 2 ^ k) (by omega), if_neg (by omega), if_neg (by omega), wth_no (by omega) hn (by omega) (by omega)]
      simp only [zbs]
      rw [if_neg (nn_ zw_0)]
    · unfold f_X11_odds
      rw [m0, e1, in_yes hr.1 (by omega) hv (by omega) (by omega)]
      simp only [zbs]
      rw [if_neg (by rw [zw01.2.1]; omega), in_no (by omega) hn (by omega) (by omega)]
      simp only [zbs]
      rw [if_neg (nn_ zw_0)]
  obtain ⟨n, rfl⟩ := Int.eq_ofNat_of_zero_le hq.1
  have hs : s < 2 ^ k := by omega
  have hs64 : s < 64 := by omega
  have hcs := cS_le (s := s) k
  have hup := upN_le (s := s) (n := n) hA k (by omega)
  have hnc : n * cSb s k ≤ 18 := Nat.le_trans (Nat.mul_le_mul (show n ≤ 3 by omega) (show cSb s k ≤ 6 by omega)) (by omega)
  have hdn : 10 ^ (n * cSb s k) ≤ 10 ^ 18 := Nat.pow_le_pow_right (by omega) hnc
  have hdn : 10 ^ (n * cSb s k) ≤ 1000000000000000000 := hdn
  have hd0 : 0 < 10 ^ (n * cSb s k) := Nat.pow_pos (by omega)
  have hg0 : 0 < Nat.gcd (upN A s n k) (10 ^ (n * cSb s k)) := Nat.gcd_pos_of_pos_right _ hd0
  have hgl : Nat.gcd (upN A s n k) (10 ^ (n * cSb s k)) ≤ 10 ^ (n * cSb s k) := Nat.gcd_le_right _ hd0
  have lives : ∀ i : Nat, i < k → M 12 0 i = A (10 + i) ∧ 0 ≤ A (10 + i) ∧ A (10 + i) ≤ 10 := fun i hi => ⟨w0.city.lives i (by omega), hA.lives i (by omega)⟩
  have bit := fun (i : Nat) (hi : i < k) => zbit s (by omega) i (by omega)
  have keyX : zlp (fun q : Int × Int × Int × zM => f_X10_odds_L40 (s : Int) n y q.1 q.2.1 q.2.2.1 q.2.2.2) zF (1, 1, 0, M) = some (((upN A s n k : Nat) : Int), ((10 ^ (n * cSb s k) : Nat) : Int), M) := by
    refine zlp_fun (body := fun q : Int × Int × Int × zM => f_X10_odds_L40 (s : Int) n y q.1 q.2.1 q.2.2.1 q.2.2.2) (fun i => (((upN A s n i : Nat) : Int), ((10 ^ (n * cSb s i) : Nat) : Int), (i : Int), M)) k _ (fun i hi => ?_) ?_ (m := zF) (by unfold zF; omega)
    · obtain ⟨l1, l2⟩ := lives i hi
      have hb := bit i hi
      have s1 : upN A s n (i + 1) = upN A s n i * (if s.testBit i then (A (10 + i)).toNat ^ n else 1) := rfl
      have s2 : cSb s (i + 1) = cSb s i + (if s.testBit i then 1 else 0) := rfl
      unfold f_X10_odds_L40 f_X10_odds_j94
      dsimp only
      rw [s1, s2, hb]
      cases s.testBit i
      · simp (disch := omega) only [if_true, if_false, true_or, or_true, true_and, and_true, not_true_eq_false, not_false_eq_true, hown, zw_id, if_neg, if_pos, Bool.false_eq_true, Nat.mul_one, Nat.add_zero]
        rfl
      · simp (disch := omega) only [if_true, if_false, true_or, or_true, true_and, and_true, not_true_eq_false, not_false_eq_true, hown, zw_id, if_neg, zix_nat, l1, X_power, zbs, if_pos]
        have e3 : A (10 + i) = (((A (10 + i)).toNat : Nat) : Int) := by omega
        rw [Nat.mul_add, Nat.mul_one, Nat.pow_add, Int.natCast_mul, Int.natCast_mul, Int.natCast_pow, Int.natCast_pow, Int.natCast_pow, ← e3]
        rfl
    · unfold f_X10_odds_L40
      dsimp only
      simp (disch := omega) only [if_true, if_false, true_or, or_true, true_and, and_true, not_true_eq_false, not_false_eq_true, hown, zw_id, if_pos]
  have keyR : zlp (fun q : Int × Int × zM => f_X11_odds_L37 (s : Int) n y q.1 q.2.1 q.2.2) zF (1, 0, M) = some (((upN A s n k : Nat) : Int), M) := by
    refine zlp_fun (body := fun q : Int × Int × zM => f_X11_odds_L37 (s : Int) n y q.1 q.2.1 q.2.2) (fun i => (((upN A s n i : Nat) : Int), (i : Int), M)) k _ (fun i hi => ?_) ?_ (m := zF) (by unfold zF; omega)
    · obtain ⟨l1, l2⟩ := lives i hi
      have hb := bit i hi
      have l3 : M 43 0 (10 + i) = A (10 + i) := by rw [hAA]
      have s1 : upN A s n (i + 1) = upN A s n i * (if s.testBit i then (A (10 + i)).toNat ^ n else 1) := rfl
      unfold f_X11_odds_L37 f_X11_odds_j78 f_X11_has
      dsimp only
      rw [s1, hb]
      cases s.testBit i
      · simp (disch := omega) only [if_true, if_false, true_or, or_true, true_and, and_true, not_true_eq_false, not_false_eq_true, m0, zw_id, if_neg, if_pos, zbs, Bool.false_eq_true, Nat.mul_one, Int.mul_one]
        rfl
      · simp (disch := omega) only [if_true, if_false, true_or, or_true, true_and, and_true, not_true_eq_false, not_false_eq_true, m0, zw_id, if_neg, zi10, l3, R_power, zbs, if_pos]
        have e3 : A (10 + i) = (((A (10 + i)).toNat : Nat) : Int) := by omega
        rw [Int.natCast_mul, Int.natCast_pow, ← e3]
        rfl
    · unfold f_X11_odds_L37
      dsimp only
      simp (disch := omega) only [if_true, if_false, true_or, or_true, true_and, and_true, not_true_eq_false, not_false_eq_true, m0, zw_id, if_pos]
  have hgX := X_gcd (M := M) (a := upN A s n k) (b := 10 ^ (n * cSb s k)) (by omega) hdn
  have hgR := R_gcd (M := M) (a := upN A s n k) (b := 10 ^ (n * cSb s k)) (by omega) hdn
  generalize hG : Nat.gcd (upN A s n k) (10 ^ (n * cSb s k)) = g at hg0 hgl hgX hgR
  refine zCall.same hz (v := if zw y = 0 then Int.tdiv ((upN A s n k : Nat) : Int) (g : Int) else Int.tdiv ((10 ^ (n * cSb s k) : Nat) : Int) (g : Int)) ?_ ?_
  · unfold f_X10_odds f_X10_odds_j120
    rw [hown, e1, zw_nat (n := s) (by omega), zw_nat (n := 2 ^ k) (by omega), if_neg (by omega), if_neg (by omega), wth_yes hq.1 hq.2 hn (by omega) (by omega)]
    simp only [zbs]
    rw [if_pos (by rw [zw01.2.1]; omega), keyX]
    simp only [zbs]
    rw [hgX]
    simp only [zbs]
    rw [zwl_id (z := (g : Int)) (by omega) (by omega), zwl_id (z := ((upN A s n k : Nat) : Int)) (by omega) (by omega), zwl_id (z := ((10 ^ (n * cSb s k) : Nat) : Int)) (by omega) (by omega)]
    by_cases hy : zw y = 0
    · rw [if_pos hy, if_pos hy, if_neg (by omega)]
    · rw [if_neg hy, if_neg hy, if_neg (by omega)]
  · have hm := R_many (M := M) hs64
    rw [pcN_cS k (by omega) s hs] at hm
    have hpw := R_power (b := 10) (n := n * cSb s k) (M := M) (by omega)
    unfold f_X11_odds
    rw [m0, e1, in_yes hr.1 (by omega) hv (by omega) (by omega)]
    simp only [zbs]
    rw [if_neg (by rw [zw01.2.1]; omega), in_yes hq.1 hq.2 hn (by omega) (by omega)]
    simp only [zbs]
    rw [if_pos (by rw [zw01.2.1]; omega), keyR]
    simp only [zbs]
    rw [hm]
    simp only [zbs]
    rw [show ((n : Nat) : Int) * ((cSb s k : Nat) : Int) = ((n * cSb s k : Nat) : Int) from (Int.natCast_mul n (cSb s k)).symm, hpw]
    simp only [zbs]
    rw [show (10 : Int) ^ (n * cSb s k) = ((10 ^ (n * cSb s k) : Nat) : Int) by rw [Int.natCast_pow]; rfl, hgR]
    simp only [zbs]
    rw [zwl_id (z := (g : Int)) (by omega) (by omega), zwl_id (z := ((upN A s n k : Nat) : Int)) (by omega) (by omega), zwl_id (z := ((10 ^ (n * cSb s k) : Nat) : Int)) (by omega) (by omega)]
    by_cases hy : zw y = 0
    · rw [if_pos hy, if_pos hy, if_neg (by omega)]
    · rw [if_neg hy, if_neg hy, if_neg (by omega)]
