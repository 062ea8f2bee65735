/-! text: TOKENS by bytes, and the class's finding them -/
def isLt (c : Int) : Bool := decide ((97 ≤ c ∧ c ≤ 122) ∨ (65 ≤ c ∧ c ≤ 90))
def isDg (c : Int) : Bool := decide (48 ≤ c ∧ c ≤ 57)
def isBl (c : Int) : Bool := decide (c = 32 ∨ c = 10)
/-- how far bytes like p go on from a, d of them at most -/
def runE (p : Int → Bool) (B : Nat → Int) : Nat → Nat → Nat
  | 0, a => a
  | d + 1, a => if p (B a) = true then runE p B d (a + 1) else a
def skE (p : Int → Bool) (B : Nat → Int) (L a : Nat) : Nat := runE p B (L - a) a
set_option maxRecDepth 8000 in
set_option maxHeartbeats 2000000 in
theorem skE_yes {p : Int → Bool} {B : Nat → Int} {L a : Nat} (h : a < L) (hp : p (B a) = true) : skE p B L a = skE p B L (a + 1) := by
  unfold skE
  obtain ⟨d, hd⟩ : ∃ d, L - a = d + 1 := ⟨L - a - 1, by omega⟩
  rw [hd, show L - (a + 1) = d by omega]
  show (if p (B a) = true then runE p B d (a + 1) else a) = _
  rw [if_pos hp]
set_option maxRecDepth 8000 in
set_option maxHeartbeats 2000000 in
theorem skE_no {p : Int → Bool} {B : Nat → Int} {L a : Nat} (h : a < L) (hp : p (B a) ≠ true) : skE p B L a = a := by
  unfold skE
  obtain ⟨d, hd⟩ : ∃ d, L - a = d + 1 := ⟨L - a - 1, by omega⟩
  rw [hd]
  show (if p (B a) = true then runE p B d (a + 1) else a) = _
  rw [if_neg hp]
set_option maxRecDepth 8000 in
set_option maxHeartbeats 2000000 in
theorem skE_end {p : Int → Bool} {B : Nat → Int} {L a : Nat} (h : L ≤ a) : skE p B L a = a := by
  unfold skE
  rw [show L - a = 0 by omega]
  rfl
set_option maxRecDepth 8000 in
set_option maxHeartbeats 2000000 in
theorem runE_spec {p : Int → Bool} {B : Nat → Int} : ∀ (d a : Nat), a ≤ runE p B d a ∧ runE p B d a ≤ a + d ∧ (∀ k, a ≤ k → k < runE p B d a → p (B k) = true) ∧ (runE p B d a < a + d → p (B (runE p B d a)) ≠ true) := by
  intro d
  induction d with
  | zero => intro a; exact ⟨Nat.le_refl _, Nat.le_refl _, fun k h1 h2 => by unfold runE at h2; omega, fun h => by unfold runE at h; omega⟩
  | succ d ih =>
    intro a
    obtain ⟨i1, i2, i3, i4⟩ := ih (a + 1)
    unfold runE
    by_cases hp : p (B a) = true
    · rw [if_pos hp]
      refine ⟨by omega, by omega, fun k h1 h2 => ?_, fun h => i4 (by omega)⟩
      by_cases hk : k = a
      · rw [hk]; exact hp
      · exact i3 k (by omega) h2
    · rw [if_neg hp]
      exact ⟨Nat.le_refl _, by omega, fun k h1 h2 => by omega, fun _ => hp⟩
set_option maxRecDepth 8000 in
set_option maxHeartbeats 2000000 in
theorem skE_spec {p : Int → Bool} {B : Nat → Int} {L a : Nat} (h : a ≤ L) : a ≤ skE p B L a ∧ skE p B L a ≤ L ∧ (∀ k, a ≤ k → k < skE p B L a → p (B k) = true) ∧ (skE p B L a < L → p (B (skE p B L a)) ≠ true) := by
  obtain ⟨i1, i2, i3, i4⟩ := runE_spec (p := p) (B := B) (L - a) a
  unfold skE
  exact ⟨i1, by omega, i3, fun h => i4 (by omega)⟩
/-- words -/
def wl (j : Nat) : Nat := zslen.getD j 0
def Wf (j : Nat) (i : Nat) : Int := ((zsbyt.getD j []).getD i 0).toInt
def mtB (B : Nat → Int) (a e j : Nat) : Bool := decide (e - a = wl j ∧ ∀ i, i < wl j → B (a + i) = Wf j i)
def wkF (B : Nat → Int) (a e : Nat) : Nat → Nat → Int
  | 0, _ => 39
  | d + 1, j => if mtB B a e j = true then j else wkF B a e d (j + 1)
def mk (c b : Int) : Int := if c = 60 then (if b = 61 then 27 else 26) else if c = 62 then (if b = 61 then 29 else 28) else if c = 61 then 30 else if c = 35 then 31 else if c = 43 then 32 else if c = 45 then 33 else if c = 42 then 34 else if c = 47 then 35 else if c = 40 then 36 else if c = 41 then 37 else if c = 59 then 38 else 39
def tBe (B : Nat → Int) (L p : Nat) : Int := if p + 1 < L then B (p + 1) else -1
def tEnd (B : Nat → Int) (L p : Nat) : Nat := if isLt (B p) = true then skE isLt B L (p + 1) else if isDg (B p) = true then skE isDg B L (p + 1) else if mk (B p) (tBe B L p) = 27 ∨ mk (B p) (tBe B L p) = 29 then p + 2 else p + 1
def tKind (B : Nat → Int) (L p : Nat) : Int := if isLt (B p) = true then wkF B p (skE isLt B L (p + 1)) 25 0 else if isDg (B p) = true then 25 else mk (B p) (tBe B L p)
def nV (B : Nat → Int) (a : Nat) : Nat → Int
  | 0 => 0
  | k + 1 => if 10000 < nV B a k * 10 + B (a + k) - 48 then 10000 else nV B a k * 10 + B (a + k) - 48
def tVal (B : Nat → Int) (L p : Nat) : Int := nV B p (skE isDg B L (p + 1) - p)
/-- the i-th TOKEN begins at tPl, the one ahead of it has ended at tE -/
def tE (B : Nat → Int) (L : Nat) : Nat → Nat
  | 0 => 0
  | i + 1 => if skE isBl B L (tE B L i) < L then tEnd B L (skE isBl B L (tE B L i)) else L
def tPl (B : Nat → Int) (L i : Nat) : Nat := skE isBl B L (tE B L i)
def tK (B : Nat → Int) (L i : Nat) : Int := if tPl B L i < L then tKind B L (tPl B L i) else 40
def tV (B : Nat → Int) (L i : Nat) : Int := tVal B L (tPl B L i)
set_option maxRecDepth 8000 in
set_option maxHeartbeats 2000000 in
theorem mk_le (c b : Int) : 26 ≤ mk c b ∧ mk c b ≤ 39 := by
  unfold mk
  (repeat' split) <;> omega
set_option maxRecDepth 8000 in
set_option maxHeartbeats 2000000 in
theorem mk_two {B : Nat → Int} {L p : Nat} (h : mk (B p) (tBe B L p) = 27 ∨ mk (B p) (tBe B L p) = 29) : p + 1 < L ∧ B (p + 1) = 61 := by
  have hb : tBe B L p = 61 := by
    refine Decidable.byContradiction fun hn => ?_
    unfold mk at h
    rw [if_neg hn, if_neg hn] at h
    (repeat' split at h) <;> omega
  unfold tBe at hb
  by_cases hc : p + 1 < L
  · rw [if_pos hc] at hb; exact ⟨hc, hb⟩
  · rw [if_neg hc] at hb; omega
set_option maxRecDepth 8000 in
set_option maxHeartbeats 2000000 in
theorem tEnd_spec {B : Nat → Int} {L p : Nat} (h : p < L) : p < tEnd B L p ∧ tEnd B L p ≤ L := by
  unfold tEnd
  have h1 := skE_spec (p := isLt) (B := B) (L := L) (a := p + 1) (by omega)
  have h2 := skE_spec (p := isDg) (B := B) (L := L) (a := p + 1) (by omega)
  split
  · omega
  · split
    · omega
    · split
      · rename_i hm
        have := mk_two hm
        omega
      · omega
set_option maxRecDepth 8000 in
set_option maxHeartbeats 2000000 in
theorem tE_le {B : Nat → Int} {L : Nat} : ∀ i, tE B L i ≤ L := by
  intro i
  cases i with
  | zero => exact Nat.zero_le _
  | succ i =>
    unfold tE
    by_cases h : skE isBl B L (tE B L i) < L
    · rw [if_pos h]; exact (tEnd_spec h).2
    · rw [if_neg h]; exact Nat.le_refl _
set_option maxRecDepth 8000 in
set_option maxHeartbeats 2000000 in
theorem tPl_spec {B : Nat → Int} {L : Nat} (i : Nat) : tE B L i ≤ tPl B L i ∧ tPl B L i ≤ L := by
  have h := skE_spec (p := isBl) (B := B) (L := L) (tE_le (B := B) (L := L) i)
  exact ⟨h.1, h.2.1⟩
set_option maxRecDepth 8000 in
set_option maxHeartbeats 2000000 in
theorem tE_succ {B : Nat → Int} {L i : Nat} (h : tPl B L i < L) : tE B L (i + 1) = tEnd B L (tPl B L i) := if_pos h
set_option maxRecDepth 8000 in
set_option maxHeartbeats 2000000 in
theorem tE_stop {B : Nat → Int} {L i : Nat} (h : tPl B L i = L) : tE B L (i + 1) = L := if_neg (show ¬ tPl B L i < L by omega)
set_option maxRecDepth 8000 in
set_option maxHeartbeats 2000000 in
theorem tPl_stop {B : Nat → Int} {L i : Nat} (h : tPl B L i = L) : tPl B L (i + 1) = L := by
  have := tPl_spec (B := B) (L := L) (i + 1)
  rw [tE_stop h] at this
  omega
set_option maxRecDepth 8000 in
set_option maxHeartbeats 2000000 in
theorem wkF_le {B : Nat → Int} {a e : Nat} : ∀ (d j : Nat), j + d = 25 → (0 ≤ wkF B a e d j ∧ wkF B a e d j < 25) ∨ wkF B a e d j = 39 := by
  intro d
  induction d with
  | zero => intro j _; exact Or.inr rfl
  | succ d ih =>
    intro j hj
    unfold wkF
    split
    · left; omega
    · exact ih (j + 1) (by omega)
set_option maxRecDepth 8000 in
set_option maxHeartbeats 2000000 in
theorem tK_le {B : Nat → Int} {L : Nat} (i : Nat) : 0 ≤ tK B L i ∧ tK B L i ≤ 40 ∧ (tK B L i = 40 ↔ tPl B L i = L) := by
  have hp := tPl_spec (B := B) (L := L) i
  unfold tK
  by_cases h : tPl B L i < L
  · rw [if_pos h]
    have : 0 ≤ tKind B L (tPl B L i) ∧ tKind B L (tPl B L i) ≤ 39 := by
      unfold tKind
      split
      · have := wkF_le (B := B) (a := tPl B L i) (e := skE isLt B L (tPl B L i + 1)) 25 0 rfl
        omega
      · split
        · omega
        · have := mk_le (B (tPl B L i)) (tBe B L (tPl B L i))
          omega
    omega
  · rw [if_neg h]
    omega
set_option maxRecDepth 8000 in
set_option maxHeartbeats 2000000 in
theorem nV_le {B : Nat → Int} {a : Nat} : ∀ k, (∀ i, i < k → 48 ≤ B (a + i) ∧ B (a + i) ≤ 57) → 0 ≤ nV B a k ∧ nV B a k ≤ 10000 := by
  intro k
  induction k with
  | zero => intro _; exact ⟨Int.le_refl _, show (0 : Int) ≤ 10000 by omega⟩
  | succ k ih =>
    intro h
    have h1 := ih (fun i hi => h i (by omega))
    have h2 := h k (by omega)
    unfold nV
    split <;> omega
/-! the class: each byte's question -/
set_option maxRecDepth 8000 in
set_option maxHeartbeats 2000000 in
theorem X_at {M : zM} {B : Nat → Int} {L : Nat} {v : Int} (hB : M 36 0 = B) (hL : M 35 0 1 = L) (h3 : L ≤ 300) (hv : -2147483648 ≤ v ∧ v ≤ 2147483647) : f_X6_at v M = some (if 0 ≤ v ∧ v < L then B v.toNat else -1, M) := by
  unfold f_X6_at
  rw [hL, hB, zw_id (z := v) (by omega) (by omega), zw_nat (by omega)]
  by_cases h1 : v < 0
  · rw [if_pos h1, if_neg (by omega)]
  · rw [if_neg h1]
    by_cases h2 : v < L
    · rw [if_neg (by omega), if_pos (by omega), if_pos (by omega), zix_of (by omega) (by omega)]
    · rw [if_pos (by omega), if_neg (by omega)]
set_option maxRecDepth 8000 in
set_option maxHeartbeats 2000000 in
theorem X_atIn {M : zM} {B : Nat → Int} {L p : Nat} (hB : M 36 0 = B) (hL : M 35 0 1 = L) (h3 : L ≤ 300) (hp : p < L) : f_X6_at p M = some (B p, M) := by
  rw [X_at hB hL h3 (by omega), if_pos (by omega), Int.toNat_natCast]
set_option maxRecDepth 8000 in
set_option maxHeartbeats 2000000 in
theorem X_isLt {c : Int} {M : zM} (h : -1 ≤ c ∧ c ≤ 255) : f_X4_isLetter c M = some (if isLt c = true then 1 else 0, M) := by
  unfold f_X4_isLetter f_X4_isLetter_j12 isLt
  rw [zw_id (by omega) (by omega)]
  by_cases h1 : (97 ≤ c ∧ c ≤ 122) ∨ (65 ≤ c ∧ c ≤ 90)
  · rw [if_pos (decide_eq_true h1)]
    (repeat' split) <;> first | rfl | omega
  · rw [if_neg (show ¬ decide _ = true from fun z => h1 (of_decide_eq_true z))]
    (repeat' split) <;> first | rfl | omega
set_option maxRecDepth 8000 in
set_option maxHeartbeats 2000000 in
theorem X_isDg {c : Int} {M : zM} (h : -1 ≤ c ∧ c ≤ 255) : f_X4_isDigit c M = some (if isDg c = true then 1 else 0, M) := by
  unfold f_X4_isDigit isDg
  rw [zw_id (by omega) (by omega)]
  by_cases h1 : 48 ≤ c ∧ c ≤ 57
  · rw [if_pos (decide_eq_true h1)]
    (repeat' split) <;> first | rfl | omega
  · rw [if_neg (show ¬ decide _ = true from fun z => h1 (of_decide_eq_true z))]
    (repeat' split) <;> first | rfl | omega
set_option maxRecDepth 8000 in
set_option maxHeartbeats 2000000 in
theorem X_isBl {c : Int} {M : zM} (h : -1 ≤ c ∧ c ≤ 255) : f_X4_isBlank c M = some (if isBl c = true then 1 else 0, M) := by
  unfold f_X4_isBlank isBl
  rw [zw_id (by omega) (by omega)]
  by_cases h1 : c = 32 ∨ c = 10
  · rw [if_pos (decide_eq_true h1)]
    (repeat' split) <;> first | rfl | omega
  · rw [if_neg (show ¬ decide _ = true from fun z => h1 (of_decide_eq_true z))]
    (repeat' split) <;> first | rfl | omega
set_option maxRecDepth 8000 in
set_option maxHeartbeats 2000000 in
theorem X_mk {c b : Int} {M : zM} (h : -1 ≤ c ∧ c ≤ 255) (hb : -1 ≤ b ∧ b ≤ 255) : f_X4_markKind c b M = some (mk c b, M) := by
  unfold f_X4_markKind mk
  rw [zw_id (z := c) (by omega) (by omega), zw_id (z := b) (by omega) (by omega)]
  by_cases h60 : c = 60
  · subst h60
    by_cases h61 : b = 61 <;> simp (decide := true) [h61]
  by_cases h62 : c = 62
  · subst h62
    by_cases h61 : b = 61 <;> simp (decide := true) [h61]
  by_cases g1 : c = 61
  · subst g1; simp (decide := true)
  by_cases g2 : c = 35
  · subst g2; simp (decide := true)
  by_cases g3 : c = 43
  · subst g3; simp (decide := true)
  by_cases g4 : c = 45
  · subst g4; simp (decide := true)
  by_cases g5 : c = 42
  · subst g5; simp (decide := true)
  by_cases g6 : c = 47
  · subst g6; simp (decide := true)
  by_cases g7 : c = 40
  · subst g7; simp (decide := true)
  by_cases g8 : c = 41
  · subst g8; simp (decide := true)
  by_cases g9 : c = 59
  · subst g9; simp (decide := true)
  rw [if_neg h60, if_neg h62, if_neg g1, if_neg g2, if_neg g3, if_neg g4, if_neg g5, if_neg g6, if_neg g7, if_neg g8, if_neg g9]
  simp only [h60, h62, g1, g2, g3, g4, g5, g6, g7, g8, g9, if_false, ite_self]
