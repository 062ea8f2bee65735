/-! fewest: what both look through -/
/-- n turns, counted -/
def fN {S : Type} (g : Nat → S → S) : Nat → S → S
  | 0, s => s
  | n + 1, s => g n (fN g n s)
set_option maxRecDepth 8000 in
set_option maxHeartbeats 2000000 in
theorem fN_congr {S : Type} {g g' : Nat → S → S} {n : Nat} (h : ∀ a s, a < n → g a s = g' a s) (s : S) : fN g n s = fN g' n s := by
  induction n with
  | zero => rfl
  | succ n ih =>
    show g n (fN g n s) = g' n (fN g' n s)
    rw [ih (fun a s ha => h a s (by omega)), h n _ (by omega)]
set_option maxRecDepth 8000 in
set_option maxHeartbeats 2000000 in
theorem fN_add {S : Type} (g : Nat → S → S) (x m : Nat) (s : S) : fN g (x + m) s = fN (fun b => g (x + b)) m (fN g x s) := by
  induction m with
  | zero => rfl
  | succ m ih =>
    show g (x + m) (fN g (x + m) s) = g (x + m) (fN (fun b => g (x + b)) m (fN g x s))
    rw [ih]
set_option maxRecDepth 8000 in
set_option maxHeartbeats 2000000 in
theorem fN_mul {S : Type} (g : Nat → S → S) (p m : Nat) (s : S) : fN g (p * m) s = fN (fun a s => fN (fun b => g (a * m + b)) m s) p s := by
  induction p with
  | zero => rw [Nat.zero_mul]; rfl
  | succ p ih =>
    rw [Nat.succ_mul, fN_add, ih]
    rfl
/-- an act, and a DAY -/
def sAct (T : Nat → Nat → Option zLw) (A w : Nat → Int) (a : Nat) : Nat → Int :=
  if a = 0 then w else if (a : Int) ≤ A 1 then (if w (14 + (a - 1)) ≠ -1 ∧ sKB A w + A (24 + (a - 1)) ≤ A 2 then sSteal w (a - 1) else w)
  else if w (14 + (a - 1 - (A 1).toNat)) = -1 then sBack T A w (a - 1 - (A 1).toNat) else w
def sGo (T : Nat → Nat → Option zLw) (A w : Nat → Int) (a : Nat) : Nat → Int := sThru T A (sAct T A w a) 1
set_option maxRecDepth 8000 in
set_option maxHeartbeats 2000000 in
theorem sAct_0 (T : Nat → Nat → Option zLw) (A w : Nat → Int) : sAct T A w 0 = w := by unfold sAct; rw [if_pos rfl]
def fup (f : Nat → Nat) (k v : Nat) : Nat → Nat := fun q => if q = k then v else f q
/-- the fewest yet, and the acts -/
abbrev zBS : Type := Int × (Nat → Nat)
def leafU (th : Nat) (ow : Int) (w : Nat → Int) (pre : Nat → Nat) (c : Int) (s : zBS) : zBS := if c < s.1 ∧ w (14 + th) = ow then (c, pre) else s
def rT (T : Nat → Nat → Option zLw) (A : Nat → Int) (th : Nat) (ow : Int) : Nat → Nat → (Nat → Int) → (Nat → Nat) → Int → zBS → zBS
  | 0, _, w, pre, c, s => leafU th ow w pre c s
  | d + 1, k, w, pre, c, s => fN (fun a s => rT T A th ow d (k + 1) (sGo T A w a) (fup pre k a) (if a = 0 then c else c + 1) s) (1 + 2 * (A 1).toNat) s
set_option maxRecDepth 8000 in
set_option maxHeartbeats 2000000 in
theorem fN_mono {g : Nat → zBS → zBS} {n : Nat} (h : ∀ a s, a < n → (g a s).1 ≤ s.1) (s : zBS) : ∀ k, k ≤ n → (fN g k s).1 ≤ s.1 := by
  intro k
  induction k with
  | zero => intro _; exact Int.le_refl _
  | succ k ih =>
    intro hk
    show (g k (fN g k s)).1 ≤ s.1
    exact Int.le_trans (h k _ (by omega)) (ih (by omega))
set_option maxRecDepth 8000 in
set_option maxHeartbeats 2000000 in
theorem fN_mono2 {g : Nat → zBS → zBS} {n : Nat} (h : ∀ a s, a < n → (g a s).1 ≤ s.1) (s : zBS) : ∀ d k, k + d ≤ n → (fN g (k + d) s).1 ≤ (fN g k s).1 := by
  intro d
  induction d with
  | zero => intro k _; exact Int.le_refl _
  | succ d ih =>
    intro k hk
    show (g (k + d) (fN g (k + d) s)).1 ≤ _
    exact Int.le_trans (h _ _ (by omega)) (ih k (by omega))
set_option maxRecDepth 8000 in
set_option maxHeartbeats 2000000 in
theorem rT_mono {T : Nat → Nat → Option zLw} {A : Nat → Int} {th : Nat} {ow : Int} : ∀ (d k : Nat) (w : Nat → Int) (pre : Nat → Nat) (c : Int) (s : zBS), (rT T A th ow d k w pre c s).1 ≤ s.1 := by
  intro d
  induction d with
  | zero =>
    intro k w pre c s
    unfold rT leafU
    by_cases h : c < s.1 ∧ w (14 + th) = ow
    · rw [if_pos h]; exact Int.le_of_lt h.1
    · rw [if_neg h]; exact Int.le_refl _
  | succ d ih =>
    intro k w pre c s
    unfold rT
    exact fN_mono (n := 1 + 2 * (A 1).toNat) (fun a s _ => ih _ _ _ _ _) s _ (Nat.le_refl _)
set_option maxRecDepth 8000 in
set_option maxHeartbeats 2000000 in
theorem fN_id {g : Nat → zBS → zBS} {n : Nat} {s : zBS} (h : ∀ a, a < n → g a s = s) : ∀ k, k ≤ n → fN g k s = s := by
  intro k
  induction k with
  | zero => intro _; rfl
  | succ k ih =>
    intro hk
    show g k (fN g k s) = s
    rw [ih (by omega)]
    exact h k (by omega)
set_option maxRecDepth 8000 in
set_option maxHeartbeats 2000000 in
/-- what has as many acts as the fewest has nothing to tell -/
theorem rT_prune {T : Nat → Nat → Option zLw} {A : Nat → Int} {th : Nat} {ow : Int} : ∀ (d k : Nat) (w : Nat → Int) (pre : Nat → Nat) (c : Int) (s : zBS), s.1 ≤ c → rT T A th ow d k w pre c s = s := by
  intro d
  induction d with
  | zero =>
    intro k w pre c s h
    unfold rT leafU
    rw [if_neg (by omega)]
  | succ d ih =>
    intro k w pre c s h
    unfold rT
    exact fN_id (n := 1 + 2 * (A 1).toNat) (fun a _ => ih _ _ _ _ _ (by split <;> omega)) _ (Nat.le_refl _)
set_option maxRecDepth 8000 in
set_option maxHeartbeats 2000000 in
/-- one act more for the same has nothing to tell -/
theorem rT_skip {T : Nat → Nat → Option zLw} {A : Nat → Int} {th : Nat} {ow : Int} : ∀ (d k : Nat) (w : Nat → Int) (pre pre' : Nat → Nat) (c : Int) (s0 s : zBS), s.1 ≤ (rT T A th ow d k w pre c s0).1 → rT T A th ow d k w pre' (c + 1) s = s := by
  intro d
  induction d with
  | zero =>
    intro k w pre pre' c s0 s h
    unfold rT leafU at h ⊢
    by_cases hg : w (14 + th) = ow
    · by_cases hc : c < s0.1
      · rw [if_pos ⟨hc, hg⟩] at h
        dsimp only at h
        rw [if_neg (by omega)]
      · rw [if_neg (fun z => hc z.1)] at h
        rw [if_neg (by omega)]
    · rw [if_neg (fun z => hg z.2)]
  | succ d ih =>
    intro k w pre pre' c s0 s h
    unfold rT at h ⊢
    refine fN_id (n := 1 + 2 * (A 1).toNat) (fun a ha => ?_) _ (Nat.le_refl _)
    have e : (if a = 0 then c + 1 else c + 1 + 1) = (if a = 0 then c else c + 1) + 1 := by split <;> omega
    rw [e]
    have hm := fN_mono2 (g := fun a s => rT T A th ow d (k + 1) (sGo T A w a) (fup pre k a) (if a = 0 then c else c + 1) s) (n := 1 + 2 * (A 1).toNat) (fun a s _ => rT_mono _ _ _ _ _ _) s0 (1 + 2 * (A 1).toNat - (a + 1)) (a + 1) (by omega)
    rw [show a + 1 + (1 + 2 * (A 1).toNat - (a + 1)) = 1 + 2 * (A 1).toNat by omega] at hm
    exact ih (k + 1) (sGo T A w a) (fup pre k a) (fup pre' k a) (if a = 0 then c else c + 1) (fN (fun a s => rT T A th ow d (k + 1) (sGo T A w a) (fup pre k a) (if a = 0 then c else c + 1) s) a s0) s (Int.le_trans h hm)
set_option maxRecDepth 8000 in
set_option maxHeartbeats 2000000 in
/-- so an act that can't be has nothing to tell -/
theorem rT_cant {T : Nat → Nat → Option zLw} {A : Nat → Int} {th : Nat} {ow : Int} {d k a : Nat} {w : Nat → Int} {pre : Nat → Nat} {c : Int} {s0 : zBS} (ha : 0 < a) (ha2 : a < 1 + 2 * (A 1).toNat) (h : sAct T A w a = w) : rT T A th ow d (k + 1) (sGo T A w a) (fup pre k a) (c + 1) (fN (fun a s => rT T A th ow d (k + 1) (sGo T A w a) (fup pre k a) (if a = 0 then c else c + 1) s) a s0) = fN (fun a s => rT T A th ow d (k + 1) (sGo T A w a) (fup pre k a) (if a = 0 then c else c + 1) s) a s0 := by
  have e : sGo T A w a = sGo T A w 0 := by unfold sGo; rw [h, sAct_0]
  rw [e]
  refine rT_skip d (k + 1) (sGo T A w 0) (fup pre k 0) (fup pre k a) c s0 _ ?_
  have hm := fN_mono2 (g := fun a s => rT T A th ow d (k + 1) (sGo T A w a) (fup pre k a) (if a = 0 then c else c + 1) s) (n := 1 + 2 * (A 1).toNat) (fun a s _ => rT_mono _ _ _ _ _ _) s0 (a - 1) 1 (by omega)
  rw [show 1 + (a - 1) = a by omega] at hm
  exact hm
/-! the reference's numbers -/
def sRunF (T : Nat → Nat → Option zLw) (A w : Nat → Int) (ac : Nat → Nat) : Nat → (Nat → Int)
  | 0 => w
  | k + 1 => sGo T A (sRunF T A w ac k) (ac k)
def cntF (ac : Nat → Nat) : Nat → Int
  | 0 => 0
  | k + 1 => if ac k = 0 then cntF ac k else cntF ac k + 1
def dg (W n x : Nat) : Nat → Nat := fun k => if n ≤ k then 0 else if k + 1 = n then x % W else if k + 2 = n then x / W % W else x / W / W % W
set_option maxRecDepth 8000 in
set_option maxHeartbeats 2000000 in
theorem dg_1 {W a : Nat} (ha : a < W) : dg W 1 a = fup (fun _ => 0) 0 a := by
  funext k
  unfold dg fup
  by_cases h : k = 0
  · subst h; rw [if_neg (by omega), if_pos rfl, if_pos rfl, Nat.mod_eq_of_lt ha]
  · rw [if_pos (by omega), if_neg h]
set_option maxRecDepth 8000 in
set_option maxHeartbeats 2000000 in
theorem dg_2 {W a b : Nat} (ha : a < W) (hb : b < W) : dg W 2 (a * W + b) = fup (fup (fun _ => 0) 0 a) 1 b := by
  have e1 : (a * W + b) % W = b := by rw [Nat.mul_add_mod_self_right, Nat.mod_eq_of_lt hb]
  have e2 : (a * W + b) / W = a := by rw [Nat.mul_comm, Nat.mul_add_div (by omega), Nat.div_eq_of_lt hb]; rfl
  funext k
  unfold dg fup
  by_cases h0 : k = 0
  · subst h0
    rw [if_neg (by omega), if_neg (by omega), if_pos (by omega), e2, Nat.mod_eq_of_lt ha, if_neg (by omega), if_pos rfl]
  · by_cases h1 : k = 1
    · subst h1
      rw [if_neg (by omega), if_pos (by omega), e1, if_pos rfl]
    · rw [if_pos (by omega), if_neg h1, if_neg h0]
set_option maxRecDepth 8000 in
set_option maxHeartbeats 2000000 in
theorem dg_3 {W a b c : Nat} (ha : a < W) (hb : b < W) (hc : c < W) : dg W 3 (a * (W * W) + (b * W + c)) = fup (fup (fup (fun _ => 0) 0 a) 1 b) 2 c := by
  have e0 : a * (W * W) + (b * W + c) = (a * W + b) * W + c := by rw [Nat.add_mul, Nat.mul_assoc, Nat.add_assoc]
  have e1 : ((a * W + b) * W + c) % W = c := by rw [Nat.mul_add_mod_self_right, Nat.mod_eq_of_lt hc]
  have e2 : ((a * W + b) * W + c) / W = a * W + b := by rw [Nat.mul_comm, Nat.mul_add_div (by omega), Nat.div_eq_of_lt hc]; rfl
  have e3 : (a * W + b) % W = b := by rw [Nat.mul_add_mod_self_right, Nat.mod_eq_of_lt hb]
  have e4 : (a * W + b) / W = a := by rw [Nat.mul_comm, Nat.mul_add_div (by omega), Nat.div_eq_of_lt hb]; rfl
  rw [e0]
  funext k
  unfold dg fup
  by_cases h0 : k = 0
  · subst h0
    rw [if_neg (by omega), if_neg (by omega), if_neg (by omega), e2, e4, Nat.mod_eq_of_lt ha, if_neg (by omega), if_neg (by omega), if_pos rfl]
  · by_cases h1 : k = 1
    · subst h1
      rw [if_neg (by omega), if_neg (by omega), if_pos (by omega), e2, e3, if_neg (by omega), if_pos rfl]
    · by_cases h2 : k = 2
      · subst h2
        rw [if_neg (by omega), if_pos (by omega), e1, if_pos rfl]
      · rw [if_pos (by omega), if_neg h2, if_neg h1, if_neg h0]
def numU (T : Nat → Nat → Option zLw) (A w : Nat → Int) (th : Nat) (ow : Int) (n x : Nat) (s : zBS) : zBS := leafU th ow (sRunF T A w (dg (1 + 2 * (A 1).toNat) n x) n) (dg (1 + 2 * (A 1).toNat) n x) (cntF (dg (1 + 2 * (A 1).toNat) n x) n) s
set_option maxRecDepth 8000 in
set_option maxHeartbeats 2000000 in
theorem rT_nums {T : Nat → Nat → Option zLw} {A w : Nat → Int} {th : Nat} {ow : Int} {n W P : Nat} (hW : W = 1 + 2 * (A 1).toNat) (hn : (n = 1 ∧ P = W) ∨ (n = 2 ∧ P = W * W) ∨ (n = 3 ∧ P = W * (W * W))) (s : zBS) : fN (numU T A w th ow n) P s = rT T A th ow n 0 w (fun _ => 0) 0 s := by
  rcases hn with ⟨rfl, rfl⟩ | ⟨rfl, rfl⟩ | ⟨rfl, rfl⟩
  · unfold rT rT
    rw [← hW]
    refine fN_congr (fun a s ha => ?_) s
    unfold numU
    rw [← hW, dg_1 ha]
    unfold sRunF sRunF cntF cntF fup
    simp only [if_true]
  · unfold rT rT rT
    rw [fN_mul, ← hW]
    refine fN_congr (fun a s ha => fN_congr (fun b s hb => ?_) s) s
    unfold numU
    rw [← hW, dg_2 ha hb]
    unfold sRunF sRunF sRunF cntF cntF cntF fup
    simp (decide := true) only [if_true, if_false]
  · unfold rT rT rT rT
    rw [fN_mul, ← hW]
    refine fN_congr (fun a s ha => ?_) s
    rw [fN_mul]
    refine fN_congr (fun b s hb => fN_congr (fun c s hc => ?_) s) s
    unfold numU
    rw [← hW, dg_3 ha hb hc]
    unfold sRunF sRunF sRunF sRunF cntF cntF cntF cntF fup
    simp (decide := true) only [if_true, if_false]
