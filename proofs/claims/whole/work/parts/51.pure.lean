/-! what holds between the class's cells and the reference's -/
/-- the reference's row, from place s of its array -/
def rw_ (a : Nat → Int) (s : Nat) : Nat → Int := fun k => a (s + k)
def headOK (a : Nat → Int) : Prop :=
  (0 ≤ a 0 ∧ a 0 ≤ 6) ∧
  (0 ≤ a 1 ∧ a 1 ≤ 8) ∧
  (0 < a 1 → 0 < a 0) ∧
  (0 ≤ a 2 ∧ a 2 ≤ 99) ∧
  (0 ≤ a 3 ∧ a 3 ≤ 4) ∧
  (-1 ≤ a 4 ∧ a 4 < a 3) ∧
  (0 ≤ a 5 ∧ a 5 ≤ 30) ∧
  (0 ≤ a 6 ∧ a 6 ≤ 8) ∧
  (0 ≤ a 7 ∧ a 7 ≤ 9) ∧
  (0 ≤ a 8 ∧ a 8 ≤ 9) ∧
  (∀ i : Nat, i < 6 → 0 ≤ a (10 + i) ∧ a (10 + i) ≤ 10) ∧
  (∀ t : Nat, (t : Int) < a 1 → 0 ≤ a (16 + t) ∧ a (16 + t) < a 0) ∧
  (∀ t : Nat, (t : Int) < a 1 → 1 ≤ a (24 + t) ∧ a (24 + t) ≤ 9) ∧
  (∀ i : Nat, (i : Int) < a 6 → (0 ≤ a (32 + 2 * i) ∧ a (32 + 2 * i) < a 1) ∧ 0 ≤ a (33 + 2 * i) ∧ a (33 + 2 * i) ≤ 60) ∧
  (∀ i : Nat, (i : Int) < a 7 → 0 ≤ a (48 + i) ∧ a (48 + i) ≤ 99) ∧
  (∀ i : Nat, (i : Int) < a 8 → (0 ≤ a (57 + 3 * i) ∧ a (57 + 3 * i) ≤ 99) ∧ (1 ≤ a (58 + 3 * i) ∧ a (58 + 3 * i) ≤ 9) ∧ (a (59 + 3 * i) = 0 ∨ a (59 + 3 * i) = 1))
theorem headOK.own {a : Nat → Int} (h : headOK a) : 0 ≤ a 0 ∧ a 0 ≤ 6 := h.1
theorem headOK.thg {a : Nat → Int} (h : headOK a) : 0 ≤ a 1 ∧ a 1 ≤ 8 := h.2.1
theorem headOK.some_ {a : Nat → Int} (h : headOK a) : 0 < a 1 → 0 < a 0 := h.2.2.1
theorem headOK.room {a : Nat → Int} (h : headOK a) : 0 ≤ a 2 ∧ a 2 ≤ 99 := h.2.2.2.1
theorem headOK.txs {a : Nat → Int} (h : headOK a) : 0 ≤ a 3 ∧ a 3 ≤ 4 := h.2.2.2.2.1
theorem headOK.txt {a : Nat → Int} (h : headOK a) : -1 ≤ a 4 ∧ a 4 < a 3 := h.2.2.2.2.2.1
theorem headOK.stp {a : Nat → Int} (h : headOK a) : 0 ≤ a 5 ∧ a 5 ≤ 30 := h.2.2.2.2.2.2.1
theorem headOK.pln {a : Nat → Int} (h : headOK a) : 0 ≤ a 6 ∧ a 6 ≤ 8 := h.2.2.2.2.2.2.2.1
theorem headOK.vts {a : Nat → Int} (h : headOK a) : 0 ≤ a 7 ∧ a 7 ≤ 9 := h.2.2.2.2.2.2.2.2.1
theorem headOK.sen {a : Nat → Int} (h : headOK a) : 0 ≤ a 8 ∧ a 8 ≤ 9 := h.2.2.2.2.2.2.2.2.2.1
theorem headOK.lives {a : Nat → Int} (h : headOK a) : ∀ i : Nat, i < 6 → 0 ≤ a (10 + i) ∧ a (10 + i) ≤ 10 := h.2.2.2.2.2.2.2.2.2.2.1
theorem headOK.first {a : Nat → Int} (h : headOK a) : ∀ t : Nat, (t : Int) < a 1 → 0 ≤ a (16 + t) ∧ a (16 + t) < a 0 := h.2.2.2.2.2.2.2.2.2.2.2.1
theorem headOK.bulk {a : Nat → Int} (h : headOK a) : ∀ t : Nat, (t : Int) < a 1 → 1 ≤ a (24 + t) ∧ a (24 + t) ≤ 9 := h.2.2.2.2.2.2.2.2.2.2.2.2.1
theorem headOK.plan {a : Nat → Int} (h : headOK a) : ∀ i : Nat, (i : Int) < a 6 → (0 ≤ a (32 + 2 * i) ∧ a (32 + 2 * i) < a 1) ∧ 0 ≤ a (33 + 2 * i) ∧ a (33 + 2 * i) ≤ 60 := h.2.2.2.2.2.2.2.2.2.2.2.2.2.1
theorem headOK.vote {a : Nat → Int} (h : headOK a) : ∀ i : Nat, (i : Int) < a 7 → 0 ≤ a (48 + i) ∧ a (48 + i) ≤ 99 := h.2.2.2.2.2.2.2.2.2.2.2.2.2.2.1
theorem headOK.saw {a : Nat → Int} (h : headOK a) : ∀ i : Nat, (i : Int) < a 8 → (0 ≤ a (57 + 3 * i) ∧ a (57 + 3 * i) ≤ 99) ∧ (1 ≤ a (58 + 3 * i) ∧ a (58 + 3 * i) ≤ 9) ∧ (a (59 + 3 * i) = 0 ∨ a (59 + 3 * i) = 1) := h.2.2.2.2.2.2.2.2.2.2.2.2.2.2.2
def rowOK (a w : Nat → Int) : Prop :=
  (∀ i : Nat, i < 6 → -1000000 ≤ w i ∧ w i ≤ 1000000) ∧
  (∀ i : Nat, i < 6 → a 0 ≤ i → w i = 0) ∧
  (∀ t : Nat, (t : Int) < a 1 → 0 ≤ w (6 + t) ∧ w (6 + t) ≤ 99) ∧
  (∀ t : Nat, (t : Int) < a 1 → -1 ≤ w (14 + t) ∧ w (14 + t) < a 0) ∧
  (∀ t : Nat, (t : Int) < a 1 → w (14 + t) = -1 → (0 ≤ w (22 + t) ∧ w (22 + t) ≤ w 38) ∧ 0 ≤ w (30 + t) ∧ w (30 + t) < a 0) ∧
  (∀ t : Nat, (t : Int) < a 1 → w (14 + t) ≠ -1 → w (22 + t) = -1 ∧ w (30 + t) = -1) ∧
  (0 ≤ w 38 ∧ w 38 ≤ 10060) ∧
  (0 ≤ w 39 ∧ w 39 < 30319) ∧
  (0 ≤ w 40 ∧ w 40 ≤ 30) ∧
  (∀ i : Nat, (i : Int) < w 40 → (0 ≤ w (41 + 4 * i) ∧ w (41 + 4 * i) ≤ 10060) ∧ (0 ≤ w (42 + 4 * i) ∧ w (42 + 4 * i) < a 1) ∧ (0 ≤ w (43 + 4 * i) ∧ w (43 + 4 * i) < a 0) ∧ 0 ≤ w (44 + 4 * i) ∧ w (44 + 4 * i) ≤ 99)
theorem rowOK.pence {a w : Nat → Int} (h : rowOK a w) : ∀ i : Nat, i < 6 → -1000000 ≤ w i ∧ w i ≤ 1000000 := h.1
theorem rowOK.pence0 {a w : Nat → Int} (h : rowOK a w) : ∀ i : Nat, i < 6 → a 0 ≤ i → w i = 0 := h.2.1
theorem rowOK.dear {a w : Nat → Int} (h : rowOK a w) : ∀ t : Nat, (t : Int) < a 1 → 0 ≤ w (6 + t) ∧ w (6 + t) ≤ 99 := h.2.2.1
theorem rowOK.at_ {a w : Nat → Int} (h : rowOK a w) : ∀ t : Nat, (t : Int) < a 1 → -1 ≤ w (14 + t) ∧ w (14 + t) < a 0 := h.2.2.2.1
theorem rowOK.kept {a w : Nat → Int} (h : rowOK a w) : ∀ t : Nat, (t : Int) < a 1 → w (14 + t) = -1 → (0 ≤ w (22 + t) ∧ w (22 + t) ≤ w 38) ∧ 0 ≤ w (30 + t) ∧ w (30 + t) < a 0 := h.2.2.2.2.1
theorem rowOK.free {a w : Nat → Int} (h : rowOK a w) : ∀ t : Nat, (t : Int) < a 1 → w (14 + t) ≠ -1 → w (22 + t) = -1 ∧ w (30 + t) = -1 := h.2.2.2.2.2.1
theorem rowOK.day {a w : Nat → Int} (h : rowOK a w) : 0 ≤ w 38 ∧ w 38 ≤ 10060 := h.2.2.2.2.2.2.1
theorem rowOK.x {a w : Nat → Int} (h : rowOK a w) : 0 ≤ w 39 ∧ w 39 < 30319 := h.2.2.2.2.2.2.2.1
theorem rowOK.book {a w : Nat → Int} (h : rowOK a w) : 0 ≤ w 40 ∧ w 40 ≤ 30 := h.2.2.2.2.2.2.2.2.1
theorem rowOK.page {a w : Nat → Int} (h : rowOK a w) : ∀ i : Nat, (i : Int) < w 40 → (0 ≤ w (41 + 4 * i) ∧ w (41 + 4 * i) ≤ 10060) ∧ (0 ≤ w (42 + 4 * i) ∧ w (42 + 4 * i) < a 1) ∧ (0 ≤ w (43 + 4 * i) ∧ w (43 + 4 * i) < a 0) ∧ 0 ≤ w (44 + 4 * i) ∧ w (44 + 4 * i) ≤ 99 := h.2.2.2.2.2.2.2.2.2
def cardOf (w : Nat → Int) (i : Nat) : Int := ((w (41 + 4 * i) * 8 + w (42 + 4 * i)) * 6 + w (43 + 4 * i)) * 100 + w (44 + 4 * i)
/-- the class's city j has what the reference has in a and in the row w -/
def cityR (M : zM) (j : Nat) (a w : Nat → Int) : Prop :=
  (M 11 j 6 = a 0) ∧
  (M 11 j 7 = a 1) ∧
  (M 11 j 8 = w 40) ∧
  (M 11 j 9 = a 2) ∧
  (M 11 j 10 = w 38) ∧
  (M 11 j 11 = w 39) ∧
  (M 11 j 12 = a 3) ∧
  (M 11 j 13 = a 4) ∧
  (∀ i : Nat, (i : Int) < a 0 → M 12 j i = a (10 + i)) ∧
  (∀ i : Nat, i < 6 → M 13 j i = w i) ∧
  (∀ t : Nat, (t : Int) < a 1 → M 16 (t + 8 * j) 1 = a (16 + t)) ∧
  (∀ t : Nat, (t : Int) < a 1 → M 16 (t + 8 * j) 2 = a (24 + t)) ∧
  (∀ t : Nat, (t : Int) < a 1 → M 16 (t + 8 * j) 3 = w (6 + t)) ∧
  (∀ t : Nat, (t : Int) < a 1 → M 16 (t + 8 * j) 4 = w (14 + t)) ∧
  (∀ t : Nat, (t : Int) < a 1 → w (14 + t) = -1 → M 16 (t + 8 * j) 5 = w (22 + t)) ∧
  (∀ t : Nat, (t : Int) < a 1 → w (14 + t) = -1 → M 16 (t + 8 * j) 6 = w (30 + t)) ∧
  (∀ i : Nat, (i : Int) < w 40 → M 15 j i = cardOf w i)
theorem cityR.own {M : zM} {j : Nat} {a w : Nat → Int} (h : cityR M j a w) : M 11 j 6 = a 0 := h.1
theorem cityR.thg {M : zM} {j : Nat} {a w : Nat → Int} (h : cityR M j a w) : M 11 j 7 = a 1 := h.2.1
theorem cityR.wrt {M : zM} {j : Nat} {a w : Nat → Int} (h : cityR M j a w) : M 11 j 8 = w 40 := h.2.2.1
theorem cityR.room {M : zM} {j : Nat} {a w : Nat → Int} (h : cityR M j a w) : M 11 j 9 = a 2 := h.2.2.2.1
theorem cityR.day {M : zM} {j : Nat} {a w : Nat → Int} (h : cityR M j a w) : M 11 j 10 = w 38 := h.2.2.2.2.1
theorem cityR.x {M : zM} {j : Nat} {a w : Nat → Int} (h : cityR M j a w) : M 11 j 11 = w 39 := h.2.2.2.2.2.1
theorem cityR.txs {M : zM} {j : Nat} {a w : Nat → Int} (h : cityR M j a w) : M 11 j 12 = a 3 := h.2.2.2.2.2.2.1
theorem cityR.txt {M : zM} {j : Nat} {a w : Nat → Int} (h : cityR M j a w) : M 11 j 13 = a 4 := h.2.2.2.2.2.2.2.1
theorem cityR.lives {M : zM} {j : Nat} {a w : Nat → Int} (h : cityR M j a w) : ∀ i : Nat, (i : Int) < a 0 → M 12 j i = a (10 + i) := h.2.2.2.2.2.2.2.2.1
theorem cityR.pence {M : zM} {j : Nat} {a w : Nat → Int} (h : cityR M j a w) : ∀ i : Nat, i < 6 → M 13 j i = w i := h.2.2.2.2.2.2.2.2.2.1
theorem cityR.first {M : zM} {j : Nat} {a w : Nat → Int} (h : cityR M j a w) : ∀ t : Nat, (t : Int) < a 1 → M 16 (t + 8 * j) 1 = a (16 + t) := h.2.2.2.2.2.2.2.2.2.2.1
theorem cityR.bulk {M : zM} {j : Nat} {a w : Nat → Int} (h : cityR M j a w) : ∀ t : Nat, (t : Int) < a 1 → M 16 (t + 8 * j) 2 = a (24 + t) := h.2.2.2.2.2.2.2.2.2.2.2.1
theorem cityR.dear {M : zM} {j : Nat} {a w : Nat → Int} (h : cityR M j a w) : ∀ t : Nat, (t : Int) < a 1 → M 16 (t + 8 * j) 3 = w (6 + t) := h.2.2.2.2.2.2.2.2.2.2.2.2.1
theorem cityR.with_ {M : zM} {j : Nat} {a w : Nat → Int} (h : cityR M j a w) : ∀ t : Nat, (t : Int) < a 1 → M 16 (t + 8 * j) 4 = w (14 + t) := h.2.2.2.2.2.2.2.2.2.2.2.2.2.1
theorem cityR.since {M : zM} {j : Nat} {a w : Nat → Int} (h : cityR M j a w) : ∀ t : Nat, (t : Int) < a 1 → w (14 + t) = -1 → M 16 (t + 8 * j) 5 = w (22 + t) := h.2.2.2.2.2.2.2.2.2.2.2.2.2.2.1
theorem cityR.from_ {M : zM} {j : Nat} {a w : Nat → Int} (h : cityR M j a w) : ∀ t : Nat, (t : Int) < a 1 → w (14 + t) = -1 → M 16 (t + 8 * j) 6 = w (30 + t) := h.2.2.2.2.2.2.2.2.2.2.2.2.2.2.2.1
theorem cityR.card {M : zM} {j : Nat} {a w : Nat → Int} (h : cityR M j a w) : ∀ i : Nat, (i : Int) < w 40 → M 15 j i = cardOf w i := h.2.2.2.2.2.2.2.2.2.2.2.2.2.2.2.2
/-- a row that the class has saved, at (22, r), and a row w of the reference -/
def savedR (M : zM) (r j : Nat) (a w : Nat → Int) : Prop :=
  (M 22 r 0 = w 38) ∧
  (M 22 r 1 = w 39) ∧
  (0 ≤ M 22 r 2 ∧ M 22 r 2 ≤ a 0) ∧
  (0 ≤ M 22 r 3 ∧ M 22 r 3 ≤ a 1) ∧
  (M 22 r 4 = w 40) ∧
  (∀ i : Nat, i < 6 → (i : Int) < M 22 r 2 → M 22 r (5 + i) = w i) ∧
  (∀ i : Nat, i < 6 → M 22 r 2 ≤ i → w i = 0) ∧
  (∀ i : Nat, (i : Int) < w 40 → M 22 r (11 + i) = cardOf w i) ∧
  (∀ t : Nat, (t : Int) < M 22 r 3 → M 22 r (41 + 4 * t) = w (6 + t)) ∧
  (∀ t : Nat, (t : Int) < M 22 r 3 → M 22 r (42 + 4 * t) = w (14 + t)) ∧
  (∀ t : Nat, (t : Int) < M 22 r 3 → w (14 + t) = -1 → M 22 r (43 + 4 * t) = w (22 + t)) ∧
  (∀ t : Nat, (t : Int) < M 22 r 3 → w (14 + t) = -1 → M 22 r (44 + 4 * t) = w (30 + t)) ∧
  (∀ t : Nat, M 22 r 3 ≤ t → (t : Int) < a 1 → w (6 + t) = M 16 (t + 8 * j) 0 ∧ w (14 + t) = a (16 + t) ∧ w (22 + t) = -1 ∧ w (30 + t) = -1)
theorem savedR.day {M : zM} {r j : Nat} {a w : Nat → Int} (h : savedR M r j a w) : M 22 r 0 = w 38 := h.1
theorem savedR.x {M : zM} {r j : Nat} {a w : Nat → Int} (h : savedR M r j a w) : M 22 r 1 = w 39 := h.2.1
theorem savedR.own {M : zM} {r j : Nat} {a w : Nat → Int} (h : savedR M r j a w) : 0 ≤ M 22 r 2 ∧ M 22 r 2 ≤ a 0 := h.2.2.1
theorem savedR.thg {M : zM} {r j : Nat} {a w : Nat → Int} (h : savedR M r j a w) : 0 ≤ M 22 r 3 ∧ M 22 r 3 ≤ a 1 := h.2.2.2.1
theorem savedR.wrt {M : zM} {r j : Nat} {a w : Nat → Int} (h : savedR M r j a w) : M 22 r 4 = w 40 := h.2.2.2.2.1
theorem savedR.pence {M : zM} {r j : Nat} {a w : Nat → Int} (h : savedR M r j a w) : ∀ i : Nat, i < 6 → (i : Int) < M 22 r 2 → M 22 r (5 + i) = w i := h.2.2.2.2.2.1
theorem savedR.pence0 {M : zM} {r j : Nat} {a w : Nat → Int} (h : savedR M r j a w) : ∀ i : Nat, i < 6 → M 22 r 2 ≤ i → w i = 0 := h.2.2.2.2.2.2.1
theorem savedR.card {M : zM} {r j : Nat} {a w : Nat → Int} (h : savedR M r j a w) : ∀ i : Nat, (i : Int) < w 40 → M 22 r (11 + i) = cardOf w i := h.2.2.2.2.2.2.2.1
theorem savedR.dear {M : zM} {r j : Nat} {a w : Nat → Int} (h : savedR M r j a w) : ∀ t : Nat, (t : Int) < M 22 r 3 → M 22 r (41 + 4 * t) = w (6 + t) := h.2.2.2.2.2.2.2.2.1
theorem savedR.with_ {M : zM} {r j : Nat} {a w : Nat → Int} (h : savedR M r j a w) : ∀ t : Nat, (t : Int) < M 22 r 3 → M 22 r (42 + 4 * t) = w (14 + t) := h.2.2.2.2.2.2.2.2.2.1
theorem savedR.since {M : zM} {r j : Nat} {a w : Nat → Int} (h : savedR M r j a w) : ∀ t : Nat, (t : Int) < M 22 r 3 → w (14 + t) = -1 → M 22 r (43 + 4 * t) = w (22 + t) := h.2.2.2.2.2.2.2.2.2.2.1
theorem savedR.from_ {M : zM} {r j : Nat} {a w : Nat → Int} (h : savedR M r j a w) : ∀ t : Nat, (t : Int) < M 22 r 3 → w (14 + t) = -1 → M 22 r (44 + 4 * t) = w (30 + t) := h.2.2.2.2.2.2.2.2.2.2.2.1
theorem savedR.later {M : zM} {r j : Nat} {a w : Nat → Int} (h : savedR M r j a w) : ∀ t : Nat, M 22 r 3 ≤ t → (t : Int) < a 1 → w (6 + t) = M 16 (t + 8 * j) 0 ∧ w (14 + t) = a (16 + t) ∧ w (22 + t) = -1 ∧ w (30 + t) = -1 := h.2.2.2.2.2.2.2.2.2.2.2.2
/-- what is planned, voted, seen (instance j) -/
def toldR (M : zM) (j : Nat) (a : Nat → Int) : Prop :=
  (M 23 j 7 = a 6) ∧
  (M 23 j 8 = a 7) ∧
  (M 23 j 9 = a 8) ∧
  (∀ i : Nat, (i : Int) < a 6 → M 24 j i = a (32 + 2 * i)) ∧
  (∀ i : Nat, (i : Int) < a 6 → M 25 j i = a (33 + 2 * i)) ∧
  (∀ i : Nat, (i : Int) < a 7 → M 26 j i = a (48 + i)) ∧
  (∀ i : Nat, (i : Int) < a 8 → M 28 j i = a (57 + 3 * i)) ∧
  (∀ i : Nat, (i : Int) < a 8 → M 29 j i = a (58 + 3 * i)) ∧
  (∀ i : Nat, (i : Int) < a 8 → M 30 j i = a (59 + 3 * i))
theorem toldR.plans {M : zM} {j : Nat} {a : Nat → Int} (h : toldR M j a) : M 23 j 7 = a 6 := h.1
theorem toldR.votes {M : zM} {j : Nat} {a : Nat → Int} (h : toldR M j a) : M 23 j 8 = a 7 := h.2.1
theorem toldR.seen {M : zM} {j : Nat} {a : Nat → Int} (h : toldR M j a) : M 23 j 9 = a 8 := h.2.2.1
theorem toldR.planThing {M : zM} {j : Nat} {a : Nat → Int} (h : toldR M j a) : ∀ i : Nat, (i : Int) < a 6 → M 24 j i = a (32 + 2 * i) := h.2.2.2.1
theorem toldR.planDays {M : zM} {j : Nat} {a : Nat → Int} (h : toldR M j a) : ∀ i : Nat, (i : Int) < a 6 → M 25 j i = a (33 + 2 * i) := h.2.2.2.2.1
theorem toldR.vote {M : zM} {j : Nat} {a : Nat → Int} (h : toldR M j a) : ∀ i : Nat, (i : Int) < a 7 → M 26 j i = a (48 + i) := h.2.2.2.2.2.1
theorem toldR.seenDear {M : zM} {j : Nat} {a : Nat → Int} (h : toldR M j a) : ∀ i : Nat, (i : Int) < a 8 → M 28 j i = a (57 + 3 * i) := h.2.2.2.2.2.2.1
theorem toldR.seenBulk {M : zM} {j : Nat} {a : Nat → Int} (h : toldR M j a) : ∀ i : Nat, (i : Int) < a 8 → M 29 j i = a (58 + 3 * i) := h.2.2.2.2.2.2.2.1
theorem toldR.seenHappy {M : zM} {j : Nat} {a : Nat → Int} (h : toldR M j a) : ∀ i : Nat, (i : Int) < a 8 → M 30 j i = a (59 + 3 * i) := h.2.2.2.2.2.2.2.2
/-- the steps that are held (instance j, of city j): a ring -/
def stepsR (M : zM) (j : Nat) (a : Nat → Int) : Prop :=
  (M 20 j 1 = a 5) ∧
  (0 ≤ M 20 j 2 ∧ M 20 j 2 < 30) ∧
  (∀ i : Nat, (i : Int) < a 5 → ∃ r : Nat, r < 30 ∧ ((r : Int) + a 5 - i) % 30 = M 20 j 2 % 30 ∧ savedR M (r + 30 * j) j a (rw_ a (260 + 161 * i)) ∧ rowOK a (rw_ a (260 + 161 * i)) ∧ a (298 + 161 * i) ≤ 9999)
theorem stepsR.held {M : zM} {j : Nat} {a : Nat → Int} (h : stepsR M j a) : M 20 j 1 = a 5 := h.1
theorem stepsR.next {M : zM} {j : Nat} {a : Nat → Int} (h : stepsR M j a) : 0 ≤ M 20 j 2 ∧ M 20 j 2 < 30 := h.2.1
theorem stepsR.row {M : zM} {j : Nat} {a : Nat → Int} (h : stepsR M j a) : ∀ i : Nat, (i : Int) < a 5 → ∃ r : Nat, r < 30 ∧ ((r : Int) + a 5 - i) % 30 = M 20 j 2 % 30 ∧ savedR M (r + 30 * j) j a (rw_ a (260 + 161 * i)) ∧ rowOK a (rw_ a (260 + 161 * i)) ∧ a (298 + 161 * i) ≤ 9999 := h.2.2
/-- one world of the class (0: as it stands, 1: the image) and one of the reference's two arrays -/
def worldR (M : zM) (j : Nat) (a : Nat → Int) : Prop :=
  (headOK a) ∧
  (rowOK a (rw_ a 90)) ∧
  (a 128 ≤ 9999) ∧
  (cityR M j a (rw_ a 90)) ∧
  (∀ t : Nat, (t : Int) < a 1 → 0 ≤ M 16 (t + 8 * j) 0 ∧ M 16 (t + 8 * j) 0 ≤ 99) ∧
  (stepsR M j a) ∧
  (toldR M j a)
theorem worldR.head {M : zM} {j : Nat} {a : Nat → Int} (h : worldR M j a) : headOK a := h.1
theorem worldR.row {M : zM} {j : Nat} {a : Nat → Int} (h : worldR M j a) : rowOK a (rw_ a 90) := h.2.1
theorem worldR.day {M : zM} {j : Nat} {a : Nat → Int} (h : worldR M j a) : a 128 ≤ 9999 := h.2.2.1
theorem worldR.city {M : zM} {j : Nat} {a : Nat → Int} (h : worldR M j a) : cityR M j a (rw_ a 90) := h.2.2.2.1
theorem worldR.told {M : zM} {j : Nat} {a : Nat → Int} (h : worldR M j a) : ∀ t : Nat, (t : Int) < a 1 → 0 ≤ M 16 (t + 8 * j) 0 ∧ M 16 (t + 8 * j) 0 ≤ 99 := h.2.2.2.2.1
theorem worldR.steps {M : zM} {j : Nat} {a : Nat → Int} (h : worldR M j a) : stepsR M j a := h.2.2.2.2.2.1
theorem worldR.tld {M : zM} {j : Nat} {a : Nat → Int} (h : worldR M j a) : toldR M j a := h.2.2.2.2.2.2
