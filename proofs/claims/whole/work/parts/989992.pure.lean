/-! text: the reference reads clauses -/
set_option maxRecDepth 8000 in
set_option maxHeartbeats 2000000 in
theorem rk_small : ∀ a, a < 11 → rkL.getD a 0 = (a : Int) := by decide
set_option maxRecDepth 8000 in
set_option maxHeartbeats 2000000 in
theorem rk_big : ∀ a, a < 25 → 11 ≤ a → 10 < rkL.getD a 0 := by decide
def clsR (B : Nat → Int) (L : Nat) (M : zM) (i : Nat) (Cs : zCs) (e : zCd) (X : zCd) : Prop :=
  (stR B L M i 0 [] [] X) ∧
  (M 42 0 28 = 4) ∧
  (M 42 0 30 = Cs.length) ∧
  (∀ (j : Nat) (R : zCl), Cs[j]? = some R → M 59 0 j = R.1 ∧ (R.1 < 4 → M 60 0 j = R.2.2.2.2.2.2) ∧ (4 ≤ R.1 → M 61 0 j = R.2.1) ∧ (R.1 = 5 ∨ R.1 = 9 → M 62 0 j = R.2.2.1) ∧ (R.1 = 5 → M 63 0 j = R.2.2.2.1)) ∧
  (∀ (j : Nat) (R : zCl), Cs[j]? = some R → 0 ≤ R.1 ∧ R.1 ≤ 10) ∧
  (Cs.length ≤ 24) ∧
  (X.length = e.length + Cs.length) ∧
  (X.length ≤ i)
set_option maxRecDepth 8000 in
set_option maxHeartbeats 2000000 in
theorem clsR.st {B : Nat → Int} {L : Nat} {M : zM} {i : Nat} {Cs : zCs} {e : zCd} {X : zCd} (h : clsR B L M i Cs e X) : stR B L M i 0 [] [] X := h.1
set_option maxRecDepth 8000 in
set_option maxHeartbeats 2000000 in
theorem clsR.s4 {B : Nat → Int} {L : Nat} {M : zM} {i : Nat} {Cs : zCs} {e : zCd} {X : zCd} (h : clsR B L M i Cs e X) : M 42 0 28 = 4 := h.2.1
set_option maxRecDepth 8000 in
set_option maxHeartbeats 2000000 in
theorem clsR.num {B : Nat → Int} {L : Nat} {M : zM} {i : Nat} {Cs : zCs} {e : zCd} {X : zCd} (h : clsR B L M i Cs e X) : M 42 0 30 = Cs.length := h.2.2.1
set_option maxRecDepth 8000 in
set_option maxHeartbeats 2000000 in
theorem clsR.cls {B : Nat → Int} {L : Nat} {M : zM} {i : Nat} {Cs : zCs} {e : zCd} {X : zCd} (h : clsR B L M i Cs e X) : ∀ (j : Nat) (R : zCl), Cs[j]? = some R → M 59 0 j = R.1 ∧ (R.1 < 4 → M 60 0 j = R.2.2.2.2.2.2) ∧ (4 ≤ R.1 → M 61 0 j = R.2.1) ∧ (R.1 = 5 ∨ R.1 = 9 → M 62 0 j = R.2.2.1) ∧ (R.1 = 5 → M 63 0 j = R.2.2.2.1) := h.2.2.2.1
set_option maxRecDepth 8000 in
set_option maxHeartbeats 2000000 in
theorem clsR.rng {B : Nat → Int} {L : Nat} {M : zM} {i : Nat} {Cs : zCs} {e : zCd} {X : zCd} (h : clsR B L M i Cs e X) : ∀ (j : Nat) (R : zCl), Cs[j]? = some R → 0 ≤ R.1 ∧ R.1 ≤ 10 := h.2.2.2.2.1
set_option maxRecDepth 8000 in
set_option maxHeartbeats 2000000 in
theorem clsR.c24 {B : Nat → Int} {L : Nat} {M : zM} {i : Nat} {Cs : zCs} {e : zCd} {X : zCd} (h : clsR B L M i Cs e X) : Cs.length ≤ 24 := h.2.2.2.2.2.1
set_option maxRecDepth 8000 in
set_option maxHeartbeats 2000000 in
theorem clsR.nl {B : Nat → Int} {L : Nat} {M : zM} {i : Nat} {Cs : zCs} {e : zCd} {X : zCd} (h : clsR B L M i Cs e X) : X.length = e.length + Cs.length := h.2.2.2.2.2.2.1
set_option maxRecDepth 8000 in
set_option maxHeartbeats 2000000 in
theorem clsR.le {B : Nat → Int} {L : Nat} {M : zM} {i : Nat} {Cs : zCs} {e : zCd} {X : zCd} (h : clsR B L M i Cs e X) : X.length ≤ i := h.2.2.2.2.2.2.2
set_option maxRecDepth 8000 in
set_option maxHeartbeats 2000000 in
theorem zT_known {S E : Type} {x : Option (S ⊕ E)} {P : S ⊕ E → Prop} {v : S ⊕ E} (h : x = some v) (hP : P v) : zT x P := ⟨v, h, hP⟩
section ZTXU
variable {B : Nat → Int} {L i : Nat} {Cs : zCs} {e X : zCd} {M : zM}
set_option maxRecDepth 8000 in
set_option maxHeartbeats 2000000 in
theorem R_wasTold {k : Int} (h59 : ∀ (j : Nat) (R : zCl), Cs[j]? = some R → M 59 0 j = R.1) (hrng : ∀ (j : Nat) (R : zCl), Cs[j]? = some R → 0 ≤ R.1 ∧ R.1 ≤ 10) (hc : Cs.length ≤ 24) (h30 : M 42 0 30 = Cs.length) (hk : 0 ≤ k ∧ k ≤ 10) : f_X11_wasTold k M = some (if toldB Cs k = true then 1 else 0, M) := by
  have key := zT_for (body := fun s : Int × Int => f_X11_wasTold_L4 k s.1 s.2 M) (fun i s => s.2 = (i : Int) ∧ ((s.1 = 1 ∧ ∃ (j : Nat) (R : zCl), j < i ∧ Cs[j]? = some R ∧ R.1 = k) ∨ (s.1 = 0 ∧ ∀ (j : Nat) (R : zCl), j < i → Cs[j]? = some R → R.1 ≠ k))) Cs.length (Q := fun y => y = if toldB Cs k = true then 1 else 0) ?_ (m := zF) (by unfold zF; omega) (s := (0, 0)) ⟨rfl, Or.inr ⟨rfl, fun j R hj => by omega⟩⟩
  · obtain ⟨y, k1, k2⟩ := key
    unfold f_X11_wasTold
    rw [k1]
    simp only [zbs]
    rw [if_pos (by rw [k2]; split <;> omega), k2]
  · rintro i ⟨v, w⟩ hi ⟨g1, g2⟩
    dsimp only at g1 g2
    subst g1
    dsimp only
    unfold f_X11_wasTold_L4 f_X11_wasTold_j26 f_X11_wasTold_j31
    rw [h30, zw_nat (n := Cs.length) (by omega), zw_nat (n := i) (by omega), zix_nat (n := i) (by omega)]
    by_cases hin : i = Cs.length
    · rw [if_pos (by omega)]
      refine zT_some (Or.inr ⟨_, rfl, ?_⟩)
      rcases g2 with ⟨e1, j, R, j1, j2, j3⟩ | ⟨e1, j1⟩
      · rw [e1, if_pos (toldB_iff.mpr ⟨j, R, j2, j3⟩)]
      · rw [e1, if_neg]
        intro z
        obtain ⟨j, R, q1, q2⟩ := toldB_iff.mp z
        have : j < Cs.length := by
          refine Nat.lt_of_not_le (fun z2 => ?_)
          rw [List.getElem?_eq_none z2] at q1
          cases q1
        exact j1 j R (by omega) q1 q2
    · rw [if_neg (by omega)]
      rcases g2 with ⟨e1, j, R, j1, j2, j3⟩ | ⟨e1, j1⟩
      · rw [e1, if_pos (by decide)]
        exact zT_some (Or.inl ⟨_, rfl, by omega, by dsimp only; omega, Or.inl ⟨rfl, j, R, by omega, j2, j3⟩⟩)
      · obtain ⟨R, hR⟩ : ∃ R, Cs[i]? = some R := ⟨_, List.getElem?_eq_getElem (show i < Cs.length by omega)⟩
        have hr := hrng i R hR
        rw [e1, if_neg (nn_ zw_0), if_pos (by omega), h59 i R hR, zw_id (z := R.1) (by omega) (by omega), zw_id (z := k) (by omega) (by omega)]
        by_cases hk2 : R.1 = k
        · rw [if_neg (nn_ hk2)]
          exact zT_some (Or.inl ⟨_, rfl, by omega, by dsimp only; omega, Or.inl ⟨rfl, i, R, by omega, hR, hk2⟩⟩)
        · rw [if_pos hk2]
          refine zT_some (Or.inl ⟨_, rfl, by omega, by dsimp only; omega, Or.inr ⟨rfl, fun j R' q1 q2 => ?_⟩⟩)
          by_cases hji : j = i
          · subst hji
            rw [hR] at q2
            cases q2
            exact hk2
          · exact j1 j R' (by omega) q2
set_option maxRecDepth 8000 in
set_option maxHeartbeats 2000000 in
theorem g_semi {fr : List Int} {W : zWt} (h : stR B L M i 0 fr W X) (hk : tK B L i = 38) : f_X11_goesOn_j65 1 M = f_X11_clauseIsOver M := by
  have ht := h.tok.2.1
  unfold f_X11_goesOn_j65 f_X11_goesOn_j116 f_X11_goesOn_j148 f_X11_goesOn_j217 f_X11_goesOn_j282
  rw [if_pos (by decide), if_pos (by decide), if_pos (by decide), if_pos (by decide), if_pos (by decide), if_neg (nn_ (by decide)), R_isS (v := 59) (kk := 38) ht (by omega) rfl, if_pos hk]
  simp only [zbs]
  rw [if_neg zw_1n]
  generalize f_X11_clauseIsOver M = z
  cases z <;> rfl
/-- what one clause leaves, on the reference's side -/
def outRc (B : Nat → Int) (L m i : Nat) (Cs : zCs) (e X : zCd) (M : zM) (r : (Int × Nat) ⊕ (Nat × zCl × zCd)) : Prop := match r with
  | .inl q => ∃ k M', rnS k M M' ∧ failR B L M' q.1 q.2 ∧ frE M M' ∧ k ≤ 3 * (m - i) + 5
  | .inr q => ∃ k M', rnS k M M' ∧ clsR B L M' q.1 (Cs ++ [q.2.1]) (e ++ q.2.2) (xN X Cs.length q.2.2) ∧ frE M M' ∧ k ≤ 3 * (q.1 - i)
set_option maxRecDepth 8000 in
set_option maxHeartbeats 2000000 in
theorem R_clause {m n : Nat} (hend : ∀ i, m ≤ i → tK B L i = 40) (hm : m ≤ 300) (hi : i ≤ m) (h : clsR B L M i Cs e X) (h40 : tK B L i ≠ 40) {r : (Int × Nat) ⊕ (Nat × zCl × zCd)} (hr : clS (tK B L) (tV B L) n i Cs e X = some r) : outRc B L m i Cs e X M r := by
  have lt : ∀ i, tK B L i ≠ 40 → i < m := fun i h => Nat.lt_of_not_le (fun z => h (hend i z))
  have hst := h.st
  have ht := hst.tok.2.1
  have hK := tK_le (B := B) (L := L) i
  have hc24 := h.c24
  have hnl := h.nl
  have hle := h.le
  have hlt := lt i h40
  have h17 : 1 ≤ M 42 0 17 ∧ M 42 0 17 ≤ 4 := by
    rcases ht with ⟨a, b⟩ | ⟨a, b, -⟩ | ⟨a, b, -⟩ | ⟨a, b, -⟩ | ⟨a, b | ⟨b, -⟩⟩ <;> omega
  have go : ∀ N, f_X11_clause M = some N → rnS 1 M N := fun N hN => go_4 hst.ok h.s4 h17 hN
  unfold clS at hr
  by_cases h1 : tK B L i ≤ 10
  case neg =>
    rw [if_pos h1] at hr
    cases hr
    obtain ⟨M1, a1, a2, a3⟩ := R_err (w := 1) hst (by omega)
    refine ⟨1, M1, go M1 ?_, a2, a3.e, by omega⟩
    unfold f_X11_clause f_X11_clause_j17
    by_cases hs : M 42 0 17 = 1
    · have hk : 0 ≤ tK B L i ∧ tK B L i < 25 := by
        rcases ht with ⟨a, b⟩ | ⟨a, b, -⟩ | ⟨a, b, -⟩ | ⟨a, b, -⟩ | ⟨a, b | ⟨b, -⟩⟩ <;> omega
      have t2 := (ht.is1 hk).2
      have hbig : 10 < rk (tK B L i) := rk_big _ (by omega) (by omega)
      have hle := rk_le hk
      rw [hs, if_neg (nn_ (by decide)), t2, zw_id (z := rk (tK B L i)) (by omega) (by omega), if_neg (by omega), a1]
      exact zbs _ _
    · rw [zw_id (z := M 42 0 17) (by omega) (by omega), if_pos hs, a1]
      exact zbs _ _
  rw [if_neg (nn_ h1)] at hr
  obtain ⟨t1, t2⟩ := ht.is1 (by omega)
  have t3 : M 42 0 18 = tK B L i := by
    rw [t2]
    have := rk_small (tK B L i).toNat (by omega)
    unfold rk
    rw [this]
    omega
  generalize hN : zput M 42 0 31 (tK B L i) = N at *
  have hN1 : stR B L N i 0 [] [] X := by rw [← hN]; exact hst.slot (Or.inr rfl)
  have n30 : N 42 0 30 = Cs.length := by rw [← hN, zput_j (by omega)]; exact h.num
  have n31 : N 42 0 31 = tK B L i := by rw [← hN, zput_eq]
  have nfr : frE M N := by rw [← hN]; exact frE.p42 (by omega)
  have nq : ∀ q, 59 ≤ q → q ≤ 63 → N q 0 = M q 0 := fun q q1 q2 => by rw [← hN, zput_rowk (by omega)]
  have start : f_X11_clause M = if 3 < tK B L i then f_X11_clause_j58 N else (f_X11_wasTold (tK B L i) N).bind fun p21 => if zw p21.1 = 0 then f_X11_clause_j58 p21.2 else (f_X11_errs 4 p21.2).bind fun p22 => f_X11_clause_j73 p22 := by
    unfold f_X11_clause
    rw [t1, if_neg (nn_ (by decide)), t3, zw_id (z := tK B L i) (by omega) (by omega), if_pos h1, zlt_, hN, n31, zw_id (z := tK B L i) (by omega) (by omega)]
  have dead73 : ∀ (N' : zM) (w : Int), failR B L N' w i → f_X11_clause_j73 N' = some N' := by
    intro N' w hf
    have := hf.2.1
    unfold f_X11_clause_j73
    rw [hf.1, zw_id (by omega) (by omega), if_neg (by omega)]
  have told : tK B L i < 4 → f_X11_wasTold (tK B L i) N = some (if toldB Cs (tK B L i) = true then 1 else 0, N) := fun h4 => R_wasTold (fun j R hj => by rw [nq 59 (by omega) (by omega)]; exact (h.cls j R hj).1) h.rng hc24 n30 (by omega)
  by_cases h2 : tK B L i < 4 ∧ toldB Cs (tK B L i) = true
  · rw [if_pos h2] at hr
    cases hr
    obtain ⟨M1, a1, a2, a3⟩ := R_err (w := 4) hN1 (by omega)
    refine ⟨1, M1, go M1 ?_, a2, nfr.trans a3.e, by omega⟩
    rw [start, if_neg (by omega), told h2.1, if_pos h2.2]
    simp only [zbs]
    rw [if_neg zw_1n, a1]
    simp only [zbs]
    exact dead73 M1 4 a2
  rw [if_neg h2] at hr
  have start2 : f_X11_clause M = f_X11_clause_j58 N := by
    rw [start]
    by_cases h4 : 3 < tK B L i
    · rw [if_pos h4]
    · rw [if_neg h4, told (by omega), if_neg (fun z => h2 ⟨by omega, z⟩)]
      simp only [zbs]
      rw [if_pos zw_0]
  unfold f_X11_clause_j58 at start2
  rw [n30, zw_nat (by omega)] at start2
  by_cases h3 : Cs.length < 24
  case neg =>
    rw [if_pos h3] at hr
    cases hr
    obtain ⟨M1, a1, a2, a3⟩ := R_err (w := 6) hN1 (by omega)
    refine ⟨1, M1, go M1 ?_, a2, nfr.trans a3.e, by omega⟩
    rw [start2, if_neg (nn_ (by omega)), a1]
    simp only [zbs]
    exact dead73 M1 6 a2
  rw [if_neg (nn_ h3)] at hr
  rw [if_pos (by omega)] at start2
  have hN2 := (hN1.side (k := 59) (j := Cs.length) (v := tK B L i) (by omega)).side (k := 60) (j := Cs.length) (v := (X.length : Int)) (by omega)
  obtain ⟨N3, a1, a2, a3, a4⟩ := R_nxt hN2
  have fr3 : frE M N3 := nfr.trans ((frE.pk (by omega)).trans ((frE.pk (by omega)).trans (a4 0).1.e))
  have e31 : N3 42 0 31 = tK B L i := by rw [(a4 0).1.2 31 (by omega) (by omega) (by omega) (by omega), zput_k (by omega), zput_k (by omega)]; exact n31
  have e30 : N3 42 0 30 = Cs.length := by rw [(a4 0).1.2 30 (by omega) (by omega) (by omega) (by omega), zput_k (by omega), zput_k (by omega)]; exact n30
  have eq3 : ∀ q, 59 ≤ q → q ≤ 63 → ∀ j, j ≠ Cs.length ∨ 61 ≤ q → N3 q 0 j = M q 0 j := fun q q1 q2 j hj => by
    rw [(a4 0).1.1 q 0 (by omega) (by omega) (by omega) (by omega)]
    rcases hj with hj | hj
    · rw [zput_j hj, zput_j hj, nq q q1 q2]
    · rw [zput_k (by omega), zput_k (by omega), nq q q1 q2]
  have e59 : N3 59 0 Cs.length = tK B L i := by rw [(a4 0).1.1 59 0 (by omega) (by omega) (by omega) (by omega), zput_k (by omega), zput_eq]
  have e60 : N3 60 0 Cs.length = X.length := by rw [(a4 0).1.1 60 0 (by omega) (by omega) (by omega) (by omega), zput_eq]
  have start3 : f_X11_clause M = if 3 < tK B L i then ((f_X11_doing N3).bind fun p6 => if ¬ zw (p6 42 0 19) = 0 then f_X11_clause_j155 p6 else (f_X11_isSign 59 p6).bind fun p9 => if ¬ zw p9.1 = 0 then f_X11_clause_j155 p9.2 else (f_X11_errs 1 p9.2).bind fun p10 => f_X11_clause_j155 p10) else (f_X11_opensFrame 1 N3).bind fun p13 => zlet (zput p13 42 0 28 1) fun M14 => some M14 := by
    rw [start2]
    unfold f_X11_clause_j73
    rw [hN1.ok, if_pos (by decide), n30, zw_nat (by omega), if_pos (by omega), zlt_, zput_k (by omega), n30, zw_nat (by omega), if_pos (by omega), zlt_, zix_nat (by omega), n31, zput_k (by omega), hN1.ords, a1]
    simp only [zbs]
    rw [e31, zw_id (z := tK B L i) (by omega) (by omega)]
  by_cases h4 : tK B L i < 4
  · rw [if_pos h4] at hr
    obtain ⟨N4, b1, b2, b3, b4⟩ := R_frame (f := 1) a2 (by decide)
    have hgo : rnS 1 M (zput N4 42 0 28 1) := go _ (by
      rw [start3, if_neg (by omega), b1]
      simp only [zbs, zlt_])
    have fr5 : frE M (zput N4 42 0 28 1) := fr3.trans ((b4 0).1.e.trans (frE.p42 (by omega)))
    have hb : bgnR B L (zput N4 42 0 28 1) 0 (i + 1) 0 e.length Cs.length (tK B L i) 1 [] [] [] X := ⟨b2.state, zput_eq _ _ _ _ _, by rw [zput_j (by omega), (b4 0).1.2 31 (by omega) (by omega) (by omega) (by omega)]; exact e31, ⟨by omega, fun z => by omega, fun z => by omega⟩, by decide, by omega, by rw [List.length_nil]; omega, by omega, (fun p hp => by cases hp), by decide, Nat.zero_le _, okP_nil, (fun _ _ _ p l z => by cases z), fun _ => rfl⟩
    cases hz : zD (tK B L) (tV B L) (tK B L i) n 0 0 (i + 1) e.length with
    | none => rw [hz] at hr; cases hr
    | some rz =>
      rw [hz] at hr
      have hd := (R_desc (nl := Cs.length) hend hm (by omega) (show 0 ≤ tK B L i ∧ tK B L i ≤ 3 by omega) n 0 0 (i + 1) e.length rz hz 0 _ 1 [] [] [] X (fun z => by omega) (fun _ => rfl) (by omega) hb).2.2 (by omega) (by omega) (by omega)
      have hbd := zD_bd hend n 0 0 (i + 1) e.length _ (by omega) hz
      cases rz with
      | inl q =>
        cases hr
        obtain ⟨k, M', c1, c2, c3, c4, c5⟩ := hd
        obtain ⟨-, g2, g3⟩ := hbd
        have cf : cFT 0 = 2 := rfl
        exact ⟨1 + k, M', hgo.trans c1, c2, fr5.trans c3.e, by omega⟩
      | inr q =>
        obtain ⟨i1, c1⟩ := q
        dsimp only at hr
        obtain ⟨g1, g2, g3, g4⟩ := hbd
        dsimp only at g1 g2 g3 g4
        have g3 := (g3 (by omega)).1
        obtain ⟨k, M2, P2, X2, d1, d2, d3, d4, d5, d6, d7, d8, d9⟩ := hd
        dsimp only at d3 d4 d9
        have ne := (zD_end n 0 0 (i + 1) e.length i1 c1 hz).2.2.1 (Or.inl rfl)
        have sl0 : slT 0 = 2 := rfl
        have d4' : X2 ++ pops P2 = X ++ imL Cs.length c1 := by rw [d4]; show X ++ [] ++ _ = _; rw [List.append_nil]
        have hl2 : X2.length + P2.length = X.length + c1.length := by
          have e1 := congrArg List.length d4'
          rw [List.length_append, List.length_append, pops_len, imL_len] at e1
          exact e1
        have e2 : f_X11_goesOn M2 = f_X11_goesOn_j65 1 M2 := goes_no d3 (by decide) ne
        have d7' : wtB 40 P2 := d7.le (by decide)
        by_cases h38 : tK B L i1 = 38
        · rw [if_pos h38] at hr
          cases hr
          obtain ⟨M3, p1, p2, p3, p4, p5, p6⟩ := R_clOver d3 (by decide) (d5.mono (by decide)) d7' (by omega) (by omega)
          have q2 : ∀ q, 59 ≤ q → q ≤ 63 → M3 q 0 = N3 q 0 := fun q q1 q3 => by rw [p6 q q1 q3, d8.1.1 q 0 (by omega) (by omega) (by omega) (by omega), zput_rowk (by omega), (b4 0).1.1 q 0 (by omega) (by omega) (by omega) (by omega)]
          refine ⟨1 + k + 1, M3, (hgo.trans d1).trans (go_2 d3.ok d2 (by rw [e2, g_semi d3 h38]; exact p1)), ⟨?_, p3, ?_, fun j R hj => ?_, fun j R hj => ?_, ?_, ?_, ?_⟩, fr5.trans (d8.1.e.trans p5), by dsimp only; omega⟩
          · rw [d4'] at p2
            exact p2
          · rw [p4, d8.1.2 30 (by omega) (by omega) (by omega) (by omega), zput_j (by omega), (b4 0).1.2 30 (by omega) (by omega) (by omega) (by omega), e30, List.length_append, List.length_singleton]; omega
          · rw [q2 59 (by omega) (by omega), q2 60 (by omega) (by omega), q2 61 (by omega) (by omega), q2 62 (by omega) (by omega), q2 63 (by omega) (by omega)]
            rcases get_app hj with ⟨hj1, hj2⟩ | ⟨hj1, rfl⟩
            · rw [eq3 59 (by omega) (by omega) j (by omega), eq3 60 (by omega) (by omega) j (by omega), eq3 61 (by omega) (by omega) j (by omega), eq3 62 (by omega) (by omega) j (by omega), eq3 63 (by omega) (by omega) j (by omega)]
              exact h.cls j R hj2
            · subst hj1
              exact ⟨e59, fun _ => e60, fun z => by dsimp only at z; omega, fun z => by dsimp only at z; omega, fun z => by dsimp only at z; omega⟩
          · rcases get_app hj with ⟨hj1, hj2⟩ | ⟨hj1, rfl⟩
            · exact h.rng j R hj2
            · exact ⟨by dsimp only; omega, by dsimp only; omega⟩
          · rw [List.length_append, List.length_singleton]; omega
          · unfold xN
            rw [List.length_append, List.length_append, List.length_append, List.length_append, imL_len, List.length_singleton, List.length_singleton]
            dsimp only
            omega
          · unfold xN
            rw [List.length_append, List.length_append, imL_len, List.length_singleton]
            dsimp only
            omega
        · rw [if_neg h38] at hr
          cases hr
          obtain ⟨M3, p1, p2, p3⟩ := g_bad d3 (Or.inr (Or.inr (Or.inr (Or.inr ⟨rfl, h38⟩))))
          exact ⟨1 + k + 1, M3, (hgo.trans d1).trans (go_2 d3.ok d2 (by rw [e2]; exact p1)), p2, fr5.trans (d8.1.e.trans p3.e), by omega⟩
  · rw [if_neg h4] at hr
    rw [if_pos (by omega)] at start3
    obtain ⟨N4, b1, b2, b3, b4, b5, b6, b7⟩ := R_deed (k := tK B L i) (n := Cs.length) h3 (by omega) e31 e30 a2
    rw [b1] at start3
    simp only [zbs] at start3
    have fr5 : frE M N4 := fr3.trans b3
    cases hd : dI (tK B L) (tV B L) (tK B L i) (i + 1) with
    | inl q =>
      rw [hd] at b2 hr
      cases hr
      have b2 : failR B L N4 q.1 q.2 := b2
      have hw : ¬ zw (N4 42 0 19) = 0 := by
        have := b2.2.1
        rw [b2.1, zw_id (by omega) (by omega)]
        omega
      refine ⟨1, N4, go _ ?_, b2, fr5, by omega⟩
      rw [start3, if_pos hw]
      unfold f_X11_clause_j155
      rw [if_pos hw]
    | inr j1 =>
      rw [hd] at b2 hr
      have b2 : stR B L N4 j1 0 [] [] X := b2
      have hj1 := (dI_ok hd).1
      rw [b2.ok, if_neg (nn_ zw_0), R_isS (v := 59) (kk := 38) b2.tok.2.1 (by omega) rfl] at start3
      simp only [zbs] at start3
      unfold f_X11_clause_j155 at start3
      by_cases h38 : tK B L j1 = 38
      · have ee : expI (tK B L) 38 j1 = .inr (j1 + 1) := if_pos h38
        have hr : (match expI (tK B L) 38 j1 with
          | .inl q => some (.inl q)
          | .inr j => some (.inr (j, (tK B L i, tV B L (i + 1), tV B L (i + 3), tV B L (i + 5), 0, 0, 0), []))) = some r := hr
        rw [ee] at hr
        cases hr
        obtain ⟨v1, v2, v3⟩ := b7 j1 hd
        obtain ⟨M3, p1, p2, p3, p4, p5, p6⟩ := R_clOver (P := []) b2 (by decide) okP_nil (fun p hp => by cases hp) (by decide) (by
          rw [List.length_nil]
          omega)
        have q2 : ∀ q, 59 ≤ q → q ≤ 63 → M3 q 0 = N4 q 0 := p6
        refine ⟨1, M3, go _ ?_, ⟨?_, p3, ?_, fun j R hj => ?_, fun j R hj => ?_, ?_, ?_, ?_⟩, fr5.trans p5, by dsimp only; omega⟩
        · rw [start3, if_pos h38, if_pos zw_1n, b2.ok, if_neg (nn_ zw_0), p1]
          exact zbs _ _
        · exact p2
        · rw [p4, b6, List.length_append, List.length_singleton]; omega
        · rw [q2 59 (by omega) (by omega), q2 60 (by omega) (by omega), q2 61 (by omega) (by omega), q2 62 (by omega) (by omega), q2 63 (by omega) (by omega)]
          rcases get_app hj with ⟨hj1', hj2⟩ | ⟨hj1', rfl⟩
          · rw [b4 59 (by omega) (by omega) j (by omega), b4 60 (by omega) (by omega) j (by omega), b4 61 (by omega) (by omega) j (by omega), b4 62 (by omega) (by omega) j (by omega), b4 63 (by omega) (by omega) j (by omega), eq3 59 (by omega) (by omega) j (by omega), eq3 60 (by omega) (by omega) j (by omega), eq3 61 (by omega) (by omega) j (by omega), eq3 62 (by omega) (by omega) j (by omega), eq3 63 (by omega) (by omega) j (by omega)]
            exact h.cls j R hj2
          · subst hj1'
            rw [b5.1]
            exact ⟨e59, fun z => by dsimp only at z; omega, fun _ => v1, fun z => v2 z, fun z => v3 z⟩
        · rcases get_app hj with ⟨hj1', hj2⟩ | ⟨hj1', rfl⟩
          · exact h.rng j R hj2
          · exact ⟨by dsimp only; omega, by dsimp only; omega⟩
        · rw [List.length_append, List.length_singleton]; omega
        · unfold xN
          rw [List.length_append, List.length_append, List.length_append, List.length_append, imL_len, List.length_singleton, List.length_singleton]
          dsimp only
          rw [List.length_nil]
          omega
        · unfold xN
          rw [List.length_append, List.length_append, imL_len, List.length_singleton]
          dsimp only
          rw [List.length_nil]
          omega
      · have ee : expI (tK B L) 38 j1 = .inl (1, j1) := if_neg h38
        have hr : (match expI (tK B L) 38 j1 with
          | .inl q => some (.inl q)
          | .inr j => some (.inr (j, (tK B L i, tV B L (i + 1), tV B L (i + 3), tV B L (i + 5), 0, 0, 0), []))) = some r := hr
        rw [ee] at hr
        cases hr
        obtain ⟨M3, p1, p2, p3⟩ := R_err (w := 1) b2 (by omega)
        refine ⟨1, M3, go _ ?_, p2, fr5.trans p3.e, by omega⟩
        rw [start3, if_neg h38, if_neg (nn_ zw_0), p1]
        simp only [zbs]
        rw [p2.1, if_pos (by decide)]
def outRx (B : Nat → Int) (L m : Nat) (M : zM) (r : (Int × Nat) ⊕ (zCs × zCd × zCd)) : Prop := match r with
  | .inl q => failR B L M q.1 q.2
  | .inr q => ∃ i', i' ≤ m ∧ clsR B L M i' q.1 q.2.1 q.2.2
set_option maxRecDepth 8000 in
set_option maxHeartbeats 2000000 in
theorem R_clauses {m d : Nat} (hend : ∀ i, m ≤ i → tK B L i = 40) (hm : m ≤ 300) : ∀ (n i : Nat) (Cs : zCs) (e X : zCd) (r : (Int × Nat) ⊕ (zCs × zCd × zCd)) (M : zM), txS (tK B L) (tV B L) d n i Cs e X = some r → clsR B L M i Cs e X → i ≤ m → ∃ k M', rnS k M M' ∧ f_X11_text_L74 M' = some (.inr M') ∧ outRx B L m M' r ∧ frE M M' ∧ k ≤ 3 * (m - i) + 5 := by
  intro n
  induction n with
  | zero => intro i Cs e X r M h; cases h
  | succ n ih =>
    intro i Cs e X r M h hc hi
    unfold txS at h
    by_cases h40 : tK B L i = 40
    · rw [if_pos h40] at h
      cases h
      have h17 : M 42 0 17 = 0 := by
        rcases hc.st.tok.2.1 with ⟨a, b⟩ | ⟨a, b, -⟩ | ⟨a, b, -⟩ | ⟨a, b, -⟩ | ⟨a, b | ⟨b, -⟩⟩ <;> omega
      refine ⟨0, M, rnS.rfl_, ?_, ⟨i, hi, hc⟩, frE.rfl_, Nat.zero_le _⟩
      unfold f_X11_text_L74
      rw [hc.st.ok, if_neg (nn_ zw_0), hc.s4, if_neg (nn_ (by decide)), h17, if_pos zw_0]
    · rw [if_neg h40] at h
      cases hr : clS (tK B L) (tV B L) d i Cs e X with
      | none => rw [hr] at h; cases h
      | some rc =>
        rw [hr] at h
        have ho := R_clause hend hm hi hc h40 hr
        cases rc with
        | inl q =>
          cases h
          obtain ⟨k, M1, a1, a2, a3, a4⟩ := ho
          refine ⟨k, M1, a1, ?_, a2, a3, a4⟩
          have := a2.2.1
          unfold f_X11_text_L74
          rw [a2.1, if_pos (by rw [zw_id (by omega) (by omega)]; omega)]
        | inr q =>
          obtain ⟨k, M1, a1, a2, a3, a4⟩ := ho
          obtain ⟨g1, g2, -⟩ := clS_next hend hi hr
          obtain ⟨k2, M2, b1, b2, b3, b4, b5⟩ := ih q.1 _ _ _ r M1 h a2 g2
          exact ⟨k + k2, M2, a1.trans b1, b2, b3, a3.trans b4, by omega⟩
end ZTXU
