/-! text: the class reads a text -/
set_option maxRecDepth 8000 in
set_option maxHeartbeats 2000000 in
theorem clS_next {K V : Nat → Int} {m n i : Nat} {Cs : zCs} {e X : zCd} {q : Nat × zCl × zCd} (hend : ∀ i, m ≤ i → K i = 40) (hi : i ≤ m) (h : clS K V n i Cs e X = some (.inr q)) : i < q.1 ∧ q.1 ≤ m ∧ Cs.length < 24 ∧ K i ≤ 10 ∧ ¬ (K i < 4 ∧ toldB Cs (K i) = true) ∧ q.2.1.1 = K i := by
  have lt : ∀ i, K i ≠ 40 → i < m := fun i h => Nat.lt_of_not_le (fun z => h (hend i z))
  unfold clS at h
  by_cases h1 : K i ≤ 10
  case neg => rw [if_pos h1] at h; cases h
  rw [if_neg (nn_ h1)] at h
  have hlt := lt i (by omega)
  by_cases h2 : K i < 4 ∧ toldB Cs (K i) = true
  · rw [if_pos h2] at h; cases h
  rw [if_neg h2] at h
  by_cases h3 : Cs.length < 24
  case neg => rw [if_pos h3] at h; cases h
  rw [if_neg (nn_ h3)] at h
  by_cases h4 : K i < 4
  · rw [if_pos h4] at h
    cases hz : zD K V (K i) n 0 0 (i + 1) e.length with
    | none => rw [hz] at h; cases h
    | some rz =>
      rw [hz] at h
      cases rz with
      | inl q => cases h
      | inr q =>
        dsimp only at h
        obtain ⟨g1, g2, g3, g4⟩ := zD_bd hend n 0 0 (i + 1) e.length _ (by omega) hz
        by_cases h5 : K q.1 = 38
        · rw [if_pos h5] at h
          cases h
          have := lt q.1 (by omega)
          exact ⟨by dsimp only; omega, by dsimp only; omega, h3, h1, h2, rfl⟩
        · rw [if_neg h5] at h; cases h
  · rw [if_neg h4] at h
    cases hq : sB (dI K V (K i) (i + 1)) (expI K 38) with
    | inl q => rw [hq] at h; cases h
    | inr j =>
      rw [hq] at h
      cases h
      obtain ⟨j1, o1, o2⟩ := sB_ok hq
      have hj := (dI_ok o1).1
      obtain ⟨ej, ek⟩ := expI_ok o2
      have := lt j1 (by omega)
      exact ⟨by dsimp only; omega, by dsimp only; omega, h3, h1, h2, rfl⟩
set_option maxRecDepth 8000 in
set_option maxHeartbeats 2000000 in
theorem txS_tot {K V : Nat → Int} {m : Nat} (hK : ∀ i, 0 ≤ K i) (hend : ∀ i, m ≤ i → K i = 40) (hm : m ≤ 300) : ∀ (n i : Nat) (Cs : zCs) (e X : zCd), Cs.length ≤ 24 → 25 ≤ n + Cs.length → i ≤ m → ∃ r, txS K V 4000 n i Cs e X = some r := by
  intro n
  induction n with
  | zero => intro i Cs e X h1 h2 _; omega
  | succ n ih =>
    intro i Cs e X h1 h2 hi
    unfold txS
    by_cases h40 : K i = 40
    · rw [if_pos h40]; exact ⟨_, rfl⟩
    · rw [if_neg h40]
      obtain ⟨r, hr⟩ := clS_tot (V := V) (Cs := Cs) (e := e) (X := X) hK hend hm hi
      rw [hr]
      cases r with
      | inl q => exact ⟨_, rfl⟩
      | inr q =>
        obtain ⟨g1, g2, g3, -⟩ := clS_next hend hi hr
        exact ih q.1 _ _ _ (by rw [List.length_append, List.length_singleton]; omega) (by rw [List.length_append, List.length_singleton]; omega) g2
def outCl (K V : Nat → Int) (Pl : Nat → Nat) (m x : Nat) (M : zM) (r : (Int × Nat) ⊕ (zCs × zCd × zCd)) : Prop := match r with
  | .inl q => ddX Pl x M q.1 q.2
  | .inr q => ∃ law' i', clsX K V Pl m x law' M i' q.1 q.2.1
set_option maxRecDepth 8000 in
set_option maxHeartbeats 2000000 in
theorem X_clauses {K V : Nat → Int} {Pl : Nat → Nat} {m x d : Nat} (ht : tkOK K V Pl m) (hx : x < 4) : ∀ (n i : Nat) (Cs : zCs) (e X : zCd) (r : (Int × Nat) ⊕ (zCs × zCd × zCd)) (law : Int) (M : zM), txS K V d n i Cs e X = some r → clsX K V Pl m x law M i Cs e → ∀ fuel, 30 ≤ fuel + Cs.length → ∃ M', zlp (fun s : Int × zM => f_X2_readInto_L36 s.1 s.2) fuel ((Cs.length : Int), M) = some M' ∧ outCl K V Pl m x M' r ∧ frD x M M' := by
  intro n
  induction n with
  | zero => intro i Cs e X r law M h; cases h
  | succ n ih =>
    intro i Cs e X r law M h hc fuel hfu
    have hc24 := hc.c24
    have hl := hc.lv
    have hK := ht.2.1 i
    unfold txS at h
    by_cases h40 : K i = 40
    · rw [if_pos h40] at h
      cases h
      refine ⟨M, zlp_z (by omega) ?_, ⟨law, i, hc⟩, frD.rfl_⟩
      dsimp only
      unfold f_X2_readInto_L36
      rw [zw_nat (by omega), if_neg (by omega), hl.2.2.2.1, if_neg (nn_ zw_0), hl.2.2.2.2.2.1, h40, if_pos (by decide)]
    · rw [if_neg h40] at h
      cases hr : clS K V d i Cs e X with
      | none => rw [hr] at h; cases h
      | some rc =>
        rw [hr] at h
        obtain ⟨M1, a1, a2, a3⟩ := X_clause ht hx hc hr
        have hstep : f_X2_readInto_L36 (Cs.length : Int) M = some (.inl ((Cs.length : Int) + 1, M1)) := by
          unfold f_X2_readInto_L36
          rw [zw_nat (by omega), if_neg (by omega), hl.2.2.2.1, if_neg (nn_ zw_0), hl.2.2.2.2.2.1, zw_id (z := K i) (by omega) (by omega), if_neg h40, a1]
          exact zbs _ _
        cases rc with
        | inl q =>
          cases h
          have a2 : ddX Pl x M1 q.1 q.2 := a2
          obtain ⟨fu, rfl⟩ : ∃ fu, fuel = fu + 2 := ⟨fuel - 2, by omega⟩
          refine ⟨M1, zlp_inl hstep (zlp_inr ?_), a2, a3⟩
          dsimp only
          unfold f_X2_readInto_L36
          obtain ⟨⟨w1, w2, w3⟩, -⟩ := a2
          by_cases h24 : 24 < zw ((Cs.length : Int) + 1)
          · rw [if_pos h24]
          · rw [if_neg h24, w1, if_pos (by rw [zw_id (by omega) (by omega)]; omega)]
        | inr q =>
          obtain ⟨law', hc1⟩ := a2
          obtain ⟨fu, rfl⟩ : ∃ fu, fuel = fu + 1 := ⟨fuel - 1, by omega⟩
          have hlen : (Cs ++ [q.2.1]).length = Cs.length + 1 := by rw [List.length_append, List.length_singleton]
          obtain ⟨M2, b1, b2, b3⟩ := ih q.1 _ _ _ r law' M1 h hc1 fu (by rw [hlen]; omega)
          rw [hlen] at b1
          exact ⟨M2, zlp_inl hstep b1, b2, a3.trans b3⟩
set_option maxRecDepth 8000 in
set_option maxHeartbeats 2000000 in
theorem X_empty {x : Nat} {M : zM} : ∃ M', f_X7_empty x M = some M' ∧ (∀ k, k < 4 → M' 7 x k = -1) ∧ M' 2 x 8 = 0 ∧ M' 2 x 9 = 0 ∧ ∀ k i, ¬ (2 ≤ k ∧ k ≤ 10 ∧ i = x) → M' k i = M k i := by
  have key7 : ∀ N : zM, ∃ N', f_J7_fill_53178 x (-1) N = some N' ∧ (∀ k, k < 4 → N' 7 x k = -1) ∧ ∀ k i, ¬ (k = 7 ∧ i = x) → N' k i = N k i := by
    intro N
    have key := zT_for (body := fun s : Int × zM => f_J7_fill_53178_L5 x (-1) 4 s.1 s.2) (fun i s => s.1 = (i : Int) ∧ (∀ k, k < i → s.2 7 x k = -1) ∧ ∀ k i, ¬ (k = 7 ∧ i = x) → s.2 k i = N k i) 4 (Q := fun N' => (∀ k, k < 4 → N' 7 x k = -1) ∧ ∀ k i, ¬ (k = 7 ∧ i = x) → N' k i = N k i) ?_ (m := zF) (by unfold zF; omega) (s := (0, N)) ⟨rfl, fun k hk => by omega, fun _ _ _ => rfl⟩
    · obtain ⟨N', k1, k2, k3⟩ := key
      refine ⟨N', ?_, k2, k3⟩
      unfold f_J7_fill_53178
      rw [k1]
      exact zbs _ _
    · rintro i ⟨v, s⟩ hi ⟨g1, g2, g3⟩
      dsimp only at g1 g2 g3
      subst g1
      dsimp only
      unfold f_J7_fill_53178_L5
      rw [zw_id (z := 4) (by omega) (by omega), zw_nat (by omega), zix_nat (by omega)]
      by_cases h4 : i = 4
      · rw [if_pos (by omega)]
        exact zT_some (Or.inr ⟨_, rfl, fun k hk => g2 k (by omega), g3⟩)
      · rw [if_neg (by omega), if_pos (by omega), zlt_]
        refine zT_some (Or.inl ⟨_, rfl, by omega, by dsimp only; omega, fun k hk => ?_, fun k i' hk => by dsimp only; rw [zput_rowk (by omega)]; exact g3 k i' hk⟩)
        by_cases hki : k = i
        · dsimp only; rw [hki, zput_eq]
        · dsimp only; rw [zput_j hki]; exact g2 k (by omega)
  have key8 : ∀ N : zM, ∃ N', f_J7_fill_53178_8 x (-1) N = some N' ∧ ∀ k i, ¬ (k = 8 ∧ i = x) → N' k i = N k i := by
    intro N
    have key := zT_for (body := fun s : Int × zM => f_J7_fill_53178_8_L5 x (-1) 4 s.1 s.2) (fun i s => s.1 = (i : Int) ∧ ∀ k i, ¬ (k = 8 ∧ i = x) → s.2 k i = N k i) 4 (Q := fun N' => ∀ k i, ¬ (k = 8 ∧ i = x) → N' k i = N k i) ?_ (m := zF) (by unfold zF; omega) (s := (0, N)) ⟨rfl, fun _ _ _ => rfl⟩
    · obtain ⟨N', k1, k3⟩ := key
      refine ⟨N', ?_, k3⟩
      unfold f_J7_fill_53178_8
      rw [k1]
      exact zbs _ _
    · rintro i ⟨v, s⟩ hi ⟨g1, g3⟩
      dsimp only at g1 g3
      subst g1
      dsimp only
      unfold f_J7_fill_53178_8_L5
      rw [zw_id (z := 4) (by omega) (by omega), zw_nat (by omega), zix_nat (by omega)]
      by_cases h4 : i = 4
      · rw [if_pos (by omega)]
        exact zT_some (Or.inr ⟨_, rfl, g3⟩)
      · rw [if_neg (by omega), if_pos (by omega), zlt_]
        exact zT_some (Or.inl ⟨_, rfl, by omega, by dsimp only; omega, fun k i' hk => by dsimp only; rw [zput_rowk (by omega)]; exact g3 k i' hk⟩)
  obtain ⟨N1, a1, a2, a3⟩ := key7 M
  obtain ⟨N2, b1, b2⟩ := key8 N1
  refine ⟨zput (zput N2 2 x 8 0) 2 x 9 0, ?_, fun k hk => ?_, ?_, zput_eq _ _ _ _ _, fun k i hk => ?_⟩
  · unfold f_X7_empty
    rw [a1]
    simp only [zbs]
    rw [b1]
    simp only [zbs, zlt_]
  · rw [zput_k (by omega), zput_k (by omega), b2 7 x (by omega)]; exact a2 k hk
  · rw [zput_j (by omega), zput_eq]
  · rw [zput_rowk (by omega), zput_rowk (by omega), b2 k i (by omega), a3 k i (by omega)]
set_option maxRecDepth 8000 in
set_option maxHeartbeats 2000000 in
theorem tkOK_of {B : Nat → Int} {L n : Nat} (h3 : L ≤ 300) (hb : ∀ i, i < L → 0 ≤ B i ∧ B i ≤ 255) (hn : tN B L n) : tkOK (tK B L) (tV B L) (tPl B L) n := by
  obtain ⟨n1, n2, n3⟩ := hn
  have hstop : ∀ d, tPl B L (n + d) = L := by
    intro d
    induction d with
    | zero => exact n2
    | succ d ih => exact tPl_stop ih
  refine ⟨by omega, fun i => ⟨(tK_le i).1, (tK_le i).2.1⟩, fun i hi => ?_, fun i hi => ?_, fun i => by have := (tPl_spec (B := B) (L := L) i).2; omega⟩
  · obtain ⟨d, rfl⟩ : ∃ d, i = n + d := ⟨i - n, by omega⟩
    exact (tK_le _).2.2.mpr (hstop d)
  · have hlt : tPl B L i < L := by
      have := (tPl_spec (B := B) (L := L) i).2
      have h40 : tPl B L i ≠ L := fun z => by
        have := (tK_le (B := B) (L := L) i).2.2.mpr z
        omega
      omega
    have hk : tKind B L (tPl B L i) = 25 := by
      unfold tK at hi
      rw [if_pos hlt] at hi
      exact hi
    have hdg : isDg (B (tPl B L i)) = true := by
      unfold tKind at hk
      by_cases hl : isLt (B (tPl B L i)) = true
      · rw [if_pos hl] at hk
        have := wkF_le (B := B) (a := tPl B L i) (e := skE isLt B L (tPl B L i + 1)) 25 0 rfl
        omega
      · rw [if_neg hl] at hk
        by_cases hd : isDg (B (tPl B L i)) = true
        · exact hd
        · rw [if_neg hd] at hk
          have := mk_le (B (tPl B L i)) (tBe B L (tPl B L i))
          exfalso
          unfold mk at hk
          (repeat' split at hk) <;> omega
    unfold tV tVal
    obtain ⟨s1, s2, s3, -⟩ := skE_spec (p := isDg) (B := B) (L := L) (a := tPl B L i + 1) (by omega)
    refine nV_le _ (fun j hj => ?_)
    have hq : isDg (B (tPl B L i + j)) = true := by
      by_cases h0 : j = 0
      · rw [h0]; exact hdg
      · exact s3 (tPl B L i + j) (by omega) (by omega)
    unfold isDg at hq
    exact of_decide_eq_true hq
/-- what reading a text leaves in the class -/
def outTx (B : Nat → Int) (L n x : Nat) (M : zM) (r : (Int × Nat) ⊕ (zCs × zCd × zCd)) : Prop := match r with
  | .inl q => M 37 0 4 = q.1 ∧ (1 ≤ q.1 ∧ q.1 ≤ 6) ∧ M 37 0 5 = tPl B L q.2
  | .inr q => (M 37 0 4 = 0 ∧ M 37 0 5 = -1) ∧ ∃ law' i', clsX (tK B L) (tV B L) (tPl B L) n x law' M i' q.1 q.2.1
set_option maxRecDepth 8000 in
set_option maxHeartbeats 2000000 in
theorem X_readInto {M : zM} {B : Nat → Int} {L x : Nat} (hx : x < 4) (hB : M 36 0 = B) (hL : M 35 0 1 = L) (h3 : L ≤ 300) (hb : ∀ i, i < L → 0 ≤ B i ∧ B i ≤ 255) : ∃ (M' : zM) (n : Nat) (r : (Int × Nat) ⊕ (zCs × zCd × zCd)), f_X2_readInto x M = some (match r with | .inl _ => 0 | .inr _ => 1, M') ∧ tN B L n ∧ txS (tK B L) (tV B L) 4000 25 0 [] [] [] = some r ∧ outTx B L n x M' r ∧ M' 37 0 3 = 1 ∧ ∀ k i, ¬ (37 ≤ k ∧ k ≤ 41) → ¬ (2 ≤ k ∧ k ≤ 10 ∧ i = x) → M' k i = M k i := by
  generalize hM4 : zput (zput (zput (zput M 37 0 3 1) 37 0 4 0) 37 0 5 (-1)) 37 0 1 (x : Int) = M4
  have f4 : ∀ k i, k ≠ 37 → M4 k i = M k i := fun k i hk => by rw [← hM4, zput_rowk (by omega), zput_rowk (by omega), zput_rowk (by omega), zput_rowk (by omega)]
  have c1 : M4 37 0 1 = x := by rw [← hM4, zput_eq]
  have c5 : M4 37 0 5 = -1 := by rw [← hM4, zput_j (by omega), zput_eq]
  have c4 : M4 37 0 4 = 0 := by rw [← hM4, zput_j (by omega), zput_j (by omega), zput_eq]
  have c3 : M4 37 0 3 = 1 := by rw [← hM4, zput_j (by omega), zput_j (by omega), zput_j (by omega), zput_eq]
  obtain ⟨M5, a1, a2, a3, a4, a5⟩ := X_empty (x := x) (M := M4)
  obtain ⟨M6, n, b1, b2, b3, b4, b5, b6⟩ := X_find (M := M5) (B := B) (L := L) (by rw [a5 36 0 (by omega), f4 36 0 (by omega)]; exact hB) (by rw [a5 35 0 (by omega), f4 35 0 (by omega)]; exact hL) h3 hb
  have ht := tkOK_of h3 hb b2
  have d37 : M6 37 0 = M4 37 0 := by rw [b6 37 0 (by omega), a5 37 0 (by omega)]
  have hl : lvX (tK B L) (tV B L) (tPl B L) n x (M6 37 0 2) M6 0 [] := ⟨b3, by rw [d37]; exact c1, rfl, by rw [d37]; exact c4, b4, b5, Nat.zero_le _, by rw [b6 2 x (by omega)]; exact a4, Nat.zero_le _, trivial⟩
  have hc : clsX (tK B L) (tV B L) (tPl B L) n x (M6 37 0 2) M6 0 [] [] := ⟨hl, by rw [b6 2 x (by omega)]; exact a3, (fun j R z => by cases z), (fun j R z => by cases z), (fun k hk _ => by rw [b6 7 x (by omega)]; exact a2 k hk), (fun j R z => by cases z), Nat.le_refl _, Nat.zero_le _, (fun j R z => by cases z)⟩
  obtain ⟨r, hr⟩ := txS_tot (V := tV B L) (fun i => (ht.2.1 i).1) ht.2.2.1 ht.1 25 0 [] [] [] (Nat.zero_le _) (by decide) (Nat.zero_le _)
  obtain ⟨M7, e1, e2, e3⟩ := X_clauses ht hx 25 0 [] [] [] r _ M6 hr hc zF (by unfold zF; omega)
  have hfr : ∀ k i, ¬ (37 ≤ k ∧ k ≤ 41) → ¬ (2 ≤ k ∧ k ≤ 10 ∧ i = x) → M7 k i = M k i := fun k i h1 h2 => by
    rw [e3.1 k i (by omega) (by omega) h2, b6 k i (by omega), a5 k i h2, f4 k i (by omega)]
  have h373 : M7 37 0 3 = 1 := by rw [e3.2.1 3 (by omega) (by omega) (by omega), d37]; exact c3
  refine ⟨M7, n, r, ?_, b2, hr, ?_, h373, hfr⟩
  · unfold f_X2_readInto
    rw [zlt_, zlt_, zlt_, zlt_, hM4, c1, Int.toNat_natCast, if_pos (by omega), a1]
    simp only [zbs]
    rw [b1]
    simp only [zbs]
    rw [show (0 : Int) = (([] : zCs).length : Int) from rfl, e1]
    simp only [zbs]
    unfold f_X2_readInto_j71
    cases r with
    | inl q =>
      obtain ⟨⟨w1, w2, w3⟩, -⟩ := e2
      rw [w1, if_pos (by rw [zw_id (by omega) (by omega)]; omega)]
      rfl
    | inr q =>
      obtain ⟨law', i', hc'⟩ := e2
      rw [hc'.lv.2.2.2.1, if_neg (nn_ zw_0)]
  · cases r with
    | inl q =>
      obtain ⟨⟨w1, w2, w3⟩, w4, -⟩ := e2
      exact ⟨w1, ⟨w2, w3⟩, w4⟩
    | inr q =>
      obtain ⟨law', i', hc'⟩ := e2
      have h4 := hc'.lv.2.2.2.1
      refine ⟨⟨h4, ?_⟩, law', i', hc'⟩
      rw [(e3.2.2 h4).1, d37]
      exact c5
