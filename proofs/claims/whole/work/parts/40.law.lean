theorem lw_D {args : Array Value} {s : State} (hts : ∀ w ∈ lw_tbl, w.before args s = true) : ∃ D : va_G, ∀ (c : Nat) (q : vw_C), vwCl[c]? = some q → u_Kn s q.1 q.2.1 q.2.2 (D.1 c) (D.2 c) := by
  have hi : (List.range 12).all (fun c => match vwCl[c]? with
    | some (C, _, N) => decide (zwat (zciW.getD c (0, 0)).1 = some (.instantiable C N))
    | none => false) = true := by decide +kernel
  have h0 : ∀ c : Nat, ∃ q : ClassId × (Nat → Nat), ∀ r : vw_C, vwCl[c]? = some r → u_Kn s r.1 r.2.1 r.2.2 q.1 q.2 := by
    intro c
    cases hc : vwCl[c]? with
    | none => exact ⟨(0, fun _ => 0), fun r h => by cases h⟩
    | some r =>
      obtain ⟨C, T, N⟩ := r
      have h1 := List.all_eq_true.mp hi c (List.mem_range.mpr (zcl_lt hc))
      simp only [hc] at h1
      obtain ⟨cC, iS, hk⟩ := u_known (ws := lw_tbl) (T := T) hts (fun w hw => (List.mem_filter.mp (zcl_in hc w hw)).1) (hts _ (zwat_mem (of_decide_eq_true h1)))
      exact ⟨(cC, iS), fun r h => by cases h; exact hk⟩
  obtain ⟨f, hf⟩ := Classical.axiomOfChoice h0
  exact ⟨(fun c => (f c).1, fun c => (f c).2), fun c q h => hf c q h⟩
theorem lw_prim {args : Array Value} {s : State} {ty : FieldType} (h : (Cond.arrayClass ty).before args s = true) (hr : ∀ C, ty ≠ .object C) : ∃ c : ClassId, ArrOfT s c ty ∧ va_RA s c ty := by
  obtain ⟨c, k, comp, h1, h2, h3⟩ := Cond.arrayClass_spec h
  refine ⟨c, fun n z => ⟨(fun _ h => by cases h), k, h2, comp, h3⟩, ?_⟩
  unfold va_RA
  split
  · rename_i C; exact absurd rfl (hr C)
  · exact h1
theorem lw_obj {args : Array Value} {s : State} {C : String} (h : (Cond.arrayOver (.object C)).before args s = true) : ∃ c : ClassId, ArrOfT s c (.object C) ∧ va_RA s c (.object C) := by
  obtain ⟨comp, c, k, h1, -, h3, h4, h5⟩ := Cond.arrayOver_spec h
  exact ⟨c, fun n z => ⟨(fun _ h => by cases h), k, h3, comp, h4⟩, k, comp, h3, h4, h1, h5⟩
theorem lw_arr {args : Array Value} {s : State} (h : (Cond.arrayOver (.array .int)).before args s = true) : ∃ c : ClassId, ArrOfT s c (.array .int) ∧ va_RA s c (.array .int) := by
  obtain ⟨comp, c, k, h1, h3, h4, h5⟩ := Cond.arrayOver_specA h
  exact ⟨c, fun n z => ⟨(fun _ h => by cases h), k, h3, comp, h4⟩, h5⟩
theorem lw_wd : (decide (zwat 1084 = some (.arrayClass .int)) && decide (zwat 4060 = some (.arrayClass .byte)) && decide (zwat 2030 = some (.arrayClass .boolean)) && decide (zwat 5182 = some (.arrayClass .long)) && decide (zwat 1029 = some (.arrayOver (.object "ThanksByPost$Text"))) && decide (zwat 1106 = some (.arrayOver (.object "ThanksByPost$Thing"))) && decide (zwat 1212 = some (.arrayOver (.array .int)))) = true := by decide +kernel
theorem lw_K {args : Array Value} {s : State} (hts : ∀ w ∈ lw_tbl, w.before args s = true) : ∃ (D : va_G) (cA : Nat → ClassId), cK D cA s := by
  obtain ⟨D, hD⟩ := lw_D hts
  have hw := lw_wd
  simp only [Bool.and_eq_true, decide_eq_true_eq] at hw
  obtain ⟨⟨⟨⟨⟨⟨w0, w1⟩, w2⟩, w3⟩, w4⟩, w5⟩, w6⟩ := hw
  obtain ⟨c0, h0⟩ := lw_prim (hts _ (zwat_mem w0)) (fun C h => by cases h)
  obtain ⟨c1, h1⟩ := lw_prim (hts _ (zwat_mem w1)) (fun C h => by cases h)
  obtain ⟨c2, h2⟩ := lw_prim (hts _ (zwat_mem w2)) (fun C h => by cases h)
  obtain ⟨c3, h3⟩ := lw_prim (hts _ (zwat_mem w3)) (fun C h => by cases h)
  obtain ⟨c4, h4⟩ := lw_obj (hts _ (zwat_mem w4))
  obtain ⟨c5, h5⟩ := lw_obj (hts _ (zwat_mem w5))
  obtain ⟨c6, h6⟩ := lw_arr (hts _ (zwat_mem w6))
  refine ⟨D, fun k => [c0, c1, c2, c3, c4, c5, c6].getD k 0, ⟨hD, fun k q hk => ?_⟩, fun w hw => ?_, va_AO.of (hts _ (zwat_mem w4)), va_AO.of (hts _ (zwat_mem w5)), hts _ (zwat_mem w6)⟩
  · match k, hk with
    | 0, hk => cases hk; exact h0
    | 1, hk => cases hk; exact h1
    | 2, hk => cases hk; exact h2
    | 3, hk => cases hk; exact h3
    | 4, hk => cases hk; exact h4
    | 5, hk => cases hk; exact h5
    | 6, hk => cases hk; exact h6
    | n + 7, hk => cases hk
  · have hz := List.all_eq_true.mp znest_ok w hw
    have hb := hts w (znest_in w hw)
    cases w with
    | fieldLinkNest a i b n d h' => exact va_Nw.of rfl hb
    | methodLinkNest a i x h' => exact va_Nw.of rfl hb
    | _ => cases hz
def nwR : List Nat := [3144, 3197, 3198, 3199, 3200, 3201, 3202, 3203, 3204, 3205, 3206, 3207, 3208, 3209, 3210, 3211, 3212, 3213, 3214, 3215, 3216, 3217, 3218, 3219, 3220]
theorem nwR_ok : (List.range 25).all (fun i => decide (zwat (nwR.getD i 0) = some (.stringRef RX4 (zcp.getD i 0) (zctx.getD i "")))) = true := by decide +kernel
theorem nwS_ok : (decide (zwat 3158 = some (.laysStatic "java/lang/String" "COMPACT_STRINGS" "Z")) && decide (zwat 1016 = some (.initialized "java/lang/String")) && decide (zwat 3174 = some (.laysStatic "jdk/internal/util/Preconditions" "SIOOBE_FORMATTER" "Ljava/util/function/BiFunction;")) && decide (zwat 1018 = some (.initialized "jdk/internal/util/Preconditions")) && decide (nwl[4]? = some (.eq (.static "java/lang/String" "COMPACT_STRINGS" "Z") (.int 1))) && decide (nwl[5]? = some (.isRef (.static "jdk/internal/util/Preconditions" "SIOOBE_FORMATTER" "Ljava/util/function/BiFunction;")))) = true := by decide +kernel
/-- the addresses: the world's places behind n0, then the String constants and their bytes -/
def nadr (n0 b : Nat) (adK adV : Nat → Nat) : Nat → Nat := fun q => if q < zNP then n0 + zpi.getD q 0 else if q < zNP + 25 then adK (q - zNP) else if q = zNP + 25 then b else adV (q - (zNP + 50))
theorem nadr_w {n0 b : Nat} {adK adV : Nat → Nat} (q : Nat) (h : q < zNP) : nadr n0 b adK adV q = n0 + zpi.getD q 0 := if_pos h
theorem nadr_k {n0 b : Nat} {adK adV : Nat → Nat} (i : Nat) (h : i < 25) : nadr n0 b adK adV (zNP + i) = adK i := by
  unfold nadr
  rw [if_neg (by omega), if_pos (by omega), Nat.add_sub_cancel_left]
theorem nadr_b {n0 b : Nat} {adK adV : Nat → Nat} : nadr n0 b adK adV (zNP + 25) = b := by
  unfold nadr
  rw [if_neg (by omega), if_neg (by omega), if_pos rfl]
theorem nadr_v {n0 b : Nat} {adK adV : Nat → Nat} (i : Nat) : nadr n0 b adK adV (zNP + (50 + i)) = adV i := by
  unfold nadr
  rw [if_neg (by omega), if_neg (by omega), if_neg (by omega), show zNP + (50 + i) - (zNP + 50) = i by omega]
theorem zpi_inj : (List.range zNP).all (fun i => (List.range zNP).all (fun j => Nat.beq i j || !(Nat.beq (zpi.getD i 0) (zpi.getD j 0)))) = true := by decide +kernel
theorem nadr_dj {n0 b : Nat} {adK adV : Nat → Nat} : zDj (nadr n0 b adK adV) := by
  intro i j hi hj h
  rw [nadr_w i hi, nadr_w j hj] at h
  have h1 := List.all_eq_true.mp (List.all_eq_true.mp zpi_inj i (List.mem_range.mpr hi)) j (List.mem_range.mpr hj)
  have h2 : zpi.getD i 0 = zpi.getD j 0 := by omega
  rw [h2, Nat.beq_refl] at h1
  simp only [Bool.not_true, Bool.or_false] at h1
  exact Nat.eq_of_beq_eq_true h1
theorem nw_X {args : Array Value} {s : State} (hts : ∀ w ∈ lw_tbl, w.before args s = true) (h : (Jvm.Cond.and given_1 narrow_1).before args s = true) (n0 b : Nat) {A : Nat → Prop} (hA : ∀ a : Nat, a < s.heap.size → ¬ A a) : ∃ adK adV : Nat → Nat, zX (nadr n0 b adK adV) A s s.heap := by
  obtain ⟨adK, adV, hS, hR⟩ := nw_str h hA
  have hf := flat_of_before _ h
  have hw := nwS_ok
  simp only [Bool.and_eq_true, decide_eq_true_eq] at hw
  obtain ⟨⟨⟨⟨⟨w0, w1⟩, w2⟩, w3⟩, w4⟩, w5⟩ := hw
  refine ⟨adK, adV, ?_, fun i hi => ?_, va_Zof (hts _ (zwat_mem w0)) (hts _ (zwat_mem w1)) (va_eqt (hf _ (List.mem_of_getElem? w4))) hA, va_Zqof (hts _ (zwat_mem w2)) (hts _ (zwat_mem w3)) (hf _ (List.mem_of_getElem? w5)) hA⟩
  · refine ⟨fun i hi => ?_, fun i j hi hj e => ?_⟩
    · have e1 := nadr_k (n0 := n0) (b := b) (adK := adK) (adV := adV) i hi
      have e2 := nadr_v (n0 := n0) (b := b) (adK := adK) (adV := adV) i
      dsimp only
      rw [e1, e2]
      exact hS.1 i hi
    · dsimp only at e
      rw [nadr_k i hi, nadr_k j hj] at e
      exact hS.2 i j hi hj e
  · rw [nadr_k i hi]
    have h1 := List.all_eq_true.mp nwR_ok i (List.mem_range.mpr hi)
    exact vk_R.of (hts _ (zwat_mem (of_decide_eq_true h1))) (hR i hi)
