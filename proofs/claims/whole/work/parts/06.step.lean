theorem z_i2l (a : Int) : (Int32.ofInt a).toInt64 = Int64.ofInt (Int32.ofInt a).toInt := by
  rw [← Int64.toInt_inj, Int32.toInt_toInt64, Int64.toInt_ofInt_of_le (by have := Int32.le_toInt (Int32.ofInt a); omega) (by have := Int32.toInt_lt (Int32.ofInt a); omega)]
theorem z_l2i (a : Int) : (Int64.ofInt a).toInt32 = Int32.ofInt a := by
  rw [← Int32.toInt_inj, Int64.toInt_toInt32, Int64.toInt_ofInt, Int32.toInt_ofInt]
  exact Int.bmod_bmod_of_dvd (by decide)
theorem z_i2b (a : Int) : (Int32.ofInt a).toInt8.toInt32 = Int32.ofInt (Int.bmod a 256) := by
  rw [← Int32.toInt_inj, Int8.toInt_toInt32, Int32.toInt_toInt8, Int32.toInt_ofInt, Int32.toInt_ofInt]
  rw [show Int.bmod (Int.bmod a Int32.size) (2 ^ 8) = Int.bmod a 256 from Int.bmod_bmod_of_dvd (by decide)]
  have h1 : -128 ≤ Int.bmod a 256 := Int.le_bmod (by decide)
  have h2 : Int.bmod a 256 < 128 := Int.bmod_lt (by decide)
  exact (Int.bmod_eq_of_le (by show -(2147483648 : Int) ≤ _; omega) (by show _ < (2147483648 : Int); omega)).symm
theorem z_ne {a b : Int} : ¬ Int32.ofInt a = Int32.ofInt b ↔ ¬ zw a = zw b := not_congr (z_eq a b)
theorem z_ge {a b : Int} : Int32.ofInt b ≤ Int32.ofInt a ↔ zw b ≤ zw a := z_le b a
theorem z_gt {a b : Int} : Int32.ofInt b < Int32.ofInt a ↔ zw b < zw a := z_lt b a
theorem z0_eq {a : Int} : Int32.ofInt a = 0 ↔ zw a = 0 := z_eq a 0
theorem z0_ne {a : Int} : ¬ Int32.ofInt a = 0 ↔ ¬ zw a = 0 := not_congr z0_eq
theorem z0_lt {a : Int} : Int32.ofInt a < 0 ↔ zw a < 0 := z_lt a 0
theorem z0_ge {a : Int} : 0 ≤ Int32.ofInt a ↔ 0 ≤ zw a := z_le 0 a
theorem z0_gt {a : Int} : 0 < Int32.ofInt a ↔ 0 < zw a := z_lt 0 a
theorem z0_le {a : Int} : Int32.ofInt a ≤ 0 ↔ zw a ≤ 0 := z_le a 0

def zinA : Instr → Bool
  | .iconst _ => true
  | .bipush _ => true
  | .sipush _ => true
  | .lconst _ => true
  | .ldc_w _ => true
  | .ldc2_w _ => true
  | .ldc _ => true
  | .iload _ => true
  | .lload _ => true
  | .iload_n _ => true
  | .lload_n _ => true
  | .aload _ => true
  | .aload_n _ => true
  | .istore _ => true
  | .istore_n _ => true
  | .lstore _ => true
  | .lstore_n _ => true
  | .astore _ => true
  | .astore_n _ => true
  | .iinc _ _ => true
  | _ => false
set_option maxHeartbeats 8000000 in
set_option maxRecDepth 20000 in
theorem zstep_A {p : Program} {l : Launch} {e : Env} {R : Room} {s : State} {m : MethodId} {args : Array Value} {below : List Frame} {meth : Method} {c : Code} {cells slots : Nat} {Q : State → Prop} {D : va_G} {cA : Nat → ClassId} {adr : Nat → Nat} {A : Nat → Prop} {own : String} {cc : ByteArray} {nL : Nat}
    (C : zCx p R s m args c cells slots D cA adr A own cc nL) {ins : Instr} {ln x y w : Nat} {z : Int} (hin : zinA ins = true) {pc : Nat} {lv : zL} {st : List zV} {M : zM} {cf' : zC} (hchk : zchk own cc pc (ins, ln, x, y, w, z) = true) (hst : zstep (ins, ln, x, y, w, z) pc lv st M = some cf') (h : zS p l e R s m args below meth c cells slots D cA adr A nL Q cf') : zS p l e R s m args below meth c cells slots D cA adr A nL Q (pc, lv, st, M) := by
  obtain ⟨hx, hb, hml, hown, hts, ⟨hKv, hNw, hX⟩, hDj, hAz, hR⟩ := C
  obtain ⟨hdg, hc2⟩ : decode cc pc = .ok (ins, zil ln ins) ∧ zchk2 own pc (ins, ln, x, y, w, z) = true := by
    unfold zchk at hchk
    rw [Bool.and_eq_true, decide_eq_true_eq] at hchk
    exact hchk
  intro H locs ls hP hS hlen hl hzl hzs
  dsimp only at hP hlen hl hzl hzs ⊢
  cases ins with
  | iconst n =>
    cases hst
    exact lv_iconst hx hb hdg rfl (h H locs ls hP hS hlen hl hzl (zsc trivial hzs))
  | bipush n =>
    cases hst
    exact lv_bipush hx hb hdg (of_decide_eq_true hc2) (h H locs ls hP hS hlen hl hzl (zsc trivial hzs))
  | sipush n =>
    cases hst
    exact lv_sipush hx hb hdg (of_decide_eq_true hc2) (h H locs ls hP hS hlen hl hzl (zsc trivial hzs))
  | lconst n =>
    cases hst
    exact lv_lconst hx hb hdg rfl (h H locs ls hP hS hlen hl hzl (zsc trivial hzs))
  | ldc_w i =>
    cases hst
    exact lv_ldcw hx hb hown (hts _ (zwat_in (of_decide_eq_true hc2) rfl)) hdg (h H locs ls hP hS hlen hl hzl (zsc trivial hzs))
  | ldc2_w i =>
    cases hst
    exact lv_ldc2 hx hb hown (hts _ (zwat_in (of_decide_eq_true hc2) rfl)) hdg (h H locs ls hP hS hlen hl hzl (zsc trivial hzs))
  | ldc i =>
    dsimp only [zstep] at hst
    dsimp only [zchk2] at hc2
    cases hy : Nat.beq y 0 with
    | true =>
      rw [hy] at hst hc2
      dsimp only [cond_true] at hst hc2
      cases hst
      exact lv_ldc hx hb hown (hts _ (zwat_in (of_decide_eq_true hc2) rfl)) hdg (h H locs ls hP hS hlen hl hzl (zsc trivial hzs))
    | false =>
      rw [hy] at hst hc2
      dsimp only [cond_false] at hst hc2
      cases hst
      simp only [Bool.and_eq_true, decide_eq_true_eq] at hc2
      obtain ⟨rfl, h25, h26⟩ := hc2
      have h27 := hX.2.1 x h25
      rw [h26] at h27
      exact va_ldcS hx hb hown h27 hdg (h H locs ls hP hS hlen hl hzl (zsc (Or.inr ⟨rfl, by omega⟩) hzs))
  | iload i =>
    dsimp only [zstep] at hst
    split at hst
    · rename_i a ha
      cases hst
      exact lv_iload hx hb hdg (zlv_at hl ha) (h H locs ls hP hS hlen hl hzl (zsc trivial hzs))
    · cases hst
  | lload i =>
    dsimp only [zstep] at hst
    split at hst
    · rename_i a ha
      cases hst
      exact lv_lload hx hb hdg (zlv_at hl ha) (h H locs ls hP hS hlen hl hzl (zsc trivial hzs))
    · cases hst
  | iload_n i =>
    dsimp only [zstep] at hst
    split at hst
    · rename_i a ha
      cases hst
      exact lv_iload_n hx hb hdg rfl (zlv_at hl ha) (h H locs ls hP hS hlen hl hzl (zsc trivial hzs))
    · cases hst
  | lload_n i =>
    dsimp only [zstep] at hst
    split at hst
    · rename_i a ha
      cases hst
      exact lv_lload_n hx hb hdg rfl (zlv_at hl ha) (h H locs ls hP hS hlen hl hzl (zsc trivial hzs))
    · cases hst
  | aload i =>
    dsimp only [zstep] at hst
    split at hst
    · rename_i k j ha
      cases hst
      exact lv_aload hx hb hdg (zlv_at hl ha) (h H locs ls hP hS hlen hl hzl (zsc (zlvok hzl ha) hzs))
    · cases hst
  | aload_n i =>
    dsimp only [zstep] at hst
    split at hst
    · rename_i k j ha
      cases hst
      exact lv_aload_n hx hb hdg rfl (zlv_at hl ha) (h H locs ls hP hS hlen hl hzl (zsc (zlvok hzl ha) hzs))
    · cases hst
  | istore i =>
    dsimp only [zstep] at hst
    split at hst
    · rename_i a r
      obtain ⟨hb1, hst⟩ := zcond hst rfl
      cases hst
      have hb2 := zNat_ble hb1
      refine lv_istore hx hb hdg hl (by omega) rfl (fun ls' hl' => ?_)
      exact h H locs ls' hP hS (by simp only [zst1_len]; exact hlen) (zlv_sub hl' zll_st1) (zst1_ok hzl trivial) (zs1 hzs)
    · cases hst
  | istore_n i =>
    dsimp only [zstep] at hst
    split at hst
    · rename_i a r
      obtain ⟨hb1, hst⟩ := zcond hst rfl
      cases hst
      have hb2 := zNat_ble hb1
      refine lv_istore_n hx hb hdg rfl hl (by omega) rfl (fun ls' hl' => ?_)
      exact h H locs ls' hP hS (by simp only [zst1_len]; exact hlen) (zlv_sub hl' zll_st1) (zst1_ok hzl trivial) (zs1 hzs)
    · cases hst
  | lstore i =>
    dsimp only [zstep] at hst
    split at hst
    · rename_i a r
      obtain ⟨hb1, hst⟩ := zcond hst rfl
      cases hst
      have hb2 := zNat_ble hb1
      refine lv_lstore hx hb hdg hl (by omega) rfl (fun ls' hl' => ?_)
      exact h H locs ls' hP hS (by simp only [zst2_len]; exact hlen) (zlv_sub hl' zll_st2) (zst2_ok hzl trivial) (zs1 hzs)
    · cases hst
  | lstore_n i =>
    dsimp only [zstep] at hst
    split at hst
    · rename_i a r
      obtain ⟨hb1, hst⟩ := zcond hst rfl
      cases hst
      have hb2 := zNat_ble hb1
      refine lv_lstore_n hx hb hdg rfl hl (by omega) rfl (fun ls' hl' => ?_)
      exact h H locs ls' hP hS (by simp only [zst2_len]; exact hlen) (zlv_sub hl' zll_st2) (zst2_ok hzl trivial) (zs1 hzs)
    · cases hst
  | astore i =>
    dsimp only [zstep] at hst
    split at hst
    · rename_i k j r
      obtain ⟨hb1, hst⟩ := zcond hst rfl
      cases hst
      have hb2 := zNat_ble hb1
      refine lv_astore hx hb hdg hl (by omega) rfl (fun ls' hl' => ?_)
      exact h H locs ls' hP hS (by simp only [zst1_len]; exact hlen) (zlv_sub hl' zll_st1) (zst1_ok hzl (zs0 hzs)) (zs1 hzs)
    · cases hst
  | astore_n i =>
    dsimp only [zstep] at hst
    split at hst
    · rename_i k j r
      obtain ⟨hb1, hst⟩ := zcond hst rfl
      cases hst
      have hb2 := zNat_ble hb1
      refine lv_astore_n hx hb hdg rfl hl (by omega) rfl (fun ls' hl' => ?_)
      exact h H locs ls' hP hS (by simp only [zst1_len]; exact hlen) (zlv_sub hl' zll_st1) (zst1_ok hzl (zs0 hzs)) (zs1 hzs)
    · cases hst
  | iinc i n =>
    dsimp only [zstep] at hst
    split at hst
    · rename_i a ha
      cases hst
      have hi : i < nL := by rw [← hlen]; exact (List.getElem?_eq_some_iff.mp ha).1
      obtain ⟨k, hk⟩ := List.getElem?_of_mem (zll_mem (adr := adr).mpr ⟨i, _, ha, rfl⟩)
      refine lv_iinc (v := Int32.ofInt (a + n)) hx hb hdg hl hk (Int32.ofInt_add a n).symm hi rfl (fun ls' hl' => ?_)
      exact h H locs ls' hP hS (by simp only [zst1_len]; exact hlen) (zlv_sub hl' zll_st1) (zst1_ok hzl trivial) hzs
    · cases hst
  | _ => cases hin
def zinB : Instr → Bool
  | .iadd => true
  | .isub => true
  | .imul => true
  | .ineg => true
  | .ladd => true
  | .lsub => true
  | .lmul => true
  | .lneg => true
  | .idiv => true
  | .irem => true
  | .ldiv => true
  | .lrem => true
  | .lcmp => true
  | .iand => true
  | .ior => true
  | .ishl => true
  | .ishr => true
  | .i2l => true
  | .l2i => true
  | .i2b => true
  | .dup => true
  | .dup2 => true
  | .pop => true
  | _ => false
set_option maxHeartbeats 8000000 in
set_option maxRecDepth 20000 in
theorem zstep_B {p : Program} {l : Launch} {e : Env} {R : Room} {s : State} {m : MethodId} {args : Array Value} {below : List Frame} {meth : Method} {c : Code} {cells slots : Nat} {Q : State → Prop} {D : va_G} {cA : Nat → ClassId} {adr : Nat → Nat} {A : Nat → Prop} {own : String} {cc : ByteArray} {nL : Nat}
    (C : zCx p R s m args c cells slots D cA adr A own cc nL) {ins : Instr} {ln x y w : Nat} {z : Int} (hin : zinB ins = true) {pc : Nat} {lv : zL} {st : List zV} {M : zM} {cf' : zC} (hchk : zchk own cc pc (ins, ln, x, y, w, z) = true) (hst : zstep (ins, ln, x, y, w, z) pc lv st M = some cf') (h : zS p l e R s m args below meth c cells slots D cA adr A nL Q cf') : zS p l e R s m args below meth c cells slots D cA adr A nL Q (pc, lv, st, M) := by
  obtain ⟨hx, hb, hml, hown, hts, ⟨hKv, hNw, hX⟩, hDj, hAz, hR⟩ := C
  obtain ⟨hdg, hc2⟩ : decode cc pc = .ok (ins, zil ln ins) ∧ zchk2 own pc (ins, ln, x, y, w, z) = true := by
    unfold zchk at hchk
    rw [Bool.and_eq_true, decide_eq_true_eq] at hchk
    exact hchk
  intro H locs ls hP hS hlen hl hzl hzs
  dsimp only at hP hlen hl hzl hzs ⊢
  cases ins with
  | iadd =>
    dsimp only [zstep] at hst
    split at hst
    · rename_i b a r
      cases hst
      refine lv_iadd hx hb hdg ?_
      rw [← Int32.ofInt_add]
      exact h H locs ls hP hS hlen hl hzl (zsc trivial (zs1 (zs1 hzs)))
    · cases hst
  | isub =>
    dsimp only [zstep] at hst
    split at hst
    · rename_i b a r
      cases hst
      refine lv_isub hx hb hdg ?_
      rw [← Int32.ofInt_sub]
      exact h H locs ls hP hS hlen hl hzl (zsc trivial (zs1 (zs1 hzs)))
    · cases hst
  | imul =>
    dsimp only [zstep] at hst
    split at hst
    · rename_i b a r
      cases hst
      refine lv_imul hx hb hdg ?_
      rw [← Int32.ofInt_mul]
      exact h H locs ls hP hS hlen hl hzl (zsc trivial (zs1 (zs1 hzs)))
    · cases hst
  | ineg =>
    dsimp only [zstep] at hst
    split at hst
    · rename_i a r
      cases hst
      refine lv_ineg hx hb hdg ?_
      rw [← Int32.ofInt_neg]
      exact h H locs ls hP hS hlen hl hzl (zsc trivial (zs1 hzs))
    · cases hst
  | ladd =>
    dsimp only [zstep] at hst
    split at hst
    · rename_i b a r
      cases hst
      refine lv_ladd hx hb hdg ?_
      rw [← Int64.ofInt_add]
      exact h H locs ls hP hS hlen hl hzl (zsc trivial (zs1 (zs1 hzs)))
    · cases hst
  | lsub =>
    dsimp only [zstep] at hst
    split at hst
    · rename_i b a r
      cases hst
      refine lv_lsub hx hb hdg ?_
      rw [← Int64.ofInt_sub]
      exact h H locs ls hP hS hlen hl hzl (zsc trivial (zs1 (zs1 hzs)))
    · cases hst
  | lmul =>
    dsimp only [zstep] at hst
    split at hst
    · rename_i b a r
      cases hst
      refine lv_lmul hx hb hdg ?_
      rw [← Int64.ofInt_mul]
      exact h H locs ls hP hS hlen hl hzl (zsc trivial (zs1 (zs1 hzs)))
    · cases hst
  | lneg =>
    dsimp only [zstep] at hst
    split at hst
    · rename_i a r
      cases hst
      refine lv_lneg hx hb hdg ?_
      rw [← Int64.ofInt_neg]
      exact h H locs ls hP hS hlen hl hzl (zsc trivial (zs1 hzs))
    · cases hst
  | idiv =>
    dsimp only [zstep] at hst
    split at hst
    · rename_i b a r
      split at hst
      · cases hst
      · rename_i hne
        cases hst
        refine lv_idiv hx hb hdg (z_ne0 hne) ?_
        rw [← z_div hne]
        exact h H locs ls hP hS hlen hl hzl (zsc trivial (zs1 (zs1 hzs)))
    · cases hst
  | irem =>
    dsimp only [zstep] at hst
    split at hst
    · rename_i b a r
      split at hst
      · cases hst
      · rename_i hne
        cases hst
        refine lv_irem hx hb hdg (z_ne0 hne) ?_
        rw [← z_rem hne]
        exact h H locs ls hP hS hlen hl hzl (zsc trivial (zs1 (zs1 hzs)))
    · cases hst
  | ldiv =>
    dsimp only [zstep] at hst
    split at hst
    · rename_i b a r
      split at hst
      · cases hst
      · rename_i hne
        cases hst
        refine lv_ldiv hx hb hdg (zl_ne0 hne) ?_
        rw [← z_ldiv hne]
        exact h H locs ls hP hS hlen hl hzl (zsc trivial (zs1 (zs1 hzs)))
    · cases hst
  | lrem =>
    dsimp only [zstep] at hst
    split at hst
    · rename_i b a r
      split at hst
      · cases hst
      · rename_i hne
        cases hst
        refine lv_lrem hx hb hdg (zl_ne0 hne) ?_
        rw [← z_lrem hne]
        exact h H locs ls hP hS hlen hl hzl (zsc trivial (zs1 (zs1 hzs)))
    · cases hst
  | lcmp =>
    dsimp only [zstep] at hst
    split at hst
    · rename_i b a r
      cases hst
      refine W.lcmp hx hb hdg ?_
      rw [← z_lcmp]
      exact h H locs ls hP hS hlen hl hzl (zsc trivial (zs1 (zs1 hzs)))
    · cases hst
  | iand =>
    dsimp only [zstep] at hst
    split at hst
    · rename_i b a r
      cases hst
      refine lv_iand hx hb hdg ?_
      rw [show Int32.ofInt a &&& Int32.ofInt b = Int32.ofInt (zand a b) from (Int32.ofInt_toInt _).symm]
      exact h H locs ls hP hS hlen hl hzl (zsc trivial (zs1 (zs1 hzs)))
    · cases hst
  | ior =>
    dsimp only [zstep] at hst
    split at hst
    · rename_i b a r
      cases hst
      refine lv_ior hx hb hdg ?_
      rw [show Int32.ofInt a ||| Int32.ofInt b = Int32.ofInt (zor a b) from (Int32.ofInt_toInt _).symm]
      exact h H locs ls hP hS hlen hl hzl (zsc trivial (zs1 (zs1 hzs)))
    · cases hst
  | ishl =>
    dsimp only [zstep] at hst
    split at hst
    · rename_i b a r
      cases hst
      refine lv_ishl hx hb hdg ?_
      rw [show Int32.ofInt a <<< (Int32.ofInt b &&& 31) = Int32.ofInt (zshl a b) from (Int32.ofInt_toInt _).symm]
      exact h H locs ls hP hS hlen hl hzl (zsc trivial (zs1 (zs1 hzs)))
    · cases hst
  | ishr =>
    dsimp only [zstep] at hst
    split at hst
    · rename_i b a r
      cases hst
      refine lv_ishr hx hb hdg ?_
      rw [show Int32.ofInt a >>> (Int32.ofInt b &&& 31) = Int32.ofInt (zshr a b) from (Int32.ofInt_toInt _).symm]
      exact h H locs ls hP hS hlen hl hzl (zsc trivial (zs1 (zs1 hzs)))
    · cases hst
  | i2l =>
    dsimp only [zstep] at hst
    split at hst
    · rename_i a r
      cases hst
      refine lv_i2l (v := Int64.ofInt (zw a)) hx hb hdg (by rw [zw_eq]; exact z_i2l a) ?_
      exact h H locs ls hP hS hlen hl hzl (zsc trivial (zs1 hzs))
    · cases hst
  | l2i =>
    dsimp only [zstep] at hst
    split at hst
    · rename_i a r
      cases hst
      refine lv_l2i (v := Int32.ofInt a) hx hb hdg (z_l2i a) ?_
      exact h H locs ls hP hS hlen hl hzl (zsc trivial (zs1 hzs))
    · cases hst
  | i2b =>
    dsimp only [zstep] at hst
    split at hst
    · rename_i a r
      cases hst
      refine lv_i2b (v := Int32.ofInt (Int.bmod a 256)) hx hb hdg (z_i2b a) ?_
      exact h H locs ls hP hS hlen hl hzl (zsc trivial (zs1 hzs))
    · cases hst
  | dup =>
    dsimp only [zstep] at hst
    split at hst
    · rename_i a r
      cases hst
      exact lv_dup hx hb hdg rfl (h H locs ls hP hS hlen hl hzl (zsc trivial hzs))
    · rename_i k j r
      cases hst
      exact lv_dup hx hb hdg rfl (h H locs ls hP hS hlen hl hzl (zsc (zs0 hzs) hzs))
    · cases hst
  | dup2 =>
    dsimp only [zstep] at hst
    split at hst
    · rename_i b k j r
      cases hst
      exact lv_dup2_11 hx hb hdg rfl rfl (h H locs ls hP hS hlen hl hzl (zsc trivial (zsc (zs0 (zs1 hzs)) hzs)))
    · cases hst
  | pop =>
    dsimp only [zstep] at hst
    split at hst
    · rename_i a r
      cases hst
      exact lv_pop hx hb hdg rfl (h H locs ls hP hS hlen hl hzl (zs1 hzs))
    · cases hst
  | _ => cases hin
def zinC : Instr → Bool
  | .goto _ => true
  | .if_icmp _ _ => true
  | .ifCond _ _ => true
  | _ => false
set_option maxHeartbeats 8000000 in
set_option maxRecDepth 20000 in
theorem zstep_C {p : Program} {l : Launch} {e : Env} {R : Room} {s : State} {m : MethodId} {args : Array Value} {below : List Frame} {meth : Method} {c : Code} {cells slots : Nat} {Q : State → Prop} {D : va_G} {cA : Nat → ClassId} {adr : Nat → Nat} {A : Nat → Prop} {own : String} {cc : ByteArray} {nL : Nat}
    (C : zCx p R s m args c cells slots D cA adr A own cc nL) {ins : Instr} {ln x y w : Nat} {z : Int} (hin : zinC ins = true) {pc : Nat} {lv : zL} {st : List zV} {M : zM} {cf' : zC} (hchk : zchk own cc pc (ins, ln, x, y, w, z) = true) (hst : zstep (ins, ln, x, y, w, z) pc lv st M = some cf') (h : zS p l e R s m args below meth c cells slots D cA adr A nL Q cf') : zS p l e R s m args below meth c cells slots D cA adr A nL Q (pc, lv, st, M) := by
  obtain ⟨hx, hb, hml, hown, hts, ⟨hKv, hNw, hX⟩, hDj, hAz, hR⟩ := C
  obtain ⟨hdg, hc2⟩ : decode cc pc = .ok (ins, zil ln ins) ∧ zchk2 own pc (ins, ln, x, y, w, z) = true := by
    unfold zchk at hchk
    rw [Bool.and_eq_true, decide_eq_true_eq] at hchk
    exact hchk
  intro H locs ls hP hS hlen hl hzl hzs
  dsimp only at hP hlen hl hzl hzs ⊢
  cases ins with
  | goto o =>
    cases hst
    exact lv_goto hx hb hdg (of_decide_eq_true hc2) (h H locs ls hP hS hlen hl hzl hzs)
  | if_icmp cd o =>
    cases cd with
    | eq =>
      dsimp only [zstep] at hst
      split at hst
      · rename_i b a r
        have hc2 := of_decide_eq_true hc2
        refine lv_icmp_eq hx hb hdg hc2 (fun q => ?_) (fun q => ?_)
        · rw [if_pos ((z_eq _ _).mp q)] at hst
          cases hst
          exact h H locs ls hP hS hlen hl hzl (zs1 (zs1 hzs))
        · rw [if_neg (fun z => q ((z_eq _ _).mpr z))] at hst
          cases hst
          exact h H locs ls hP hS hlen hl hzl (zs1 (zs1 hzs))
      · cases hst
    | ne =>
      dsimp only [zstep] at hst
      split at hst
      · rename_i b a r
        have hc2 := of_decide_eq_true hc2
        refine lv_icmp_ne hx hb hdg hc2 (fun q => ?_) (fun q => ?_)
        · rw [if_pos ((z_ne).mp q)] at hst
          cases hst
          exact h H locs ls hP hS hlen hl hzl (zs1 (zs1 hzs))
        · rw [if_neg (fun z => z ((z_eq _ _).mp q))] at hst
          cases hst
          exact h H locs ls hP hS hlen hl hzl (zs1 (zs1 hzs))
      · cases hst
    | lt =>
      dsimp only [zstep] at hst
      split at hst
      · rename_i b a r
        have hc2 := of_decide_eq_true hc2
        refine lv_icmp_lt hx hb hdg hc2 (fun q => ?_) (fun q => ?_)
        · rw [if_pos ((z_lt _ _).mp q)] at hst
          cases hst
          exact h H locs ls hP hS hlen hl hzl (zs1 (zs1 hzs))
        · rw [if_neg (fun z => q ((z_lt _ _).mpr z))] at hst
          cases hst
          exact h H locs ls hP hS hlen hl hzl (zs1 (zs1 hzs))
      · cases hst
    | ge =>
      dsimp only [zstep] at hst
      split at hst
      · rename_i b a r
        have hc2 := of_decide_eq_true hc2
        refine lv_icmp_ge hx hb hdg hc2 (fun q => ?_) (fun q => ?_)
        · rw [if_pos ((z_ge).mp q)] at hst
          cases hst
          exact h H locs ls hP hS hlen hl hzl (zs1 (zs1 hzs))
        · rw [if_neg (fun z => q ((z_ge).mpr z))] at hst
          cases hst
          exact h H locs ls hP hS hlen hl hzl (zs1 (zs1 hzs))
      · cases hst
    | gt =>
      dsimp only [zstep] at hst
      split at hst
      · rename_i b a r
        have hc2 := of_decide_eq_true hc2
        refine lv_icmp_gt hx hb hdg hc2 (fun q => ?_) (fun q => ?_)
        · rw [if_pos ((z_gt).mp q)] at hst
          cases hst
          exact h H locs ls hP hS hlen hl hzl (zs1 (zs1 hzs))
        · rw [if_neg (fun z => q ((z_gt).mpr z))] at hst
          cases hst
          exact h H locs ls hP hS hlen hl hzl (zs1 (zs1 hzs))
      · cases hst
    | le =>
      dsimp only [zstep] at hst
      split at hst
      · rename_i b a r
        have hc2 := of_decide_eq_true hc2
        refine lv_icmp_le hx hb hdg hc2 (fun q => ?_) (fun q => ?_)
        · rw [if_pos ((z_le _ _).mp q)] at hst
          cases hst
          exact h H locs ls hP hS hlen hl hzl (zs1 (zs1 hzs))
        · rw [if_neg (fun z => q ((z_le _ _).mpr z))] at hst
          cases hst
          exact h H locs ls hP hS hlen hl hzl (zs1 (zs1 hzs))
      · cases hst
  | ifCond cd o =>
    cases cd with
    | eq =>
      dsimp only [zstep] at hst
      split at hst
      · rename_i a r
        have hc2 := of_decide_eq_true hc2
        refine lv_if_eq hx hb hdg hc2 (fun q => ?_) (fun q => ?_)
        · rw [if_pos ((z0_eq).mp q)] at hst
          cases hst
          exact h H locs ls hP hS hlen hl hzl (zs1 hzs)
        · rw [if_neg (fun z => q ((z0_eq).mpr z))] at hst
          cases hst
          exact h H locs ls hP hS hlen hl hzl (zs1 hzs)
      · cases hst
    | ne =>
      dsimp only [zstep] at hst
      split at hst
      · rename_i a r
        have hc2 := of_decide_eq_true hc2
        refine lv_if_ne hx hb hdg hc2 (fun q => ?_) (fun q => ?_)
        · rw [if_pos ((z0_ne).mp q)] at hst
          cases hst
          exact h H locs ls hP hS hlen hl hzl (zs1 hzs)
        · rw [if_neg (fun z => z (z0_eq.mp q))] at hst
          cases hst
          exact h H locs ls hP hS hlen hl hzl (zs1 hzs)
      · cases hst
    | lt =>
      dsimp only [zstep] at hst
      split at hst
      · rename_i a r
        have hc2 := of_decide_eq_true hc2
        refine lv_if_lt hx hb hdg hc2 (fun q => ?_) (fun q => ?_)
        · rw [if_pos ((z0_lt).mp q)] at hst
          cases hst
          exact h H locs ls hP hS hlen hl hzl (zs1 hzs)
        · rw [if_neg (fun z => q ((z0_lt).mpr z))] at hst
          cases hst
          exact h H locs ls hP hS hlen hl hzl (zs1 hzs)
      · cases hst
    | ge =>
      dsimp only [zstep] at hst
      split at hst
      · rename_i a r
        have hc2 := of_decide_eq_true hc2
        refine lv_if_ge hx hb hdg hc2 (fun q => ?_) (fun q => ?_)
        · rw [if_pos ((z0_ge).mp q)] at hst
          cases hst
          exact h H locs ls hP hS hlen hl hzl (zs1 hzs)
        · rw [if_neg (fun z => q ((z0_ge).mpr z))] at hst
          cases hst
          exact h H locs ls hP hS hlen hl hzl (zs1 hzs)
      · cases hst
    | gt =>
      dsimp only [zstep] at hst
      split at hst
      · rename_i a r
        have hc2 := of_decide_eq_true hc2
        refine lv_if_gt hx hb hdg hc2 (fun q => ?_) (fun q => ?_)
        · rw [if_pos ((z0_gt).mp q)] at hst
          cases hst
          exact h H locs ls hP hS hlen hl hzl (zs1 hzs)
        · rw [if_neg (fun z => q ((z0_gt).mpr z))] at hst
          cases hst
          exact h H locs ls hP hS hlen hl hzl (zs1 hzs)
      · cases hst
    | le =>
      dsimp only [zstep] at hst
      split at hst
      · rename_i a r
        have hc2 := of_decide_eq_true hc2
        refine lv_if_le hx hb hdg hc2 (fun q => ?_) (fun q => ?_)
        · rw [if_pos ((z0_le).mp q)] at hst
          cases hst
          exact h H locs ls hP hS hlen hl hzl (zs1 hzs)
        · rw [if_neg (fun z => q ((z0_le).mpr z))] at hst
          cases hst
          exact h H locs ls hP hS hlen hl hzl (zs1 hzs)
      · cases hst
  | _ => cases hin
