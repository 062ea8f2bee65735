/-! natives, switches, returns; a method's body -/
section ZNT
variable {p : Program} {l : Launch} {e : Env} {R : Room} {s : State} {m : MethodId} {args : Array Value} {below : List Frame} {meth : Method} {c : Code} {cells slots : Nat} {Q : State → Prop} {D : va_G} {cA : Nat → ClassId} {adr : Nat → Nat} {A : Nat → Prop} {own : String} {cc : ByteArray} {nL : Nat}
theorem znat_ok : (decide (zwat znat_max.1 = some (.static Lib.Math.max.name)) && decide (zwat znat_max.2.1 = some (.initialized "java/lang/Math")) && decide (zwat znat_max.2.2 = some (.code Lib.Math.max.name Lib.Math.max.code 2 (some .int))) && decide (zwat znat_min.1 = some (.static Lib.Math.min.name)) && decide (zwat znat_min.2.2 = some (.code Lib.Math.min.name Lib.Math.min.code 2 (some .int))) && decide (zwat znat_abs.1 = some (.static Lib.Math.abs.name)) && decide (zwat znat_abs.2.2 = some (.code Lib.Math.abs.name Lib.Math.abs.code 1 (some .int))) && decide (zwat znat_copy.1 = some (.static arraycopyName)) && decide (zwat znat_copy.2.1 = some (.initialized "java/lang/System")) && decide (zwat znat_copy.2.2 = some (.native arraycopyName))) = true := by decide +kernel
theorem z_max (a b : Int) : (if Int32.ofInt a < Int32.ofInt b then Int32.ofInt b else Int32.ofInt a) = Int32.ofInt (if zw a < zw b then b else a) := by
  by_cases h : zw a < zw b
  · rw [if_pos h, if_pos ((z_lt a b).mpr h)]
  · rw [if_neg h, if_neg (fun q => h ((z_lt a b).mp q))]
theorem zmaxS (C : zCx p R s m args c cells slots D cA adr A own cc nL) {pc : Nat} {lv : zL} {M : zM} {idx ln x w : Nat} {z a b : Int} {rest : List zV} (hdg : decode cc pc = .ok (.invokestatic idx, 3)) (hlk : zchkI own (.invokestatic idx, ln, x, 10, w, z) = true) (hcat : (rest.map zcat).sum ≤ 8)
    (h : zS p l e R s m args below meth c cells slots D cA adr A nL Q (pc + 3, lv, zi (if zw a < zw b then b else a) :: rest, M)) : zS p l e R s m args below meth c cells slots D cA adr A nL Q (pc, lv, zi b :: zi a :: rest, M) := by
  obtain ⟨hx, hb, hml, hown, hts, hK, hDj, hAz, hR⟩ := C
  have hn := znat_ok
  simp only [Bool.and_eq_true, decide_eq_true_eq] at hn
  intro H locs ls hP hS hlen hl hzl hzs
  refine va_mmax hx hb (hml.trans hl.1.symm) hown (hts _ (zwat_in (of_decide_eq_true hlk) rfl)) (hts _ (zwat_in hn.1.1.1.1.1.1.1.1.1 rfl)) (hts _ (zwat_in hn.1.1.1.1.1.1.1.1.2 rfl)) (hts _ (zwat_in hn.1.1.1.1.1.1.1.2 rfl)) hR.1 (by rw [zcats_eq]; omega) hR.2.2.1 hR.2.2.2 hdg ?_
  rw [z_max]
  exact h H locs ls hP hS hlen hl hzl (zsc trivial (zs1 (zs1 hzs)))
end ZNT
section ZNU
variable {p : Program} {l : Launch} {e : Env} {R : Room} {s : State} {m : MethodId} {args : Array Value} {below : List Frame} {meth : Method} {c : Code} {cells slots : Nat} {Q : State → Prop} {D : va_G} {cA : Nat → ClassId} {adr : Nat → Nat} {A : Nat → Prop} {own : String} {cc : ByteArray} {nL : Nat}
theorem z_min (a b : Int) : (if Int32.ofInt a < Int32.ofInt b then Int32.ofInt a else Int32.ofInt b) = Int32.ofInt (if zw a < zw b then a else b) := by
  by_cases h : zw a < zw b
  · rw [if_pos h, if_pos ((z_lt a b).mpr h)]
  · rw [if_neg h, if_neg (fun q => h ((z_lt a b).mp q))]
theorem zminS (C : zCx p R s m args c cells slots D cA adr A own cc nL) {pc : Nat} {lv : zL} {M : zM} {idx ln x w : Nat} {z a b : Int} {rest : List zV} (hdg : decode cc pc = .ok (.invokestatic idx, 3)) (hlk : zchkI own (.invokestatic idx, ln, x, 11, w, z) = true) (hcat : (rest.map zcat).sum ≤ 8)
    (h : zS p l e R s m args below meth c cells slots D cA adr A nL Q (pc + 3, lv, zi (if zw b < zw a then b else a) :: rest, M)) : zS p l e R s m args below meth c cells slots D cA adr A nL Q (pc, lv, zi b :: zi a :: rest, M) := by
  obtain ⟨hx, hb, hml, hown, hts, hK, hDj, hAz, hR⟩ := C
  have hn := znat_ok
  simp only [Bool.and_eq_true, decide_eq_true_eq] at hn
  intro H locs ls hP hS hlen hl hzl hzs
  refine va_mmin hx hb (hml.trans hl.1.symm) hown (hts _ (zwat_in (of_decide_eq_true hlk) rfl)) (hts _ (zwat_in hn.1.1.1.1.1.1.2 rfl)) (hts _ (zwat_in hn.1.1.1.1.1.1.1.1.2 rfl)) (hts _ (zwat_in hn.1.1.1.1.1.2 rfl)) hR.1 (by rw [zcats_eq]; omega) hR.2.2.1 hR.2.2.2 hdg ?_
  rw [z_min]
  exact h H locs ls hP hS hlen hl hzl (zsc trivial (zs1 (zs1 hzs)))
theorem z_abs (a : Int) : (if 0 ≤ Int32.ofInt a then Int32.ofInt a else 0 - Int32.ofInt a) = Int32.ofInt (if 0 ≤ zw a then a else 0 - a) := by
  by_cases h : 0 ≤ zw a
  · rw [if_pos h, if_pos (z0_ge.mpr h)]
  · rw [if_neg h, if_neg (fun q => h (z0_ge.mp q)), Int32.ofInt_sub]
    rfl
theorem zabsS (C : zCx p R s m args c cells slots D cA adr A own cc nL) {pc : Nat} {lv : zL} {M : zM} {idx ln x w : Nat} {z a : Int} {rest : List zV} (hdg : decode cc pc = .ok (.invokestatic idx, 3)) (hlk : zchkI own (.invokestatic idx, ln, x, 12, w, z) = true) (hcat : (rest.map zcat).sum ≤ 8)
    (h : zS p l e R s m args below meth c cells slots D cA adr A nL Q (pc + 3, lv, zi (if 0 ≤ zw a then a else 0 - a) :: rest, M)) : zS p l e R s m args below meth c cells slots D cA adr A nL Q (pc, lv, zi a :: rest, M) := by
  obtain ⟨hx, hb, hml, hown, hts, hK, hDj, hAz, hR⟩ := C
  have hn := znat_ok
  simp only [Bool.and_eq_true, decide_eq_true_eq] at hn
  intro H locs ls hP hS hlen hl hzl hzs
  refine va_mabs hx hb (hml.trans hl.1.symm) hown (hts _ (zwat_in (of_decide_eq_true hlk) rfl)) (hts _ (zwat_in hn.1.1.1.1.2 rfl)) (hts _ (zwat_in hn.1.1.1.1.1.1.1.1.2 rfl)) (hts _ (zwat_in hn.1.1.1.2 rfl)) hR.1 (by rw [zcats_eq]; omega) hR.2.2.1 hR.2.2.2 hdg ?_
  rw [z_abs]
  exact h H locs ls hP hS hlen hl hzl (zsc trivial (zs1 hzs))
theorem zcopy_off (M : zM) (k1 i1 sp k2 i2 dp n : Nat) : ∀ k' i', ¬ (k' = k2 ∧ i' = i2) → (zcopy M k1 i1 sp k2 i2 dp n) k' i' = M k' i' := by
  intro k' i' h
  funext q
  unfold zcopy
  rw [if_neg (fun z => h ⟨z.1, z.2.1⟩)]
theorem zcopy_cpy {α : Type} (F : Int → α) (M : zM) (k1 i1 sp k2 i2 dp n : Nat) : va_cpy (fun j => F (M k1 i1 j)) (fun j => F (M k2 i2 j)) sp dp n = fun j => F ((zcopy M k1 i1 sp k2 i2 dp n) k2 i2 j) := by
  funext j
  unfold va_cpy zcopy
  by_cases h : dp ≤ j ∧ j < dp + n
  · rw [if_pos h, if_pos ⟨rfl, rfl, h⟩]
  · rw [if_neg h, if_neg (fun z => h z.2.2)]
theorem zlay_copy {adr : Nat → Nat} {cA : Nat → ClassId} {M : zM} {k1 i1 sp k i dp n : Nat} {v : (Nat → Int32) ⊕ (Nat → Int64) ⊕ (Nat → UInt32) ⊕ (Nat → UInt64) ⊕ (Nat → Option Nat)} (hk : k < zNK) (hi : i < zcnt k) (ho : zobj k = none) (hv : v = zarr adr k i ((zcopy M k1 i1 sp k i dp n) k i)) :
    (zlay adr cA M).set (zoff k + i) (zad adr k i, .inl (cA (ztag k), zlen k, v)) = zlay adr cA (zcopy M k1 i1 sp k i dp n) := by
  rw [← zlay_set (M := M) (M' := zcopy M k1 i1 sp k i dp n) hk hi (zcopy_off M k1 i1 sp k i dp n), zcell_a ho, hv]
theorem zcopyS (C : zCx p R s m args c cells slots D cA adr A own cc nL) {pc : Nat} {lv : zL} {M : zM} {idx ln x w k1 i1 k2 i2 sp' dp' n' : Nat} {z sp dp n : Int} {rest : List zV} (hdg : decode cc pc = .ok (.invokestatic idx, 3)) (hlk : zchkI own (.invokestatic idx, ln, x, 13, w, z) = true) (hcat : (rest.map zcat).sum ≤ 8)
    (t : Nat) (ht02 : t = 0 ∨ t = 2) (ho1 : zisA k1 t = true) (ho2 : zisA k2 t = true) (h1 : 0 ≤ zw sp) (h2 : 0 ≤ zw dp) (h3 : 0 ≤ zw n) (e1 : zix sp = sp') (e2 : zix dp = dp') (e3 : zix n = n') (h4 : sp' + n' ≤ zlen k1) (h5 : dp' + n' ≤ zlen k2) (h6 : 1 ≤ n')
    (h : zS p l e R s m args below meth c cells slots D cA adr A nL Q (pc + 3, lv, rest, zcopy M k1 i1 sp' k2 i2 dp' n')) : zS p l e R s m args below meth c cells slots D cA adr A nL Q (pc, lv, zi n :: zi dp :: zr k2 i2 :: zi sp :: zr k1 i1 :: rest, M) := by
  obtain ⟨hx, hb, hml, hown, hts, ⟨hKv, hNw, hX⟩, hDj, hAz, hR⟩ := C
  subst e1; subst e2; subst e3
  have hn := znat_ok
  simp only [Bool.and_eq_true, decide_eq_true_eq] at hn
  intro H locs ls hP hS hlen hl hzl hzs
  have hDw := zD_of cA M hDj hAz
  obtain ⟨hk2, hi2⟩ := zisA_small (zs0 (zs1 (zs1 hzs))) ho2 (by omega)
  obtain ⟨hk1, hi1⟩ := zisA_small (zs0 (zs1 (zs1 (zs1 (zs1 hzs))))) ho1 (by omega)
  obtain ⟨hn1, ht1⟩ := zisA_ok ho1
  obtain ⟨hn2, ht2⟩ := zisA_ok ho2
  have he1 := zlay_get (adr := adr) (cA := cA) (M := M) hk1 hi1
  have he2 := zlay_get (adr := adr) (cA := cA) (M := M) hk2 hi2
  rw [zcell_a hn1] at he1
  rw [zcell_a hn2] at he2
  have hrest := zs1 (zs1 (zs1 (zs1 (zs1 hzs))))
  have q1 : ¬ Int32.ofInt sp < 0 := fun q => by have := z0_lt.mp q; omega
  have q2 : ¬ Int32.ofInt dp < 0 := fun q => by have := z0_lt.mp q; omega
  have q3 : ¬ Int32.ofInt n < 0 := fun q => by have := z0_lt.mp q; omega
  have hlo : ((rest.map (zc adr)).map fun v => v.category).sum + (nativeFrameWords "java/lang/System" "arraycopy" 5 + 11) ≤ R.locals := by
    rw [zcats_eq, show nativeFrameWords "java/lang/System" "arraycopy" 5 = 7 from by decide +kernel]
    omega
  rcases ht02 with rfl | rfl
  · rw [zarr0 ht1] at he1
    rw [zarr0 ht2] at he2
    refine va_copyi hx hb (hml.trans hl.1.symm) hown (hts _ (zwat_in (of_decide_eq_true hlk) rfl)) (hts _ (zwat_in hn.2 rfl)) (hts _ (zwat_in hn.1.1.2 rfl)) (hts _ (zwat_in hn.1.2 rfl)) hKv hP hDw hS (zoff k1 + i1) (zoff k2 + i2) 0 0 he1 he2 (ty := .int) (by rw [ht1]; rfl) (by rw [ht2]; rfl) rfl q1 q2 q3 (by rw [z_ix, z_ix]; exact h4) (by rw [z_ix, z_ix]; exact h5) (fun _ _ => rfl) hR.1 hlo hdg (fun H1 locs1 hP1 _ hS1 => ?_)
    rw [z_ix, z_ix, z_ix, zlay_copy (k1 := k1) (i1 := i1) (sp := zix sp) (dp := zix dp) (n := zix n) hk2 hi2 hn2 (by rw [zarr0 ht2]; exact congrArg Sum.inl (zcopy_cpy (fun a => Int32.ofInt a) M k1 i1 (zix sp) k2 i2 (zix dp) (zix n)))] at hP1
    exact h H1 locs1 ls hP1 hS1 hlen hl hzl hrest
  · rw [zarr2 ht1] at he1
    rw [zarr2 ht2] at he2
    refine va_copyi hx hb (hml.trans hl.1.symm) hown (hts _ (zwat_in (of_decide_eq_true hlk) rfl)) (hts _ (zwat_in hn.2 rfl)) (hts _ (zwat_in hn.1.1.2 rfl)) (hts _ (zwat_in hn.1.2 rfl)) hKv hP hDw hS (zoff k1 + i1) (zoff k2 + i2) 2 2 he1 he2 (ty := .boolean) (by rw [ht1]; rfl) (by rw [ht2]; rfl) rfl q1 q2 q3 (by rw [z_ix, z_ix]; exact h4) (by rw [z_ix, z_ix]; exact h5) (fun i _ => ?_) hR.1 hlo hdg (fun H1 locs1 hP1 _ hS1 => ?_)
    · rcases Int.emod_two_eq (M k1 i1 ((Int32.ofInt sp).toNatClampNeg + i)) with e | e <;> rw [e] <;> rfl
    · rw [z_ix, z_ix, z_ix, zlay_copy (k1 := k1) (i1 := i1) (sp := zix sp) (dp := zix dp) (n := zix n) hk2 hi2 hn2 (by rw [zarr2 ht2]; exact congrArg Sum.inl (zcopy_cpy (fun a => Int32.ofInt (a % 2)) M k1 i1 (zix sp) k2 i2 (zix dp) (zix n)))] at hP1
      exact h H1 locs1 ls hP1 hS1 hlen hl hzl hrest
theorem zswIn (C : zCx p R s m args c cells slots D cA adr A own cc nL) {pc tgt ln : Nat} {lv : zL} {M : zM} {df lo hi a off : Int} {offs : Array Int} {rest : List zV} (hdg : decode cc pc = .ok (.tableswitch df lo hi offs, ln)) (h1 : ¬ zw a < lo) (h2 : ¬ hi < zw a) (ho : offs[(zw a - lo).toNat]? = some off) (ht : (pc : Int) + off = (tgt : Int))
    (h : zS p l e R s m args below meth c cells slots D cA adr A nL Q (tgt, lv, rest, M)) : zS p l e R s m args below meth c cells slots D cA adr A nL Q (pc, lv, zi a :: rest, M) := by
  obtain ⟨hx, hb, hml, hown, hts, hK, hDj, hAz, hR⟩ := C
  intro H locs ls hP hS hlen hl hzl hzs
  rw [zw_eq] at h1 h2 ho
  exact lv_tableIn hx hb hdg h1 h2 ho ht (h H locs ls hP hS hlen hl hzl (zs1 hzs))
theorem zswOut (C : zCx p R s m args c cells slots D cA adr A own cc nL) {pc tgt ln : Nat} {lv : zL} {M : zM} {df lo hi a : Int} {offs : Array Int} {rest : List zV} (hdg : decode cc pc = .ok (.tableswitch df lo hi offs, ln)) (h1 : zw a < lo ∨ hi < zw a) (ht : (pc : Int) + df = (tgt : Int))
    (h : zS p l e R s m args below meth c cells slots D cA adr A nL Q (tgt, lv, rest, M)) : zS p l e R s m args below meth c cells slots D cA adr A nL Q (pc, lv, zi a :: rest, M) := by
  obtain ⟨hx, hb, hml, hown, hts, hK, hDj, hAz, hR⟩ := C
  intro H locs ls hP hS hlen hl hzl hzs
  rw [zw_eq] at h1
  exact lv_tableOut hx hb hdg h1 ht (h H locs ls hP hS hlen hl hzl (zs1 hzs))
theorem zswLk (C : zCx p R s m args c cells slots D cA adr A own cc nL) {pc tgt ln : Nat} {lv : zL} {M : zM} {df a off : Int} {ps : Array (Int × Int)} {rest : List zV} (hdg : decode cc pc = .ok (.lookupswitch df ps, ln)) (hp : (ps.toList.zip (ps.toList.drop 1)).all (fun (a, next) => a.1 < next.1) = true) (ho : Op.lookupswitch.offset ps.toList df (zw a) = off) (ht : (pc : Int) + off = (tgt : Int))
    (h : zS p l e R s m args below meth c cells slots D cA adr A nL Q (tgt, lv, rest, M)) : zS p l e R s m args below meth c cells slots D cA adr A nL Q (pc, lv, zi a :: rest, M) := by
  obtain ⟨hx, hb, hml, hown, hts, hK, hDj, hAz, hR⟩ := C
  intro H locs ls hP hS hlen hl hzl hzs
  rw [zw_eq] at ho
  exact lv_lookup hx hb hdg hp ho ht (h H locs ls hP hS hlen hl hzl (zs1 hzs))
theorem zstep_class {ins : Instr} {ln x y w : Nat} {z : Int} {pc : Nat} {lv : zL} {st : List zV} {M : zM} {cf' : zC} (h : zstep (ins, ln, x, y, w, z) pc lv st M = some cf') : zinA ins = true ∨ zinB ins = true ∨ zinC ins = true ∨ zinD ins = true := by
  cases ins <;> first | exact Or.inl rfl | exact Or.inr (Or.inl rfl) | exact Or.inr (Or.inr (Or.inl rfl)) | exact Or.inr (Or.inr (Or.inr rfl)) | cases h
theorem zstep_ok (C : zCx p R s m args c cells slots D cA adr A own cc nL) {E : zE} {pc : Nat} {lv : zL} {st : List zV} {M : zM} {cf' : zC} (hchk : zchk own cc pc E = true) (hst : zstep E pc lv st M = some cf') (h : zS p l e R s m args below meth c cells slots D cA adr A nL Q cf') : zS p l e R s m args below meth c cells slots D cA adr A nL Q (pc, lv, st, M) := by
  obtain ⟨ins, ln, x, y, w, z⟩ := E
  rcases zstep_class hst with q | q | q | q
  · exact zstep_A C q hchk hst h
  · exact zstep_B C q hchk hst h
  · exact zstep_C C q hchk hst h
  · exact zstep_D C q hchk hst h
end ZNU
