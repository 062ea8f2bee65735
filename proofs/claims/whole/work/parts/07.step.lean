theorem zfget_ok {adr : Nat → Nat} {M : zM} {k i x : Nat} {v : zV} (h : zfget M k i x = some v) : zfv adr k i (M k i) x = zc adr v := by
  unfold zfget at h
  unfold zfv
  generalize zft k x = t at h ⊢
  match t, h with
  | 0, h => cases h; rfl
  | 1, h => cases h; rfl
  | 2, h => cases h; rfl
  | n + 3, h =>
    obtain ⟨hp, h⟩ := zite h rfl
    cases h
    show (if _ then _ else _) = _
    rw [if_neg (by omega)]
    rfl
theorem zfput_ok {M M' : zM} {k i x : Nat} {v : zV} (h : zfput M k i x v = some M') : (zft k x = 0 ∧ ∃ a, v = zi a ∧ M' = zput M k i x a) ∨ (zft k x = 1 ∧ ∃ a, v = zi a ∧ (a = 0 ∨ a = 1) ∧ M' = zput M k i x a) ∨ (zft k x = 3 ∧ ∃ j : Nat, v = zr 2 j ∧ M' = zput M k i x (j : Int)) := by
  unfold zfput at h
  generalize zft k x = t at h ⊢
  split at h
  · rename_i a
    exact Or.inl ⟨rfl, a, rfl, (Option.some.inj h).symm⟩
  · rename_i a
    obtain ⟨hp, h⟩ := zite h rfl
    exact Or.inr (Or.inl ⟨rfl, a, rfl, hp, (Option.some.inj h).symm⟩)
  · rename_i j
    exact Or.inr (Or.inr ⟨rfl, j, rfl, (Option.some.inj h).symm⟩)
  · cases h
theorem zfget_zok {M : zM} {k i x ci : Nat} {v : zV} (hk : k < zNK) (hi : i < zcnt k) (hx : x < zlen k) (ho : zobj k = some ci) (h : zfget M k i x = some v) : zok v := by
  unfold zfget at h
  split at h
  · cases h; trivial
  · cases h; trivial
  · rename_i e; cases h; exact zrtO_ok hk hi hx ho e
  · obtain ⟨hp, h⟩ := zite h rfl
    cases h
    refine Or.inl ⟨(by decide : 2 < zNK), ?_⟩
    show (M k i x).toNat < 4
    omega
theorem zmap_set {α : Type} {n x : Nat} {f g : Nat → α} (h : ∀ j, j ≠ x → f j = g j) : ((List.range n).map f).set x (g x) = (List.range n).map g := by
  refine List.ext_getElem? fun q => ?_
  by_cases hq : q < n
  · by_cases hx : q = x
    · subst hx
      rw [List.getElem?_set_self (by simpa using hq)]
      simp [hq]
    · rw [List.getElem?_set_ne (fun z => hx z.symm)]
      simp [hq, h q hx]
  · rw [List.getElem?_eq_none_iff.mpr (by simp; omega), List.getElem?_eq_none_iff.mpr (by simp; omega)]
theorem zfv_off {adr : Nat → Nat} {k i x : Nat} {f : Nat → Int} {a : Int} : ∀ j, j ≠ x → zfv adr k i f j = zfv adr k i (zup f x a) j := by
  intro j hj
  have e : zup f x a j = f j := if_neg hj
  unfold zfv
  rw [e]
theorem zup_self (f : Nat → Int) (x : Nat) (a : Int) : zup f x a x = a := if_pos rfl
theorem zlay_putO {adr : Nat → Nat} {cA : Nat → ClassId} {M : zM} {k i x ci : Nat} {a : Int} {v : Value} (hk : k < zNK) (hi : i < zcnt k) (ho : zobj k = some ci) (hv : v = zfv adr k i (zup (M k i) x a) x) :
    (zlay adr cA M).set (zoff k + i) (zad adr k i, .inr (ci, ((List.range (zlen k)).map (zfv adr k i (M k i))).set x v)) = zlay adr cA (zput M k i x a) := by
  rw [← zlay_set (M := M) (M' := zput M k i x a) hk hi (zput_off M k i x a), zcell_o ho, zput_self, hv, zmap_set zfv_off]
theorem zlay_putA {adr : Nat → Nat} {cA : Nat → ClassId} {M : zM} {k i x : Nat} {a : Int} {v : (Nat → Int32) ⊕ (Nat → Int64) ⊕ (Nat → UInt32) ⊕ (Nat → UInt64) ⊕ (Nat → Option Nat)} (hk : k < zNK) (hi : i < zcnt k) (ho : zobj k = none) (hv : v = zarr adr k i (zup (M k i) x a)) :
    (zlay adr cA M).set (zoff k + i) (zad adr k i, .inl (cA (ztag k), zlen k, v)) = zlay adr cA (zput M k i x a) := by
  rw [← zlay_set (M := M) (M' := zput M k i x a) hk hi (zput_off M k i x a), zcell_a ho, zput_self, hv]
theorem zarr0 {adr : Nat → Nat} {k i : Nat} {f : Nat → Int} (h : ztag k = 0) : zarr adr k i f = .inl (fun j => Int32.ofInt (f j)) := by unfold zarr; rw [h]; rfl
theorem zarr1 {adr : Nat → Nat} {k i : Nat} {f : Nat → Int} (h : ztag k = 1) : zarr adr k i f = .inl (fun j => Int32.ofInt (Int.bmod (f j) 256)) := by unfold zarr; rw [h]; rfl
theorem zarr2 {adr : Nat → Nat} {k i : Nat} {f : Nat → Int} (h : ztag k = 2) : zarr adr k i f = .inl (fun j => Int32.ofInt (f j % 2)) := by unfold zarr; rw [h]; rfl
theorem zarr3 {adr : Nat → Nat} {k i : Nat} {f : Nat → Int} (h : ztag k = 3) : zarr adr k i f = .inr (.inl (fun j => Int64.ofInt (f j))) := by unfold zarr; rw [h]; rfl
theorem zarr4 {adr : Nat → Nat} {k i : Nat} {f : Nat → Int} (h : ztag k = 4 ∨ ztag k = 5 ∨ ztag k = 6) : zarr adr k i f = .inr (.inr (.inr (.inr (fun j => some (zad adr (zrtA k i j).1 (zrtA k i j).2))))) := by
  unfold zarr
  rcases h with h | h | h <;> rw [h] <;> rfl
theorem zup_map {α : Type} (F : Int → α) (f : Nat → Int) (x : Nat) (a : Int) : (fun j => if j = x then F a else F (f j)) = fun j => F (zup f x a j) := by
  funext j
  unfold zup
  split <;> rfl
theorem z_narB (v : Int) : vp_nar .byte (Int32.ofInt v) = Int32.ofInt (Int.bmod v 256) := by rw [vp_nar_byte]; exact z_i2b v
theorem z_mask (a : Int) (k : Nat) {m : Int32} (hk : k ≤ 32) (hm : m.toBitVec.toNat = 2 ^ k - 1) : Int32.ofInt a &&& m = Int32.ofInt (a % 2 ^ k) := by
  rw [pk_and (Int32.ofInt a) k hm]
  show Int32.ofNat _ = _
  rw [← Int32.ofInt_eq_ofNat]
  congr 1
  have h1 : (Int32.ofInt a).toBitVec.toNat = (a % ((2 ^ 32 : Nat) : Int)).toNat := by
    show (BitVec.ofInt 32 a).toNat = _
    rw [BitVec.toNat_ofInt]
  rw [h1]
  have h2 : (0 : Int) ≤ a % ((2 ^ 32 : Nat) : Int) := Int.emod_nonneg _ (by decide)
  rw [Int.natCast_emod, Int.toNat_of_nonneg h2]
  have h3 : ((2 ^ k : Nat) : Int) ∣ ((2 ^ 32 : Nat) : Int) := Int.natCast_dvd_natCast.mpr (Nat.pow_dvd_pow 2 hk)
  rw [Int.emod_emod_of_dvd _ h3]
  norm_cast
theorem z_narZ (v : Int) : vp_nar .boolean (Int32.ofInt v) = Int32.ofInt (v % 2) := z_mask v 1 (by decide) rfl
theorem zobj_ne99_all : (List.range zNK).all (fun k => decide (zobj k ≠ some 99)) = true := by decide +kernel
theorem zobj_ne99 {k : Nat} (hk : k < zNK) : zobj k ≠ some 99 := of_decide_eq_true (List.all_eq_true.mp zobj_ne99_all k (List.mem_range.mpr hk))
def zinD : Instr → Bool
  | .getfield _ => true
  | .putfield _ => true
  | .iaload => true
  | .baload => true
  | .laload => true
  | .aaload => true
  | .iastore => true
  | .bastore => true
  | .lastore => true
  | .arraylength => true
  | _ => false
set_option maxHeartbeats 8000000 in
set_option maxRecDepth 20000 in
theorem zstep_D {p : Program} {l : Launch} {e : Env} {R : Room} {s : State} {m : MethodId} {args : Array Value} {below : List Frame} {meth : Method} {c : Code} {cells slots : Nat} {Q : State → Prop} {D : va_G} {cA : Nat → ClassId} {adr : Nat → Nat} {A : Nat → Prop} {own : String} {cc : ByteArray} {nL : Nat}
    (C : zCx p R s m args c cells slots D cA adr A own cc nL) {ins : Instr} {ln x y w : Nat} {z : Int} (hin : zinD ins = true) {pc : Nat} {lv : zL} {st : List zV} {M : zM} {cf' : zC} (hchk : zchk own cc pc (ins, ln, x, y, w, z) = true) (hst : zstep (ins, ln, x, y, w, z) pc lv st M = some cf') (h : zS p l e R s m args below meth c cells slots D cA adr A nL Q cf') : zS p l e R s m args below meth c cells slots D cA adr A nL Q (pc, lv, st, M) := by
  obtain ⟨hx, hb, hml, hown, hts, ⟨hKv, hNw, hX⟩, hDj, hAz, hR⟩ := C
  obtain ⟨hdg, hc2⟩ : decode cc pc = .ok (ins, zil ln ins) ∧ zchk2 own pc (ins, ln, x, y, w, z) = true := by
    unfold zchk at hchk
    rw [Bool.and_eq_true, decide_eq_true_eq] at hchk
    exact hchk
  intro H locs ls hP hS hlen hl hzl hzs
  dsimp only at hP hlen hl hzl hzs ⊢
  have hDw := zD_of cA M hDj hAz
  cases ins with
  | getfield f =>
    dsimp only [zstep] at hst
    split at hst
    · rename_i k i r
      obtain ⟨ho, hst⟩ := zcond hst rfl
      have ho := zisO_ok ho
      obtain ⟨v, hv, hst⟩ := Option.map_eq_some_iff.mp hst
      subst hst
      obtain ⟨hk, hi⟩ := zobj_small (zs0 hzs) (by rw [ho]; simp)
      dsimp only [zchk2] at hc2
      unfold zchkF at hc2
      split at hc2
      · rename_i CC T N hc
        rw [Bool.and_eq_true, decide_eq_true_eq] at hc2
        obtain ⟨hxN, hc2⟩ := hc2
        obtain ⟨hN, hft⟩ := zkd hk ho hc
        have he := zlay_get (adr := adr) (cA := cA) (M := M) hk hi
        rw [zcell_o ho] at he
        have hfs : ((List.range (zlen k)).map (zfv adr k i (M k i)))[x]? = some (zc adr v) := by
          rw [List.getElem?_map, List.getElem?_range (by omega), Option.map_some, zfget_ok hv]
        have hnx := h H locs ls hP hS hlen hl hzl (zsc (zfget_zok hk hi (by omega) ho hv) (zs1 hzs))
        split at hc2
        · exact va_get (D := D) hx hb hts (zcl_in hc) hown hKv hP (zoff k + i) he hc x hxN (hts _ (zwat_in (of_decide_eq_true hc2) rfl)) (fun _ h9 => h9) hfs hdg hnx
        · rw [Bool.and_eq_true, decide_eq_true_eq, decide_eq_true_eq] at hc2
          exact va_getN (D := D) hx hb hts (zcl_in hc) hown hKv hP (zoff k + i) he hc x hxN (va_Nw.use rfl (hNw _ (List.mem_filterMap.mpr ⟨w, hc2.2, hc2.1⟩))) (fun _ h9 => h9) hfs hdg hnx
      · exact absurd ho (by rw [of_decide_eq_true hc2]; exact zobj_ne99 hk)
    · cases hst
  | putfield f =>
    dsimp only [zstep] at hst
    split at hst
    · rename_i v k i r
      obtain ⟨ho, hst⟩ := zcond hst rfl
      have ho := zisO_ok ho
      obtain ⟨M', hv, hst⟩ := Option.map_eq_some_iff.mp hst
      subst hst
      obtain ⟨hk, hi⟩ := zobj_small (zs0 (zs1 hzs)) (by rw [ho]; simp)
      dsimp only [zchk2] at hc2
      unfold zchkF at hc2
      split at hc2
      · rename_i CC T N hc
        rw [Bool.and_eq_true, decide_eq_true_eq] at hc2
        obtain ⟨hxN, hc2⟩ := hc2
        obtain ⟨hN, hft⟩ := zkd hk ho hc
        obtain ⟨-, hft⟩ := hft x hxN
        obtain ⟨ty0, hty⟩ := zcl_ty hc
        have hnm := zcl_nm hc
        have he := zlay_get (adr := adr) (cA := cA) (M := M) hk hi
        rw [zcell_o ho] at he
        have key : ∃ (ty : FieldType), (T x).2.2.2 = false ∧ parseFieldDescriptor (T x).2.2.1 = some ty ∧ narrow ty (zc adr v) = zc adr v ∧ fits ty (zc adr v) = true ∧ (zlay adr cA M).set (zoff k + i) (zad adr k i, .inr (y, ((List.range (zlen k)).map (zfv adr k i (M k i))).set x (zc adr v))) = zlay adr cA M' := by
          rcases zfput_ok hv with ⟨e, a, rfl, rfl⟩ | ⟨e, a, rfl, hp, rfl⟩ | ⟨e, j, rfl, rfl⟩
          · rw [e] at hft
            rcases hft with hft | ⟨hd, hf⟩
            · exact absurd hft (by decide)
            refine ⟨.int, hf, by rw [hd]; decide +kernel, rfl, rfl, zlay_putO hk hi ho ?_⟩
            unfold zfv
            rw [e, zup_self]
            rfl
          · rw [e] at hft
            rcases hft with hft | ⟨hd, hf⟩
            · exact absurd hft (by decide)
            rcases hp with rfl | rfl
            · refine ⟨.boolean, hf, by rw [hd]; decide +kernel, rfl, rfl, zlay_putO hk hi ho ?_⟩
              unfold zfv
              rw [e, zup_self]
              rfl
            · refine ⟨.boolean, hf, by rw [hd]; decide +kernel, rfl, rfl, zlay_putO hk hi ho ?_⟩
              unfold zfv
              rw [e, zup_self]
              rfl
          · rw [e] at hft
            rcases hft with hft | ⟨hd, hf⟩
            · exact absurd hft (by decide)
            refine ⟨.object "ThanksByPost$Text", hf, by rw [hd]; decide +kernel, rfl, rfl, zlay_putO hk hi ho ?_⟩
            unfold zfv
            rw [e, zup_self]
            show _ = if _ then _ else _
            rw [if_neg (by omega), Int.toNat_natCast]
            rfl
        obtain ⟨ty, hf, hd, hn, hfit, hlay⟩ := key
        have hnx : ∀ (H1 : Heap) (locs1 : List Loc), va_P D vwCl ((zlay adr cA M).set (zoff k + i) (zad adr k i, .inr (y, ((List.range (zlen k)).map (zfv adr k i (M k i))).set x (zc adr v)))) H1 → va_D A ((zlay adr cA M).set (zoff k + i) (zad adr k i, .inr (y, ((List.range (zlen k)).map (zfv adr k i (M k i))).set x (zc adr v)))) → va_S A s.heap H1 locs1 → W p l e R s m args below meth c H1 locs1 cells slots Q (F0 m (pc + 3) ls (r.map (zc adr))) := by
          intro H1 locs1 hP1 _ hS1
          rw [hlay] at hP1
          exact h H1 locs1 ls hP1 hS1 hlen hl hzl (zs1 (zs1 hzs))
        split at hc2
        · exact va_put (D := D) hx hb hts (zcl_in hc) ty0 hty hnm hown hKv hP hDw hS (zoff k + i) he hc x hxN (hts _ (zwat_in (of_decide_eq_true hc2) rfl)) (fun _ h9 => h9) hf hd hn hfit (by simp; omega) hdg hnx
        · rw [Bool.and_eq_true, decide_eq_true_eq, decide_eq_true_eq] at hc2
          exact va_putN (D := D) hx hb hts (zcl_in hc) ty0 hty hnm hown hKv hP hDw hS (zoff k + i) he hc x hxN (va_Nw.use rfl (hNw _ (List.mem_filterMap.mpr ⟨w, hc2.2, hc2.1⟩))) (fun _ h9 => h9) hf hd hn hfit (by simp; omega) hdg hnx
      · exact absurd ho (by rw [of_decide_eq_true hc2]; exact zobj_ne99 hk)
    · cases hst
  | iaload =>
    dsimp only [zstep] at hst
    split at hst
    · rename_i j k i r
      obtain ⟨ho, hst⟩ := zcond hst rfl
      obtain ⟨hb1, hst⟩ := zite hst rfl
      cases hst
      obtain ⟨hk, hi⟩ := zisA_small (zs0 (zs1 hzs)) ho (by omega)
      obtain ⟨ho, ht⟩ := zisA_ok ho
      have he := zlay_get (adr := adr) (cA := cA) (M := M) hk hi
      rw [zcell_a ho, zarr0 ht] at he
      refine va_iald hx hb hKv hP (zoff k + i) 0 he (by rw [ht]; rfl) (z_in hb1) hdg ?_
      rw [z_ix]
      exact h H locs ls hP hS hlen hl hzl (zsc trivial (zs1 (zs1 hzs)))
    · cases hst
  | laload =>
    dsimp only [zstep] at hst
    split at hst
    · rename_i j k i r
      obtain ⟨ho, hst⟩ := zcond hst rfl
      obtain ⟨hb1, hst⟩ := zite hst rfl
      cases hst
      obtain ⟨hk, hi⟩ := zisA_small (zs0 (zs1 hzs)) ho (by omega)
      obtain ⟨ho, ht⟩ := zisA_ok ho
      have he := zlay_get (adr := adr) (cA := cA) (M := M) hk hi
      rw [zcell_a ho, zarr3 ht] at he
      refine va_lald hx hb hKv hP (zoff k + i) 3 he (by rw [ht]; rfl) (z_in hb1) hdg ?_
      rw [z_ix]
      exact h H locs ls hP hS hlen hl hzl (zsc trivial (zs1 (zs1 hzs)))
    · cases hst
  | baload =>
    dsimp only [zstep] at hst
    split at hst
    · rename_i j k i r
      cases ho : zisA k 1 with
      | true =>
        rw [ho] at hst
        dsimp only [cond_true] at hst
        obtain ⟨hb1, hst⟩ := zite hst rfl
        cases hst
        obtain ⟨hk, hi⟩ := zisA_small (zs0 (zs1 hzs)) ho (by omega)
        obtain ⟨ho, ht⟩ := zisA_ok ho
        have he := zlay_get (adr := adr) (cA := cA) (M := M) hk hi
        rw [zcell_a ho, zarr1 ht] at he
        refine va_bald hx hb hKv hP (zoff k + i) 1 he (by rw [ht]; rfl) (z_in hb1) hdg ?_
        rw [z_ix]
        exact h H locs ls hP hS hlen hl hzl (zsc trivial (zs1 (zs1 hzs)))
      | false =>
        rw [ho] at hst
        dsimp only [cond_false] at hst
        obtain ⟨ho, hst⟩ := zcond hst rfl
        obtain ⟨hb1, hst⟩ := zite hst rfl
        cases hst
        obtain ⟨hk, hi⟩ := zisA_small (zs0 (zs1 hzs)) ho (by omega)
        obtain ⟨ho, ht⟩ := zisA_ok ho
        have he := zlay_get (adr := adr) (cA := cA) (M := M) hk hi
        rw [zcell_a ho, zarr2 ht] at he
        refine va_zald hx hb hKv hP (zoff k + i) 2 he (by rw [ht]; rfl) (z_in hb1) hdg ?_
        rw [z_ix]
        exact h H locs ls hP hS hlen hl hzl (zsc trivial (zs1 (zs1 hzs)))
    · cases hst
  | aaload =>
    dsimp only [zstep] at hst
    split at hst
    · rename_i j k i r
      obtain ⟨ho, hst⟩ := zcond hst rfl
      obtain ⟨hb1, hst⟩ := zite hst rfl
      cases hst
      simp only [Bool.or_eq_true] at ho
      have hq : ∃ t, zisA k t = true ∧ (t = 4 ∨ t = 5 ∨ t = 6) := by
        rcases ho with (ho | ho) | ho
        · exact ⟨4, ho, Or.inl rfl⟩
        · exact ⟨5, ho, Or.inr (Or.inl rfl)⟩
        · exact ⟨6, ho, Or.inr (Or.inr rfl)⟩
      obtain ⟨t, ho, ht6⟩ := hq
      obtain ⟨hk, hi⟩ := zisA_small (zs0 (zs1 hzs)) ho (by omega)
      obtain ⟨hoN, ht⟩ := zisA_ok ho
      rw [← ht] at ht6
      have he := zlay_get (adr := adr) (cA := cA) (M := M) hk hi
      rw [zcell_a hoN, zarr4 ht6] at he
      have hz := h H locs ls hP hS hlen hl hzl (zsc (zrtA_ok hk hi (zix_lt hb1) hoN (by omega)) (zs1 (zs1 hzs)))
      have hlt : (Int32.ofInt j).toNatClampNeg < zlen k := Nat.not_le.mp fun q => (z_in hb1) (Or.inr q)
      rcases ht6 with ht | ht | ht
      · refine va_aldq hx hb hKv hP (zoff k + i) 4 he (by rw [ht]; rfl) (z_in hb1) hdg ?_
        rw [z_ix]
        exact hz
      · refine va_aldq hx hb hKv hP (zoff k + i) 5 he (by rw [ht]; rfl) (z_in hb1) hdg ?_
        rw [z_ix]
        exact hz
      · have hty : (ztys cA)[6]? = some (cA (ztag k), .array .int) := by rw [ht]; rfl
        refine W.aald (v := va_rf (some (zad adr (zrtA k i (zix j)).1 (zrtA k i (zix j)).2))) (ty := .array .int) hx hb (hP (zoff k + i) _ he) ((hKv.2 6 _ hty).1 (zlen k) (fun q => va_rf (some (zad adr (zrtA k i q).1 (zrtA k i q).2)))) rfl (fun q => by cases q) (by show ¬ (Int32.ofInt j < 0 ∨ (arrV _ _ _).slots.size ≤ _); rw [arrV_size]; exact z_in hb1) (by show (arrV _ _ _).slots[_]? = _; rw [arrV_read _ _ hlt, z_ix]) rfl rfl hdg hz
    · cases hst
  | iastore =>
    dsimp only [zstep] at hst
    split at hst
    · rename_i v j k i r
      obtain ⟨ho, hst⟩ := zcond hst rfl
      obtain ⟨hb1, hst⟩ := zite hst rfl
      cases hst
      obtain ⟨hk, hi⟩ := zisA_small (zs0 (zs1 (zs1 hzs))) ho (by omega)
      obtain ⟨ho, ht⟩ := zisA_ok ho
      have he := zlay_get (adr := adr) (cA := cA) (M := M) hk hi
      rw [zcell_a ho, zarr0 ht] at he
      refine va_iast hx hb hKv hP hDw hS (zoff k + i) 0 he (by rw [ht]; rfl) (z_in hb1) hdg (fun H1 locs1 hP1 _ hS1 => ?_)
      rw [z_ix, zlay_putA (x := zix j) (a := v) hk hi ho (by rw [zarr0 ht]; exact congrArg Sum.inl (zup_map (fun a => Int32.ofInt a) (M k i) (zix j) v))] at hP1
      exact h H1 locs1 ls hP1 hS1 hlen hl hzl (zs1 (zs1 (zs1 hzs)))
    · cases hst
  | lastore =>
    dsimp only [zstep] at hst
    split at hst
    · rename_i v j k i r
      obtain ⟨ho, hst⟩ := zcond hst rfl
      obtain ⟨hb1, hst⟩ := zite hst rfl
      cases hst
      obtain ⟨hk, hi⟩ := zisA_small (zs0 (zs1 (zs1 hzs))) ho (by omega)
      obtain ⟨ho, ht⟩ := zisA_ok ho
      have he := zlay_get (adr := adr) (cA := cA) (M := M) hk hi
      rw [zcell_a ho, zarr3 ht] at he
      refine va_last hx hb hKv hP hDw hS (zoff k + i) 3 he (by rw [ht]; rfl) (z_in hb1) hdg (fun H1 locs1 hP1 _ hS1 => ?_)
      rw [z_ix, zlay_putA (x := zix j) (a := v) hk hi ho (by rw [zarr3 ht]; exact congrArg (fun q => Sum.inr (Sum.inl q)) (zup_map (fun a => Int64.ofInt a) (M k i) (zix j) v))] at hP1
      exact h H1 locs1 ls hP1 hS1 hlen hl hzl (zs1 (zs1 (zs1 hzs)))
    · cases hst
  | bastore =>
    dsimp only [zstep] at hst
    split at hst
    · rename_i v j k i r
      obtain ⟨ho, hst⟩ := zcond hst rfl
      obtain ⟨hb1, hst⟩ := zite hst rfl
      cases hst
      rw [Bool.or_eq_true] at ho
      rcases ho with ho | ho
      · obtain ⟨hk, hi⟩ := zisA_small (zs0 (zs1 (zs1 hzs))) ho (by omega)
        obtain ⟨ho, ht⟩ := zisA_ok ho
        have he := zlay_get (adr := adr) (cA := cA) (M := M) hk hi
        rw [zcell_a ho, zarr1 ht] at he
        refine va_bast hx hb hKv hP hDw hS (zoff k + i) 1 he (by rw [ht]; rfl) (z_in hb1) hdg (fun H1 locs1 hP1 _ hS1 => ?_)
        rw [z_ix, z_narB, zlay_putA (x := zix j) (a := v) hk hi ho (by rw [zarr1 ht]; exact congrArg Sum.inl (zup_map (fun a => Int32.ofInt (Int.bmod a 256)) (M k i) (zix j) v))] at hP1
        exact h H1 locs1 ls hP1 hS1 hlen hl hzl (zs1 (zs1 (zs1 hzs)))
      · obtain ⟨hk, hi⟩ := zisA_small (zs0 (zs1 (zs1 hzs))) ho (by omega)
        obtain ⟨ho, ht⟩ := zisA_ok ho
        have he := zlay_get (adr := adr) (cA := cA) (M := M) hk hi
        rw [zcell_a ho, zarr2 ht] at he
        refine va_zast hx hb hKv hP hDw hS (zoff k + i) 2 he (by rw [ht]; rfl) (z_in hb1) hdg (fun H1 locs1 hP1 _ hS1 => ?_)
        rw [z_ix, z_narZ, zlay_putA (x := zix j) (a := v) hk hi ho (by rw [zarr2 ht]; exact congrArg Sum.inl (zup_map (fun a => Int32.ofInt (a % 2)) (M k i) (zix j) v))] at hP1
        exact h H1 locs1 ls hP1 hS1 hlen hl hzl (zs1 (zs1 (zs1 hzs)))
    · cases hst
  | arraylength =>
    dsimp only [zstep] at hst
    split at hst
    · rename_i k i r
      obtain ⟨ho, hst⟩ := zcond hst rfl
      cases hst
      rw [Bool.and_eq_true] at ho
      obtain ⟨hz1, ho⟩ := ho
      obtain ⟨hk, hi⟩ := zisA_small (zs0 hzs) ho (by have := zNat_ble hz1; omega)
      obtain ⟨ho, ht⟩ := zisA_ok ho
      have he := zlay_get (adr := adr) (cA := cA) (M := M) hk hi
      rw [zcell_a ho] at he
      refine va_alen (v := Int32.ofInt (zlen k : Int)) hx hb hKv hP (zoff k + i) 0 he (ty := .int) (by rw [ht]; rfl) Int32.ofInt_eq_ofNat.symm hdg ?_
      exact h H locs ls hP hS hlen hl hzl (zsc trivial (zs1 hzs))
    · cases hst
  | _ => cases hin
