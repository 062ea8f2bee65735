/-! a method's body, in the abstract machine alone -/
def zG (mi d : Nat) (cf : zC) (r : Option zV) (M' : zM) : Prop :=
  ∀ (p : Program) (l : Launch) (e : Env) (s : State) (m : MethodId) (args : Array Value) (below : List Frame) (meth : Method) (c : Code) (D : va_G) (cA : Nat → ClassId) (adr : Nat → Nat),
    zCx p (zrm d) s m args c 0 0 D cA adr (zA adr) (zmN mi).cls (zmB mi) (zmL mi) → meth.sig.returnType = zmR mi → meth.locks = false →
    zS p l e (zrm d) s m args below meth c 0 0 D cA adr (zA adr) (zmL mi) (MQ below (zQc D cA adr r M') args s 0 0 (zA adr)) cf
section ZGR
variable {mi d : Nat} {r : Option zV} {M M' : zM} {pc : Nat} {lv : zL} {st : List zV}
theorem zG_br (hm : zmOK mi) {E : zE} (hE : zpt mi pc = some E) {cf' : zC} (h : zstep E pc lv st M = some cf') (k : zG mi d cf' r M') : zG mi d (pc, lv, st, M) r M' :=
  fun p l e s m args below meth c D cA adr C h1 h2 => zstep_ok C (hm.1 pc E hE).1 h (k p l e s m args below meth c D cA adr C h1 h2)
/-- n steps without a call, a switch, a return -/
def zrunN (mi : Nat) : Nat → zC → Option zC
  | 0, cf => some cf
  | n + 1, (pc, lv, st, M) => match zpt mi pc with
    | some E => match zstep E pc lv st M with
      | some cf' => zrunN mi n cf'
      | none => none
    | none => none
theorem zG_run (hm : zmOK mi) : ∀ (n : Nat) {cf cf' : zC}, zrunN mi n cf = some cf' → zG mi d cf' r M' → zG mi d cf r M' := by
  intro n
  induction n with
  | zero =>
    intro cf cf' h k
    cases h
    exact k
  | succ n ih =>
    intro cf cf' h k
    obtain ⟨pc, lv, st, M⟩ := cf
    unfold zrunN at h
    split at h
    · rename_i E hE
      split at h
      · rename_i cf1 h1
        exact zG_br hm hE h1 (ih h k)
      · cases h
    · cases h
theorem zdg {E : zE} (hm : zmOK mi) (hE : zpt mi pc = some E) : decode (zmB mi) pc = .ok (E.1, zil E.2.1 E.1) := by
  have h := (hm.1 pc E hE).1
  unfold zchk at h
  rw [Bool.and_eq_true, decide_eq_true_eq] at h
  exact h.1
theorem zG_V (hm : zmOK mi) {mi2 d2 idx ln y w k i pc2 : Nat} {z : Int} {as rest st2 : List zV} {r1 : Option zV} {M1 : zM} (hm2 : zmOK mi2) (hE : zpt mi pc = some (.invokevirtual idx, ln, mi2, y, w, z)) (hst : st = as.reverse ++ zr k i :: rest) (hc : (Nat.ble y 1 && !(zmS mi2) && zisO k (zmC mi2) && Nat.beq as.length (zmA mi2) && Nat.ble (rest.map zcat).sum 8) = true) (hd : d2 + 1 ≤ d)
    (hM : zMet mi2 d2 (zr k i :: as) M r1 M1) (h2 : (pc + 3, r1.toList ++ rest) = (pc2, st2)) (k2 : zG mi d (pc2, lv, st2, M1) r M') : zG mi d (pc, lv, st, M) r M' := by
  simp only [Bool.and_eq_true, Bool.not_eq_true'] at hc
  obtain ⟨⟨⟨⟨h1, hs2⟩, h3⟩, h4⟩, h5⟩ := hc
  have h1 := zNat_ble h1
  have h5 := zNat_ble h5
  cases h2
  subst hst
  intro p l e s m args below meth c D cA adr C hr hk
  exact zcallV C hm2 (zdg hm hE) (hm.1 pc _ hE).2 (by omega) hs2 h3 (Nat.eq_of_beq_eq_true h4) h5 ⟨by show d2 + 2 ≤ d + 1; omega, by show 60 * (d2 + 2) ≤ 60 * (d + 1); omega⟩ hM (k2 p l e s m args below meth c D cA adr C hr hk)
theorem zG_S (hm : zmOK mi) {mi2 d2 idx ln y w pc2 : Nat} {z : Int} {as rest st2 : List zV} {r1 : Option zV} {M1 : zM} (hm2 : zmOK mi2) (hE : zpt mi pc = some (.invokestatic idx, ln, mi2, y, w, z)) (hst : st = as.reverse ++ rest) (hc : (Nat.ble y 1 && zmS mi2 && Nat.beq as.length (zmA mi2) && Nat.ble (rest.map zcat).sum 8) = true) (hd : d2 + 1 ≤ d)
    (hM : zMet mi2 d2 as M r1 M1) (h2 : (pc + 3, r1.toList ++ rest) = (pc2, st2)) (k2 : zG mi d (pc2, lv, st2, M1) r M') : zG mi d (pc, lv, st, M) r M' := by
  simp only [Bool.and_eq_true] at hc
  obtain ⟨⟨⟨h1, hs2⟩, h4⟩, h5⟩ := hc
  have h1 := zNat_ble h1
  have h5 := zNat_ble h5
  cases h2
  subst hst
  intro p l e s m args below meth c D cA adr C hr hk
  exact zcallS C hm2 (zdg hm hE) (hm.1 pc _ hE).2 (by omega) hs2 (Nat.eq_of_beq_eq_true h4) h5 ⟨by show d2 + 2 ≤ d + 1; omega, by show 60 * (d2 + 2) ≤ 60 * (d + 1); omega⟩ hM (k2 p l e s m args below meth c D cA adr C hr hk)
theorem zG_max (hm : zmOK mi) {idx ln x w : Nat} {z a b : Int} {rest : List zV} (hE : zpt mi pc = some (.invokestatic idx, ln, x, 10, w, z)) (hc : Nat.ble (rest.map zcat).sum 8 = true) (k : zG mi d (pc + 3, lv, zi (if zw a < zw b then b else a) :: rest, M) r M') : zG mi d (pc, lv, zi b :: zi a :: rest, M) r M' :=
  fun p l e s m args below meth c D cA adr C h1 h2 => zmaxS C (zdg hm hE) (hm.1 pc _ hE).2 (zNat_ble hc) (k p l e s m args below meth c D cA adr C h1 h2)
theorem zG_min (hm : zmOK mi) {idx ln x w : Nat} {z a b : Int} {rest : List zV} (hE : zpt mi pc = some (.invokestatic idx, ln, x, 11, w, z)) (hc : Nat.ble (rest.map zcat).sum 8 = true) (k : zG mi d (pc + 3, lv, zi (if zw b < zw a then b else a) :: rest, M) r M') : zG mi d (pc, lv, zi b :: zi a :: rest, M) r M' :=
  fun p l e s m args below meth c D cA adr C h1 h2 => zminS C (zdg hm hE) (hm.1 pc _ hE).2 (zNat_ble hc) (k p l e s m args below meth c D cA adr C h1 h2)
theorem zG_abs (hm : zmOK mi) {idx ln x w : Nat} {z a : Int} {rest : List zV} (hE : zpt mi pc = some (.invokestatic idx, ln, x, 12, w, z)) (hc : Nat.ble (rest.map zcat).sum 8 = true) (k : zG mi d (pc + 3, lv, zi (if 0 ≤ zw a then a else 0 - a) :: rest, M) r M') : zG mi d (pc, lv, zi a :: rest, M) r M' :=
  fun p l e s m args below meth c D cA adr C h1 h2 => zabsS C (zdg hm hE) (hm.1 pc _ hE).2 (zNat_ble hc) (k p l e s m args below meth c D cA adr C h1 h2)
theorem zG_copy (hm : zmOK mi) {idx ln x w k1 i1 k2 i2 sp' dp' n' : Nat} {z sp dp n : Int} {rest : List zV} (hE : zpt mi pc = some (.invokestatic idx, ln, x, 13, w, z)) (t : Nat) (ht02 : t = 0 ∨ t = 2) (hc : (Nat.ble (rest.map zcat).sum 8 && zisA k1 t && zisA k2 t && Nat.ble (sp' + n') (zlen k1) && Nat.ble (dp' + n') (zlen k2) && Nat.ble 1 n') = true) (h1 : 0 ≤ zw sp) (h2 : 0 ≤ zw dp) (h3 : 0 ≤ zw n) (e1 : zix sp = sp') (e2 : zix dp = dp') (e3 : zix n = n')
    (k : zG mi d (pc + 3, lv, rest, zcopy M k1 i1 sp' k2 i2 dp' n') r M') : zG mi d (pc, lv, zi n :: zi dp :: zr k2 i2 :: zi sp :: zr k1 i1 :: rest, M) r M' := by
  simp only [Bool.and_eq_true] at hc
  obtain ⟨⟨⟨⟨⟨q1, q2⟩, q3⟩, q4⟩, q5⟩, q6⟩ := hc
  exact fun p l e s m args below meth c D cA adr C g1 g2 => zcopyS C (zdg hm hE) (hm.1 pc _ hE).2 (zNat_ble q1) t ht02 q2 q3 h1 h2 h3 e1 e2 e3 (zNat_ble q4) (zNat_ble q5) (zNat_ble q6) (k p l e s m args below meth c D cA adr C g1 g2)
theorem zG_tIn (hm : zmOK mi) {ln x y w tgt : Nat} {z df lo hi a v off : Int} {offs : Array Int} {rest : List zV} (hE : zpt mi pc = some (.tableswitch df lo hi offs, ln, x, y, w, z)) (ha : zw a = v) (hv : (decide (lo ≤ v) && decide (v ≤ hi)) = true) (ho : offs[(v - lo).toNat]? = some off) (ht : (pc : Int) + off = (tgt : Int)) (k : zG mi d (tgt, lv, rest, M) r M') : zG mi d (pc, lv, zi a :: rest, M) r M' := by
  simp only [Bool.and_eq_true, decide_eq_true_eq] at hv
  exact fun p l e s m args below meth c D cA adr C h1 h2 => zswIn C (zdg hm hE) (by omega) (by omega) (by rw [ha]; exact ho) ht (k p l e s m args below meth c D cA adr C h1 h2)
theorem zG_tOut (hm : zmOK mi) {ln x y w tgt : Nat} {z df lo hi a : Int} {offs : Array Int} {rest : List zV} (hE : zpt mi pc = some (.tableswitch df lo hi offs, ln, x, y, w, z)) (ha : zw a < lo ∨ hi < zw a) (ht : (pc : Int) + df = (tgt : Int)) (k : zG mi d (tgt, lv, rest, M) r M') : zG mi d (pc, lv, zi a :: rest, M) r M' :=
  fun p l e s m args below meth c D cA adr C h1 h2 => zswOut C (zdg hm hE) ha ht (k p l e s m args below meth c D cA adr C h1 h2)
theorem zG_lk (hm : zmOK mi) {ln x y w tgt : Nat} {z df a off : Int} {ps : Array (Int × Int)} {rest : List zV} (hE : zpt mi pc = some (.lookupswitch df ps, ln, x, y, w, z)) (hp : (ps.toList.zip (ps.toList.drop 1)).all (fun (a, next) => a.1 < next.1) = true) (ho : Op.lookupswitch.offset ps.toList df (zw a) = off) (ht : (pc : Int) + off = (tgt : Int)) (k : zG mi d (tgt, lv, rest, M) r M') : zG mi d (pc, lv, zi a :: rest, M) r M' :=
  fun p l e s m args below meth c D cA adr C h1 h2 => zswLk C (zdg hm hE) hp ho ht (k p l e s m args below meth c D cA adr C h1 h2)
theorem zG_ri (hm : zmOK mi) {ln x y w : Nat} {z a : Int} (hE : zpt mi pc = some (.ireturn, ln, x, y, w, z)) (hr : zmR mi = some .int) : zG mi d (pc, lv, [zi a], M) (some (zi a)) M := by
  intro p l e s m args below meth c D cA adr C h1 h2 H locs ls hP hS hlen hl hzl hzs
  obtain ⟨hx, hb, hml, hown, hts, hK, hDj, hAz, hR⟩ := C
  exact W.iret (v := Int32.ofInt a) hx hb (h1.trans hr) (fun t ht hW => ⟨rfl, by rw [ht]; exact hP, hS.F ht⟩) hS.2.2 (zdg hm hE) h2
theorem zG_rz (hm : zmOK mi) {ln x y w : Nat} {z a : Int} (hE : zpt mi pc = some (.ireturn, ln, x, y, w, z)) (hr : zmR mi = some .boolean) (ha : a = 0 ∨ a = 1) : zG mi d (pc, lv, [zi a], M) (some (zi a)) M := by
  intro p l e s m args below meth c D cA adr C h1 h2 H locs ls hP hS hlen hl hzl hzs
  obtain ⟨hx, hb, hml, hown, hts, hK, hDj, hAz, hR⟩ := C
  exact W.zret (v := Int32.ofInt a) hx hb (h1.trans hr) (by rcases ha with rfl | rfl <;> rfl) (fun t ht hW => ⟨rfl, by rw [ht]; exact hP, hS.F ht⟩) hS.2.2 (zdg hm hE) h2
theorem zG_rl (hm : zmOK mi) {ln x y w : Nat} {z a : Int} (hE : zpt mi pc = some (.lreturn, ln, x, y, w, z)) (hr : zmR mi = some .long) : zG mi d (pc, lv, [zl a], M) (some (zl a)) M := by
  intro p l e s m args below meth c D cA adr C h1 h2 H locs ls hP hS hlen hl hzl hzs
  obtain ⟨hx, hb, hml, hown, hts, hK, hDj, hAz, hR⟩ := C
  exact W.lret (v := Int64.ofInt a) hx hb (h1.trans hr) (fun t ht hW => ⟨rfl, by rw [ht]; exact hP, hS.F ht⟩) hS.2.2 (zdg hm hE) h2
theorem zG_rv (hm : zmOK mi) {ln x y w : Nat} {z : Int} (hE : zpt mi pc = some (.return_, ln, x, y, w, z)) (hr : zmR mi = none) : zG mi d (pc, lv, [], M) none M := by
  intro p l e s m args below meth c D cA adr C h1 h2 H locs ls hP hS hlen hl hzl hzs
  obtain ⟨hx, hb, hml, hown, hts, hK, hDj, hAz, hR⟩ := C
  exact W.vret hx hb (h1.trans hr) (fun t ht hW => ⟨rfl, by rw [ht]; exact hP, hS.F ht⟩) hS.2.2 (zdg hm hE) h2
/-- fewer locals are known -/
def zsub : zL → zL → Prop
  | [], [] => True
  | none :: a, _ :: b => zsub a b
  | some v :: a, o :: b => o = some v ∧ zsub a b
  | _, _ => False
theorem zsub_len : ∀ {a b : zL}, zsub a b → a.length = b.length
  | [], [], _ => rfl
  | none :: a, _ :: b, h => by have := zsub_len (a := a) (b := b) h; simp [this]
  | some v :: a, o :: b, h => by have := zsub_len (a := a) (b := b) h.2; simp [this]
  | [], _ :: _, h => absurd h (by simp [zsub])
  | none :: _, [], h => absurd h (by simp [zsub])
  | some _ :: _, [], h => absurd h (by simp [zsub])
theorem zsub_at : ∀ {a b : zL}, zsub a b → ∀ (i : Nat) (v : zV), a[i]? = some (some v) → b[i]? = some (some v)
  | none :: a, _ :: b, h, i, v, hi => by
    cases i with
    | zero => cases hi
    | succ n => exact zsub_at (a := a) (b := b) h n v hi
  | some w :: a, o :: b, h, i, v, hi => by
    cases i with
    | zero => cases hi; rw [h.1]; rfl
    | succ n => exact zsub_at (a := a) (b := b) h.2 n v hi
  | [], _, _, i, v, hi => by cases hi
  | none :: _, [], h, _, _, _ => absurd h (by simp [zsub])
  | some _ :: _, [], h, _, _, _ => absurd h (by simp [zsub])
theorem zG_sub {lv' : zL} (hs : zsub lv' lv) (k : zG mi d (pc, lv', st, M) r M') : zG mi d (pc, lv, st, M) r M' := by
  intro p l e s m args below meth c D cA adr C h1 h2 H locs ls hP hS hlen hl hzl hzs
  refine k p l e s m args below meth c D cA adr C h1 h2 H locs ls hP hS ((zsub_len hs).trans hlen) (zlv_sub hl fun q hq => ?_) (fun v hv => ?_) hzs
  · obtain ⟨i, v, hi, rfl⟩ := zll_mem.mp hq
    exact zll_mem.mpr ⟨i, v, zsub_at hs i v hi, rfl⟩
  · obtain ⟨i, hi⟩ := List.getElem?_of_mem hv
    exact zlvok hzl (zsub_at hs i v hi)
def zent : List zV → zL
  | [] => []
  | .inl a :: t => some (zi a) :: zent t
  | .inr (.inl a) :: t => some (zl a) :: none :: zent t
  | .inr (.inr (k, i)) :: t => some (zr k i) :: zent t
theorem zsb_s {a b : zL} {v : zV} {o : Option zV} (h : o = some v) (h2 : zsub a b) : zsub (some v :: a) (o :: b) := ⟨h, h2⟩
theorem zsb_n {a b : zL} {o : Option zV} (h2 : zsub a b) : zsub (none :: a) (o :: b) := h2
theorem zsb_0 : zsub [] [] := trivial
theorem zent_args {adr : Nat → Nat} : ∀ (as : List zV) (k i : Nat) (v : zV), (zent as)[i]? = some (some v) → (k + i, zc adr v) ∈ lv_args k (as.map (zc adr))
  | [], _, i, v, h => by cases h
  | .inl a :: t, k, i, v, h => by
    cases i with
    | zero => cases h; exact List.mem_cons_self
    | succ n =>
      have h2 := zent_args (adr := adr) t (k + 1) n v h
      exact List.mem_cons_of_mem _ (by rw [show k + (n + 1) = k + 1 + n by omega]; exact h2)
  | .inr (.inl a) :: t, k, i, v, h => by
    cases i with
    | zero => cases h; exact List.mem_cons_self
    | succ n =>
      cases n with
      | zero => cases h
      | succ n =>
        have h2 := zent_args (adr := adr) t (k + 2) n v h
        exact List.mem_cons_of_mem _ (by rw [show k + (n + 1 + 1) = k + 2 + n by omega]; exact h2)
  | .inr (.inr (a, b)) :: t, k, i, v, h => by
    cases i with
    | zero => cases h; exact List.mem_cons_self
    | succ n =>
      have h2 := zent_args (adr := adr) t (k + 1) n v h
      exact List.mem_cons_of_mem _ (by rw [show k + (n + 1) = k + 1 + n by omega]; exact h2)
theorem zent_sl {adr : Nat → Nat} : ∀ (as : List zV), (lg_sl (as.map (zc adr))).length = (zent as).length
  | [] => rfl
  | .inl a :: t => by
    have := zent_sl (adr := adr) t
    simp only [lg_sl, List.map_cons, List.flatMap_cons, List.length_append] at this ⊢
    rw [this]
    show 1 + _ = (zent t).length + 1
    omega
  | .inr (.inl a) :: t => by
    have := zent_sl (adr := adr) t
    simp only [lg_sl, List.map_cons, List.flatMap_cons, List.length_append] at this ⊢
    rw [this]
    show 2 + _ = (zent t).length + 1 + 1
    omega
  | .inr (.inr (a, b)) :: t => by
    have := zent_sl (adr := adr) t
    simp only [lg_sl, List.map_cons, List.flatMap_cons, List.length_append] at this ⊢
    rw [this]
    show 1 + _ = (zent t).length + 1
    omega
theorem zent_ok : ∀ (as : List zV), (∀ v ∈ as, zok v) → ∀ v, some v ∈ zent as → zok v
  | [], _, v, hv => by cases hv
  | .inl a :: t, h, v, hv => by
    rcases List.mem_cons.mp hv with q | q
    · cases q; exact h _ List.mem_cons_self
    · exact zent_ok t (zs1 h) v q
  | .inr (.inl a) :: t, h, v, hv => by
    rcases List.mem_cons.mp hv with q | q
    · cases q; exact h _ List.mem_cons_self
    · rcases List.mem_cons.mp q with q | q
      · cases q
      · exact zent_ok t (zs1 h) v q
  | .inr (.inr (a, b)) :: t, h, v, hv => by
    rcases List.mem_cons.mp hv with q | q
    · cases q; exact h _ List.mem_cons_self
    · exact zent_ok t (zs1 h) v q
theorem zMet_of {as : List zV} {lv0 : zL} (hm : zmOK mi) (he : zent as ++ List.replicate (zmL mi - (zent as).length) none = lv0) (hle : Nat.ble (zent as).length (zmL mi) = true) (hr : ∀ v, r = some v → zok v) (h : zG mi d (0, lv0, [], M) r M') : zMet mi d as M r M' := by
  refine ⟨hr, fun l D cA adr hDj hok => ?_⟩
  have hle := zNat_ble hle
  refine Met.ofW (cc := zmB mi) (maxL := zmL mi) (ret := zmR mi) (ws' := zwords) hm.2.2.2.2.2.2.1 rfl ?_
  intro p e s m args below meth c s₁ B hml hv
  obtain ⟨rfl, hP, hK⟩ := hv
  have hts := atoms_spec (ws := zws mi) B.pre
  rw [lg_entry_eq]
  have hl := lv_entry (as.map (zc adr)) (n := zmL mi) (by rw [zent_sl]; exact hle)
  have hlen : lv0.length = zmL mi := by
    rw [← he, List.length_append, List.length_replicate]
    omega
  have hat : ∀ (i : Nat) (v : zV), lv0[i]? = some (some v) → (zent as)[i]? = some (some v) := by
    intro i v hi
    rw [← he] at hi
    by_cases q : i < (zent as).length
    · rwa [List.getElem?_append_left q] at hi
    · rw [List.getElem?_append_right (by omega)] at hi
      have := List.eq_of_mem_replicate (List.mem_of_getElem? hi)
      cases this
  refine h p l e s m _ below meth c D cA adr ⟨B.exec, B.bytes, hml, findClass_of_methodNamed B.named, fun w hw => hts w (List.mem_cons_of_mem _ hw), hK, hDj, fun _ q => q, by show 1 ≤ d + 1; omega, by show 40 ≤ 60 * (d + 1); omega, Nat.le_refl _, Nat.le_refl _⟩ B.returns B.notSynchronized s.heap [] _ hP va_S.rf hlen (zlv_sub hl fun q hq => ?_) (fun v hv => ?_) (fun v hv => by cases hv)
  · obtain ⟨i, v, hi, rfl⟩ := zll_mem.mp hq
    have := zent_args (adr := adr) as 0 i v (hat i v hi)
    rwa [Nat.zero_add] at this
  · obtain ⟨i, hi⟩ := List.getElem?_of_mem hv
    exact zent_ok as hok v (List.mem_of_getElem? (hat i v hi))
end ZGR
/-! loops -/
def zlp {S E : Type} (body : S → Option (S ⊕ E)) : Nat → S → Option E
  | 0, _ => none
  | n + 1, s => match body s with
    | none => none
    | some (.inl s') => zlp body n s'
    | some (.inr e) => some e
theorem zlp_cases {S E : Type} {body : S → Option (S ⊕ E)} {n : Nat} {s : S} {e : E} (h : zlp body (n + 1) s = some e) : (∃ s', body s = some (.inl s') ∧ zlp body n s' = some e) ∨ body s = some (.inr e) := by
  unfold zlp at h
  split at h
  · cases h
  · rename_i s' hs
    exact Or.inl ⟨s', hs, h⟩
  · rename_i e' hs
    cases h
    exact Or.inr hs
/-- turns that a loop may take -/
def zF : Nat := 1000000

