section CJ
variable {p : Program} {l : Launch} {e : Env} {R : Room} {s : State} {m : MethodId} {args : Array Value} {below : List Frame} {meth : Method} {c : Code} {Q : State → Prop} {D : va_G} {cA : Nat → ClassId} {own : String} {cc : ByteArray} {nL n0 : Nat}
def cCx (ini : Bool) (p : Program) (R : Room) (s : State) (m : MethodId) (args : Array Value) (meth : Method) (c : Code) (D : va_G) (cA : Nat → ClassId) (own : String) (cc : ByteArray) (nL : Nat) : Prop :=
  p.tables.exec = Jvm.exec ∧ c.code = cc ∧ c.maxLocals = nL ∧ s.vm.findClass own = some m.cls ∧ (∀ w ∈ zwords, w.before args s = true) ∧ cK D cA s ∧ (ini = true → meth.name = "<init>") ∧ 1 ≤ R.frames ∧ 60 ≤ R.locals
def cJ (p : Program) (l : Launch) (e : Env) (R : Room) (s : State) (m : MethodId) (args : Array Value) (below : List Frame) (meth : Method) (c : Code) (D : va_G) (cA : Nat → ClassId) (n0 nL : Nat) (Q : State → Prop) (cf : cS) : Prop :=
  ∀ (H : Heap) (locs : List Loc) (ls : Array Slot), cWd D n0 cA cf.2.2.2.1 H → va_S (fun q => n0 ≤ q) s.heap H locs → cf.2.1.length = nL → lv_has ls nL (zll (cad n0) cf.2.1) →
    W p l e R s m args below meth c H locs cf.2.2.2.2.1 cf.2.2.2.2.2 Q (F0 m cf.1 ls (cf.2.2.1.map (zc (cad n0))))
theorem cbif {α : Type} {b : Bool} {a : α} {x : α} (h : (bif b then some a else none) = some x) : b = true ∧ a = x := by
  cases b with
  | true => exact ⟨rfl, Option.some.inj h⟩
  | false => cases h
theorem cinr_ok {n : Int} (h : cinr n = true) : Int32.ofInt n = Int32.ofNat n.toNat ∧ n.toNat < 10000 := by
  unfold cinr at h
  rw [Bool.and_eq_true, decide_eq_true_eq, decide_eq_true_eq] at h
  obtain ⟨k, rfl⟩ := Int.eq_ofNat_of_zero_le h.1
  exact ⟨rfl, by omega⟩
/-- more cells and slots were made -/
theorem cstep_mono {E : zE} {cf cf' : cS} (h : cstep E cf = some cf') : cf.2.2.2.2.1 ≤ cf'.2.2.2.2.1 ∧ cf.2.2.2.2.2 ≤ cf'.2.2.2.2.2 := by
  obtain ⟨ins, ln, x, y, w, z⟩ := E
  obtain ⟨pc, lv, st, hl, nc, ns⟩ := cf
  unfold cstep at h
  dsimp only at h ⊢
  split at h
  all_goals first
    | (cases h; done)
    | (cases h; exact ⟨Nat.le_refl _, Nat.le_refl _⟩)
    | (cases h; exact ⟨by dsimp only; omega, by dsimp only; omega⟩)
    | (split at h <;> first | (cases h; done) | (cases h; exact ⟨Nat.le_refl _, Nat.le_refl _⟩) | (obtain ⟨-, h⟩ := zcond h rfl; cases h; exact ⟨Nat.le_refl _, Nat.le_refl _⟩) | (split at h <;> (cases h; exact ⟨Nat.le_refl _, Nat.le_refl _⟩)) | (obtain ⟨_, -, h⟩ := Option.map_eq_some_iff.mp h; subst h; exact ⟨Nat.le_refl _, Nat.le_refl _⟩) | (obtain ⟨-, h⟩ := cbif h; subst h; exact ⟨by dsimp only; omega, by dsimp only; omega⟩))
    | (obtain ⟨-, h⟩ := zcond h rfl; split at h <;> first | (cases h; done) | (obtain ⟨-, h⟩ := zcond h rfl; cases h; exact ⟨Nat.le_refl _, Nat.le_refl _⟩))
set_option maxHeartbeats 8000000 in
set_option maxRecDepth 20000 in
theorem cstep_ok {ini : Bool} (C : cCx ini p R s m args meth c D cA own cc nL) {E : zE} {pc : Nat} {lv : zL} {st : List zV} {hl : List cE} {nc ns : Nat} {cf' : cS} (hchk : zchk own cc pc E = true) (hck : cchk ini own E = true) (hst : cstep E (pc, lv, st, hl, nc, ns) = some cf') (hR : cf'.2.2.2.2.1 ≤ R.cells ∧ cf'.2.2.2.2.2 ≤ R.slots) (h : cJ p l e R s m args below meth c D cA n0 nL Q cf') : cJ p l e R s m args below meth c D cA n0 nL Q (pc, lv, st, hl, nc, ns) := by
  obtain ⟨ins, ln, x, y, w, z⟩ := E
  obtain ⟨hx, hb, hml, hown, hts, ⟨hKv, hNw, hTx, hTh, hAA⟩, hini, hRf, hRl⟩ := C
  obtain ⟨hdg, hc2⟩ : decode cc pc = .ok (ins, zil ln ins) ∧ zchk2 own pc (ins, ln, x, y, w, z) = true := by
    unfold zchk at hchk
    rw [Bool.and_eq_true, decide_eq_true_eq] at hchk
    exact hchk
  intro H locs ls hWd hS hlen hl0
  obtain ⟨hP, hsz⟩ := hWd
  have hDw : va_D (fun q => n0 ≤ q) (clay n0 cA hl) := cD_of n0 cA hl
  dsimp only at hP hsz hlen hl0 ⊢
  unfold cstep at hst
  dsimp only at hst
  have hpush : ∀ (H1 : Heap) (ce : cE), va_at D vwCl (n0 + hl.length, ccell n0 cA ce) H1 → H1.size = H.size + 1 → (∀ q : Nat, q < H.size → H1[q]? = H[q]?) → cWd D n0 cA (hl ++ [ce]) H1 ∧ va_S (fun q => n0 ≤ q) s.heap H1 locs := by
    intro H1 ce h1 h2 h3
    refine ⟨⟨?_, by rw [h2, hsz, List.length_append]; rfl⟩, Nat.le_trans hS.1 (by omega), fun q g1 g2 => (h3 q (Nat.lt_of_lt_of_le g1 hS.1)).trans (hS.2.1 q g1 g2), hS.2.2⟩
    rw [clay_push]
    refine (hP.kept fun k q hk => h3 q.1 (hP k q hk).lt).app fun k q hk => ?_
    have hz : k < 1 := (List.getElem?_eq_some_iff.mp hk).1
    rw [show k = 0 by omega] at hk
    cases hk
    exact h1
  split at hst
  · -- iconst
    cases hst
    exact lv_iconst hx hb hdg rfl (h H locs ls ⟨hP, hsz⟩ hS hlen hl0)
  · cases hst
    exact lv_bipush hx hb hdg (of_decide_eq_true hc2) (h H locs ls ⟨hP, hsz⟩ hS hlen hl0)
  · cases hst
    exact lv_sipush hx hb hdg (of_decide_eq_true hc2) (h H locs ls ⟨hP, hsz⟩ hS hlen hl0)
  · -- iload_n
    split at hst
    · rename_i a ha
      cases hst
      exact lv_iload_n hx hb hdg rfl (zlv_at hl0 ha) (h H locs ls ⟨hP, hsz⟩ hS hlen hl0)
    · cases hst
  · -- aload_n
    split at hst
    · rename_i j ha
      cases hst
      exact lv_aload_n hx hb hdg rfl (zlv_at hl0 ha) (h H locs ls ⟨hP, hsz⟩ hS hlen hl0)
    · cases hst
  · -- istore_n
    split at hst
    · obtain ⟨hb1, hst⟩ := zcond hst rfl
      cases hst
      have hb2 := zNat_ble hb1
      refine lv_istore_n hx hb hdg rfl hl0 (by omega) rfl (fun ls' hl' => ?_)
      exact h H locs ls' ⟨hP, hsz⟩ hS (by simp only [zst1_len]; exact hlen) (zlv_sub hl' zll_st1)
    · cases hst
  · -- astore_n
    split at hst
    · obtain ⟨hb1, hst⟩ := zcond hst rfl
      cases hst
      have hb2 := zNat_ble hb1
      refine lv_astore_n hx hb hdg rfl hl0 (by omega) rfl (fun ls' hl' => ?_)
      exact h H locs ls' ⟨hP, hsz⟩ hS (by simp only [zst1_len]; exact hlen) (zlv_sub hl' zll_st1)
    · cases hst
  · -- iinc
    split at hst
    · rename_i i n _ a ha
      cases hst
      have hi : i < nL := by rw [← hlen]; exact (List.getElem?_eq_some_iff.mp ha).1
      obtain ⟨k, hk⟩ := List.getElem?_of_mem (zll_mem (adr := cad n0).mpr ⟨i, _, ha, rfl⟩)
      refine lv_iinc (v := Int32.ofInt (a + n)) hx hb hdg hl0 hk (Int32.ofInt_add a n).symm hi rfl (fun ls' hl' => ?_)
      exact h H locs ls' ⟨hP, hsz⟩ hS (by simp only [zst1_len]; exact hlen) (zlv_sub hl' zll_st1)
    · cases hst
  · -- dup
    split at hst
    · cases hst
      exact lv_dup hx hb hdg rfl (h H locs ls ⟨hP, hsz⟩ hS hlen hl0)
    · cases hst
  · -- goto
    cases hst
    exact lv_goto hx hb hdg (of_decide_eq_true hc2) (h H locs ls ⟨hP, hsz⟩ hS hlen hl0)
  · -- if_icmp ge
    split at hst
    · have hc2 := of_decide_eq_true hc2
      refine lv_icmp_ge hx hb hdg hc2 (fun q => ?_) (fun q => ?_)
      · rw [if_pos ((z_ge).mp q)] at hst
        cases hst
        exact h H locs ls ⟨hP, hsz⟩ hS hlen hl0
      · rw [if_neg (fun z => q ((z_ge).mpr z))] at hst
        cases hst
        exact h H locs ls ⟨hP, hsz⟩ hS hlen hl0
    · cases hst
  · -- getfield
    split at hst
    · rename_i j r
      obtain ⟨v, hv, hst⟩ := Option.map_eq_some_iff.mp hst
      subst hst
      unfold cget at hv
      split at hv
      · rename_i ci fs hj
        cases hbe : Nat.beq ci y with
        | false => rw [hbe] at hv; cases hv
        | true =>
          rw [hbe] at hv
          have e1 := Nat.eq_of_beq_eq_true hbe
          subst e1
          dsimp only [cond_true] at hv
          have hfx : fs[x]? = some (some v) := by
            rw [List.getD_eq_getElem?_getD] at hv
            cases hq : fs[x]? with
            | none => rw [hq] at hv; cases hv
            | some o => rw [hq] at hv; exact congrArg some hv
          dsimp only [zchk2, cchk] at hc2 hck
          unfold zchkF at hc2
          split at hc2
          · rename_i CC T N hc
            rw [hc] at hck
            simp only [Bool.and_eq_true, decide_eq_true_eq] at hck hc2
            obtain ⟨hxN, rfl⟩ := hck
            have he := clay_get (n0 := n0) (cA := cA) hj
            have hfs : (fs.map (cfv n0))[x]? = some (zc (cad n0) v) := by rw [List.getElem?_map, hfx]; rfl
            rw [List.map_cons, crf]
            exact va_get (D := D) hx hb hts (zcl_in hc) hown hKv hP j he hc x hxN (hts _ (zwat_in (of_decide_eq_true hc2.2) rfl)) (fun _ h9 => h9) hfs hdg (h H locs ls ⟨hP, hsz⟩ hS hlen hl0)
          · rename_i hc
            rw [hc] at hck
            cases hck
      · cases hv
    · cases hst
  · -- putfield
    split at hst
    · rename_i v j r
      obtain ⟨h2, hv, hst⟩ := Option.map_eq_some_iff.mp hst
      subst hst
      unfold cput at hv
      split at hv
      · rename_i ci fs hj
        obtain ⟨hg, rfl⟩ := cbif hv
        simp only [Bool.and_eq_true] at hg
        obtain ⟨⟨hbe, hxl⟩, hfit⟩ := hg
        have e1 := Nat.eq_of_beq_eq_true hbe
        subst e1
        have hxl : x < fs.length := by
          have := hxl
          unfold Nat.blt at this
          exact Nat.ble_eq.mp this
        dsimp only [zchk2, cchk] at hc2 hck
        unfold zchkF at hc2
        split at hc2
        · rename_i CC T N hc
          rw [hc] at hck
          simp only [Bool.and_eq_true, Bool.or_eq_true, decide_eq_true_eq] at hck hc2
          obtain ⟨⟨⟨hxN, rfl⟩, hdc⟩, hif⟩ := hck
          have he := clay_get (n0 := n0) (cA := cA) hj
          obtain ⟨ty0, hty⟩ := zcl_ty hc
          have key : narrow (ty0 x) (zc (cad n0) v) = zc (cad n0) v ∧ fits (ty0 x) (zc (cad n0) v) = true := by
            rcases cty hc hxN (hty x hxN) with ⟨g1, g2⟩ | ⟨g1, g2⟩ | ⟨g1, g2, -⟩
            · rw [g1] at hfit
              rw [g2]
              match v, hfit with
              | .inl a, _ => exact ⟨rfl, rfl⟩
            · rw [g1] at hfit
              rw [g2]
              match v, hfit with
              | .inl a, hfit =>
                have hfit : (false || (true && (decide (a = 0) || decide (a = 1)))) = true := hfit
                simp only [Bool.false_or, Bool.true_and, Bool.or_eq_true, decide_eq_true_eq] at hfit
                rcases hfit with rfl | rfl
                · exact ⟨rfl, rfl⟩
                · exact ⟨rfl, rfl⟩
            · rw [g1] at hfit
              match v, hfit with
              | .inr (.inr (a, b)), _ => exact ⟨(by cases hq : ty0 x <;> rw [hq] at g2 <;> first | rfl | cases g2), Jvm.Free.Multi.refFits g2 _ (Or.inr ⟨_, rfl⟩)⟩
              | .inl a, hfit => cases hfit
          rw [List.map_cons, List.map_cons, crf]
          refine cputR (D := D) hx hb hts hc hown hKv hP hDw j he x hxN (by have h9 := hts _ (zwat_in (of_decide_eq_true hc2.2) rfl); exact h9) (fun hf => ⟨hif.elim hini (fun q => absurd (q.symm.trans hf) (by decide)), hdc⟩) (hty x hxN) key.1 key.2 (by rw [List.length_map]; exact hxl) hdg fun H1 sl hP1 hz1 hq1 => ?_
          have e2 : (clay n0 cA hl).set j (n0 + j, .inr (ci, (fs.map (cfv n0)).set x (zc (cad n0) v))) = clay n0 cA (hl.set j (.inl (ci, fs.set x (some v)))) := by
            rw [← clay_set]
            show _ = (clay n0 cA hl).set j (n0 + j, Sum.inr (ci, (fs.set x (some v)).map (cfv n0)))
            rw [List.map_set]
            rfl
          rw [e2] at hP1
          refine h H1 _ ls ⟨hP1, by rw [hz1, hsz]; simp⟩ (hS.put hz1 hq1 (by show n0 ≤ n0 + j; omega)) hlen hl0
        · rename_i hc
          rw [hc] at hck
          cases hck
      · cases hv
    · cases hst
  · -- aastore
    split at hst
    · rename_i v i j r
      obtain ⟨h2, hv, hst⟩ := Option.map_eq_some_iff.mp hst
      subst hst
      unfold cast at hv
      split at hv
      · rename_i t lr hj
        obtain ⟨hg, rfl⟩ := cbif hv
        simp only [Bool.and_eq_true, decide_eq_true_eq] at hg
        obtain ⟨⟨⟨g1, g2⟩, g3⟩, g4⟩ := hg
        have g3 : lr.length < 1000 := by
          have := g3
          unfold Nat.blt at this
          exact Nat.ble_eq.mp this
        obtain ⟨i0, rfl⟩ := Int.eq_ofNat_of_zero_le g1
        unfold cfitA at g4
        split at g4
        · rename_i ci fs hv2
          have hcl : ∃ (q : vw_C), vwCl[ci]? = some q ∧ (ztys cA)[t]? = some (cA t, .object q.1) := by
            simp only [Bool.or_eq_true, Bool.and_eq_true] at g4
            rcases g4 with ⟨a1, a2⟩ | ⟨a1, a2⟩
            · have a1 := Nat.eq_of_beq_eq_true a1
              have a2 := Nat.eq_of_beq_eq_true a2
              subst a1; subst a2
              exact ⟨_, rfl, rfl⟩
            · have a1 := Nat.eq_of_beq_eq_true a1
              have a2 := Nat.eq_of_beq_eq_true a2
              subst a1; subst a2
              exact ⟨_, rfl, rfl⟩
          obtain ⟨q, hc, ht⟩ := hcl
          have he := clay_get (n0 := n0) (cA := cA) hj
          have hev := clay_get (n0 := n0) (cA := cA) hv2
          have hii : (Int32.ofNat i0).toNatClampNeg = i0 := nI_clamp (by omega)
          obtain ⟨r', hr', cellV, q1, q2, q3, -⟩ := hP v _ hev
          have hcls := (hKv.1 ci q hc).2
          obtain ⟨kA, comp, k1, k2, k3, -⟩ := (hKv.2 t _ ht).2
          have hcomp : comp = D.1 ci := Option.some.inj (k3.symm.trans hcls.1)
          subst hcomp
          obtain ⟨kC, hkC, -⟩ := id hcls.2
          have hlt : i0 < lr.length := by omega
          rw [List.map_cons, List.map_cons, List.map_cons, crf, crf]
          show W p l e R s m args below meth c H locs nc ns Q (F0 m pc ls (.ref (n0 + v) :: .int (Int32.ofNat i0) :: .ref (n0 + j) :: r.map (zc (cad n0))))
          refine W.aast (j := Int32.ofNat i0) hx hb (hP j _ he) (fun q h => by cases h) (fun h => by cases h) k1 k2 rfl hkC ⟨nI_pos (by omega), by show _ < (arrV _ _ _).slots.size; rw [arrV_size, hii]; exact hlt⟩ q1 (fun q h => by rw [q3] at h; cases h) (by rw [q2]; exact hkC) (by rw [q2]; exact va_assign hcls) rfl rfl hdg fun H1 e1 z1 oq => ?_
          rw [hii] at e1 ⊢
          have hcell : H1[n0 + j]? = some (vp_cell (cA t) ((lr.set i0 (some v)).length, .inr (.inr (.inr (.inr (cref n0 (lr.set i0 (some v)))))))) := by
            refine e1.trans ?_
            show some ((vp_cell (cA t) (lr.length, .inr (.inr (.inr (.inr (cref n0 lr)))))).setSlot i0 (.ref (n0 + v))) = _
            rw [vp_cell_q, vp_cell_q, arrV_store, List.length_set]
            congr 2
            funext k
            unfold updV cref
            by_cases hk : k = i0
            · subst hk
              rw [if_pos rfl]
              simp [va_rf, List.getD_eq_getElem?_getD, hlt]
            · rw [if_neg hk]
              simp [List.getD_eq_getElem?_getD, List.getElem?_set_ne (Ne.symm hk)]
          have hP1 := hP.set (H1 := H1) hDw he (e := ccell n0 cA (.inr (.inr (t, lr.set i0 (some v))))) hcell oq
          rw [clay_set] at hP1
          exact h H1 _ ls ⟨hP1, by rw [z1, hsz]; simp⟩ (hS.put z1 oq (by show n0 ≤ n0 + j; omega)) hlen hl0
        · cases g4
      · cases hv
    · cases hst
  · -- new
    cases hst
    dsimp only [zchk2, cchk] at hc2 hck
    split at hck
    · rename_i CC T N hc
      simp only [Bool.and_eq_true, decide_eq_true_eq] at hck
      obtain ⟨⟨w1, w2⟩, w3⟩ := hck
      have hKn := hKv.1 x _ hc
      obtain ⟨ty0, hty⟩ := zcl_ty hc
      have hcn : cnew x = (List.range N).map (cdf x) := by unfold cnew; rw [hc]
      have hN : (cnew x).length = N := by rw [hcn]; simp
      dsimp only at hR
      rw [hN] at hR
      refine W.newcK hx hb hown (hts _ (zwat_in w1 rfl)) (hts _ (zwat_in w2 rfl)) (hts _ (zwat_in w3 rfl)) rfl hdg (by omega) (by omega) hKn.2.1 rfl fun H1 kC hkC e1 z1 o1 => ?_
      have hfs : ∀ j, j < N → defaultValue (ty0 j) = vp_V ((cnew x).map (cfv n0)) j := by
        intro j hj
        have e3 : ((cnew x).map (cfv n0))[j]? = some (cfv n0 (cdf x j)) := by
          rw [hcn, List.getElem?_map, List.getElem?_map, List.getElem?_range hj]; rfl
        have e4 : vp_V ((cnew x).map (cfv n0)) j = cfv n0 (cdf x j) := by
          first
            | exact vp_V_get e3
            | (unfold vp_V; rw [List.getD_eq_getElem?_getD, e3]; rfl)
        rw [e4]
        unfold cdf
        rcases cty hc hj (hty j hj) with ⟨g1, g2⟩ | ⟨g1, g2⟩ | ⟨g1, -, g2⟩
        · rw [g1, g2]; rfl
        · rw [g1, g2]; rfl
        · rw [g1, g2]; rfl
      obtain ⟨b1, b2⟩ := hpush H1 (.inl (x, cnew x)) (by rw [← hsz]; exact ⟨_, hc, (u_born ty0 hts (zcl_in hc) hKn hkC e1 hty).to hfs⟩) z1 o1
      have hz := h H1 locs ls b1 b2 hlen hl0
      dsimp only at hz
      rw [hN, List.map_cons, crf, ← hsz] at hz
      exact hz
    · cases hck
  · -- newarray
    split at hst
    · rename_i t _ n r
      obtain ⟨hg, hst⟩ := cbif hst
      subst hst
      rw [Bool.and_eq_true] at hg
      obtain ⟨hn, ht⟩ := hg
      obtain ⟨en, hn2⟩ := cinr_ok hn
      have hck2 := of_decide_eq_true hck
      dsimp only at hR
      have key : ∃ ty0 : FieldType, newarray.typeOf t = ty0 ∧ (ztys cA)[catag t]? = some (cA (catag t), ty0) ∧ (s.vm.findClass ("[" ++ ty0.toString) = some (cA (catag t))) ∧ (∀ N, vp_cell (cA (catag t)) (N, cprim (catag t)) = arrV (cA (catag t)) N (fun _ => defaultValue ty0)) ∧ componentBytes ty0 ≤ 8 := by
        cases t with
        | int => exact ⟨.int, rfl, rfl, (hKv.2 0 _ rfl).2, fun N => rfl, by decide⟩
        | byte => exact ⟨.byte, rfl, rfl, (hKv.2 1 _ rfl).2, fun N => rfl, by decide⟩
        | boolean => exact ⟨.boolean, rfl, rfl, (hKv.2 2 _ rfl).2, fun N => rfl, by decide⟩
        | long => exact ⟨.long, rfl, rfl, (hKv.2 3 _ rfl).2, fun N => rfl, by decide⟩
        | _ => cases ht
      obtain ⟨ty0, e1, e2, e3, e4, e5⟩ := key
      have hb9 : n.toNat * componentBytes (newarray.typeOf t) ≤ 536870912 := by
        rw [e1]
        have := Nat.mul_le_mul (show n.toNat ≤ 10000 by omega) e5
        omega
      rw [List.map_cons]
      show W p l e R s m args below meth c H locs nc ns Q (F0 m pc ls (.int (Int32.ofInt n) :: r.map (zc (cad n0))))
      rw [en]
      refine va_newaK (n := Int32.ofNat n.toNat) hx hb (hts _ (zwat_in hck2 rfl)) rfl hdg rfl (nI_pos (by omega)) (nI_clamp (by omega)) hb9 (by omega) (by omega) rfl fun H1 cA' q1 z1 o1 hAr hNm => ?_
      rw [e1, e3] at hNm
      have hNm := Option.some.inj hNm
      subst hNm
      obtain ⟨b1, b2⟩ := hpush H1 (.inr (.inl (catag t, n.toNat))) (by
        rw [← hsz]
        show H1[H.size]? = some (vp_cell (cA (catag t)) (n.toNat, cprim (catag t)))
        rw [e4, q1, e1]) z1 o1
      have hz := h H1 locs ls b1 b2 hlen hl0
      dsimp only at hz
      rw [List.map_cons, crf, ← hsz] at hz
      exact hz
    · cases hst
  · -- anewarray
    split at hst
    · rename_i idx _ n r
      obtain ⟨hg, hst⟩ := cbif hst
      subst hst
      rw [Bool.and_eq_true] at hg
      obtain ⟨hn, ht⟩ := hg
      obtain ⟨en, hn2⟩ := cinr_ok hn
      have hck2 := of_decide_eq_true hck
      dsimp only at hR
      have en2 : (Int32.ofNat n.toNat).toNatClampNeg = n.toNat := nI_clamp (by omega)
      have key : va_AO (cown x) s ∧ (ztys cA)[x]? = some (cA x, .object (cown x)) := by
        simp only [Bool.or_eq_true] at ht
        rcases ht with ht | ht
        · have ht := Nat.eq_of_beq_eq_true ht
          subst ht
          exact ⟨hTx, rfl⟩
        · have ht := Nat.eq_of_beq_eq_true ht
          subst ht
          exact ⟨hTh, rfl⟩
      obtain ⟨hov, e2⟩ := key
      obtain ⟨kA0, comp0, k1, k2, k3, k4⟩ := (hKv.2 x _ e2).2
      rw [List.map_cons]
      show W p l e R s m args below meth c H locs nc ns Q (F0 m pc ls (.int (Int32.ofInt n) :: r.map (zc (cad n0))))
      rw [en]
      refine W.anew (n := Int32.ofNat n.toNat) hx hb hown (hts _ (zwat_in hck2 rfl)) (va_AO.use hov) rfl hdg rfl (nI_pos (by omega)) (by rw [en2]; omega) (by omega) (by rw [en2]; omega) fun cA' kA comp f1 f2 f3 f4 => ?_
      have hNm : cA' = cA x := Option.some.inj (f1.symm.trans k4)
      subst hNm
      rw [en2]
      generalize hH1 : H.push ({ cls := cA x, slots := Array.replicate n.toNat .null, vm := .none } : Cell) = H1
      have z1 : H1.size = H.size + 1 := by rw [← hH1, Array.size_push]
      have q1 : H1[H.size]? = some (arrV (cA x) n.toNat (fun _ => .null)) := by rw [← hH1, Array.getElem?_push_size, ← arrV_new]
      have o1 : ∀ q : Nat, q < H.size → H1[q]? = H[q]? := fun q hq => by rw [← hH1, Array.getElem?_push, if_neg (Nat.ne_of_lt hq)]
      obtain ⟨b1, b2⟩ := hpush H1 (.inr (.inr (x, List.replicate n.toNat none))) (by
        rw [← hsz]
        show H1[H.size]? = some (vp_cell (cA x) ((List.replicate n.toNat none).length, .inr (.inr (.inr (.inr (cref n0 (List.replicate n.toNat none)))))))
        rw [q1, vp_cell_q, List.length_replicate]
        congr 2
        funext j
        unfold cref
        by_cases hj : j < n.toNat <;> simp [List.getD_eq_getElem?_getD, List.getElem?_replicate, hj, va_rf]) z1 o1
      have hz := h H1 locs ls b1 b2 hlen hl0
      dsimp only at hz
      rw [List.map_cons, crf, ← hsz] at hz
      exact hz
    · cases hst
  · -- multianewarray
    split at hst
    · rename_i idx _ k n r
      obtain ⟨hg, hst⟩ := cbif hst
      subst hst
      rw [Bool.and_eq_true] at hg
      obtain ⟨hn, hk⟩ := hg
      obtain ⟨en, hn2⟩ := cinr_ok hn
      obtain ⟨ek, hk2⟩ := cinr_ok hk
      have hck2 := of_decide_eq_true hck
      have har := cobj_ok
      rw [Bool.and_eq_true, decide_eq_true_eq, decide_eq_true_eq] at har
      dsimp only at hR
      rw [List.map_cons, List.map_cons]
      show W p l e R s m args below meth c H locs nc ns Q (F0 m pc ls (.int (Int32.ofInt k) :: .int (Int32.ofInt n) :: r.map (zc (cad n0))))
      rw [en, ek]
      refine cmanaR (cA := cA) hx hb hown (hts _ (zwat_in hck2 rfl)) hAA (hts _ (zwat_in har.2 rfl)) (hKv.2 6 _ rfl).2 (hKv.2 0 _ rfl).2 hn2 hk2 (by omega) (by omega) hdg rfl fun H1 q1 q2 z1 o1 => ?_
      have hcl : clay n0 cA (hl ++ [.inr (.inr (6, (List.range n.toNat).map (fun j => some (hl.length + 1 + j))))] ++ List.replicate n.toNat (.inr (.inl (0, k.toNat)))) = clay n0 cA hl ++ ((n0 + hl.length, ccell n0 cA (.inr (.inr (6, (List.range n.toNat).map (fun j => some (hl.length + 1 + j)))))) :: (List.range n.toNat).map (fun j => (n0 + (hl.length + 1 + j), ccell n0 cA (.inr (.inl (0, k.toNat)))))) := by
        refine List.ext_getElem? fun q => ?_
        rw [clay_at]
        by_cases h1 : q < hl.length
        · rw [List.getElem?_append_left (by simp; omega), List.getElem?_append_left h1, List.getElem?_append_left (by rw [clay_len]; exact h1), clay_at]
        · rw [List.getElem?_append_right (l₁ := clay n0 cA hl) (by rw [clay_len]; omega), clay_len]
          by_cases h2 : q = hl.length
          · subst h2
            rw [List.getElem?_append_left (by simp), List.getElem?_append_right (by omega), Nat.sub_self]
            rfl
          · rw [List.getElem?_append_right (by simp; omega)]
            obtain ⟨d, rfl⟩ : ∃ d, q = hl.length + 1 + d := ⟨q - hl.length - 1, by omega⟩
            rw [show hl.length + 1 + d - hl.length = d + 1 by omega, List.getElem?_cons_succ, List.length_append, List.length_singleton, Nat.add_sub_cancel_left, List.getElem?_replicate, List.getElem?_map]
            by_cases h3 : d < n.toNat
            · rw [if_pos h3, List.getElem?_range h3]; rfl
            · rw [if_neg h3, List.getElem?_eq_none_iff.mpr (by simp; omega)]; rfl
      have hP1 : cWd D n0 cA (hl ++ [.inr (.inr (6, (List.range n.toNat).map (fun j => some (hl.length + 1 + j))))] ++ List.replicate n.toNat (.inr (.inl (0, k.toNat)))) H1 := by
        refine ⟨?_, by rw [z1, hsz]; simp; omega⟩
        rw [hcl]
        refine (hP.kept fun k q hk => o1 q.1 (hP k q hk).lt).app fun k2 q hk3 => ?_
        cases k2 with
        | zero =>
          cases hk3
          show H1[n0 + hl.length]? = some (vp_cell (cA 6) (((List.range n.toNat).map (fun j => some (hl.length + 1 + j))).length, .inr (.inr (.inr (.inr (cref n0 ((List.range n.toNat).map (fun j => some (hl.length + 1 + j)))))))))
          rw [← hsz, q1, vp_cell_q, List.length_map, List.length_range]
          unfold arrV
          congr 3
          funext ⟨j, hj⟩
          show Value.ref (H.size + 1 + j) = va_rf (cref n0 _ j)
          unfold cref
          rw [List.getD_eq_getElem?_getD, List.getElem?_map, List.getElem?_range hj, hsz]
          exact congrArg Value.ref (by omega : n0 + hl.length + 1 + j = n0 + (hl.length + 1 + j))
        | succ d =>
          rw [List.getElem?_cons_succ, List.getElem?_map] at hk3
          obtain ⟨d2, hd2, hk3⟩ := Option.map_eq_some_iff.mp hk3
          obtain ⟨hd3, hd4⟩ := List.getElem?_eq_some_iff.mp hd2
          rw [List.getElem_range] at hd4
          subst hd4
          subst hk3
          rw [List.length_range] at hd3
          show H1[n0 + (hl.length + 1 + d)]? = some (vp_cell (cA 0) (k.toNat, cprim 0))
          have := q2 d hd3
          rw [hsz] at this
          rw [show n0 + (hl.length + 1 + d) = n0 + hl.length + 1 + d by omega, this]
          rfl
      have hz := h H1 locs ls hP1 ⟨Nat.le_trans hS.1 (by omega), fun q g1 g2 => (o1 q (Nat.lt_of_lt_of_le g1 hS.1)).trans (hS.2.1 q g1 g2), hS.2.2⟩ hlen hl0
      dsimp only at hz
      rw [List.map_cons, crf, ← hsz] at hz
      exact hz
    · cases hst
  · -- invokespecial of Object's constructor
    obtain ⟨hy, hst⟩ := zcond hst rfl
    have hy := Nat.eq_of_beq_eq_true hy
    subst hy
    split at hst
    · rename_i j r hst2
      obtain ⟨hb2, hst3⟩ := zcond (c := Nat.ble (r.map zcat).sum 20) hst2 rfl
      cases hst3
      have hb2 := zNat_ble hb2
      have hck2 := of_decide_eq_true hck
      have har := cobj_ok
      rw [Bool.and_eq_true, decide_eq_true_eq, decide_eq_true_eq] at har
      rw [List.map_cons, crf]
      refine W.objInit hx hb hown (hts _ (zwat_in hck2 rfl)) (hts _ (zwat_in har.1 rfl)) (hts _ (zwat_in cobj_code rfl)) rfl (by show ls.size = _; rw [hml]; exact hl0.1) rfl hdg hRf ?_ (h H locs ls ⟨hP, hsz⟩ hS hlen hl0)
      have h8 := zcats_eq (cad n0) r
      show 2 * 0 + _ + 12 ≤ _
      omega
    · cases hst
  · cases hst
end CJ
