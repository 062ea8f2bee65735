/-! the two constructors' contracts -/
theorem metT : cMet 237 6 [zr 0 0] [.inl (10, cnew 10)] chT 173 9581 :=
  cMet_of cok_237 (by decide) (cev_ok 20000 6 237 _ _ cev_T cok_237 173 9581 (Nat.le_refl _) (Nat.le_refl _))
theorem zX_kept {adr : Nat → Nat} {A : Nat → Prop} {s U : State} {H0 H : Heap} (hW : s.WarmedH U.vm) (h : zX adr A s H0) (hq : ∀ a : Nat, a < H0.size → ¬ A a → H[a]? = H0[a]?) : zX adr A U H := by
  obtain ⟨h3, h4, h5, h6⟩ := h
  exact ⟨(h3.kept hq).moved hW.alike, fun i hi => (h4 i hi).warm hW, (h5.kept hq).moved hW.alike, (h6.kept hq).moved hW.alike⟩
theorem zX_same {adr : Nat → Nat} {A : Nat → Prop} {u U : State} {H : Heap} (hv : U.vm = u.vm) (h : zX adr A u H) : zX adr A U H := by
  obtain ⟨h3, h4, h5, h6⟩ := h
  have ha : u.vm.Alike U.vm := by rw [hv]; exact Vm.Alike.refl _
  exact ⟨h3.moved ha, fun i hi => (h4 i hi).same hv, h5.moved ha, h6.moved ha⟩
def zPcM (D : va_G) (cA : Nat → ClassId) (n0 : Nat) (adr : Nat → Nat) : Array Value → State → Prop := va_Pc [.ref (n0 + 174)] (fun U => cWd D n0 cA (chT ++ [.inl (11, cnew 11)]) U.heap ∧ cK D cA U ∧ zX adr (fun q => n0 ≤ q) U U.heap)
def zQcM (D : va_G) (cA : Nat → ClassId) (n0 : Nat) (adr : Nat → Nat) (M' : zM) : Array Value → State → Outcome → State → Prop := fun _ st o t => o = .returned none ∧ zWd D cA adr M' t.heap ∧ va_F (fun q => n0 ≤ q) st t
section ZRU
variable {p : Program} {l : Launch} {e : Env} {R : Room} {s : State} {m : MethodId} {args : Array Value} {below : List Frame} {meth : Method} {c : Code} {cells slots : Nat} {Q : State → Prop} {D : va_G} {cA : Nat → ClassId} {adr : Nat → Nat} {A : Nat → Prop} {own : String} {cc : ByteArray} {nL mi : Nat}
theorem zS_run (C : zCx p R s m args c cells slots D cA adr A own cc nL) (htab : ∀ pc E, zpt mi pc = some E → zchk own cc pc E = true) : ∀ (n : Nat) {cf cf' : zC}, zrunN mi n cf = some cf' → zS p l e R s m args below meth c cells slots D cA adr A nL Q cf' → zS p l e R s m args below meth c cells slots D cA adr A nL Q cf := by
  intro n
  induction n with
  | zero =>
    intro cf cf' h k
    cases h
    exact k
  | succ n ih =>
    intro cf cf' h k
    obtain ⟨pc, lv, st, M⟩ := cf
    unfold zrunN at h
    split at h
    · rename_i E hE
      split at h
      · rename_i cf1 h1
        exact zstep_ok C (htab pc E hE) h1 (ih h k)
      · cases h
    · cases h
theorem cJ_run {n0 : Nat} {ini : Bool} (C : cCx ini p R s m args meth c D cA own cc nL) (htab : ∀ pc E, zpt mi pc = some E → zchk own cc pc E = true ∧ cchk ini own E = true) : ∀ (n : Nat) {cf cf' : cS}, crunN mi n cf = some cf' → cf'.2.2.2.2.1 ≤ R.cells ∧ cf'.2.2.2.2.2 ≤ R.slots → cJ p l e R s m args below meth c D cA n0 nL Q cf' → cJ p l e R s m args below meth c D cA n0 nL Q cf ∧ cf.2.2.2.2.1 ≤ cf'.2.2.2.2.1 ∧ cf.2.2.2.2.2 ≤ cf'.2.2.2.2.2 := by
  intro n
  induction n with
  | zero =>
    intro cf cf' h _ k
    cases h
    exact ⟨k, Nat.le_refl _, Nat.le_refl _⟩
  | succ n ih =>
    intro cf cf' h hR k
    unfold crunN at h
    split at h
    · rename_i E hE
      split at h
      · split at h
        · rename_i cf1 h1
          obtain ⟨k1, k2, k3⟩ := ih h hR k
          have hm := cstep_mono h1
          exact ⟨cstep_ok C (htab _ E hE).1 (htab _ E hE).2 h1 ⟨Nat.le_trans k2 hR.1, Nat.le_trans k3 hR.2⟩ k1, Nat.le_trans hm.1 k2, Nat.le_trans hm.2 k3⟩
        · cases h
      · cases h
    · cases h
end ZRU
def zM1 : zM := zput (zput (zput zM0 43 0 2 9) 43 0 4 (-1)) 43 0 129 89
theorem zM1_run : zrunN 248 17 (244, [some (zr 42 0)], [], zM0) = some (271, [some (zr 42 0)], [zi 1, zr 42 0], zM1) := by rfl
theorem metM {D : va_G} {cA : Nat → ClassId} {n0 : Nat} {adr : Nat → Nat} (l : Launch) (hadr : ∀ q, q < zNP → adr q = n0 + zpi.getD q 0) (hDj : zDj adr) {M2 : zM} (hM : zMet 121 0 [zr 42 0, zi 1] zM1 none M2) : Met l (zmN 248) (zws 248) (crm 4 28 15741) (zPcM D cA n0 adr) (zQcM D cA n0 adr M2) 28 15741 (fun q => n0 ≤ q) := by
  have hm := cok_248
  obtain ⟨htab, hcode, hI, hini, hd, hpl, hmL, hnm, hret⟩ := hm
  refine Met.ofW (cc := zmB 248) (maxL := zmL 248) (ret := zmR 248) (ws' := zwords) hpl rfl ?_
  intro p e s m args below meth c s₁ B hml hv
  obtain ⟨rfl, hP, hK, hX⟩ := hv
  have hts := atoms_spec (ws := zws 248) B.pre
  rw [lg_entry_eq]
  have hw : ∀ w ∈ zwords, w.before (([Value.ref (n0 + 174)] : List Value).toArray) s = true := fun w hw => hts w (List.mem_cons_of_mem _ hw)
  have hl := lv_entry [Value.ref (n0 + 174)] (n := zmL 248) (by show 1 ≤ zmL 248; decide)
  have hAz : ∀ q, zA adr q → n0 ≤ q := by
    intro q hq
    obtain ⟨j, hj, rfl⟩ := hq
    rw [hadr j hj]
    omega
  have C : cCx (cini 248) p (crm 4 28 15741) s m (([Value.ref (n0 + 174)] : List Value).toArray) meth c D cA (zmN 248).cls (zmB 248) (zmL 248) := ⟨B.exec, B.bytes, hml, findClass_of_methodNamed B.named, hw, hK, fun q => ((name_of_methodNamed B.named B.method).1).trans (hnm q), by show 1 ≤ 5; omega, by show 60 ≤ 300; omega⟩
  have Z : zCx p (crm 4 28 15741) s m (([Value.ref (n0 + 174)] : List Value).toArray) c 28 15741 D cA adr (fun q => n0 ≤ q) (zmN 248).cls (zmB 248) (zmL 248) := ⟨B.exec, B.bytes, hml, findClass_of_methodNamed B.named, hw, ⟨hK.1, hK.2.1, hX⟩, hDj, hAz, by show 1 ≤ 5; omega, by show 40 ≤ 300; omega, Nat.le_refl _, Nat.le_refl _⟩
  have hend : zS p l e (crm 4 28 15741) s m (([Value.ref (n0 + 174)] : List Value).toArray) below meth c 28 15741 D cA adr (fun q => n0 ≤ q) (zmL 248) (MQ below (zQcM D cA n0 adr M2) (([Value.ref (n0 + 174)] : List Value).toArray) s 28 15741 (fun q => n0 ≤ q)) (244, [some (zr 42 0)], [], zM0) := by
    refine zS_run (mi := 248) Z (fun pc E h => (htab pc E h).1) 17 zM1_run ?_
    refine zcallV (idx := 103) (as := [zi 1]) (rest := []) (r := none) (M' := M2) (d := 0) (y := 0) (w := 5042) (ln := 1) (z := 0) Z zmok_121 (htab 271 _ rfl |>.1 |> fun h => by unfold zchk at h; rw [Bool.and_eq_true, decide_eq_true_eq] at h; exact h.1) (by decide +kernel) (by omega) rfl rfl rfl (by decide) ⟨by show 2 ≤ 5; omega, by show 120 ≤ 300; omega⟩ hM ?_
    intro H locs ls hP2 hS hlen hl2 hzl hzs
    exact W.vret B.exec B.bytes (B.returns.trans hret) (fun t ht hW => ⟨rfl, by rw [ht]; exact hP2, hS.F ht⟩) hS.2.2 (htab 274 _ rfl |>.1 |> fun h => by unfold zchk at h; rw [Bool.and_eq_true, decide_eq_true_eq] at h; exact h.1) B.notSynchronized
  have hcJ : cJ p l e (crm 4 28 15741) s m (([Value.ref (n0 + 174)] : List Value).toArray) below meth c D cA n0 (zmL 248) (MQ below (zQcM D cA n0 adr M2) (([Value.ref (n0 + 174)] : List Value).toArray) s 28 15741 (fun q => n0 ≤ q)) (244, [some (zr 0 174)], [], chM, 28, 15741) := by
    intro H locs ls hWd hS hlen hl2
    have e1 : zll (cad n0) [some (zr 0 174)] = zll adr [some (zr 42 0)] := by
      show [(0, zc (cad n0) (zr 0 174))] = [(0, zc adr (zr 42 0))]
      rw [crf]
      show [(0, Value.ref (n0 + 174))] = [(0, Value.ref (zad adr 42 0))]
      rw [cpl_adr hadr (by decide)]
      rfl
    exact hend H locs ls (ctoz hadr chM_ok hWd) hS hlen (by dsimp only at hl2; rw [e1] at hl2; exact hl2) (fun v hv => by
      simp only [List.mem_singleton, Option.some.injEq] at hv
      subst hv
      exact Or.inl (by decide)) (fun v hv => by cases hv)
  have hrun := (cJ_run (mi := 248) C htab 120 crun_M ⟨Nat.le_refl _, Nat.le_refl _⟩ hcJ).1
  refine hrun s.heap [] _ hP va_S.rf rfl (zlv_sub hl fun q hq => ?_)
  obtain ⟨i, v, hi, rfl⟩ := zll_mem.mp hq
  match i, hi with
  | 0, hi =>
    cases hi
    rw [crf]
    exact List.mem_cons_self
  | n + 1, hi => cases n <;> cases hi
