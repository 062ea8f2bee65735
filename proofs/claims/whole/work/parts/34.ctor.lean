theorem cev_mono : ∀ (f d mi : Nat) (cf : cS) (out : List cE × Nat × Nat), cev f d mi cf = some out → cf.2.2.2.2.1 ≤ out.2.1 ∧ cf.2.2.2.2.2 ≤ out.2.2 := by
  intro f
  induction f with
  | zero => intro d mi cf out h; cases h
  | succ f ih =>
    intro d mi cf out h
    unfold cev at h
    split at h
    · cases h
    · split at h
      · split at h
        · rename_i cf' h1
          have h2 := cstep_mono h1
          have h3 := ih d mi cf' out h
          exact ⟨Nat.le_trans h2.1 h3.1, Nat.le_trans h2.2 h3.2⟩
        · cases h
      · split at h
        · cases h
          exact ⟨Nat.le_refl _, Nat.le_refl _⟩
        · cases h
      · split at h
        · cases h
        · split at h
          · cases h
          · split at h
            · cases h
            · split at h
              · cases h
              · have h3 := ih _ mi _ out h
                dsimp only at h3
                exact ⟨by omega, by omega⟩
def crm (d mc ms : Nat) : Room := { frames := d + 1, cells := mc, slots := ms, locals := 60 * (d + 1) }
def cPc (D : va_G) (cA : Nat → ClassId) (n0 : Nat) (as : List zV) (hl : List cE) : Array Value → State → Prop := va_Pc (as.map (zc (cad n0))) (fun U => cWd D n0 cA hl U.heap ∧ cK D cA U)
def cQc (D : va_G) (cA : Nat → ClassId) (n0 : Nat) (hl : List cE) : Array Value → State → Outcome → State → Prop := fun _ st o t => o = .returned none ∧ cWd D n0 cA hl t.heap ∧ va_F (fun q => n0 ≤ q) st t
def cMet (mi d : Nat) (as : List zV) (hl hl' : List cE) (mc ms : Nat) : Prop := ∀ (l : Launch) (D : va_G) (cA : Nat → ClassId) (n0 : Nat), Met l (zmN mi) (zws mi) (crm d mc ms) (cPc D cA n0 as hl) (cQc D cA n0 hl') mc ms (fun q => n0 ≤ q)
def cG (mi d MC MS : Nat) (cf : cS) (out : List cE × Nat × Nat) : Prop :=
  ∀ (p : Program) (l : Launch) (e : Env) (s : State) (m : MethodId) (args : Array Value) (below : List Frame) (meth : Method) (c : Code) (D : va_G) (cA : Nat → ClassId) (n0 : Nat),
    cCx (cini mi) p (crm d MC MS) s m args meth c D cA (zmN mi).cls (zmB mi) (zmL mi) → meth.sig.returnType = none → meth.locks = false →
    cJ p l e (crm d MC MS) s m args below meth c D cA n0 (zmL mi) (MQ below (cQc D cA n0 out.1) args s out.2.1 out.2.2 (fun q => n0 ≤ q)) cf
theorem cMet_of {mi d : Nat} {as : List zV} {hl hl' : List cE} {mc ms : Nat} (hm : cOK mi) (hle : (zent as).length ≤ zmL mi) (h : cG mi d mc ms (0, cent as (zmL mi), [], hl, 0, 0) (hl', mc, ms)) : cMet mi d as hl hl' mc ms := by
  intro l D cA n0
  obtain ⟨htab, hcode, hI, hini, hd, hpl, hmL, hnm, hret⟩ := hm
  refine Met.ofW (cc := zmB mi) (maxL := zmL mi) (ret := zmR mi) (ws' := zwords) hpl rfl ?_
  intro p e s m args below meth c s₁ B hml hv
  obtain ⟨rfl, hP, hK⟩ := hv
  have hts := atoms_spec (ws := zws mi) B.pre
  rw [lg_entry_eq]
  have hl := lv_entry (as.map (zc (cad n0))) (n := zmL mi) (by rw [zent_sl]; exact hle)
  have hlen : (cent as (zmL mi)).length = zmL mi := by
    unfold cent
    rw [List.length_append, List.length_replicate]
    omega
  have hat : ∀ (i : Nat) (v : zV), (cent as (zmL mi))[i]? = some (some v) → (zent as)[i]? = some (some v) := by
    intro i v hi
    unfold cent at hi
    by_cases q : i < (zent as).length
    · rwa [List.getElem?_append_left q] at hi
    · rw [List.getElem?_append_right (by omega)] at hi
      have := List.eq_of_mem_replicate (List.mem_of_getElem? hi)
      cases this
  refine h p l e s m _ below meth c D cA n0 ⟨B.exec, B.bytes, hml, findClass_of_methodNamed B.named, fun w hw => hts w (List.mem_cons_of_mem _ hw), hK, fun q => ((name_of_methodNamed B.named B.method).1).trans (hnm q), by show 1 ≤ d + 1; omega, by show 60 ≤ 60 * (d + 1); omega⟩ (B.returns.trans hret) B.notSynchronized s.heap [] _ hP va_S.rf hlen (zlv_sub hl fun q hq => ?_)
  obtain ⟨i, v, hi, rfl⟩ := zll_mem.mp hq
  have := zent_args (adr := cad n0) as 0 i v (hat i v hi)
  rwa [Nat.zero_add] at this
section CRU
variable {p : Program} {l : Launch} {e : Env} {R : Room} {s : State} {m : MethodId} {args : Array Value} {below : List Frame} {meth : Method} {c : Code} {Q : State → Prop} {D : va_G} {cA : Nat → ClassId} {n0 : Nat}
theorem crun {H : Heap} {locs : List Loc} {ls : Array Slot} {st0 rest : List Value} {pc cells slots mc ms : Nat} {hl' : List cE} {a : Array Value} (hr : va_Run p l e R s m args below meth c H locs cells slots mc ms (F0 m pc ls st0) rest (cQc D cA n0 hl' a) (fun q => n0 ≤ q)) (hS : va_S (fun q => n0 ≤ q) s.heap H locs)
    (kk : ∀ (H1 : Heap) (locs1 : List Loc), cWd D n0 cA hl' H1 → va_S (fun q => n0 ≤ q) s.heap H1 locs1 → W p l e R s m args below meth c H1 locs1 (cells + mc) (slots + ms) Q (F0 m (pc + 3) ls rest)) : W p l e R s m args below meth c H locs cells slots Q (F0 m pc ls st0) := by
  intro T hT X
  obtain ⟨v, st₀, t, T', L, h0, X', hL, e1, e2, ⟨hv, hwd, hz, hk⟩, st⟩ := hr T hT X
  cases hv
  rw [h0] at hz hk
  obtain ⟨t2, a1, b1⟩ := kk T'.heap (locs ++ L) (by rw [e1]; exact hwd)
    ⟨Nat.le_trans hS.1 (by rw [e1]; exact hz), fun q h1 h2 => by rw [e1, hk q (Nat.lt_of_lt_of_le h1 hS.1) h2]; exact hS.2.1 q h1 h2, fun q hq => by
      rcases List.mem_append.mp hq with h | h
      · exact hS.2.2 q h
      · exact hL q h⟩ T' rfl X'
  exact ⟨t2, st t2 a1, b1⟩
theorem cblind {as : List zV} {hl : List cE} : FrameBlind (cPc D cA n0 as hl) := fun a U g mk q => ⟨q.1, q.2.1, cK_same (u := U) (U := U.calling g mk a) rfl q.2.2⟩
theorem cPc_ok {as : List zV} {hl : List cE} {H : Heap} (hP : cWd D n0 cA hl H) (hK : cK D cA s) : ∀ U : State, U.heap = H → s.WarmedH U.vm → cPc D cA n0 as hl (as.map (zc (cad n0))).toArray U := by
  intro U hU hW
  refine ⟨rfl, ?_, ?_⟩
  · rw [hU]; exact hP
  · exact cK_warm hW hK
end CRU
theorem ctake_ok {n : Nat} {st as rest : List zV} {j : Nat} (h : ctake n st = some (as, j, rest)) : st = as.reverse ++ zr 0 j :: rest := by
  unfold ctake at h
  split at h
  · rename_i j' r hd
    cases h
    rw [List.reverse_reverse]
    conv => lhs; rw [← List.take_append_drop n st]
    rw [hd]
  · cases h
