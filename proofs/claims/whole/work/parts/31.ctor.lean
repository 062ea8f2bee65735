theorem crf (n0 j : Nat) : zc (cad n0) (zr 0 j) = .ref (n0 + j) := by
  show Value.ref (n0 + (zoff 0 + j)) = _
  rw [show zoff 0 = 0 from rfl, Nat.zero_add]
theorem cty {ci N x : Nat} {C : String} {T : u_T} (hc : vwCl[ci]? = some (C, T, N)) (hx : x < N) {ty : FieldType} (hp : parseFieldDescriptor (T x).2.2.1 = some ty) : (cfk ci x = 0 ∧ ty = .int) ∨ (cfk ci x = 1 ∧ ty = .boolean) ∨ (cfk ci x = 2 ∧ ty.isReference = true ∧ defaultValue ty = .null) := by
  have h1 := List.all_eq_true.mp cfk_all ci (List.mem_range.mpr (zcl_lt hc))
  simp only [hc] at h1
  have h2 := List.all_eq_true.mp h1 x (List.mem_range.mpr hx)
  unfold cfkok at h2
  rw [hp] at h2
  cases ty with
  | int => exact Or.inl ⟨eq_of_beq h2, rfl⟩
  | boolean => exact Or.inr (Or.inl ⟨eq_of_beq h2, rfl⟩)
  | _ =>
    simp only [Bool.and_eq_true, decide_eq_true_eq] at h2
    exact Or.inr (Or.inr ⟨eq_of_beq h2.1.1, h2.1.2, h2.2⟩)
theorem couter (c : ClassId) (N h0 : Nat) : ∀ i, Jvm.Free.Multi.outerC c N h0 i = arrV c N (fun j => if j < i then .ref (h0 + 1 + j) else .null)
  | 0 => by
    show ({ cls := c, slots := Array.replicate N .null, vm := .none } : Cell) = _
    rw [arrV_new]
    simp
  | i + 1 => by
    show (Jvm.Free.Multi.outerC c N h0 i).setSlot i _ = _
    rw [couter c N h0 i, arrV_store]
    congr 1
    funext j
    unfold updV
    by_cases h : j = i
    · subst h; simp
    · by_cases h2 : j < i
      · rw [if_neg h]; show (if j < i then _ else _) = _; rw [if_pos h2, if_pos (by omega)]
      · rw [if_neg h]; show (if j < i then _ else _) = _; rw [if_neg h2, if_neg (by omega)]
section CST
variable {p : Program} {l : Launch} {e : Env} {R : Room} {s : State} {m : MethodId} {args : Array Value} {below : List Frame} {meth : Method} {c : Code} {H : Heap} {locs : List Loc} {cells slots : Nat} {Q : State → Prop} {D : va_G} {cA : Nat → ClassId} {own : String} {cc : ByteArray} {nL n0 : Nat}
theorem cputR {pc : Nat} {ls : Array Slot} {rest : List Value} {tys : List (ClassId × FieldType)} {ws : va_W} {A : Nat → Prop} (hexec : p.tables.exec = Jvm.exec) (hb : c.code = cc) (hts : ∀ w ∈ zwords, w.before args s = true) {C : String} {T : u_T} {N ci index a : Nat} (hc : vwCl[ci]? = some (C, T, N)) (hown : s.vm.findClass own = some m.cls) (hK : va_K D vwCl tys s) (hP : va_P D vwCl ws H) (hD : va_D A ws) (q0 : Nat) {fs : List Value} (he : ws[q0]? = some (a, .inr (ci, fs))) (k : Nat) (hk : k < N) (hlink : (Cond.fieldLink own index (T k).1 (T k).2.1 (T k).2.2.1).before args s = true) (hfin : (T k).2.2.2 = true → meth.name = "<init>" ∧ (T k).1 = own) {ty : FieldType} {v : Value} (hd : parseFieldDescriptor (T k).2.2.1 = some ty) (hn : narrow ty v = v) (hfit : fits ty v = true) (hl : k < fs.length)
    (hdg : decode cc pc = .ok (.putfield index, 3)) (kk : ∀ (H1 : Heap) (sl : Nat), va_P D vwCl (ws.set q0 (a, .inr (ci, fs.set k v))) H1 → H1.size = H.size → (∀ q : Nat, q ≠ a → H1[q]? = H[q]?) → W p l e R s m args below meth c H1 (locs ++ [⟨a, sl⟩]) cells slots Q (F0 m (pc + 3) ls rest)) : W p l e R s m args below meth c H locs cells slots Q (F0 m pc ls (v :: .ref a :: rest)) := by
  obtain ⟨ty0, hty⟩ := zcl_ty hc
  have hin := zcl_in hc
  have hap := va_apart (own := own) hts hin ty0 hty (zcl_nm hc) hK hc
  obtain ⟨r, h1, cell, q1, q2, q3, q4⟩ := hP q0 _ he
  have hr : r = (C, T, N) := Option.some.inj (h1.symm.trans hc)
  subst hr
  obtain ⟨hS, hfc, kC, hkC, hkind⟩ := hK.1 ci _ hc
  obtain ⟨cf, kf, fi, f, hi, hsl⟩ := hS k hk
  have hlay := hts _ (hin _ (u_in_lay hk))
  unfold u_lay at hlay
  have hst := (u_facts hfc hkC (u_lays hts hin hk) hi).1
  by_cases hf : (T k).2.2.2 = true
  · have hfin := hfin hf
    rw [if_pos hf] at hlay
    have hcf : m.cls = cf := by
      obtain ⟨_, _, c', _, _, _, -, -, hf', -, -, -, hown2, -⟩ := Cond.laysFinal_spec hlay
      have e1 : c' = cf := by have := hi.symm.trans hf'; simp at this; exact this.1.symm
      rw [hfin.2] at hown2
      rw [← e1]; exact Option.some.inj (hown.symm.trans hown2)
    have h6 := u_fits hfc hkC hkind (Or.inr hlay) hi hd hn hfit
    refine W.putFinK hexec hb hown hlink hi hst hcf hfin.1 (by rw [q2]; exact h6) q1 q3 (by rw [hsl]; exact k2_hasslot (q4 k hk)) rfl rfl hdg fun H' e1 e2 e3 => ?_
    rw [hsl] at e1 ⊢
    exact kk H' _ (hP.set hD he ⟨_, hc, t_OB.to (V := updV (vp_V fs) k v) ⟨_, e1, q2, q3, t_set q4 hap hk v⟩ (fun j _ => vp_updV_set hl v j)⟩ e3) e2 e3
  · rw [if_neg hf] at hlay
    have h6 := u_store hfc hkC hkind hlay hi hd hn hfit
    refine W.putK hexec hb (f := f) ⟨hown, hlink, ⟨_, _, _, hi⟩, hst⟩ (by rw [q2]; exact h6) q1 q3 (by rw [hsl]; exact k2_hasslot (q4 k hk)) rfl rfl hdg fun H' e1 e2 e3 => ?_
    rw [hsl] at e1 ⊢
    exact kk H' _ (hP.set hD he ⟨_, hc, t_OB.to (V := updV (vp_V fs) k v) ⟨_, e1, q2, q3, t_set q4 hap hk v⟩ (fun j _ => vp_updV_set hl v j)⟩ e3) e2 e3
theorem cmanaR {pc : Nat} {ls : Array Slot} {rest : List Value} (hexec : p.tables.exec = Jvm.exec) (hb : c.code = cc) {index : Nat} (hown : s.vm.findClass own = some m.cls) (hclink : (Cond.classLink own index "[[I").before args s = true) (hover : (Cond.arrayOver (.array .int)).before args s = true) (harr : (Cond.arrayClass .int).before args s = true) (hfo : s.vm.findClass "[[I" = some (cA 6)) (hfi : s.vm.findClass "[I" = some (cA 0)) {n k : Nat} (hn : n < 10000) (hk : k < 10000)
    (hcells : cells + 1 + n ≤ R.cells) (hslots : slots + n + n * k ≤ R.slots) (hdg : decode cc pc = .ok (.multianewarray index 2, 4)) {h : Nat} (hh : H.size = h)
    (kk : ∀ H1 : Heap, H1[h]? = some (arrV (cA 6) n (fun j => .ref (h + 1 + j))) → (∀ j, j < n → H1[h + 1 + j]? = some (arrV (cA 0) k (fun _ => .int 0))) → H1.size = h + 1 + n → (∀ q : Nat, q < h → H1[q]? = H[q]?) → W p l e R s m args below meth c H1 locs (cells + 1 + n) (slots + n + n * k) Q (F0 m (pc + 4) ls (.ref h :: rest))) : W p l e R s m args below meth c H locs cells slots Q (F0 m pc ls (.int (Int32.ofNat k) :: .int (Int32.ofNat n) :: rest)) := by
  subst hh
  intro T hT X
  have en : (Int32.ofNat n).toNatClampNeg = n := nI_clamp (by omega)
  have ek : (Int32.ofNat k).toNatClampNeg = k := nI_clamp (by omega)
  obtain ⟨vm₁, c6, c0, hW1, hfA, hfC, -, -, X1, step⟩ := X.multianewarray2F hexec (own := own) (index := index) (ty := .int) hown hclink hover harr (g := F0 m pc ls (.int (Int32.ofNat k) :: .int (Int32.ofNat n) :: rest)) rfl (by rw [hb]; exact hdg) (n := Int32.ofNat n) (k := Int32.ofNat k) (rest := rest) rfl (nI_pos (by omega)) (nI_pos (by omega))
    (by rw [en]; omega) (by rw [ek]; show k * 4 ≤ _; omega) (by rw [ek]; omega) rfl rfl (by rw [en]; omega) (by rw [en, ek]; omega)
  rw [en, ek] at X1 step
  have e6 : c6 = cA 6 := Option.some.inj (hfA.symm.trans hfo)
  have e0 : c0 = cA 0 := Option.some.inj (hfC.symm.trans hfi)
  subst e6; subst e0
  obtain ⟨f1, f2, f3, f4⟩ := Jvm.Free.Multi.fill_facts (T.setVm vm₁) (cA 6) (cA 0) n k (defaultValue .int) n
  obtain ⟨o1, o2, o3⟩ := Jvm.Free.Multi.outerC_facts (cA 6) n (T.setVm vm₁).heap.size n
  have hsz : (T.setVm vm₁).heap.size = H.size := by show T.heap.size = _; rw [hT]
  have hsz2 : T.heap.size = H.size := by rw [hT]
  have eo : Jvm.Free.Multi.outerC (cA 6) n (T.setVm vm₁).heap.size n = arrV (cA 6) n (fun j => .ref (H.size + 1 + j)) := by
    rw [couter, hsz]
    unfold arrV
    congr 2
    funext ⟨j, hj⟩
    exact if_pos hj
  obtain ⟨t, a1, b1⟩ := kk (Jvm.Free.Multi.fill (T.setVm vm₁) (cA 6) (cA 0) n k (defaultValue .int) n).heap (by rw [← eo, ← hsz]; exact f2) (fun j hj => by rw [← hsz, ← arrV_new]; exact Jvm.Free.Multi.fill_inner (T.setVm vm₁) (cA 6) (cA 0) n k (defaultValue .int) n j hj) (by rw [f1, hsz]) (fun q hq => by rw [Jvm.Free.Multi.fill_old (T.setVm vm₁) (cA 6) (cA 0) n k (defaultValue .int) (by rw [hsz]; exact hq) n]; show T.heap[q]? = _; rw [hT]) _ rfl X1
  refine ⟨t, step _ ?_, b1⟩
  rw [hsz2]
  exact a1
end CST
