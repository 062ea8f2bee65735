/-! THE CONSTRUCTORS: everything is known; cells come one behind another, from n0 on -/
abbrev cE : Type := (Nat × List (Option zV)) ⊕ ((Nat × Nat) ⊕ (Nat × List (Option Nat)))
abbrev cS : Type := Nat × zL × List zV × List cE × Nat × Nat
def cad (n0 : Nat) : Nat → Nat := fun j => n0 + j
def cfv (n0 : Nat) : Option zV → Value
  | none => .null
  | some v => zc (cad n0) v
def cprim (t : Nat) : (Nat → Int32) ⊕ (Nat → Int64) ⊕ (Nat → UInt32) ⊕ (Nat → UInt64) ⊕ (Nat → Option Nat) := match t with
  | 3 => .inr (.inl (fun _ => 0))
  | _ => .inl (fun _ => 0)
def cref (n0 : Nat) (l : List (Option Nat)) (j : Nat) : Option Nat := (l.getD j none).map (fun q => n0 + q)
def ccell (n0 : Nat) (cA : Nat → ClassId) : cE → va_E
  | .inl (ci, fs) => .inr (ci, fs.map (cfv n0))
  | .inr (.inl (t, n)) => .inl (cA t, n, cprim t)
  | .inr (.inr (t, l)) => .inl (cA t, l.length, .inr (.inr (.inr (.inr (cref n0 l)))))
def clay (n0 : Nat) (cA : Nat → ClassId) (hl : List cE) : va_W := hl.zipIdx.map (fun q => (n0 + q.2, ccell n0 cA q.1))
def cWd (D : va_G) (n0 : Nat) (cA : Nat → ClassId) (hl : List cE) (H : Heap) : Prop := va_P D vwCl (clay n0 cA hl) H ∧ H.size = n0 + hl.length
theorem clay_len (n0 : Nat) (cA : Nat → ClassId) (hl : List cE) : (clay n0 cA hl).length = hl.length := by simp [clay]
theorem clay_at (n0 : Nat) (cA : Nat → ClassId) (hl : List cE) (j : Nat) : (clay n0 cA hl)[j]? = (hl[j]?).map (fun c => (n0 + j, ccell n0 cA c)) := by
  unfold clay
  rw [List.getElem?_map, List.getElem?_zipIdx]
  cases hl[j]? <;> simp
theorem clay_get {n0 : Nat} {cA : Nat → ClassId} {hl : List cE} {j : Nat} {c : cE} (h : hl[j]? = some c) : (clay n0 cA hl)[j]? = some (n0 + j, ccell n0 cA c) := by rw [clay_at, h]; rfl
theorem clay_set {n0 : Nat} {cA : Nat → ClassId} {hl : List cE} {j : Nat} (c : cE) : (clay n0 cA hl).set j (n0 + j, ccell n0 cA c) = clay n0 cA (hl.set j c) := by
  refine List.ext_getElem? fun q => ?_
  rw [clay_at]
  by_cases hq : q = j
  · subst hq
    by_cases hl2 : q < hl.length
    · rw [List.getElem?_set_self (by rw [clay_len]; exact hl2), List.getElem?_set_self hl2]; rfl
    · rw [List.getElem?_eq_none_iff.mpr (by simp [clay_len]; omega), List.getElem?_eq_none_iff.mpr (by simp; omega)]; rfl
  · rw [List.getElem?_set_ne (fun z => hq z.symm), List.getElem?_set_ne (fun z => hq z.symm), clay_at]
theorem clay_push {n0 : Nat} {cA : Nat → ClassId} {hl : List cE} (c : cE) : clay n0 cA (hl ++ [c]) = clay n0 cA hl ++ [(n0 + hl.length, ccell n0 cA c)] := by
  refine List.ext_getElem? fun q => ?_
  rw [clay_at]
  by_cases hq : q < hl.length
  · rw [List.getElem?_append_left hq, List.getElem?_append_left (by rw [clay_len]; exact hq), clay_at]
  · rw [List.getElem?_append_right (by omega), List.getElem?_append_right (by rw [clay_len]; omega), clay_len]
    by_cases h0 : q = hl.length
    · subst h0; simp
    · rw [List.getElem?_eq_none_iff.mpr (by simp; omega), List.getElem?_eq_none_iff.mpr (by simp; omega)]; rfl
theorem cD_of (n0 : Nat) (cA : Nat → ClassId) (hl : List cE) : va_D (fun q => n0 ≤ q) (clay n0 cA hl) := by
  have key : ∀ (k : Nat) (q : Nat × va_E), (clay n0 cA hl)[k]? = some q → q.1 = n0 + k := by
    intro k q hk
    rw [clay_at] at hk
    obtain ⟨c, -, rfl⟩ := Option.map_eq_some_iff.mp hk
    rfl
  refine ⟨fun i j x y hx hy hxy => ?_, fun k q hk => ?_⟩
  · have := key i x hx; have := key j y hy; omega
  · have := key k q hk; omega
/-- what the tables say of the arrays of references -/
def cK (D : va_G) (cA : Nat → ClassId) (U : State) : Prop := va_K D vwCl (ztys cA) U ∧ (∀ w ∈ znest, va_Nw w U) ∧ va_AO "ThanksByPost$Text" U ∧ va_AO "ThanksByPost$Thing" U ∧ (Cond.arrayOver (.array .int)).before #[] U = true
theorem cAOA_moved {u U : State} (hvm : u.vm.Alike U.vm) (h : (Cond.arrayOver (.array .int)).before #[] u = true) : (Cond.arrayOver (.array .int)).before #[] U = true := by
  have h0 := h
  unfold Cond.before at h0
  simp only [Cond.holds, Cond.value, beq_iff_eq] at h0
  cases hc : u.vm.findClass (FieldType.array .int).toString with
  | none => simp [hc] at h0
  | some comp =>
    simp only [hc, Option.bind_some, Option.bind_eq_some_iff, Option.map_eq_some_iff] at h0
    obtain ⟨c, h2, k, h3, h4⟩ := h0
    obtain ⟨k', hk', he⟩ := hvm.2.2 _ _ h3
    have hi : (U.vm.classes.findIdx? fun (x : Class) => match x.kind with | .array component _ => component == comp | _ => false) = some c := by
      have e1 := va_idx_bare U.vm comp
      have e2 := va_idx_bare u.vm comp
      first | rw [hvm.bare_eq] at e1 | rw [← hvm.bare_eq] at e1
      exact e1.symm.trans (e2.trans h2)
    have hkind : k'.kind = k.kind := by rw [he]
    have f1 : U.vm.findClass (FieldType.array .int).toString = some comp := by rw [hvm.findClass]; exact hc
    have f2 : U.vm.findClass ("[" ++ (FieldType.array .int).toString) = u.vm.findClass ("[" ++ (FieldType.array .int).toString) := by rw [hvm.findClass]
    unfold Cond.before Cond.holds
    simp only [Cond.value]
    rw [f1, Option.bind_some]
    refine (congrArg (fun o : Option Nat => (o.bind (fun c => (U.vm.classes[c]?).map fun (k : Class) => match k.kind with | .array _ ty => decide (ty = FieldType.array .int) && decide (U.vm.findClass ("[" ++ (FieldType.array .int).toString) = some c) | _ => false) == some true)) hi).trans ?_
    simp only [Option.bind_some, hk', Option.map_some, hkind, f2]
    rw [beq_iff_eq]
    exact congrArg some h4
theorem cK_warm {D : va_G} {cA : Nat → ClassId} {s U : State} (hW : s.WarmedH U.vm) (h : cK D cA s) : cK D cA U :=
  ⟨va_K.moved hW.alike h.1, fun w hw => zNw_warm (List.all_eq_true.mp znest_ok w hw) hW (h.2.1 w hw), h.2.2.1.moved hW.alike, h.2.2.2.1.moved hW.alike, cAOA_moved hW.alike h.2.2.2.2⟩
theorem cK_same {D : va_G} {cA : Nat → ClassId} {u U : State} (hv : U.vm = u.vm) (h : cK D cA u) : cK D cA U := by
  have ha : u.vm.Alike U.vm := by rw [hv]; exact Vm.Alike.refl _
  refine ⟨va_K.moved ha h.1, fun w hw => ?_, h.2.2.1.moved ha, h.2.2.2.1.moved ha, cAOA_moved ha h.2.2.2.2⟩
  have hz := List.all_eq_true.mp znest_ok w hw
  cases w with
  | fieldLinkNest a i b n d h' => exact va_Nw.same rfl hv.symm (h.2.1 _ hw)
  | methodLinkNest a i x h' => exact va_Nw.same rfl hv.symm (h.2.1 _ hw)
  | _ => cases hz
/-! the step -/
def catag : ArrayType → Nat
  | .int => 0
  | .byte => 1
  | .boolean => 2
  | .long => 3
  | _ => 9
/-- 0 int, 1 boolean, 2 a reference -/
def cfk (ci x : Nat) : Nat := match vwCl[ci]? with
  | some (_, T, _) => bif (T x).2.2.1 == "I" then 0 else bif (T x).2.2.1 == "Z" then 1 else 2
  | none => 3
def cfkok (d : String) (k : Nat) : Bool := match parseFieldDescriptor d with
  | some .int => k == 0
  | some .boolean => k == 1
  | some t => k == 2 && t.isReference && decide (defaultValue t = .null)
  | none => false
theorem cfk_all : (List.range 12).all (fun ci => match vwCl[ci]? with
  | some (_, T, N) => (List.range N).all (fun x => cfkok (T x).2.2.1 (cfk ci x))
  | none => false) = true := by decide +kernel
def cdf (ci j : Nat) : Option zV := match cfk ci j with
  | 0 => some (zi 0)
  | 1 => some (zi 0)
  | _ => none
def cnew (ci : Nat) : List (Option zV) := match vwCl[ci]? with
  | some (_, _, N) => (List.range N).map (cdf ci)
  | none => []
def cfit (k : Nat) : zV → Bool
  | .inl a => k == 0 || (k == 1 && (decide (a = 0) || decide (a = 1)))
  | .inr (.inl _) => false
  | .inr (.inr (t, _)) => k == 2 && t == 0
def cput (hl : List cE) (j y x : Nat) (v : zV) : Option (List cE) := match hl[j]? with
  | some (.inl (ci, fs)) => bif Nat.beq ci y && Nat.blt x fs.length && cfit (cfk y x) v then some (hl.set j (.inl (ci, fs.set x (some v)))) else none
  | _ => none
def cget (hl : List cE) (j y x : Nat) : Option zV := match hl[j]? with
  | some (.inl (ci, fs)) => bif Nat.beq ci y then (fs.getD x none) else none
  | _ => none
def cfitA (hl : List cE) (t v : Nat) : Bool := match hl[v]? with
  | some (.inl (ci, _)) => (Nat.beq t 4 && Nat.beq ci 7) || (Nat.beq t 5 && Nat.beq ci 8)
  | _ => false
def cast (hl : List cE) (j : Nat) (i : Int) (v : Nat) : Option (List cE) := match hl[j]? with
  | some (.inr (.inr (t, l))) => bif decide (0 ≤ i) && decide (i < (l.length : Int)) && Nat.blt l.length 1000 && cfitA hl t v then some (hl.set j (.inr (.inr (t, l.set i.toNat (some v))))) else none
  | _ => none
def cinr (n : Int) : Bool := decide (0 ≤ n) && decide (n < 10000)
def cstep (E : zE) (cf : cS) : Option cS := match E, cf with
  | (ins, _, x, y, _, _), (pc, lv, st, hl, nc, ns) => match ins with
    | .iconst n => some (pc + 1, lv, zi n :: st, hl, nc, ns)
    | .bipush n => some (pc + 2, lv, zi n :: st, hl, nc, ns)
    | .sipush n => some (pc + 3, lv, zi n :: st, hl, nc, ns)
    | .iload_n i => match lv[i.val]? with
      | some (some (.inl a)) => some (pc + 1, lv, zi a :: st, hl, nc, ns)
      | _ => none
    | .aload_n i => match lv[i.val]? with
      | some (some (.inr (.inr (0, j)))) => some (pc + 1, lv, zr 0 j :: st, hl, nc, ns)
      | _ => none
    | .istore_n i => match st with
      | .inl a :: r => cond (Nat.ble (i.val + 1) lv.length) (some (pc + 1, zst1 lv i.val (zi a), r, hl, nc, ns)) none
      | _ => none
    | .astore_n i => match st with
      | .inr (.inr (0, j)) :: r => cond (Nat.ble (i.val + 1) lv.length) (some (pc + 1, zst1 lv i.val (zr 0 j), r, hl, nc, ns)) none
      | _ => none
    | .iinc i n => match lv[i]? with
      | some (some (.inl a)) => some (pc + 3, zst1 lv i (zi (a + n)), st, hl, nc, ns)
      | _ => none
    | .dup => match st with
      | .inr (.inr (0, j)) :: r => some (pc + 1, lv, zr 0 j :: zr 0 j :: r, hl, nc, ns)
      | _ => none
    | .goto _ => some (x, lv, st, hl, nc, ns)
    | .if_icmp .ge _ => match st with
      | .inl b :: .inl a :: r => if zw b ≤ zw a then some (x, lv, r, hl, nc, ns) else some (pc + 3, lv, r, hl, nc, ns)
      | _ => none
    | .getfield _ => match st with
      | .inr (.inr (0, j)) :: r => (cget hl j y x).map (fun v => (pc + 3, lv, v :: r, hl, nc, ns))
      | _ => none
    | .putfield _ => match st with
      | v :: .inr (.inr (0, j)) :: r => (cput hl j y x v).map (fun h2 => (pc + 3, lv, r, h2, nc, ns))
      | _ => none
    | .aastore => match st with
      | .inr (.inr (0, v)) :: .inl i :: .inr (.inr (0, j)) :: r => (cast hl j i v).map (fun h2 => (pc + 1, lv, r, h2, nc, ns))
      | _ => none
    | .new _ => some (pc + 3, lv, zr 0 hl.length :: st, hl ++ [.inl (x, cnew x)], nc + 1, ns + (cnew x).length)
    | .newarray t => match st with
      | .inl n :: r => bif cinr n && Nat.blt (catag t) 4 then some (pc + 2, lv, zr 0 hl.length :: r, hl ++ [.inr (.inl (catag t, n.toNat))], nc + 1, ns + n.toNat) else none
      | _ => none
    | .anewarray _ => match st with
      | .inl n :: r => bif cinr n && (Nat.beq x 4 || Nat.beq x 5) then some (pc + 3, lv, zr 0 hl.length :: r, hl ++ [.inr (.inr (x, List.replicate n.toNat none))], nc + 1, ns + n.toNat) else none
      | _ => none
    | .multianewarray _ 2 => match st with
      | .inl k :: .inl n :: r => bif cinr n && cinr k then some (pc + 4, lv, zr 0 hl.length :: r, hl ++ [.inr (.inr (6, (List.range n.toNat).map (fun j => some (hl.length + 1 + j))))] ++ List.replicate n.toNat (.inr (.inl (0, k.toNat))), nc + 1 + n.toNat, ns + n.toNat + n.toNat * k.toNat) else none
      | _ => none
    | .invokespecial _ => cond (Nat.beq y 20) (match st with
      | .inr (.inr (0, _)) :: r => cond (Nat.ble (r.map zcat).sum 20) (some (pc + 3, lv, r, hl, nc, ns)) none
      | _ => none) none
    | _ => none
def cNaW : Nat → Nat
  | 0 => 1084
  | 1 => 4060
  | 2 => 2030
  | _ => 5182
def cown (x : Nat) : String := match x with | 4 => "ThanksByPost$Text" | _ => "ThanksByPost$Thing"
def cchk (ini : Bool) (own : String) (E : zE) : Bool := match E with
  | (ins, _, x, y, w, z) => match ins with
    | .new i => match vwCl[x]? with
      | some (C, _, N) => decide (zwat w = some (.classLink own i C)) && decide (zwat (zciW.getD x (0, 0)).1 = some (.instantiable C N)) && decide (zwat (zciW.getD x (0, 0)).2 = some (.initialized C))
      | none => false
    | .newarray t => decide (zwat (cNaW (catag t)) = some (.arrayClass (newarray.typeOf t)))
    | .anewarray i => decide (zwat w = some (.classLink own i (cown x)))
    | .multianewarray i _ => decide (zwat w = some (.classLink own i "[[I"))
    | .putfield _ => match vwCl[y]? with
      | some (_, T, N) => decide (x < N) && decide (z = 0) && decide ((T x).1 = own) && (ini || decide ((T x).2.2.2 = false))
      | none => false
    | .getfield _ => match vwCl[y]? with
      | some (_, _, N) => decide (x < N) && decide (z = 0)
      | none => false
    | .invokespecial i => match y with
      | 20 => decide (zwat w = some (.methodLink own i objectInit))
      | 0 => decide (zwat w = some (.methodLink own i (zmN x)))
      | _ => decide (zwat w = some (.methodLinkNest own i (zmN x) "ThanksByPost")) && decide (w ∈ znestp)
    | .invokevirtual i => match y with
      | 0 => decide (zwat w = some (.methodLink own i (zmN x)))
      | _ => false
    | _ => true
theorem cobj_ok : (decide (zwat 1026 = some (.instanceMethod objectInit)) && decide (zwat 1084 = some (.arrayClass .int))) = true := by decide +kernel
theorem cobj_code : zwat 1027 = some (.code objectInit ⟨#[0xb1]⟩ 1 none) := by rfl
