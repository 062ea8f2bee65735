/-! constructors as a whole: calls among them; everything is computed -/
def ckind (E : zE) : Nat := match E with
  | (ins, _, _, y, _, _) => match ins with
    | .return_ => 1
    | .invokespecial _ => bif Nat.beq y 20 then 0 else 2
    | .invokevirtual _ => 3
    | _ => 0
def ctake (n : Nat) (st : List zV) : Option (List zV × Nat × List zV) := match st.drop n with
  | .inr (.inr (0, j)) :: r => some ((st.take n).reverse, j, r)
  | _ => none
def cmis : List Nat := [237, 238, 239, 240, 241, 242, 243, 244, 245, 246, 247, 59]
def cent (as : List zV) (n : Nat) : zL := zent as ++ List.replicate (n - (zent as).length) none
def cgo (x : Nat) (as rest : List zV) : Bool := cmis.contains x && Nat.beq as.length (zmA x) && Nat.ble (rest.map zcat).sum 8 && Nat.ble ((zent as).length + 1) (zmL x)
def cini (mi : Nat) : Bool := !(Nat.beq mi 59)
def ckok (k x : Nat) (hl : List cE) (j : Nat) : Bool := match k with
  | 2 => cini x
  | _ => Nat.beq x 59 && (match hl[j]? with
    | some (.inl (ci, _)) => Nat.beq ci 8
    | _ => false)
def cev : Nat → Nat → Nat → cS → Option (List cE × Nat × Nat)
  | 0, _, _, _ => none
  | f + 1, d, mi, cf => match zpt mi cf.1 with
    | none => none
    | some E => match ckind E with
      | 0 => match cstep E cf with
        | some cf' => cev f d mi cf'
        | none => none
      | 1 => match cf.2.2.1 with
        | [] => some (cf.2.2.2.1, cf.2.2.2.2.1, cf.2.2.2.2.2)
        | _ => none
      | _ => match d with
        | 0 => none
        | d + 1 => match ctake (zmA E.2.2.1) cf.2.2.1 with
          | none => none
          | some (as, j, rest) => match cgo E.2.2.1 as rest && ckok (ckind E) E.2.2.1 cf.2.2.2.1 j with
            | false => none
            | true => match cev f d E.2.2.1 (0, cent (zr 0 j :: as) (zmL E.2.2.1), [], cf.2.2.2.1, 0, 0) with
              | none => none
              | some (hl', mc, ms) => cev f (d + 1) mi (cf.1 + 3, cf.2.1, rest, hl', cf.2.2.2.2.1 + mc, cf.2.2.2.2.2 + ms)
def cOK (mi : Nat) : Prop :=
  (∀ pc E, zpt mi pc = some E → zchk (zmN mi).cls (zmB mi) pc E = true ∧ cchk (cini mi) (zmN mi).cls E = true) ∧
  Cond.code (zmN mi) (zmB mi) (zmL mi) (zmR mi) ∈ zwords ∧ Cond.instanceMethod (zmN mi) ∈ zwords ∧ Cond.initialized (zmN mi).cls ∈ zwords ∧
  ((zmN mi).cls ≠ "java/lang/invoke/MethodHandle" ∧ (zmN mi).cls ≠ "java/lang/invoke/VarHandle" ∧ (parseMethodDescriptor (zmN mi).desc).map (fun d => d.parameters.length) = some (zmA mi)) ∧
  plainName (zmN mi).cls = true ∧ zmL mi ≤ 40 ∧ (cini mi = true → (zmN mi).name = "<init>") ∧ zmR mi = none
def cok4 (mi : Nat) : Bool := decide (zwat (zmW mi).2.1 = some (.instanceMethod (zmN mi))) && decide (zwat (zmW mi).2.2.2 = some (.initialized (zmN mi).cls)) && decide ((zmN mi).cls ≠ "java/lang/invoke/MethodHandle" ∧ (zmN mi).cls ≠ "java/lang/invoke/VarHandle" ∧ (parseMethodDescriptor (zmN mi).desc).map (fun d => d.parameters.length) = some (zmA mi)) && plainName (zmN mi).cls && Nat.ble (zmL mi) 40 && (!(cini mi) || decide ((zmN mi).name = "<init>")) && decide (zmR mi = none)
theorem cOK_of {mi n : Nat} (h1 : ∀ pc, n ≤ pc → zpt mi pc = none) (h2 : (List.range n).all (fun pc => match zpt mi pc with
  | some E => zchk (zmN mi).cls (zmB mi) pc E && cchk (cini mi) (zmN mi).cls E
  | none => true) = true) (h3 : zwat (zmW mi).1 = some (Cond.code (zmN mi) (zmB mi) (zmL mi) (zmR mi))) (h4 : cok4 mi = true) : cOK mi := by
  unfold cok4 at h4
  simp only [Bool.and_eq_true, Bool.or_eq_true, Bool.not_eq_true', decide_eq_true_eq] at h4
  obtain ⟨⟨⟨⟨⟨⟨a1, a2⟩, a3⟩, a4⟩, a5⟩, a6⟩, a7⟩ := h4
  refine ⟨fun pc E hE => ?_, zwat_in h3 rfl, zwat_in a1 rfl, zwat_in a2 rfl, a3, a4, zNat_ble a5, fun q => a6.resolve_left (by rw [q]; decide), a7⟩
  have hlt : pc < n := by
    rcases Nat.lt_or_ge pc n with q | q
    · exact q
    · rw [h1 pc q] at hE; cases hE
  have h := List.all_eq_true.mp h2 pc (List.mem_range.mpr hlt)
  rw [hE] at h
  exact (Bool.and_eq_true _ _).mp h
set_option maxRecDepth 100000 in
theorem cok_237 : cOK 237 := cOK_of (n := 180) (fun pc h => by
  show zp237 pc = none
  unfold zp237
  rw [zble_t h]
  rfl) (by decide +kernel) (by rfl) (by decide +kernel)
set_option maxRecDepth 100000 in
theorem cok_238 : cOK 238 := cOK_of (n := 69) (fun pc h => by
  show zp238 pc = none
  unfold zp238
  rw [zble_t h]
  rfl) (by decide +kernel) (by rfl) (by decide +kernel)
set_option maxRecDepth 100000 in
theorem cok_239 : cOK 239 := cOK_of (n := 22) (fun pc h => by
  show zp239 pc = none
  unfold zp239
  rw [zble_t h]
  rfl) (by decide +kernel) (by rfl) (by decide +kernel)
set_option maxRecDepth 100000 in
theorem cok_240 : cOK 240 := cOK_of (n := 92) (fun pc h => by
  show zp240 pc = none
  unfold zp240
  rw [zble_t h]
  rfl) (by decide +kernel) (by rfl) (by decide +kernel)
set_option maxRecDepth 100000 in
theorem cok_241 : cOK 241 := cOK_of (n := 5) (fun pc h => by
  show zp241 pc = none
  unfold zp241
  rw [zble_t h]
  rfl) (by decide +kernel) (by rfl) (by decide +kernel)
set_option maxRecDepth 100000 in
theorem cok_242 : cOK 242 := cOK_of (n := 17) (fun pc h => by
  show zp242 pc = none
  unfold zp242
  rw [zble_t h]
  rfl) (by decide +kernel) (by rfl) (by decide +kernel)
set_option maxRecDepth 100000 in
theorem cok_243 : cOK 243 := cOK_of (n := 61) (fun pc h => by
  show zp243 pc = none
  unfold zp243
  rw [zble_t h]
  rfl) (by decide +kernel) (by rfl) (by decide +kernel)
set_option maxRecDepth 100000 in
theorem cok_244 : cOK 244 := cOK_of (n := 35) (fun pc h => by
  show zp244 pc = none
  unfold zp244
  rw [zble_t h]
  rfl) (by decide +kernel) (by rfl) (by decide +kernel)
set_option maxRecDepth 100000 in
theorem cok_245 : cOK 245 := cOK_of (n := 14) (fun pc h => by
  show zp245 pc = none
  unfold zp245
  rw [zble_t h]
  rfl) (by decide +kernel) (by rfl) (by decide +kernel)
set_option maxRecDepth 100000 in
theorem cok_246 : cOK 246 := cOK_of (n := 22) (fun pc h => by
  show zp246 pc = none
  unfold zp246
  rw [zble_t h]
  rfl) (by decide +kernel) (by rfl) (by decide +kernel)
set_option maxRecDepth 100000 in
theorem cok_247 : cOK 247 := cOK_of (n := 37) (fun pc h => by
  show zp247 pc = none
  unfold zp247
  rw [zble_t h]
  rfl) (by decide +kernel) (by rfl) (by decide +kernel)
set_option maxRecDepth 100000 in
theorem cok_248 : cOK 248 := cOK_of (n := 275) (fun pc h => by
  show zp248 pc = none
  unfold zp248
  rw [zble_t h]
  rfl) (by decide +kernel) (by rfl) (by decide +kernel)
set_option maxRecDepth 100000 in
theorem cok_59 : cOK 59 := cOK_of (n := 30) (fun pc h => by
  show zp59 pc = none
  unfold zp59
  rw [zble_t h]
  rfl) (by decide +kernel) (by rfl) (by decide +kernel)
theorem cok_all : ∀ mi, cmis.contains mi = true → cOK mi := by
  intro mi h
  have h2 : mi ∈ cmis := List.contains_iff_mem.mp h
  simp only [cmis, List.mem_cons, List.not_mem_nil, or_false] at h2
  rcases h2 with rfl | rfl | rfl | rfl | rfl | rfl | rfl | rfl | rfl | rfl | rfl | rfl
  · exact cok_237
  · exact cok_238
  · exact cok_239
  · exact cok_240
  · exact cok_241
  · exact cok_242
  · exact cok_243
  · exact cok_244
  · exact cok_245
  · exact cok_246
  · exact cok_247
  · exact cok_59
