/-! one step of the abstract machine is one step of the machine -/
def zil (n : Nat) : Instr → Nat
  | .bipush _ => 2
  | .ldc _ => 2
  | .iload _ => 2
  | .lload _ => 2
  | .aload _ => 2
  | .istore _ => 2
  | .lstore _ => 2
  | .astore _ => 2
  | .sipush _ => 3
  | .ldc_w _ => 3
  | .ldc2_w _ => 3
  | .iinc _ _ => 3
  | .goto _ => 3
  | .if_icmp _ _ => 3
  | .ifCond _ _ => 3
  | .getfield _ => 3
  | .putfield _ => 3
  | .invokevirtual _ => 3
  | .invokestatic _ => 3
  | .invokespecial _ => 3
  | .getstatic _ => 3
  | .new _ => 3
  | .newarray _ => 2
  | .anewarray _ => 3
  | .multianewarray _ _ => 4
  | .tableswitch _ _ _ _ => n
  | .lookupswitch _ _ => n
  | _ => 1
def zchkF (own : String) (i x y w : Nat) (z : Int) : Bool := match vwCl[y]? with
  | some (_, T, N) => decide (x < N) && match z with
    | .ofNat 0 => decide (zwat w = some (.fieldLink own i (T x).1 (T x).2.1 (T x).2.2.1))
    | _ => decide (zwat w = some (.fieldLinkNest own i (T x).1 (T x).2.1 (T x).2.2.1 "ThanksByPost")) && decide (w ∈ znestp)
  | none => decide (y = 99)
def zchk2 (own : String) (pc : Nat) (E : zE) : Bool := match E with
  | (ins, _, x, y, w, z) => match ins with
    | .bipush n => decide ((Int8.ofInt n).toInt32 = Int32.ofInt n)
    | .sipush n => decide ((Int16.ofInt n).toInt32 = Int32.ofInt n)
    | .ldc i => cond (Nat.beq y 0) (decide (zwat w = some (.constant own i (Int32.ofInt z)))) (decide (own = RX4) && (decide (x < 25) && decide (zcp.getD x 0 = i)))
    | .ldc_w i => decide (zwat w = some (.constant own i (Int32.ofInt z)))
    | .ldc2_w i => decide (zwat w = some (.constantLong own i (Int64.ofInt z)))
    | .goto o => decide ((pc : Int) + o = (x : Int))
    | .if_icmp _ o => decide ((pc : Int) + o = (x : Int))
    | .ifCond _ o => decide ((pc : Int) + o = (x : Int))
    | .getfield i => zchkF own i x y w z
    | .putfield i => zchkF own i x y w z
    | _ => true
def zchk (own : String) (cc : ByteArray) (pc : Nat) (E : zE) : Bool := decide (decode cc pc = .ok (E.1, zil E.2.1 E.1)) && zchk2 own pc E
section ZST
variable {p : Program} {l : Launch} {e : Env} {R : Room} {s : State} {m : MethodId} {args : Array Value} {below : List Frame} {meth : Method} {c : Code} {cells slots : Nat} {Q : State → Prop} {D : va_G} {cA : Nat → ClassId} {adr : Nat → Nat} {A : Nat → Prop} {own : String} {cc : ByteArray} {nL : Nat}
/-- what holds of the machine while a body runs -/
def zCx (p : Program) (R : Room) (s : State) (m : MethodId) (args : Array Value) (c : Code) (cells slots : Nat) (D : va_G) (cA : Nat → ClassId) (adr : Nat → Nat) (A : Nat → Prop) (own : String) (cc : ByteArray) (nL : Nat) : Prop :=
  p.tables.exec = Jvm.exec ∧ c.code = cc ∧ c.maxLocals = nL ∧ s.vm.findClass own = some m.cls ∧ (∀ w ∈ zwords, w.before args s = true) ∧ zK D cA adr A s s.heap ∧ zDj adr ∧ (∀ q, zA adr q → A q) ∧ (1 ≤ R.frames ∧ 40 ≤ R.locals ∧ cells ≤ R.cells ∧ slots ≤ R.slots)
/-- from this point of the abstract machine the machine comes to Q -/
def zS (p : Program) (l : Launch) (e : Env) (R : Room) (s : State) (m : MethodId) (args : Array Value) (below : List Frame) (meth : Method) (c : Code) (cells slots : Nat) (D : va_G) (cA : Nat → ClassId) (adr : Nat → Nat) (A : Nat → Prop) (nL : Nat) (Q : State → Prop) (cf : zC) : Prop :=
  ∀ (H : Heap) (locs : List Loc) (ls : Array Slot), zWd D cA adr cf.2.2.2 H → va_S A s.heap H locs → cf.2.1.length = nL → lv_has ls nL (zll adr cf.2.1) → (∀ v, some v ∈ cf.2.1 → zok v) → (∀ v ∈ cf.2.2.1, zok v) →
    W p l e R s m args below meth c H locs cells slots Q (F0 m cf.1 ls (cf.2.2.1.map (zc adr)))
theorem zs1 {a : zV} {r : List zV} (h : ∀ v ∈ a :: r, zok v) : ∀ v ∈ r, zok v := fun v hv => h v (List.mem_cons_of_mem _ hv)
theorem zs0 {a : zV} {r : List zV} (h : ∀ v ∈ a :: r, zok v) : zok a := h a List.mem_cons_self
theorem zsc {a : zV} {r : List zV} (h : zok a) (h2 : ∀ v ∈ r, zok v) : ∀ v ∈ a :: r, zok v := fun v hv => (List.mem_cons.mp hv).elim (fun q => q ▸ h) (h2 v)
theorem zlvok {lv : zL} {i : Nat} {v : zV} (h : ∀ v, some v ∈ lv → zok v) (hi : lv[i]? = some (some v)) : zok v := h v (List.mem_of_getElem? hi)
theorem zkill_ok {lv : zL} {i : Nat} (h : ∀ v, some v ∈ lv → zok v) : ∀ v, some v ∈ zkill lv i → zok v := by
  intro v hv
  obtain ⟨j, hj⟩ := List.getElem?_of_mem hv
  exact zlvok h (zkill_mem hj).1
theorem zst1_ok {lv : zL} {i : Nat} {a : zV} (h : ∀ v, some v ∈ lv → zok v) (ha : zok a) : ∀ v, some v ∈ zst1 lv i a → zok v := by
  intro v hv
  rcases List.mem_or_eq_of_mem_set hv with q | q
  · exact zkill_ok h v q
  · cases q; exact ha
theorem zst2_ok {lv : zL} {i : Nat} {a : zV} (h : ∀ v, some v ∈ lv → zok v) (ha : zok a) : ∀ v, some v ∈ zst2 lv i a → zok v := by
  intro v hv
  rcases List.mem_or_eq_of_mem_set hv with q | q
  · exact zst1_ok h ha v q
  · cases q
theorem zst1_len (lv : zL) (i : Nat) (a : zV) : (zst1 lv i a).length = lv.length := by simp [zst1, zkill_len]
theorem zst2_len (lv : zL) (i : Nat) (a : zV) : (zst2 lv i a).length = lv.length := by simp [zst2, zkill_len]
theorem zNat_ble {a b : Nat} (h : Nat.ble a b = true) : a ≤ b := Nat.ble_eq.mp h
theorem zcond {α : Type} {c : Bool} {a b : Option α} {x : α} (h : cond c a b = some x) (hb : b = none) : c = true ∧ a = some x := by
  cases c with
  | true => exact ⟨rfl, h⟩
  | false => rw [hb] at h; cases h
theorem zite {α : Type} {P : Prop} [Decidable P] {a b : Option α} {x : α} (h : (if P then a else b) = some x) (hb : b = none) : P ∧ a = some x := by
  by_cases hp : P
  · rw [if_pos hp] at h; exact ⟨hp, h⟩
  · rw [if_neg hp, hb] at h; cases h
theorem zisA_ok {k t : Nat} (h : zisA k t = true) : zobj k = none ∧ ztag k = t := by
  unfold zisA at h
  cases ho : zobj k with
  | none => rw [ho] at h; exact ⟨rfl, Nat.eq_of_beq_eq_true h⟩
  | some d => rw [ho] at h; cases h
theorem zisO_ok {k c : Nat} (h : zisO k c = true) : zobj k = some c := by
  unfold zisO at h
  cases ho : zobj k with
  | none => rw [ho] at h; cases h
  | some d => rw [ho] at h; rw [Nat.eq_of_beq_eq_true h]
theorem zobj_small {k i : Nat} (h : zokr k i) (ho : zobj k ≠ none) : k < zNK ∧ i < zcnt k := by
  rcases h with h | ⟨rfl, -⟩
  · exact h
  · exact absurd rfl ho

def zup (f : Nat → Int) (k : Nat) (x : Int) : Nat → Int := fun j => if j = k then x else f j
theorem zisA_small {k i t : Nat} (h : zokr k i) (ho : zisA k t = true) (ht : zlen k ≠ 0) : k < zNK ∧ i < zcnt k := by
  rcases h with h | ⟨rfl, -⟩
  · exact h
  · exact absurd rfl ht
theorem zcell_a {k i : Nat} {f : Nat → Int} (ho : zobj k = none) : zcell adr cA k i f = .inl (cA (ztag k), zlen k, zarr adr k i f) := by unfold zcell; rw [ho]
theorem zcell_o {k i ci : Nat} {f : Nat → Int} (ho : zobj k = some ci) : zcell adr cA k i f = .inr (ci, (List.range (zlen k)).map (zfv adr k i f)) := by unfold zcell; rw [ho]
theorem zput_self (M : zM) (k i j : Nat) (v : Int) : (zput M k i j v) k i = zup (M k i) j v := by
  funext q
  unfold zput zup
  by_cases h : q = j
  · simp [h]
  · simp [h]
theorem zput_off (M : zM) (k i j : Nat) (v : Int) : ∀ k' i', ¬ (k' = k ∧ i' = i) → (zput M k i j v) k' i' = M k' i' := by
  intro k' i' h
  funext q
  unfold zput
  rw [if_neg (fun z => h ⟨z.1, z.2.1⟩)]
end ZST
