/-- how deep the methods that call one another may go -/
def zR : Nat := 300
/-- a name for what is used more than once -/
def zlet {α β : Type} (a : α) (f : α → β) : β := f a
theorem zlet_of {α β : Type} {a : α} {f : α → Option β} {q : β} (h : zlet a f = some q) : ∃ x, a = x ∧ f x = some q := ⟨a, rfl, h⟩
theorem zG_gi {mi d : Nat} {r : Option zV} {M M' : zM} {pc pc2 : Nat} {lv : zL} (hm : zmOK mi) {idx ln x y w k i : Nat} {z : Int} {rest : List zV} (hE : zpt mi pc = some (.getfield idx, ln, x, y, w, z)) (hc : (zisO k y && Nat.beq (zft k x) 3) = true) (hg : 0 ≤ M k i x ∧ M k i x < 4) (hp : pc + 3 = pc2) (k2 : zG mi d (pc2, lv, zr 2 (M k i x).toNat :: rest, M) r M') : zG mi d (pc, lv, zr k i :: rest, M) r M' := by
  rw [Bool.and_eq_true] at hc
  subst hp
  refine zG_br hm hE (cf' := (pc + 3, lv, zr 2 (M k i x).toNat :: rest, M)) ?_ k2
  show cond (zisO k y) ((zfget M k i x).map (fun v => (pc + 3, lv, v :: rest, M))) none = _
  rw [hc.1]
  show (zfget M k i x).map _ = _
  have e : zfget M k i x = some (zr 2 (M k i x).toNat) := by
    unfold zfget
    rw [Nat.eq_of_beq_eq_true hc.2]
    exact if_pos hg
  rw [e]
  rfl
/-- what the methods that call one another answer -/
def zRec (t dr : Nat) (a b c : Int) (M q : zM) : Prop := match t with
  | 0 => zMet 28 dr [zr 37 0, zi a] M none q
  | 1 => zMet 29 dr [zr 37 0, zi a] M none q
  | 2 => zMet 30 dr [zr 37 0, zi a] M none q
  | 3 => zMet 33 dr [zr 37 0, zi a, zi b] M none q
  | 4 => zMet 34 dr [zr 37 0, zi a] M none q
  | 5 => zMet 35 dr [zr 37 0, zi a] M none q
  | 6 => zMet 36 dr [zr 37 0, zi a] M none q
  | 7 => zMet 38 dr [zr 31 0, zi a, zi b] M none q
  | 8 => zMet 39 dr [zr 31 0, zi a, zi b, zi c] M none q
  | _ => False
