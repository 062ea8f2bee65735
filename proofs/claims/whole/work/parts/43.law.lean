section LAW
variable {p : Program} {l : Launch} {e : Env} {s : State} {m : MethodId} {args : Array Value} {below : List Frame} {meth : Method} {c : Code} {cells slots : Nat} {Q : State → Prop} {D : va_G} {cA : Nat → ClassId} {adr : Nat → Nat} {A : Nat → Prop} {b L : Nat} {xs : Nat → Int32}
def zrunT (tab : Nat → Option zE) : Nat → zC → Option zC
  | 0, cf => some cf
  | n + 1, (pc, lv, st, M) => match tab pc with
    | some E => match zstep E pc lv st M with
      | some cf' => zrunT tab n cf'
      | none => none
    | none => none
/-- what holds while the law runs -/
def lCx (p : Program) (s : State) (m : MethodId) (args : Array Value) (c : Code) (cells slots : Nat) (D : va_G) (cA : Nat → ClassId) (adr : Nat → Nat) (A : Nat → Prop) (b L : Nat) (xs : Nat → Int32) : Prop :=
  zCx p room_1 s m args c cells slots D cA adr A R_law code 4 ∧ va_X b L xs s s.heap ∧ b < s.heap.size ∧ ¬ A b ∧ adr (zNP + 25) = b ∧ L ≤ 3072
theorem lS_run (C : lCx p s m args c cells slots D cA adr A b L xs) : ∀ (n : Nat) {cf cf' : zC}, zrunT zpL n cf = some cf' → zS p l e room_1 s m args below meth c cells slots D cA adr A 4 Q cf' → zS p l e room_1 s m args below meth c cells slots D cA adr A 4 Q cf := by
  intro n
  induction n with
  | zero =>
    intro cf cf' h k
    cases h
    exact k
  | succ n ih =>
    intro cf cf' h k
    obtain ⟨pc, lv, st, M⟩ := cf
    unfold zrunT at h
    split at h
    · rename_i E hE
      split at h
      · rename_i cf1 h1
        exact zstep_ok C.1 (law_tab pc E hE).1 h1 (ih h k)
      · cases h
    · cases h
theorem l_br (C : lCx p s m args c cells slots D cA adr A b L xs) {pc : Nat} {lv : zL} {st : List zV} {M : zM} {E : zE} (hE : zpL pc = some E) {cf' : zC} (h : zstep E pc lv st M = some cf') (k : zS p l e room_1 s m args below meth c cells slots D cA adr A 4 Q cf') : zS p l e room_1 s m args below meth c cells slots D cA adr A 4 Q (pc, lv, st, M) :=
  zstep_ok C.1 (law_tab pc E hE).1 h k
theorem l_dg {pc : Nat} {E : zE} (hE : zpL pc = some E) : decode code pc = .ok (E.1, zil E.2.1 E.1) := by
  have h := (law_tab pc E hE).1
  unfold zchk at h
  rw [Bool.and_eq_true, decide_eq_true_eq] at h
  exact h.1
theorem l_script (C : lCx p s m args c cells slots D cA adr A b L xs) : zc adr (zr 90 25) = .ref b := by
  show Value.ref (adr (zoff 90 + 25)) = _
  rw [show zoff 90 + 25 = zNP + 25 from by decide, C.2.2.2.2.1]
def lA (xs : Nat → Int32) (n j : Nat) : Int := (xs (n + j)).toInt
theorem l_ld (C : lCx p s m args c cells slots D cA adr A b L xs) {pc n j : Nat} {jz : Int} {ln x y w : Nat} {z : Int} {lv : zL} {st : List zV} {M : zM} (hE : zpL pc = some (.iaload, ln, x, y, w, z)) (hj : jz = (j : Int)) (hn : n + j < L) (k : zS p l e room_1 s m args below meth c cells slots D cA adr A 4 Q (pc + 1, lv, zi (lA xs n j) :: st, M)) : zS p l e room_1 s m args below meth c cells slots D cA adr A 4 Q (pc, lv, zi ((n : Int) + jz) :: zr 90 25 :: st, M) := by
  subst hj
  have hsc := l_script C
  obtain ⟨⟨hx, hb, hml, hown, hts, hK, hDj, hAz, hR⟩, hX, hbl, hbA, -, hL⟩ := C
  intro H locs ls hP hS hlen hl hzl hzs
  have ei : Int32.ofInt ((n : Int) + (j : Int)) = Int32.ofNat (n + j) := rfl
  have e2 : zc adr (zi (lA xs n j)) = .int (xs (n + j)) := by
    show Value.int (Int32.ofInt (xs (n + j)).toInt) = _
    rw [Int32.ofInt_toInt]
  have hz := k H locs ls hP hS hlen hl hzl (zsc trivial (zs1 (zs1 hzs)))
  dsimp only at hz ⊢
  rw [List.map_cons, e2] at hz
  rw [List.map_cons, List.map_cons, hsc]
  show W p l e room_1 s m args below meth c H locs cells slots Q (F0 m pc ls (.int (Int32.ofInt ((n : Int) + (j : Int))) :: .ref b :: st.map (zc adr)))
  rw [ei]
  have ec : (Int32.ofNat (n + j)).toNatClampNeg = n + j := nI_clamp (by omega)
  refine va_sld (i := Int32.ofNat (n + j)) hx hb hX hbl hbA hS (nI_in hn (by omega)) (l_dg hE) ?_
  rw [ec]
  exact hz
theorem l_len (C : lCx p s m args c cells slots D cA adr A b L xs) {pc ln x y w : Nat} {z : Int} {lv : zL} {st : List zV} {M : zM} (hE : zpL pc = some (.arraylength, ln, x, y, w, z)) (k : zS p l e room_1 s m args below meth c cells slots D cA adr A 4 Q (pc + 1, lv, zi (L : Int) :: st, M)) : zS p l e room_1 s m args below meth c cells slots D cA adr A 4 Q (pc, lv, zr 90 25 :: st, M) := by
  have hsc := l_script C
  obtain ⟨⟨hx, hb, hml, hown, hts, hK, hDj, hAz, hR⟩, hX, hbl, hbA, -, hL⟩ := C
  intro H locs ls hP hS hlen hl hzl hzs
  have hz := k H locs ls hP hS hlen hl hzl (zsc trivial (zs1 hzs))
  dsimp only at hz ⊢
  rw [List.map_cons] at hz
  rw [List.map_cons, hsc]
  exact va_slen hx hb hX hbl hbA hS (l_dg hE) hz
def lB (v : Int) : Int := if zw v = 0 then 0 else 1
theorem l_bool (C : lCx p s m args c cells slots D cA adr A b L xs) {pc w0 w1 w2 w3 : Nat} {lv : zL} {st : List zV} {M : zM} {v : Int} (e0 : zpL pc = some (.ifCond .eq 7, 3, pc + 7, 0, w0, 0)) (e1 : zpL (pc + 3) = some (.iconst 1, 1, 0, 0, w1, 0)) (e2 : zpL (pc + 4) = some (.goto 4, 3, pc + 8, 0, w2, 0)) (e3 : zpL (pc + 7) = some (.iconst 0, 1, 0, 0, w3, 0)) (k : zS p l e room_1 s m args below meth c cells slots D cA adr A 4 Q (pc + 8, lv, zi (lB v) :: st, M)) : zS p l e room_1 s m args below meth c cells slots D cA adr A 4 Q (pc, lv, zi v :: st, M) := by
  unfold lB at k
  by_cases h : zw v = 0
  · rw [if_pos h] at k
    exact l_br C e0 (if_pos h) (l_br C e3 rfl k)
  · rw [if_neg h] at k
    exact l_br C e0 (if_neg h) (l_br C e1 rfl (l_br C e2 rfl k))
/-- a call in the law: of the receiver k, which has but one instance -/
theorem l_call (C : lCx p s m args c cells slots D cA adr A b L xs) {pc : Nat} {lv : zL} {M M' : zM} {mi idx ln w k : Nat} {z : Int} {as rest st : List zV} {r : zV} (hm : zmOK mi) (hE : zpL pc = some (.invokevirtual idx, ln, mi, 0, w, z)) (hst : st = as.reverse ++ zr k 0 :: rest) (hc : (!(zmS mi) && zisO k (zmC mi) && Nat.beq as.length (zmA mi) && Nat.ble (rest.map zcat).sum 8) = true) (hM : zMet mi 400 (zr k 0 :: as) M (some r) M') (h : zS p l e room_1 s m args below meth c cells slots D cA adr A 4 Q (pc + 3, lv, r :: rest, M')) : zS p l e room_1 s m args below meth c cells slots D cA adr A 4 Q (pc, lv, st, M) := by
  simp only [Bool.and_eq_true, Bool.not_eq_true'] at hc
  obtain ⟨⟨⟨hs2, h3⟩, h4⟩, h5⟩ := hc
  subst hst
  exact zcallV C.1 hm (l_dg hE) (law_tab pc _ hE).2 (by omega) hs2 h3 (Nat.eq_of_beq_eq_true h4) (zNat_ble h5) ⟨by show 402 ≤ 2048; omega, by show 60 * 402 ≤ 84000; omega⟩ hM h
theorem zw0 : zw 0 = 0 := by decide
theorem zlcmp_self (v : Int) : zlcmp v v = 0 := by unfold zlcmp; simp
end LAW
abbrev lI (n : Nat) : zL := [some (zr 90 25), some (zr 0 0), some (zr 42 0), some (zi (n : Int))]
