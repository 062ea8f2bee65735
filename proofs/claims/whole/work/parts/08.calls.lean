/-! calls, returns, switches; a method's contract -/
def zchkJ (own : String) (i x y w : Nat) : Bool := match y with
  | 0 => decide (zwat w = some (.methodLink own i (zmN x)))
  | 1 => decide (zwat w = some (.methodLinkNest own i (zmN x) "ThanksByPost")) && decide (w ∈ znestp)
  | 2 => decide (zwat w = some (.methodLink own i (zmN x)))
  | 10 => decide (zwat w = some (.methodLink own i Lib.Math.max.name))
  | 11 => decide (zwat w = some (.methodLink own i Lib.Math.min.name))
  | 12 => decide (zwat w = some (.methodLink own i Lib.Math.abs.name))
  | 13 => decide (zwat w = some (.methodLink own i arraycopyName))
  | _ => true
def zchkI (own : String) (E : zE) : Bool := match E with
  | (ins, _, x, y, w, _) => match ins with
    | .invokevirtual i => zchkJ own i x y w
    | .invokestatic i => zchkJ own i x y w
    | _ => true
def zmOK (mi : Nat) : Prop :=
  (∀ pc E, zpt mi pc = some E → zchk (zmN mi).cls (zmB mi) pc E = true ∧ zchkI (zmN mi).cls E = true) ∧
  Cond.code (zmN mi) (zmB mi) (zmL mi) (zmR mi) ∈ zwords ∧
  (zmS mi = false → Cond.instanceMethod (zmN mi) ∈ zwords ∧ Cond.selects (zmN mi).cls (zmN mi) (zmN mi) ∈ zwords ∧ (zmC mi ≠ 99 → ∃ T N, vwCl[zmC mi]? = some ((zmN mi).cls, T, N))) ∧
  (zmS mi = true → Cond.static (zmN mi) ∈ zwords) ∧
  Cond.initialized (zmN mi).cls ∈ zwords ∧
  ((zmN mi).cls ≠ "java/lang/invoke/MethodHandle" ∧ (zmN mi).cls ≠ "java/lang/invoke/VarHandle" ∧ (parseMethodDescriptor (zmN mi).desc).map (fun d => d.parameters.length) = some (zmA mi)) ∧
  plainName (zmN mi).cls = true ∧ zmL mi ≤ 40
def zws (mi : Nat) : List Cond := Cond.code (zmN mi) (zmB mi) (zmL mi) (zmR mi) :: zwords
def zrm (d : Nat) : Room := { frames := d + 1, cells := 0, slots := 0, locals := 60 * (d + 1) }
theorem zgood {ws : List Cond} (h : ∀ w ∈ ws, w ∈ zwords) : GoodIn zwords ws := fun w hw => ⟨h w hw, good_of_word (List.mem_filter.mp (h w hw)).2⟩
theorem zws_in {mi : Nat} (h : Cond.code (zmN mi) (zmB mi) (zmL mi) (zmR mi) ∈ zwords) : ∀ w ∈ zws mi, w ∈ zwords := fun w hw => (List.mem_cons.mp hw).elim (fun q => q ▸ h) id
def zPc (D : va_G) (cA : Nat → ClassId) (adr : Nat → Nat) (as : List zV) (M : zM) : Array Value → State → Prop := va_Pc (as.map (zc adr)) (fun U => zWd D cA adr M U.heap ∧ zK D cA adr (zA adr) U U.heap)
def zQc (D : va_G) (cA : Nat → ClassId) (adr : Nat → Nat) (r : Option zV) (M' : zM) : Array Value → State → Outcome → State → Prop := fun _ st o t => o = .returned (r.map (zc adr)) ∧ zWd D cA adr M' t.heap ∧ va_F (zA adr) st t
/-- method mi, with room for d calls below it, on as and M: it answers r and leaves M' -/
def zMet (mi d : Nat) (as : List zV) (M : zM) (r : Option zV) (M' : zM) : Prop :=
  (∀ v, r = some v → zok v) ∧ ∀ (l : Launch) (D : va_G) (cA : Nat → ClassId) (adr : Nat → Nat), zDj adr → (∀ v ∈ as, zok v) → Met l (zmN mi) (zws mi) (zrm d) (zPc D cA adr as M) (zQc D cA adr r M') 0 0 (zA adr)
section ZCA
variable {p : Program} {l : Launch} {e : Env} {R : Room} {s : State} {m : MethodId} {args : Array Value} {below : List Frame} {meth : Method} {c : Code} {cells slots : Nat} {Q : State → Prop} {D : va_G} {cA : Nat → ClassId} {adr : Nat → Nat} {A : Nat → Prop} {own : String} {cc : ByteArray} {nL : Nat}
theorem zrun {H : Heap} {locs : List Loc} {ls : Array Slot} {st0 rest : List Value} {pc : Nat} {r : Option zV} {M' : zM} {a : Array Value} (hr : va_Run p l e R s m args below meth c H locs cells slots 0 0 (F0 m pc ls st0) rest (zQc D cA adr r M' a) (zA adr)) (hS : va_S A s.heap H locs) (hAz : ∀ q, zA adr q → A q)
    (kk : ∀ (H1 : Heap) (locs1 : List Loc), zWd D cA adr M' H1 → va_S A s.heap H1 locs1 → W p l e R s m args below meth c H1 locs1 cells slots Q (F0 m (pc + 3) ls ((r.map (zc adr)).toList ++ rest))) : W p l e R s m args below meth c H locs cells slots Q (F0 m pc ls st0) := by
  intro T hT X
  obtain ⟨v, st₀, t, T', L, h0, X', hL, e1, e2, ⟨hv, hwd, hz, hk⟩, st⟩ := hr T hT X
  cases hv
  rw [h0] at hz hk
  obtain ⟨t2, a1, b1⟩ := kk T'.heap (locs ++ L) (by rw [e1]; exact hwd)
    ⟨Nat.le_trans hS.1 (by rw [e1]; exact hz), fun q h1 h2 => by rw [e1, hk q (Nat.lt_of_lt_of_le h1 hS.1) (fun z => h2 (hAz q z))]; exact hS.2.1 q h1 h2, fun q hq => by
      rcases List.mem_append.mp hq with h | h
      · exact hS.2.2 q h
      · exact hAz _ (hL q h)⟩ T' rfl X'
  exact ⟨t2, st t2 a1, b1⟩
theorem zblind {as : List zV} {M : zM} : FrameBlind (zPc D cA adr as M) := fun a U g mk q => ⟨q.1, q.2.1, zK_same (u := U) (U := U.calling g mk a) rfl q.2.2⟩
theorem zPc_ok {as : List zV} {M : zM} {H : Heap} {locs : List Loc} (hP : zWd D cA adr M H) (hK : zK D cA adr A s s.heap) (hS : va_S A s.heap H locs) (hAz : ∀ q, zA adr q → A q) : ∀ U : State, U.heap = H → s.WarmedH U.vm → zPc D cA adr as M (as.map (zc adr)).toArray U := by
  intro U hU hW
  refine ⟨rfl, ?_, ?_⟩
  · rw [hU]; exact hP
  · rw [hU]; exact zK_warm hW hK hS.2.1 hAz
def zcat : zV → Nat
  | .inr (.inl _) => 2
  | _ => 1
theorem zcat_eq (adr : Nat → Nat) (v : zV) : (zc adr v).category = zcat v := by
  rcases v with z | z | ⟨k, i⟩ <;> rfl
theorem zcats_eq (adr : Nat → Nat) (r : List zV) : ((r.map (zc adr)).map fun v => v.category).sum = (r.map zcat).sum := by
  rw [List.map_map]
  congr 1
  exact List.map_congr_left (fun v _ => zcat_eq adr v)
/-- calls of instance methods -/
theorem zcallV (C : zCx p R s m args c cells slots D cA adr A own cc nL) {pc : Nat} {lv : zL} {M M' : zM} {mi d idx ln y w : Nat} {z : Int} {as rest : List zV} {k i : Nat} {r : Option zV} (hm : zmOK mi) (hdg : decode cc pc = .ok (.invokevirtual idx, 3)) (hlk : zchkI own (.invokevirtual idx, ln, mi, y, w, z) = true) (hy : y < 2) (hs : zmS mi = false) (hrc : zisO k (zmC mi) = true) (hna : as.length = zmA mi) (hcat : (rest.map zcat).sum ≤ 8) (hR2 : d + 2 ≤ R.frames ∧ 60 * (d + 2) ≤ R.locals)
    (hM : zMet mi d (zr k i :: as) M r M') (h : zS p l e R s m args below meth c cells slots D cA adr A nL Q (pc + 3, lv, r.toList ++ rest, M')) : zS p l e R s m args below meth c cells slots D cA adr A nL Q (pc, lv, as.reverse ++ zr k i :: rest, M) := by
  obtain ⟨hx, hb, hml, hown, hts, hK, hDj, hAz, hR⟩ := C
  obtain ⟨-, hcode, hI, -, hini, hd, hpl, hmL⟩ := hm
  obtain ⟨hI1, hI2, hI3⟩ := hI hs
  intro H locs ls hP hS hlen hl hzl hzs
  dsimp only at hP hlen hl hzl hzs ⊢
  have hok : ∀ v ∈ zr k i :: as, zok v := fun v hv => hzs v (by
    rcases List.mem_cons.mp hv with q | q
    · exact List.mem_append_right _ (by rw [q]; exact List.mem_cons_self)
    · exact List.mem_append_left _ (List.mem_reverse.mpr q))
  have hor : ∀ v ∈ r.toList ++ rest, zok v := fun v hv => by
    rcases List.mem_append.mp hv with q | q
    · exact hM.1 v (Option.mem_toList.mp q)
    · exact hzs v (List.mem_append_right _ (List.mem_cons_of_mem _ q))
  obtain ⟨hk, hi⟩ := zobj_small (hok _ List.mem_cons_self) (by rw [zisO_ok hrc]; simp)
  obtain ⟨TT, NN, hcl⟩ := hI3 (fun q => zobj_ne99 hk (by rw [zisO_ok hrc, q]))
  have he := zlay_get (adr := adr) (cA := cA) (M := M) hk hi
  rw [zcell_o (zisO_ok hrc)] at he
  have hrv := va_recv hK.1 hP hcl he
  have hMM := hM.2 l D cA adr hDj hok
  have hkk : ∀ (H1 : Heap) (locs1 : List Loc), zWd D cA adr M' H1 → va_S A s.heap H1 locs1 → W p l e R s m args below meth c H1 locs1 cells slots Q (F0 m (pc + 3) ls ((r.map (zc adr)).toList ++ rest.map (zc adr))) := by
    intro H1 locs1 hP1 hS1
    have hz := h H1 locs1 ls hP1 hS1 hlen hl hzl hor
    have e1 : (r.toList ++ rest).map (zc adr) = (r.map (zc adr)).toList ++ rest.map (zc adr) := by
      rw [List.map_append]; cases r <;> rfl
    dsimp only at hz
    rw [e1] at hz
    exact hz
  have hst : (as.reverse ++ zr k i :: rest).map (zc adr) = (as.map (zc adr)).reverse ++ .ref (zad adr k i) :: rest.map (zc adr) := by
    rw [List.map_append, List.map_reverse]; rfl
  rw [hst]
  have hro : (zrm d).frames + 1 ≤ R.frames ∧ 8 + (zmL mi + 11) + (zrm d).locals ≤ R.locals := ⟨by show d + 1 + 1 ≤ _; omega, by show 8 + (zmL mi + 11) + 60 * (d + 1) ≤ _; omega⟩
  match y, hy, hlk with
  | 0, _, hlk =>
    have hl1 := hts _ (zwat_in (of_decide_eq_true hlk) rfl)
    exact zrun (a := (Value.ref (zad adr k i) :: as.map (zc adr)).toArray) (va_runV (As := as.map (zc adr)) (rest := rest.map (zc adr)) ⟨hx, hb, hml, hown, hts⟩ hMM ⟨callB_of (zmA mi) hts (zgood (zws_in hcode)) rfl rfl rfl (hts _ hini) hl1 hd hro, hts _ hI1, hts _ hI2⟩ ⟨zblind, hrv, zPc_ok hP hK hS hAz⟩ rfl (by rw [List.length_map]; exact hna) hl.1 rfl (lv_room (by rw [zcats_eq]; exact hcat)) hdg ⟨hR.2.2.1, hR.2.2.2⟩) hS hAz hkk
  | 1, _, hlk =>
    have hlk2 : (decide (zwat w = some (.methodLinkNest own idx (zmN mi) "ThanksByPost")) && decide (w ∈ znestp)) = true := hlk
    rw [Bool.and_eq_true, decide_eq_true_eq, decide_eq_true_eq] at hlk2
    have hl1 := hK.2.1 _ (List.mem_filterMap.mpr ⟨w, hlk2.2, hlk2.1⟩)
    exact zrun (a := (Value.ref (zad adr k i) :: as.map (zc adr)).toArray) (va_runVN (As := as.map (zc adr)) (rest := rest.map (zc adr)) ⟨hx, hb, hml, hown, hts⟩ hMM ⟨va_cnB (zmA mi) hts (zgood (zws_in hcode)) rfl rfl rfl hl1 (hts _ hini) hd hro, hts _ hI1, hts _ hI2⟩ ⟨zblind, hrv, zPc_ok hP hK hS hAz⟩ rfl (by rw [List.length_map]; exact hna) hl.1 rfl (lv_room (by rw [zcats_eq]; exact hcat)) hdg ⟨hR.2.2.1, hR.2.2.2⟩) hS hAz hkk
  | n + 2, hy, _ => omega
/-- calls of static methods -/
theorem zcallS (C : zCx p R s m args c cells slots D cA adr A own cc nL) {pc : Nat} {lv : zL} {M M' : zM} {mi d idx ln y w : Nat} {z : Int} {as rest : List zV} {r : Option zV} (hm : zmOK mi) (hdg : decode cc pc = .ok (.invokestatic idx, 3)) (hlk : zchkI own (.invokestatic idx, ln, mi, y, w, z) = true) (hy : y < 2) (hs : zmS mi = true) (hna : as.length = zmA mi) (hcat : (rest.map zcat).sum ≤ 8) (hR2 : d + 2 ≤ R.frames ∧ 60 * (d + 2) ≤ R.locals)
    (hM : zMet mi d as M r M') (h : zS p l e R s m args below meth c cells slots D cA adr A nL Q (pc + 3, lv, r.toList ++ rest, M')) : zS p l e R s m args below meth c cells slots D cA adr A nL Q (pc, lv, as.reverse ++ rest, M) := by
  obtain ⟨hx, hb, hml, hown, hts, hK, hDj, hAz, hR⟩ := C
  obtain ⟨-, hcode, -, hI, hini, hd, hpl, hmL⟩ := hm
  have hI1 := hI hs
  intro H locs ls hP hS hlen hl hzl hzs
  dsimp only at hP hlen hl hzl hzs ⊢
  have hok : ∀ v ∈ as, zok v := fun v hv => hzs v (List.mem_append_left _ (List.mem_reverse.mpr hv))
  have hor : ∀ v ∈ r.toList ++ rest, zok v := fun v hv => by
    rcases List.mem_append.mp hv with q | q
    · exact hM.1 v (Option.mem_toList.mp q)
    · exact hzs v (List.mem_append_right _ q)
  have hMM := hM.2 l D cA adr hDj hok
  have hkk : ∀ (H1 : Heap) (locs1 : List Loc), zWd D cA adr M' H1 → va_S A s.heap H1 locs1 → W p l e R s m args below meth c H1 locs1 cells slots Q (F0 m (pc + 3) ls ((r.map (zc adr)).toList ++ rest.map (zc adr))) := by
    intro H1 locs1 hP1 hS1
    have hz := h H1 locs1 ls hP1 hS1 hlen hl hzl hor
    have e1 : (r.toList ++ rest).map (zc adr) = (r.map (zc adr)).toList ++ rest.map (zc adr) := by
      rw [List.map_append]; cases r <;> rfl
    dsimp only at hz
    rw [e1] at hz
    exact hz
  have hst : (as.reverse ++ rest).map (zc adr) = (as.map (zc adr)).reverse ++ rest.map (zc adr) := by
    rw [List.map_append, List.map_reverse]
  rw [hst]
  have hro : (zrm d).frames + 1 ≤ R.frames ∧ 8 + (zmL mi + 11) + (zrm d).locals ≤ R.locals := ⟨by show d + 1 + 1 ≤ _; omega, by show 8 + (zmL mi + 11) + 60 * (d + 1) ≤ _; omega⟩
  match y, hy, hlk with
  | 0, _, hlk =>
    have hl1 := hts _ (zwat_in (of_decide_eq_true hlk) rfl)
    exact zrun (a := (as.map (zc adr)).toArray) (va_runS (As := as.map (zc adr)) (rest := rest.map (zc adr)) ⟨hx, hb, hml, hown, hts⟩ hMM ⟨callB_of (zmA mi) hts (zgood (zws_in hcode)) rfl rfl rfl (hts _ hini) hl1 hd hro, hts _ hI1⟩ ⟨zblind, zPc_ok hP hK hS hAz⟩ rfl (by rw [List.length_map]; exact hna) hl.1 rfl (lv_room (by rw [zcats_eq]; exact hcat)) hdg ⟨hR.2.2.1, hR.2.2.2⟩) hS hAz hkk
  | 1, _, hlk =>
    have hlk2 : (decide (zwat w = some (.methodLinkNest own idx (zmN mi) "ThanksByPost")) && decide (w ∈ znestp)) = true := hlk
    rw [Bool.and_eq_true, decide_eq_true_eq, decide_eq_true_eq] at hlk2
    have hl1 := hK.2.1 _ (List.mem_filterMap.mpr ⟨w, hlk2.2, hlk2.1⟩)
    exact zrun (a := (as.map (zc adr)).toArray) (va_runSN (As := as.map (zc adr)) (rest := rest.map (zc adr)) ⟨hx, hb, hml, hown, hts⟩ hMM ⟨va_cnB (zmA mi) hts (zgood (zws_in hcode)) rfl rfl rfl hl1 (hts _ hini) hd hro, hts _ hI1, trivial⟩ ⟨zblind, zPc_ok hP hK hS hAz⟩ rfl (by rw [List.length_map]; exact hna) hl.1 rfl (lv_room (by rw [zcats_eq]; exact hcat)) hdg ⟨hR.2.2.1, hR.2.2.2⟩) hS hAz hkk
  | n + 2, hy, _ => omega
end ZCA
