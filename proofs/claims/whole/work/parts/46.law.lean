section LAWS
variable {p : Program} {l : Launch} {e : Env} {R : Room} {s : State} {m : MethodId} {args : Array Value} {below : List Frame} {meth : Method} {c : Code} {Q : State → Prop} {D : va_G} {cA : Nat → ClassId} {own : String} {cc : ByteArray} {nL n0 : Nat}
theorem cnewR (hx : p.tables.exec = Jvm.exec) (hb : c.code = cc) (hown : s.vm.findClass own = some m.cls) (hts : ∀ w ∈ zwords, w.before args s = true) (hK : cK D cA s) {H : Heap} {locs : List Loc} {hl : List cE} {nc ns pc idx x N : Nat} {C : String} {T : u_T} {ls : Array Slot} {rest : List Value} (hWd : cWd D n0 cA hl H) (hS : va_S (fun q => n0 ≤ q) s.heap H locs) (hc : vwCl[x]? = some (C, T, N)) (w1 : Cond.classLink own idx C ∈ zwords) (w2 : Cond.instantiable C N ∈ zwords) (w3 : Cond.initialized C ∈ zwords) (hdg : decode cc pc = .ok (.new idx, 3)) (hR : nc + 1 ≤ R.cells ∧ ns + N ≤ R.slots)
    (kk : ∀ H1 : Heap, cWd D n0 cA (hl ++ [.inl (x, cnew x)]) H1 → va_S (fun q => n0 ≤ q) s.heap H1 locs → W p l e R s m args below meth c H1 locs (nc + 1) (ns + N) Q (F0 m (pc + 3) ls (.ref (n0 + hl.length) :: rest))) : W p l e R s m args below meth c H locs nc ns Q (F0 m pc ls rest) := by
  obtain ⟨hP, hsz⟩ := hWd
  have hKn := hK.1.1 x _ hc
  obtain ⟨ty0, hty⟩ := zcl_ty hc
  have hcn : cnew x = (List.range N).map (cdf x) := by unfold cnew; rw [hc]
  have hN : (cnew x).length = N := by rw [hcn]; simp
  refine W.newcK hx hb hown (hts _ w1) (hts _ w2) (hts _ w3) rfl hdg hR.1 hR.2 hKn.2.1 rfl fun H1 kC hkC e1 z1 o1 => ?_
  have hfs : ∀ j, j < N → defaultValue (ty0 j) = vp_V ((cnew x).map (cfv n0)) j := by
    intro j hj
    have e3 : ((cnew x).map (cfv n0))[j]? = some (cfv n0 (cdf x j)) := by
      rw [hcn, List.getElem?_map, List.getElem?_map, List.getElem?_range hj]; rfl
    have e4 : vp_V ((cnew x).map (cfv n0)) j = cfv n0 (cdf x j) := by
      first
        | exact vp_V_get e3
        | (unfold vp_V; rw [List.getD_eq_getElem?_getD, e3]; rfl)
    rw [e4]
    unfold cdf
    rcases cty hc hj (hty j hj) with ⟨g1, g2⟩ | ⟨g1, g2⟩ | ⟨g1, -, g2⟩
    · rw [g1, g2]; rfl
    · rw [g1, g2]; rfl
    · rw [g1, g2]; rfl
  have hat : va_at D vwCl (n0 + hl.length, ccell n0 cA (.inl (x, cnew x))) H1 := by rw [← hsz]; exact ⟨_, hc, (u_born ty0 hts (zcl_in hc) hKn hkC e1 hty).to hfs⟩
  have hW1 : cWd D n0 cA (hl ++ [.inl (x, cnew x)]) H1 := by
    refine ⟨?_, by rw [z1, hsz, List.length_append]; rfl⟩
    rw [clay_push]
    refine (hP.kept fun k q hk => o1 q.1 (hP k q hk).lt).app fun k q hk => ?_
    have hz : k < 1 := (List.getElem?_eq_some_iff.mp hk).1
    rw [show k = 0 by omega] at hk
    cases hk
    exact hat
  have := kk H1 hW1 ⟨Nat.le_trans hS.1 (by omega), fun q g1 g2 => (o1 q (Nat.lt_of_lt_of_le g1 hS.1)).trans (hS.2.1 q g1 g2), hS.2.2⟩
  rw [← hsz] at this
  exact this
theorem crunM {H : Heap} {locs : List Loc} {ls : Array Slot} {st0 rest : List Value} {pc cells slots mc ms : Nat} {adr : Nat → Nat} {M' : zM} {a : Array Value} (hr : va_Run p l e R s m args below meth c H locs cells slots mc ms (F0 m pc ls st0) rest (zQcM D cA n0 adr M' a) (fun q => n0 ≤ q)) (hS : va_S (fun q => n0 ≤ q) s.heap H locs)
    (kk : ∀ (H1 : Heap) (locs1 : List Loc), zWd D cA adr M' H1 → va_S (fun q => n0 ≤ q) s.heap H1 locs1 → W p l e R s m args below meth c H1 locs1 (cells + mc) (slots + ms) Q (F0 m (pc + 3) ls rest)) : W p l e R s m args below meth c H locs cells slots Q (F0 m pc ls st0) := by
  intro T hT X
  obtain ⟨v, st₀, t, T', L, h0, X', hL, e1, e2, ⟨hv, hwd, hz, hk⟩, st⟩ := hr T hT X
  cases hv
  rw [h0] at hz hk
  obtain ⟨t2, a1, b1⟩ := kk T'.heap (locs ++ L) (by rw [e1]; exact hwd)
    ⟨Nat.le_trans hS.1 (by rw [e1]; exact hz), fun q h1 h2 => by rw [e1, hk q (Nat.lt_of_lt_of_le h1 hS.1) h2]; exact hS.2.1 q h1 h2, fun q hq => by
      rcases List.mem_append.mp hq with h | h
      · exact hS.2.2 q h
      · exact hL q h⟩ T' rfl X'
  exact ⟨t2, st t2 a1, b1⟩
theorem cctorR {mi d mc ms idx pc cells slots a : Nat} {H : Heap} {locs : List Loc} {ls : Array Slot} {rest : List Value} {Pc : Array Value → State → Prop} {Qc : Array Value → State → Outcome → State → Prop} {free : Addr → Prop} (hm : cOK mi) (hi : cini mi = true) (hA : zmA mi = 0) (hx : p.tables.exec = Jvm.exec) (hb : c.code = cc) (hml : c.maxLocals = nL) (hown : s.vm.findClass own = some m.cls) (hts : ∀ w ∈ zwords, w.before args s = true) (hMT : Met l (zmN mi) (zws mi) (crm d mc ms) Pc Qc mc ms free) (hlk : Cond.methodLink own idx (zmN mi) ∈ zwords) (hpre : PreS s H Pc [.ref a]) (hls : ls.size = nL) (hrest : (rest.map fun v => v.category).sum ≤ 8) (hdg : decode cc pc = .ok (.invokespecial idx, 3)) (hR : d + 2 ≤ R.frames ∧ 60 * (d + 2) ≤ R.locals) (hf : cells + mc ≤ R.cells ∧ slots + ms ≤ R.slots) : va_Run p l e R s m args below meth c H locs cells slots mc ms (F0 m pc ls (.ref a :: rest)) rest (Qc (Value.ref a :: ([] : List Value)).toArray) free := by
  obtain ⟨ht1, ht2, ht3, ht4, ht5, ht6, ht7, ht8, ht9⟩ := hm
  exact va_runI (b := a) (As := []) (rest := rest) ⟨hx, hb, hml, hown, hts⟩ hMT ⟨callB_of (zmA mi) hts (zgood (zws_in ht2)) (by rw [← ht9]; rfl) rfl rfl (hts _ ht4) (hts _ hlk) ht5 ⟨by show d + 1 + 1 ≤ _; omega, by show 8 + (zmL mi + 11) + 60 * (d + 1) ≤ _; omega⟩, ht8 hi, hts _ ht3⟩ hpre rfl (by rw [hA]; rfl) hls rfl (by show 2 * 0 + _ ≤ 8; omega) hdg hf
end LAWS
theorem law_wd : (decide (zwat 1020 = some (.classLink R_law 7 "ThanksByPost")) && decide (zwat 5036 = some (.classLink R_law 10 "ThanksByPostModel")) && decide (zwat 1021 = some (.instantiable "ThanksByPost" 11)) && decide (zwat 5037 = some (.instantiable "ThanksByPostModel" 45)) && decide (zwat 1001 = some (.initialized "ThanksByPost")) && decide (zwat 1012 = some (.initialized "ThanksByPostModel")) && decide (zwat 1022 = some (.methodLink R_law 9 (zmN 237))) && decide (zwat 5038 = some (.methodLink R_law 12 (zmN 248)))) = true := by decide +kernel
theorem law_cl10 : ∃ T, vwCl[10]? = some ("ThanksByPost", T, 11) := ⟨_, rfl⟩
theorem law_cl11 : ∃ T, vwCl[11]? = some ("ThanksByPostModel", T, 45) := ⟨_, rfl⟩
theorem law_start {I : zM → Prop} (hI : lawOK I) {M2 : zM} (hM2 : f_X11_copies 1 zM1 = some M2) (hI2 : I M2) {p : Program} {e : Env} {s : State} {m : MethodId} {below : List Frame} {meth : Method} {c : Code} (l : Launch) {b L : Nat} {xs : Nat → Int32} (hL : L ≤ 3072) (C0 : lw_At p s m meth c b L xs) : W p l e room_1 s m #[Value.ref b] below meth c s.heap [] 0 0 (lw_Z below #[Value.ref b] s) (entryFrame m ([Value.ref b] : List Value).toArray 4) := by
  obtain ⟨hx, hb, hret, hml, hown, hts0, hX, hbl, hlocks, hgv⟩ := C0
  have hts : ∀ w ∈ zwords, w.before #[Value.ref b] s = true := fun w hw => hts0 w (List.mem_filter.mp hw).1
  obtain ⟨D, cA, hK⟩ := lw_K hts0
  generalize hn0 : s.heap.size = n0
  obtain ⟨adK, adV, hZX⟩ := nw_X hts0 hgv n0 b (A := fun q => n0 ≤ q) (fun a ha hq => by have hq : n0 ≤ a := hq; omega)
  have hw := law_wd
  simp only [Bool.and_eq_true, decide_eq_true_eq] at hw
  obtain ⟨⟨⟨⟨⟨⟨⟨w0, w1⟩, w2⟩, w3⟩, w4⟩, w5⟩, w6⟩, w7⟩ := hw
  obtain ⟨T10, hc10⟩ := law_cl10
  obtain ⟨T11, hc11⟩ := law_cl11
  have hWd0 : cWd D n0 cA [] s.heap := ⟨(fun k q hk => by cases hk), (by rw [hn0]; rfl)⟩
  have hS0 : va_S (fun q => n0 ≤ q) s.heap s.heap [] := va_S.rf
  rw [lg_entry_eq]
  have hl0 := lv_entry [Value.ref b] (n := 4) (by show 1 ≤ 4; omega)
  refine cnewR hx hb hown hts hK hWd0 hS0 hc10 (zwat_in w0 rfl) (zwat_in w2 rfl) (zwat_in w4 rfl) (l_dg (pc := 0) rfl) ⟨by show 0 + 1 ≤ 600000; omega, by show 0 + 11 ≤ 7302250; omega⟩ fun H1 hWd1 hS1 => ?_
  refine lv_dup hx hb (l_dg (pc := 3) rfl) rfl ?_
  have hMT := metT l D cA n0
  have hcell0 : cWd D n0 cA [.inl (10, cnew 10)] H1 := hWd1
  have hpcT : ∀ U : State, U.heap = H1 → s.WarmedH U.vm → cPc D cA n0 [zr 0 0] [.inl (10, cnew 10)] (Value.ref n0 :: ([] : List Value)).toArray U := by
    have h9 := cPc_ok (s := s) (as := [zr 0 0]) hcell0 hK
    have e9 : ([zr 0 0] : List zV).map (zc (cad n0)) = [Value.ref n0] := by rw [List.map_cons, crf]; rfl
    rw [e9] at h9
    exact h9
  refine crun (cctorR (a := n0) (rest := [.ref n0]) (ls := _) cok_237 rfl rfl hx hb hml hown hts hMT (zwat_in w6 rfl) ⟨cblind, hpcT⟩ hl0.1 (by show 1 ≤ 8; omega) (l_dg (pc := 4) rfl) ⟨by show 8 ≤ 2048; omega, by show 60 * 8 ≤ 84000; omega⟩ ⟨by show 174 ≤ 600000; omega, by show 9592 ≤ 7302250; omega⟩) hS1 ?_
  intro H2 locs2 hWd2 hS2
  refine lv_astore_n hx hb (l_dg (pc := 7) rfl) rfl hl0 (by show 1 < 4; omega) rfl (fun ls1 hl1 => ?_)
  refine cnewR hx hb hown hts hK hWd2 hS2 hc11 (zwat_in w1 rfl) (zwat_in w3 rfl) (zwat_in w5 rfl) (l_dg (pc := 8) rfl) ⟨by show 0 + 1 + 173 + 1 ≤ 600000; omega, by show 0 + 11 + 9581 + 45 ≤ 7302250; omega⟩ fun H3 hWd3 hS3 => ?_
  have hlT : chT.length = 174 := by decide +kernel
  rw [hlT]
  refine lv_dup hx hb (l_dg (pc := 11) rfl) rfl ?_
  have hadr : ∀ q, q < zNP → nadr n0 b adK adV q = n0 + zpi.getD q 0 := fun q hq => nadr_w q hq
  have hMM := metM (D := D) (cA := cA) l hadr nadr_dj (met_X11_copies (d := 0) (Nat.le_refl _) hM2)
  have hpcM : ∀ U : State, U.heap = H3 → s.WarmedH U.vm → zPcM D cA n0 (nadr n0 b adK adV) (Value.ref (n0 + 174) :: ([] : List Value)).toArray U := by
    intro U hU hW
    refine ⟨rfl, by rw [hU]; exact hWd3, cK_warm hW hK, zX_kept hW hZX fun a ha hna => by rw [hU]; exact hS3.2.1 a ha hna⟩
  refine crunM (cctorR (a := n0 + 174) (rest := [.ref (n0 + 174)]) (ls := ls1) cok_248 rfl rfl hx hb hml hown hts hMM (zwat_in w7 rfl) ⟨fun a U g mk q => ⟨q.1, q.2.1, cK_same (u := U) (U := U.calling g mk a) rfl q.2.2.1, zX_same (u := U) (U := U.calling g mk a) rfl q.2.2.2⟩, hpcM⟩ hl1.1 (by show 1 ≤ 8; omega) (l_dg (pc := 12) rfl) ⟨by show 6 ≤ 2048; omega, by show 60 * 6 ≤ 84000; omega⟩ ⟨by show 203 ≤ 600000; omega, by show 25378 ≤ 7302250; omega⟩) hS3 ?_
  intro H4 locs4 hWd4 hS4
  refine lv_astore_n hx hb (l_dg (pc := 15) rfl) rfl hl1 (by show 2 < 4; omega) rfl (fun ls2 hl2 => ?_)
  refine lv_iconst hx hb (l_dg (pc := 16) rfl) rfl ?_
  refine lv_istore_n hx hb (l_dg (pc := 17) rfl) rfl hl2 (by show 3 < 4; omega) rfl (fun ls3 hl3 => ?_)
  have hAz : ∀ q, zA (nadr n0 b adK adV) q → n0 ≤ q := by
    intro q hq
    obtain ⟨j, hj, rfl⟩ := hq
    rw [hadr j hj]
    omega
  have Z : lCx p s m #[Value.ref b] c 203 25378 D cA (nadr n0 b adK adV) (fun q => n0 ≤ q) b L xs := ⟨⟨hx, hb, hml, hown, hts, ⟨hK.1, hK.2.1, hZX⟩, nadr_dj, hAz, by show 1 ≤ 2048; omega, by show 40 ≤ 84000; omega, by show 203 ≤ 600000; omega, by show 25378 ≤ 7302250; omega⟩, hX, hbl, by show ¬ n0 ≤ b; omega, nadr_b, hL⟩
  have hex := l_exit (l := l) (e := e) (below := below) (meth := meth) (Q := lw_Z below #[Value.ref b] s) rfl Z (fun q hq => by have hq : n0 ≤ q := hq; omega) (by omega) (by omega) (fun H ls => lw_ret hx hb hret hlocks (l_dg (pc := 1425) rfl))
  have hloop := l_loop Z hI hex 3100 0 M2 (by omega) (by omega) hI2
  refine hloop H4 locs4 ls3 hWd4 hS4 rfl (zlv_sub hl3 fun q hq => ?_) (fun v hv => ?_) (fun v hv => by cases hv)
  · have e0 : zll (nadr n0 b adK adV) (lI 0) = [(0, .ref b), (1, .ref n0), (2, .ref (n0 + 174)), (3, .int 0)] := by
      show [(0, Value.ref (nadr n0 b adK adV (zoff 90 + 25))), (1, Value.ref (nadr n0 b adK adV (zoff 0 + 0))), (2, Value.ref (nadr n0 b adK adV (zoff 42 + 0))), (3, Value.int (Int32.ofInt 0))] = _
      rw [show zoff 90 + 25 = zNP + 25 from by decide, nadr_b, nadr_w _ (show zoff 0 + 0 < zNP by decide), nadr_w _ (show zoff 42 + 0 < zNP by decide)]
      rfl
    have hq : q ∈ zll (nadr n0 b adK adV) (lI 0) := hq
    rw [e0] at hq
    simp only [List.mem_cons, List.not_mem_nil, or_false] at hq
    rcases hq with rfl | rfl | rfl | rfl
    · simp [lv_args, Value.category] <;> decide
    · simp [lv_args, Value.category] <;> decide
    · simp [lv_args, Value.category] <;> decide
    · simp [lv_args, Value.category] <;> decide
  · simp only [List.mem_cons, List.not_mem_nil, or_false, Option.some.injEq] at hv
    rcases hv with rfl | rfl | rfl | rfl
    · exact Or.inr ⟨rfl, by omega⟩
    · exact Or.inl (by decide)
    · exact Or.inl (by decide)
    · trivial
