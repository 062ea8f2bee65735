/-! String constants, on: the JDK's own methods over them -/
theorem zand_255 {a : Int} (h : 0 ≤ a ∧ a < 256) : zand a 255 = a := by
  unfold zand
  have h1 := z_mask a 8 (m := 255) (by decide) rfl
  rw [show Int32.ofInt 255 = (255 : Int32) from rfl, h1, ← zw_eq]
  rw [show a % 2 ^ 8 = a from by omega]
  exact zw_id (by omega) (by omega)
theorem met_J3 {l : Launch} {D : va_G} {cA : Nat → ClassId} {adr : Nat → Nat} (hDj : zDj adr) {i n : Int} {v : Value} (hv1 : v.category = 1) {M : zM} (h : 0 ≤ zw i ∧ zw i < zw n) (d : Nat) : Met l (zmN 236) (zws 236) (zrm d) (va_Pc [.int (Int32.ofInt i), .int (Int32.ofInt n), v] (fun U => zWd D cA adr M U.heap ∧ zK D cA adr (zA adr) U U.heap)) (zQc D cA adr (some (zi i)) M) 0 0 (zA adr) := by
  have hm := zmok_236
  have hg : zG 236 d (0, [some (zi i), some (zi n), none], [], M) (some (zi i)) M := by
    refine zG_run hm 1 (cf' := (1, [some (zi i), some (zi n), none], [zi i], M)) rfl ?_
    refine zG_br hm rfl (cf' := (4, [some (zi i), some (zi n), none], [], M)) (if_neg (by omega : ¬ zw i < 0)) ?_
    refine zG_run hm 2 (cf' := (6, [some (zi i), some (zi n), none], [zi n, zi i], M)) rfl ?_
    refine zG_br hm rfl (cf' := (16, [some (zi i), some (zi n), none], [], M)) (if_pos h.2) ?_
    refine zG_run hm 1 (cf' := (17, [some (zi i), some (zi n), none], [zi i], M)) rfl ?_
    exact zG_ri hm rfl rfl
  refine Met.ofW (cc := zmB 236) (maxL := zmL 236) (ret := zmR 236) (ws' := zwords) hm.2.2.2.2.2.2.1 rfl ?_
  intro p e s m args below meth c s₁ B hml hv
  obtain ⟨rfl, hP, hK⟩ := hv
  have hts := atoms_spec (ws := zws 236) B.pre
  rw [lg_entry_eq]
  have hl := lv_entry [.int (Int32.ofInt i), .int (Int32.ofInt n), v] (n := zmL 236) (by rw [show lg_sl [Value.int (Int32.ofInt i), Value.int (Int32.ofInt n), v] = [Slot.val (.int (Int32.ofInt i)), Slot.val (.int (Int32.ofInt n))] ++ lg_sl [v] from rfl]; simp only [lg_sl, List.flatMap_cons, List.flatMap_nil, hv1, if_neg (show ¬ (1 : Nat) = 2 by decide), List.length_append, List.length_cons, List.length_nil]; decide)
  refine hg p l e s m _ below meth c D cA adr ⟨B.exec, B.bytes, hml, findClass_of_methodNamed B.named, fun w hw => hts w (List.mem_cons_of_mem _ hw), hK, hDj, fun _ q => q, by show 1 ≤ d + 1; omega, by show 40 ≤ 60 * (d + 1); omega, Nat.le_refl _, Nat.le_refl _⟩ B.returns B.notSynchronized s.heap [] _ hP va_S.rf rfl (zlv_sub hl fun q hq => ?_) (fun v hv => ?_) (fun v hv => by cases hv)
  · obtain ⟨j, w, hj, rfl⟩ := zll_mem.mp hq
    match j, hj with
    | 0, hj => cases hj; exact List.mem_cons_self
    | 1, hj => cases hj; exact List.mem_cons_of_mem _ List.mem_cons_self
    | 2, hj => cases hj
    | j + 3, hj => cases hj
  · simp only [List.mem_cons, List.not_mem_nil, or_false] at hv
    rcases hv with hv | hv | hv
    · cases hv; trivial
    · cases hv; trivial
    · cases hv
theorem zG_ck {d : Nat} {r : Option zV} {M M' : zM} {lv : zL} {i n : Int} (h : 0 ≤ zw i ∧ zw i < zw n) (hd : 1 ≤ d) (k : zG 235 d (8, lv, [zi i], M) r M') : zG 235 d (2, lv, [zi n, zi i], M) r M' := by
  have hm := zmok_235
  intro p l e s m args below meth c D cA adr C hr hk H locs ls hP hS hlen hl hzl hzs
  have K := k p l e s m args below meth c D cA adr C hr hk
  obtain ⟨hx, hb, hml, hown, hts, hK, hDj, hAz, hR⟩ := C
  have hn := zslinks
  simp only [Bool.and_eq_true, decide_eq_true_eq] at hn
  obtain ⟨-, hcode, -, hI, hini, hdd, hpl, hmL⟩ := zmok_236
  have hlk : Cond.methodLink (zmN 235).cls 1059 (zmN 236) ∈ zwords := zwat_in (of_decide_eq_true (show decide (zwat 3175 = some (.methodLink (zmN 235).cls 1059 (zmN 236))) = true from (hm.1 5 _ rfl).2)) rfl
  have hd5 : decode (zmB 235) 5 = .ok (.invokestatic 1059, 3) := zdg hm (E := (.invokestatic 1059, 3, 236, 0, 3175, 0)) rfl
  have hd2 : decode (zmB 235) 2 = .ok (.getstatic 1053, 3) := zdg (pc := 2) hm (E := (.getstatic 1053, 3, 0, 0, 0, 0)) rfl
  have main : ∀ v : Value, v.category = 1 → W p l e (zrm d) s m args below meth c H locs 0 0 (MQ below (zQc D cA adr r M') args s 0 0 (zA adr)) (F0 m 5 ls (v :: .int (Int32.ofInt n) :: .int (Int32.ofInt i) :: [])) := by
    intro v hv1
    exact zrun (a := [.int (Int32.ofInt i), .int (Int32.ofInt n), v].toArray) (va_runS (As := [.int (Int32.ofInt i), .int (Int32.ofInt n), v]) (rest := []) ⟨hx, hb, hml, hown, hts⟩ (met_J3 hDj hv1 h 0) ⟨callB_of (zmA 236) hts (zgood (zws_in hcode)) rfl rfl rfl (hts _ hini) (hts _ hlk) hdd ⟨by show 0 + 1 + 1 ≤ d + 1; omega, by show 8 + (3 + 11) + 60 * (0 + 1) ≤ 60 * (d + 1); omega⟩, hts _ (hI rfl)⟩ ⟨fun a U g mk q => ⟨q.1, q.2.1, zK_same (u := U) (U := U.calling g mk a) rfl q.2.2⟩, fun U hU hW => ⟨rfl, by rw [hU]; exact hP, by rw [hU]; exact zK_warm hW hK hS.2.1 hAz⟩⟩ rfl rfl hl.1 rfl (lv_room (Nat.zero_le _)) hd5 ⟨Nat.le_refl _, Nat.le_refl _⟩) hS hAz (fun H1 locs1 hP1 hS1 => K H1 locs1 ls hP1 hS1 hlen hl hzl (zsc trivial (fun v hv => by cases hv)))
  rcases hK.2.2.2.2.2 with hz | ⟨t, hz⟩
  · exact va_gets hx hb hz hS hown (hts _ (zwat_in hn.2 rfl)) (fun _ h => h) hd2 (main .null rfl)
  · exact va_gets hx hb hz hS hown (hts _ (zwat_in hn.2 rfl)) (fun _ h => h) hd2 (main (.ref t) rfl)
theorem met_J0_checkIndex {i n : Int} {M : zM} {d : Nat} (hd : 1 ≤ d) (h : 0 ≤ zw i ∧ zw i < zw n) : zMet 235 d [zi i, zi n] M none M := by
  have hm := zmok_235
  refine zMet_of (lv0 := [some (zi i), some (zi n)]) hm rfl rfl (fun v hv => by cases hv) ?_
  refine zG_run hm 2 (cf' := (2, [some (zi i), some (zi n)], [zi n, zi i], M)) rfl ?_
  refine zG_ck h hd ?_
  refine zG_run hm 1 (cf' := (9, [some (zi i), some (zi n)], [], M)) rfl ?_
  exact zG_rv hm rfl rfl
theorem met_J0_coder {w : Nat} {M : zM} {d : Nat} (hw : w < 25) : zMet 231 d [zr 90 w] M (some (zi 0)) M := by
  have hm := zmok_231
  refine zMet_of (lv0 := [some (zr 90 w)]) hm rfl rfl (fun v hv => by cases hv; trivial) ?_
  refine zG_gst hm rfl rfl ?_
  refine zG_run hm 2 (cf' := (7, [some (zr 90 w)], [zr 90 w], M)) rfl ?_
  refine zG_gcod hm rfl hw rfl ?_
  refine zG_run hm 1 (cf' := (14, [some (zr 90 w)], [zi 0], M)) rfl ?_
  exact zG_rn (ty := .byte) hm rfl rfl rfl
theorem met_J0_isLatin1 {w : Nat} {M : zM} {d : Nat} (hw : w < 25) : zMet 232 d [zr 90 w] M (some (zi 1)) M := by
  have hm := zmok_232
  refine zMet_of (lv0 := [some (zr 90 w)]) hm rfl rfl (fun v hv => by cases hv; trivial) ?_
  refine zG_gst hm rfl rfl ?_
  refine zG_run hm 2 (cf' := (7, [some (zr 90 w)], [zr 90 w], M)) rfl ?_
  refine zG_gcod hm rfl hw rfl ?_
  refine zG_run hm 3 (cf' := (18, [some (zr 90 w)], [zi 1], M)) rfl ?_
  exact zG_rz hm rfl rfl (Or.inr rfl)
def f_J0_length_8abf5 (w : Nat) (M : zM) : Option (Int × zM) := if w < 25 then some ((zslen.getD w 0 : Int), M) else none
theorem lt_J0_length_8abf5 {w : Nat} {M : zM} {q : Int × zM} (h : f_J0_length_8abf5 w M = some q) : w < 25 := (zite h rfl).1
theorem met_J0_length_8abf5 {w : Nat} {M : zM} {q : Int × zM} {d : Nat} (hd : 1 ≤ d) (h : f_J0_length_8abf5 w M = some q) : zMet 230 d [zr 90 w] M (some (zi q.1)) q.2 := by
  obtain ⟨hw, h⟩ := zite h rfl
  cases h
  have hm := zmok_230
  refine zMet_of (lv0 := [some (zr 90 w)]) hm rfl rfl (fun v hv => by cases hv; trivial) ?_
  refine zG_run hm 1 (cf' := (1, [some (zr 90 w)], [zr 90 w], M)) rfl ?_
  refine zG_gval hm rfl hw rfl ?_
  refine zG_slen hm hw rfl ?_
  refine zG_run hm 1 (cf' := (6, [some (zr 90 w)], [zr 90 w, zi (zslen.getD w 0 : Int)], M)) rfl ?_
  refine zG_Str hm zmok_231 rfl hw rfl (as := []) (rest := [zi (zslen.getD w 0 : Int)]) (st2 := [zi 0, zi (zslen.getD w 0 : Int)]) (pc2 := 9) rfl rfl hd (met_J0_coder (d := 0) hw) rfl ?_
  refine zG_run hm 1 (cf' := (10, [some (zr 90 w)], [zi (zshr (zslen.getD w 0 : Int) 0)], M)) rfl ?_
  have e : zshr (zslen.getD w 0 : Int) 0 = (zslen.getD w 0 : Int) := by
    obtain ⟨h1, h2, -⟩ := zsq hw
    unfold zshr
    rw [Int32.ofInt_eq_ofNat]
    show (Int32.ofNat (zslen.getD w 0) >>> ((0 : Int32) &&& 31)).toInt = _
    rw [show ((0 : Int32) &&& 31) = 0 from rfl]
    have := pk_shrN (n := zslen.getD w 0) (by omega) 0 0 rfl
    rw [Nat.pow_zero, Nat.div_one] at this
    rw [show Int32.ofNat (zslen.getD w 0) >>> (0 : Int32) = nI (zslen.getD w 0) from this]
    exact nI_toInt (by omega)
  rw [e]
  exact zG_ri hm rfl rfl
def f_J0_charAt_5068e (w : Nat) (j : Int) (M : zM) : Option (Int × zM) := if w < 25 ∧ (0 ≤ zw j ∧ zw j < zslen.getD w 0) then some (((zsbyt.getD w []).getD (zix j) 0).toInt, M) else none
theorem lt_J0_charAt_5068e {w : Nat} {j : Int} {M : zM} {q : Int × zM} (h : f_J0_charAt_5068e w j M = some q) : w < 25 := (zite h rfl).1.1
theorem zsbyt_in {w : Nat} {j : Int} (hw : w < 25) (hj : 0 ≤ zw j ∧ zw j < zslen.getD w 0) : 0 ≤ ((zsbyt.getD w []).getD (zix j) 0).toInt ∧ ((zsbyt.getD w []).getD (zix j) 0).toInt < 128 := by
  obtain ⟨h1, h2, h3⟩ := zsq hw
  have hlt : zix j < (zsbyt.getD w []).length := by rw [← h1]; exact zix_lt hj
  rw [List.getD_eq_getElem?_getD, List.getElem?_eq_getElem hlt]
  exact h3 _ (List.getElem_mem hlt)
theorem met_J1_charAt {w : Nat} {j : Int} {M : zM} {d : Nat} (hd : 2 ≤ d) (hw : w < 25) (hj : 0 ≤ zw j ∧ zw j < zslen.getD w 0) : zMet 234 d [zr 90 (50 + w), zi j] M (some (zi ((zsbyt.getD w []).getD (zix j) 0).toInt)) M := by
  have hm := zmok_234
  refine zMet_of (lv0 := [some (zr 90 (50 + w)), some (zi j)]) hm rfl rfl (fun v hv => by cases hv; trivial) ?_
  have hb := zsbyt_in hw hj
  obtain ⟨h1, h2, -⟩ := zsq hw
  have hl : zw ((zslen.getD w 0 : Nat) : Int) = (zslen.getD w 0 : Int) := zw_id (by omega) (by omega)
  refine zG_run hm 2 (cf' := (2, [some (zr 90 (50 + w)), some (zi j)], [zr 90 (50 + w), zi j], M)) rfl ?_
  refine zG_slen hm hw rfl ?_
  refine zG_S hm zmok_235 rfl (as := [zi j, zi (zslen.getD w 0 : Int)]) (rest := []) (st2 := []) (pc2 := 6) rfl rfl hd (met_J0_checkIndex (d := 1) (Nat.le_refl _) (by rw [hl]; exact hj)) rfl ?_
  refine zG_run hm 2 (cf' := (8, [some (zr 90 (50 + w)), some (zi j)], [zi j, zr 90 (50 + w)], M)) rfl ?_
  refine zG_sb hm hw hj rfl ?_
  refine zG_run hm 2 (cf' := (13, [some (zr 90 (50 + w)), some (zi j)], [zi (zand ((zsbyt.getD w []).getD (zix j) 0).toInt 255)], M)) rfl ?_
  rw [zand_255 (by omega)]
  refine zG_i2c hm (by omega) rfl ?_
  refine zG_rn (ty := .char) hm rfl rfl ?_
  obtain ⟨n, hn⟩ := Int.eq_ofNat_of_zero_le hb.1
  rw [hn, Int32.ofInt_eq_ofNat]
  exact (pk_charN (q := n) (by omega)).1
theorem met_J0_charAt_5068e {w : Nat} {j : Int} {M : zM} {q : Int × zM} {d : Nat} (hd : 3 ≤ d) (h : f_J0_charAt_5068e w j M = some q) : zMet 233 d [zr 90 w, zi j] M (some (zi q.1)) q.2 := by
  obtain ⟨⟨hw, hj⟩, h⟩ := zite h rfl
  cases h
  have hm := zmok_233
  refine zMet_of (lv0 := [some (zr 90 w), some (zi j)]) hm rfl rfl (fun v hv => by cases hv; trivial) ?_
  refine zG_run hm 1 (cf' := (1, [some (zr 90 w), some (zi j)], [zr 90 w], M)) rfl ?_
  refine zG_Str hm zmok_232 rfl hw rfl (as := []) (rest := []) (st2 := [zi 1]) (pc2 := 4) rfl rfl (by omega) (met_J0_isLatin1 (d := 0) hw) rfl ?_
  refine zG_run hm 2 (cf' := (8, [some (zr 90 w), some (zi j)], [zr 90 w], M)) rfl ?_
  refine zG_gval hm rfl hw rfl ?_
  refine zG_run hm 1 (cf' := (12, [some (zr 90 w), some (zi j)], [zi j, zr 90 (50 + w)], M)) rfl ?_
  refine zG_S hm zmok_234 rfl (as := [zr 90 (50 + w), zi j]) (rest := []) (st2 := [zi ((zsbyt.getD w []).getD (zix j) 0).toInt]) (pc2 := 15) rfl rfl hd (met_J1_charAt (d := 2) (Nat.le_refl _) hw hj) rfl ?_
  refine zG_rn (ty := .char) hm rfl rfl ?_
  have hb := zsbyt_in hw hj
  obtain ⟨n, hn⟩ := Int.eq_ofNat_of_zero_le hb.1
  rw [hn, Int32.ofInt_eq_ofNat]
  exact (pk_charN (q := n) (by omega)).1
