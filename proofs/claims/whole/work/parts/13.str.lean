/-! String constants: length, charAt -/
theorem zsq_all : (List.range 25).all (fun i => decide (zslen.getD i 0 = (zsbyt.getD i []).length) && decide ((zsbyt.getD i []).length < 100) && (zsbyt.getD i []).all (fun b => decide (0 ≤ b.toInt ∧ b.toInt < 128))) = true := by decide +kernel
theorem zsq {i : Nat} (h : i < 25) : zslen.getD i 0 = (zsbyt.getD i []).length ∧ (zsbyt.getD i []).length < 100 ∧ ∀ b ∈ zsbyt.getD i [], 0 ≤ b.toInt ∧ b.toInt < 128 := by
  have h1 := List.all_eq_true.mp zsq_all i (List.mem_range.mpr h)
  simp only [Bool.and_eq_true, decide_eq_true_eq] at h1
  exact ⟨h1.1.1, h1.1.2, fun b hb => of_decide_eq_true (List.all_eq_true.mp h1.2 b hb)⟩
theorem zslinks : (decide (zwat 3157 = some (.fieldLink "java/lang/String" 38 "java/lang/String" "COMPACT_STRINGS" "Z")) && decide (zwat 7174 = some (.fieldLink "java/lang/String" 9 "java/lang/String" "value" "[B")) && decide (zwat 7175 = some (.fieldLink "java/lang/String" 15 "java/lang/String" "coder" "B")) && decide (zwat 3173 = some (.fieldLink "java/lang/String" 1053 "jdk/internal/util/Preconditions" "SIOOBE_FORMATTER" "Ljava/util/function/BiFunction;"))) = true := by decide +kernel
section ZST2
variable {mi d : Nat} {r : Option zV} {M M' : zM} {pc : Nat} {lv : zL} {st : List zV}
theorem zG_gst (hm : zmOK mi) (ho : (zmN mi).cls = "java/lang/String") {ln x y w : Nat} {z : Int} (hE : zpt mi pc = some (.getstatic 38, ln, x, y, w, z)) (k : zG mi d (pc + 3, lv, zi 1 :: st, M) r M') : zG mi d (pc, lv, st, M) r M' := by
  intro p l e s m args below meth c D cA adr C h1 h2 H locs ls hP hS hlen hl hzl hzs
  have K := k p l e s m args below meth c D cA adr C h1 h2 H locs ls hP hS hlen hl hzl (zsc trivial hzs)
  obtain ⟨hx, hb, hml, hown, hts, hK, hDj, hAz, hR⟩ := C
  have hn := zslinks
  simp only [Bool.and_eq_true, decide_eq_true_eq] at hn
  rw [ho] at hown
  exact va_gets hx hb hK.2.2.2.2.1 hS hown (hts _ (zwat_in hn.1.1.1 rfl)) (fun _ h => h) (zdg hm hE) K
theorem zG_gval (hm : zmOK mi) (ho : (zmN mi).cls = "java/lang/String") {ln x y w i : Nat} {z : Int} (hi : i < 25) (hE : zpt mi pc = some (.getfield 9, ln, x, y, w, z)) (k : zG mi d (pc + 3, lv, zr 90 (50 + i) :: st, M) r M') : zG mi d (pc, lv, zr 90 i :: st, M) r M' := by
  intro p l e s m args below meth c D cA adr C h1 h2 H locs ls hP hS hlen hl hzl hzs
  have K := k p l e s m args below meth c D cA adr C h1 h2 H locs ls hP hS hlen hl hzl (zsc (Or.inr ⟨rfl, by omega⟩) (zs1 hzs))
  obtain ⟨hx, hb, hml, hown, hts, hK, hDj, hAz, hR⟩ := C
  have hn := zslinks
  simp only [Bool.and_eq_true, decide_eq_true_eq] at hn
  rw [ho] at hown
  exact vk_getf hx hb (hK.2.2.1.1 i hi).2.2.1 hS hown (hts _ (zwat_in hn.1.1.2 rfl)) (fun _ h => h) (zdg hm hE) K
theorem zG_gcod (hm : zmOK mi) (ho : (zmN mi).cls = "java/lang/String") {ln x y w i : Nat} {z : Int} (hi : i < 25) (hE : zpt mi pc = some (.getfield 15, ln, x, y, w, z)) (k : zG mi d (pc + 3, lv, zi 0 :: st, M) r M') : zG mi d (pc, lv, zr 90 i :: st, M) r M' := by
  intro p l e s m args below meth c D cA adr C h1 h2 H locs ls hP hS hlen hl hzl hzs
  have K := k p l e s m args below meth c D cA adr C h1 h2 H locs ls hP hS hlen hl hzl (zsc trivial (zs1 hzs))
  obtain ⟨hx, hb, hml, hown, hts, hK, hDj, hAz, hR⟩ := C
  have hn := zslinks
  simp only [Bool.and_eq_true, decide_eq_true_eq] at hn
  rw [ho] at hown
  exact vk_getf hx hb (hK.2.2.1.1 i hi).2.1 hS hown (hts _ (zwat_in hn.1.2 rfl)) (fun _ h => h) (zdg hm hE) K
theorem zG_slen (hm : zmOK mi) {ln x y w i : Nat} {z : Int} (hi : i < 25) (hE : zpt mi pc = some (.arraylength, ln, x, y, w, z)) (k : zG mi d (pc + 1, lv, zi (zslen.getD i 0 : Int) :: st, M) r M') : zG mi d (pc, lv, zr 90 (50 + i) :: st, M) r M' := by
  intro p l e s m args below meth c D cA adr C h1 h2 H locs ls hP hS hlen hl hzl hzs
  have K := k p l e s m args below meth c D cA adr C h1 h2 H locs ls hP hS hlen hl hzl (zsc trivial (zs1 hzs))
  obtain ⟨hx, hb, hml, hown, hts, hK, hDj, hAz, hR⟩ := C
  exact va_tlen hx hb (hK.2.2.1.1 i hi).2.2.2 hS Int32.ofInt_eq_ofNat.symm (zdg hm hE) K
theorem zG_sb (hm : zmOK mi) {ln x y w i : Nat} {z j : Int} (hi : i < 25) (hj : 0 ≤ zw j ∧ zw j < zslen.getD i 0) (hE : zpt mi pc = some (.baload, ln, x, y, w, z)) (k : zG mi d (pc + 1, lv, zi ((zsbyt.getD i []).getD (zix j) 0).toInt :: st, M) r M') : zG mi d (pc, lv, zi j :: zr 90 (50 + i) :: st, M) r M' := by
  intro p l e s m args below meth c D cA adr C h1 h2 H locs ls hP hS hlen hl hzl hzs
  have K := k p l e s m args below meth c D cA adr C h1 h2 H locs ls hP hS hlen hl hzl (zsc trivial (zs1 (zs1 hzs)))
  obtain ⟨hx, hb, hml, hown, hts, hK, hDj, hAz, hR⟩ := C
  refine va_tb (v := .int (Int32.ofInt ((zsbyt.getD i []).getD (zix j) 0).toInt)) hx hb (hK.2.2.1.1 i hi).2.2.2 hS (z_in hj) ?_ (zdg hm hE) K
  rw [z_ix, Int32.ofInt_toInt]
theorem zG_i2c (hm : zmOK mi) {ln x y w : Nat} {z a : Int} (ha : 0 ≤ a ∧ a < 65536) (hE : zpt mi pc = some (.i2c, ln, x, y, w, z)) (k : zG mi d (pc + 1, lv, zi a :: st, M) r M') : zG mi d (pc, lv, zi a :: st, M) r M' := by
  intro p l e s m args below meth c D cA adr C h1 h2 H locs ls hP hS hlen hl hzl hzs
  have K := k p l e s m args below meth c D cA adr C h1 h2 H locs ls hP hS hlen hl hzl (zsc trivial (zs1 hzs))
  obtain ⟨hx, hb, hml, hown, hts, hK, hDj, hAz, hR⟩ := C
  refine lv_i2c (v := Int32.ofInt a) hx hb (zdg hm hE) ?_ K
  obtain ⟨n, rfl⟩ := Int.eq_ofNat_of_zero_le ha.1
  have hn : n < 65536 := by omega
  rw [Int32.ofInt_eq_ofNat]
  have h1 := pk_nc (Int32.ofNat n)
  have h2 := pk_charN hn
  rw [pk_char]
  show nI _ = nI n
  rw [show (Int32.ofNat n).toBitVec.toNat = n from pk_tn (by omega), Nat.mod_eq_of_lt hn]
/-- a byte or a char comes back -/
theorem zG_rn (hm : zmOK mi) {ln x y w : Nat} {z a : Int} {ty : FieldType} (hE : zpt mi pc = some (.ireturn, ln, x, y, w, z)) (hr : zmR mi = some ty) (hn : narrow ty (.int (Int32.ofInt a)) = .int (Int32.ofInt a)) : zG mi d (pc, lv, [zi a], M) (some (zi a)) M := by
  intro p l e s m args below meth c D cA adr C h1 h2 H locs ls hP hS hlen hl hzl hzs
  obtain ⟨hx, hb, hml, hown, hts, hK, hDj, hAz, hR⟩ := C
  exact W.zret (v := Int32.ofInt a) hx hb (h1.trans hr) hn (fun t ht hW => ⟨rfl, by rw [ht]; exact hP, hS.F ht⟩) hS.2.2 (zdg hm hE) h2
/-- calls of String's own methods -/
theorem zG_Str (hm : zmOK mi) {mi2 d2 idx ln w i pc2 : Nat} {z : Int} {as rest st2 : List zV} {r1 : Option zV} {M1 : zM} (hm2 : zmOK mi2) (hcl : (zmN mi2).cls = "java/lang/String") (hi : i < 25) (hE : zpt mi pc = some (.invokevirtual idx, ln, mi2, 2, w, z)) (hst : st = as.reverse ++ zr 90 i :: rest) (hc : (!(zmS mi2) && Nat.beq as.length (zmA mi2) && Nat.ble (rest.map zcat).sum 8) = true) (hd : d2 + 1 ≤ d)
    (hM : zMet mi2 d2 (zr 90 i :: as) M r1 M1) (h2 : (pc + 3, r1.toList ++ rest) = (pc2, st2)) (k2 : zG mi d (pc2, lv, st2, M1) r M') : zG mi d (pc, lv, st, M) r M' := by
  simp only [Bool.and_eq_true, Bool.not_eq_true'] at hc
  obtain ⟨⟨hs, hna⟩, hcat⟩ := hc
  have hcat := zNat_ble hcat
  have hna := Nat.eq_of_beq_eq_true hna
  cases h2
  subst hst
  intro p l e s m args below meth c D cA adr C hr hk H locs ls hP hS hlen hl hzl hzs
  have h := k2 p l e s m args below meth c D cA adr C hr hk
  obtain ⟨hx, hb, hml, hown, hts, hK, hDj, hAz, hR⟩ := C
  obtain ⟨-, hcode, hI, -, hini, hdd, hpl, hmL⟩ := hm2
  obtain ⟨hI1, hI2, -⟩ := hI hs
  have hdg := zdg hm hE
  have hlk : decide (zwat w = some (.methodLink (zmN mi).cls idx (zmN mi2))) = true := (hm.1 pc _ hE).2
  have hl1 := hts _ (zwat_in (of_decide_eq_true hlk) rfl)
  dsimp only at hP hlen hl hzl hzs ⊢
  have hok : ∀ v ∈ zr 90 i :: as, zok v := fun v hv => hzs v (by
    rcases List.mem_cons.mp hv with q | q
    · exact List.mem_append_right _ (by rw [q]; exact List.mem_cons_self)
    · exact List.mem_append_left _ (List.mem_reverse.mpr q))
  have hor : ∀ v ∈ r1.toList ++ rest, zok v := fun v hv => by
    rcases List.mem_append.mp hv with q | q
    · exact hM.1 v (Option.mem_toList.mp q)
    · exact hzs v (List.mem_append_right _ (List.mem_cons_of_mem _ q))
  have hrv := vk_recv hK.2.2.1 hi hS
  rw [← hcl] at hrv
  have hMM := hM.2 l D cA adr hDj hok
  have hkk : ∀ (H1 : Heap) (locs1 : List Loc), zWd D cA adr M1 H1 → va_S (zA adr) s.heap H1 locs1 → W p l e (zrm d) s m args below meth c H1 locs1 0 0 (MQ below (zQc D cA adr r M') args s 0 0 (zA adr)) (F0 m (pc + 3) ls ((r1.map (zc adr)).toList ++ rest.map (zc adr))) := by
    intro H1 locs1 hP1 hS1
    have hz := h H1 locs1 ls hP1 hS1 hlen hl hzl hor
    have e1 : (r1.toList ++ rest).map (zc adr) = (r1.map (zc adr)).toList ++ rest.map (zc adr) := by
      rw [List.map_append]; cases r1 <;> rfl
    dsimp only at hz
    rw [e1] at hz
    exact hz
  have hst : (as.reverse ++ zr 90 i :: rest).map (zc adr) = (as.map (zc adr)).reverse ++ .ref (adr (zNP + i)) :: rest.map (zc adr) := by
    rw [List.map_append, List.map_reverse]; rfl
  rw [hst]
  have hro : (zrm d2).frames + 1 ≤ (zrm d).frames ∧ 8 + (zmL mi2 + 11) + (zrm d2).locals ≤ (zrm d).locals := ⟨by show d2 + 1 + 1 ≤ d + 1; omega, by show 8 + (zmL mi2 + 11) + 60 * (d2 + 1) ≤ 60 * (d + 1); omega⟩
  exact zrun (a := (Value.ref (adr (zNP + i)) :: as.map (zc adr)).toArray) (va_runV (As := as.map (zc adr)) (rest := rest.map (zc adr)) ⟨hx, hb, hml, hown, hts⟩ hMM ⟨callB_of (zmA mi2) hts (zgood (zws_in hcode)) rfl rfl rfl (hts _ hini) hl1 hdd hro, hts _ hI1, hts _ hI2⟩ ⟨zblind, hrv, zPc_ok hP hK hS hAz⟩ rfl (by rw [List.length_map]; exact hna) hl.1 rfl (lv_room (by rw [zcats_eq]; exact hcat)) hdg ⟨Nat.le_refl _, Nat.le_refl _⟩) hS hAz hkk
end ZST2
