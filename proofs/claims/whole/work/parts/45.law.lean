section LAWL
variable {p : Program} {l : Launch} {e : Env} {s : State} {m : MethodId} {args : Array Value} {below : List Frame} {meth : Method} {c : Code} {cells slots : Nat} {Q : State → Prop} {D : va_G} {cA : Nat → ClassId} {adr : Nat → Nat} {A : Nat → Prop} {b L : Nat} {xs : Nat → Int32}
/-- what is left: from what holds of the memory, each call of the class and of the reference ends, with one answer, and it holds again -/
def lawOK (I : zM → Prop) : Prop := ∀ (k : Nat), k < 39 → ∀ a : Nat → Int, (∀ j, -2147483648 ≤ a j ∧ a j ≤ 2147483647) → ∀ M : zM, I M → ∃ q q' : Int × zM, lawX k a M = some q ∧ lawR k a q.2 = some q' ∧ q.1 = q'.1 ∧ I q'.2
theorem lA_in (xs : Nat → Int32) (n : Nat) : ∀ j, -2147483648 ≤ lA xs n j ∧ lA xs n j ≤ 2147483647 := by
  intro j
  unfold lA
  have h1 := Int32.le_toInt (xs (n + j))
  have h2 := Int32.toInt_lt (xs (n + j))
  exact ⟨by omega, by omega⟩
abbrev loffs : Array Int := #[171, 194, 237, 260, 283, 306, 339, 362, 395, 458, 481, 494, 517, 540, 563, 576, 609, 642, 675, 708, 751, 784, 817, 830, 883, 906, 929, 942, 1011, 1080, 1103, 1142, 1191, 1250, 1263, 1323, 1336, 1349, 1362]
theorem l_sw (C : lCx p s m args c cells slots D cA adr A b L xs) {n : Nat} {M : zM} {v : Int} {t tgt : Nat} {off : Int} (ht : zw v = (t : Int)) (h38 : t < 39) (ho : loffs[t]? = some off) (hT : (33 : Int) + off = (tgt : Int)) (hz : zS p l e room_1 s m args below meth c cells slots D cA adr A 4 Q (tgt, lI n, [], M)) : zS p l e room_1 s m args below meth c cells slots D cA adr A 4 Q (33, lI n, [zi v], M) :=
  zswIn C.1 (l_dg (pc := 33) rfl) (by omega) (by omega) (by rw [ht]; exact ho) hT hz
theorem ldis_0 (C : lCx p s m args c cells slots D cA adr A b L xs) {I : zM → Prop} (hI : lawOK I) {n : Nat} (hn : n + 6 ≤ L) {M : zM} (hM : I M) (hk : ∀ M', I M' → zS p l e room_1 s m args below meth c cells slots D cA adr A 4 Q (1418, lI n, [], M')) {v : Int} (hv : zw v = ((0 : Nat) : Int)) : zS p l e room_1 s m args below meth c cells slots D cA adr A 4 Q (33, lI n, [zi v], M) := by
  obtain ⟨q, q', h1, h2, he, hI2⟩ := hI 0 (by omega) (fun j => lA xs n j) (lA_in xs n) M hM
  have h1 : f_X10_owner (lA xs n 1) M = some q := h1
  have h2 : f_X11_owner (lA xs n 1) q.2 = some q' := h2
  exact l_sw C hv (by omega) rfl rfl (lcase_0 C hn h1 h2 he (hk _ hI2))
theorem ldis_1 (C : lCx p s m args c cells slots D cA adr A b L xs) {I : zM → Prop} (hI : lawOK I) {n : Nat} (hn : n + 6 ≤ L) {M : zM} (hM : I M) (hk : ∀ M', I M' → zS p l e room_1 s m args below meth c cells slots D cA adr A 4 Q (1418, lI n, [], M')) {v : Int} (hv : zw v = ((1 : Nat) : Int)) : zS p l e room_1 s m args below meth c cells slots D cA adr A 4 Q (33, lI n, [zi v], M) := by
  obtain ⟨q, q', h1, h2, he, hI2⟩ := hI 1 (by omega) (fun j => lA xs n j) (lA_in xs n) M hM
  have h1 : f_X10_thing (lA xs n 1) (lA xs n 2) (lA xs n 3) M = some q := h1
  have h2 : f_X11_thing (lA xs n 1) (lA xs n 2) (lA xs n 3) q.2 = some q' := h2
  exact l_sw C hv (by omega) rfl rfl (lcase_1 C hn h1 h2 he (hk _ hI2))
theorem ldis_2 (C : lCx p s m args c cells slots D cA adr A b L xs) {I : zM → Prop} (hI : lawOK I) {n : Nat} (hn : n + 6 ≤ L) {M : zM} (hM : I M) (hk : ∀ M', I M' → zS p l e room_1 s m args below meth c cells slots D cA adr A 4 Q (1418, lI n, [], M')) {v : Int} (hv : zw v = ((2 : Nat) : Int)) : zS p l e room_1 s m args below meth c cells slots D cA adr A 4 Q (33, lI n, [zi v], M) := by
  obtain ⟨q, q', h1, h2, he, hI2⟩ := hI 2 (by omega) (fun j => lA xs n j) (lA_in xs n) M hM
  have h1 : f_X10_room (lA xs n 1) M = some q := h1
  have h2 : f_X11_room (lA xs n 1) q.2 = some q' := h2
  exact l_sw C hv (by omega) rfl rfl (lcase_2 C hn h1 h2 he (hk _ hI2))
theorem ldis_3 (C : lCx p s m args c cells slots D cA adr A b L xs) {I : zM → Prop} (hI : lawOK I) {n : Nat} (hn : n + 6 ≤ L) {M : zM} (hM : I M) (hk : ∀ M', I M' → zS p l e room_1 s m args below meth c cells slots D cA adr A 4 Q (1418, lI n, [], M')) {v : Int} (hv : zw v = ((3 : Nat) : Int)) : zS p l e room_1 s m args below meth c cells slots D cA adr A 4 Q (33, lI n, [zi v], M) := by
  obtain ⟨q, q', h1, h2, he, hI2⟩ := hI 3 (by omega) (fun j => lA xs n j) (lA_in xs n) M hM
  have h1 : f_X10_steal (lA xs n 1) M = some q := h1
  have h2 : f_X11_steal (lA xs n 1) q.2 = some q' := h2
  exact l_sw C hv (by omega) rfl rfl (lcase_3 C hn h1 h2 he (hk _ hI2))
theorem ldis_4 (C : lCx p s m args c cells slots D cA adr A b L xs) {I : zM → Prop} (hI : lawOK I) {n : Nat} (hn : n + 6 ≤ L) {M : zM} (hM : I M) (hk : ∀ M', I M' → zS p l e room_1 s m args below meth c cells slots D cA adr A 4 Q (1418, lI n, [], M')) {v : Int} (hv : zw v = ((4 : Nat) : Int)) : zS p l e room_1 s m args below meth c cells slots D cA adr A 4 Q (33, lI n, [zi v], M) := by
  obtain ⟨q, q', h1, h2, he, hI2⟩ := hI 4 (by omega) (fun j => lA xs n j) (lA_in xs n) M hM
  have h1 : f_X10_send (lA xs n 1) M = some q := h1
  have h2 : f_X11_send (lA xs n 1) q.2 = some q' := h2
  exact l_sw C hv (by omega) rfl rfl (lcase_4 C hn h1 h2 he (hk _ hI2))
theorem ldis_5 (C : lCx p s m args c cells slots D cA adr A b L xs) {I : zM → Prop} (hI : lawOK I) {n : Nat} (hn : n + 6 ≤ L) {M : zM} (hM : I M) (hk : ∀ M', I M' → zS p l e room_1 s m args below meth c cells slots D cA adr A 4 Q (1418, lI n, [], M')) {v : Int} (hv : zw v = ((5 : Nat) : Int)) : zS p l e room_1 s m args below meth c cells slots D cA adr A 4 Q (33, lI n, [zi v], M) := by
  obtain ⟨q, q', h1, h2, he, hI2⟩ := hI 5 (by omega) (fun j => lA xs n j) (lA_in xs n) M hM
  have h1 : f_X10_give (lA xs n 1) (lA xs n 2) M = some q := h1
  have h2 : f_X11_give (lA xs n 1) (lA xs n 2) q.2 = some q' := h2
  exact l_sw C hv (by omega) rfl rfl (lcase_5 C hn h1 h2 he (hk _ hI2))
theorem ldis_6 (C : lCx p s m args c cells slots D cA adr A b L xs) {I : zM → Prop} (hI : lawOK I) {n : Nat} (hn : n + 6 ≤ L) {M : zM} (hM : I M) (hk : ∀ M', I M' → zS p l e room_1 s m args below meth c cells slots D cA adr A 4 Q (1418, lI n, [], M')) {v : Int} (hv : zw v = ((6 : Nat) : Int)) : zS p l e room_1 s m args below meth c cells slots D cA adr A 4 Q (33, lI n, [zi v], M) := by
  obtain ⟨q, q', h1, h2, he, hI2⟩ := hI 6 (by omega) (fun j => lA xs n j) (lA_in xs n) M hM
  have h1 : f_X10_day (lA xs n 1) M = some q := h1
  have h2 : f_X11_day (lA xs n 1) q.2 = some q' := h2
  exact l_sw C hv (by omega) rfl rfl (lcase_6 C hn h1 h2 he (hk _ hI2))
theorem ldis_7 (C : lCx p s m args c cells slots D cA adr A b L xs) {I : zM → Prop} (hI : lawOK I) {n : Nat} (hn : n + 6 ≤ L) {M : zM} (hM : I M) (hk : ∀ M', I M' → zS p l e room_1 s m args below meth c cells slots D cA adr A 4 Q (1418, lI n, [], M')) {v : Int} (hv : zw v = ((7 : Nat) : Int)) : zS p l e room_1 s m args below meth c cells slots D cA adr A 4 Q (33, lI n, [zi v], M) := by
  obtain ⟨q, q', h1, h2, he, hI2⟩ := hI 7 (by omega) (fun j => lA xs n j) (lA_in xs n) M hM
  have h1 : f_X10_decades (lA xs n 1) (lA xs n 2) M = some q := h1
  have h2 : f_X11_decades (lA xs n 1) (lA xs n 2) q.2 = some q' := h2
  exact l_sw C hv (by omega) rfl rfl (lcase_7 C hn h1 h2 he (hk _ hI2))
theorem ldis_8 (C : lCx p s m args c cells slots D cA adr A b L xs) {I : zM → Prop} (hI : lawOK I) {n : Nat} (hn : n + 6 ≤ L) {M : zM} (hM : I M) (hk : ∀ M', I M' → zS p l e room_1 s m args below meth c cells slots D cA adr A 4 Q (1418, lI n, [], M')) {v : Int} (hv : zw v = ((8 : Nat) : Int)) : zS p l e room_1 s m args below meth c cells slots D cA adr A 4 Q (33, lI n, [zi v], M) := by
  obtain ⟨q, q', h1, h2, he, hI2⟩ := hI 8 (by omega) (fun j => lA xs n j) (lA_in xs n) M hM
  have h1 : f_X10_feed (lA xs n 1) (lA xs n 2) (lA xs n 3) (lA xs n 4) (lA xs n 5) M = some q := h1
  have h2 : f_X11_feed (lA xs n 1) (lA xs n 2) (lA xs n 3) (lA xs n 4) (lA xs n 5) q.2 = some q' := h2
  exact l_sw C hv (by omega) rfl rfl (lcase_8 C hn h1 h2 he (hk _ hI2))
theorem ldis_9 (C : lCx p s m args c cells slots D cA adr A b L xs) {I : zM → Prop} (hI : lawOK I) {n : Nat} (hn : n + 6 ≤ L) {M : zM} (hM : I M) (hk : ∀ M', I M' → zS p l e room_1 s m args below meth c cells slots D cA adr A 4 Q (1418, lI n, [], M')) {v : Int} (hv : zw v = ((9 : Nat) : Int)) : zS p l e room_1 s m args below meth c cells slots D cA adr A 4 Q (33, lI n, [zi v], M) := by
  obtain ⟨q, q', h1, h2, he, hI2⟩ := hI 9 (by omega) (fun j => lA xs n j) (lA_in xs n) M hM
  have h1 : f_X10_end (lA xs n 1) M = some q := h1
  have h2 : f_X11_end (lA xs n 1) q.2 = some q' := h2
  exact l_sw C hv (by omega) rfl rfl (lcase_9 C hn h1 h2 he (hk _ hI2))
theorem ldis_10 (C : lCx p s m args c cells slots D cA adr A b L xs) {I : zM → Prop} (hI : lawOK I) {n : Nat} (hn : n + 6 ≤ L) {M : zM} (hM : I M) (hk : ∀ M', I M' → zS p l e room_1 s m args below meth c cells slots D cA adr A 4 Q (1418, lI n, [], M')) {v : Int} (hv : zw v = ((10 : Nat) : Int)) : zS p l e room_1 s m args below meth c cells slots D cA adr A 4 Q (33, lI n, [zi v], M) := by
  obtain ⟨q, q', h1, h2, he, hI2⟩ := hI 10 (by omega) (fun j => lA xs n j) (lA_in xs n) M hM
  have h1 : f_X10_text  M = some q := h1
  have h2 : f_X11_text  q.2 = some q' := h2
  exact l_sw C hv (by omega) rfl rfl (lcase_10 C hn h1 h2 he (hk _ hI2))
theorem ldis_11 (C : lCx p s m args c cells slots D cA adr A b L xs) {I : zM → Prop} (hI : lawOK I) {n : Nat} (hn : n + 6 ≤ L) {M : zM} (hM : I M) (hk : ∀ M', I M' → zS p l e room_1 s m args below meth c cells slots D cA adr A 4 Q (1418, lI n, [], M')) {v : Int} (hv : zw v = ((11 : Nat) : Int)) : zS p l e room_1 s m args below meth c cells slots D cA adr A 4 Q (33, lI n, [zi v], M) := by
  obtain ⟨q, q', h1, h2, he, hI2⟩ := hI 11 (by omega) (fun j => lA xs n j) (lA_in xs n) M hM
  have h1 : f_X10_fault (lA xs n 1) M = some q := h1
  have h2 : f_X11_fault (lA xs n 1) q.2 = some q' := h2
  exact l_sw C hv (by omega) rfl rfl (lcase_11 C hn h1 h2 he (hk _ hI2))
theorem ldis_12 (C : lCx p s m args c cells slots D cA adr A b L xs) {I : zM → Prop} (hI : lawOK I) {n : Nat} (hn : n + 6 ≤ L) {M : zM} (hM : I M) (hk : ∀ M', I M' → zS p l e room_1 s m args below meth c cells slots D cA adr A 4 Q (1418, lI n, [], M')) {v : Int} (hv : zw v = ((12 : Nat) : Int)) : zS p l e room_1 s m args below meth c cells slots D cA adr A 4 Q (33, lI n, [zi v], M) := by
  obtain ⟨q, q', h1, h2, he, hI2⟩ := hI 12 (by omega) (fun j => lA xs n j) (lA_in xs n) M hM
  have h1 : f_X10_by (lA xs n 1) M = some q := h1
  have h2 : f_X11_by (lA xs n 1) q.2 = some q' := h2
  exact l_sw C hv (by omega) rfl rfl (lcase_12 C hn h1 h2 he (hk _ hI2))
theorem ldis_13 (C : lCx p s m args c cells slots D cA adr A b L xs) {I : zM → Prop} (hI : lawOK I) {n : Nat} (hn : n + 6 ≤ L) {M : zM} (hM : I M) (hk : ∀ M', I M' → zS p l e room_1 s m args below meth c cells slots D cA adr A 4 Q (1418, lI n, [], M')) {v : Int} (hv : zw v = ((13 : Nat) : Int)) : zS p l e room_1 s m args below meth c cells slots D cA adr A 4 Q (33, lI n, [zi v], M) := by
  obtain ⟨q, q', h1, h2, he, hI2⟩ := hI 13 (by omega) (fun j => lA xs n j) (lA_in xs n) M hM
  have h1 : f_X10_played (lA xs n 1) M = some q := h1
  have h2 : f_X11_played (lA xs n 1) q.2 = some q' := h2
  exact l_sw C hv (by omega) rfl rfl (lcase_13 C hn h1 h2 he (hk _ hI2))
theorem ldis_14 (C : lCx p s m args c cells slots D cA adr A b L xs) {I : zM → Prop} (hI : lawOK I) {n : Nat} (hn : n + 6 ≤ L) {M : zM} (hM : I M) (hk : ∀ M', I M' → zS p l e room_1 s m args below meth c cells slots D cA adr A 4 Q (1418, lI n, [], M')) {v : Int} (hv : zw v = ((14 : Nat) : Int)) : zS p l e room_1 s m args below meth c cells slots D cA adr A 4 Q (33, lI n, [zi v], M) := by
  obtain ⟨q, q', h1, h2, he, hI2⟩ := hI 14 (by omega) (fun j => lA xs n j) (lA_in xs n) M hM
  have h1 : f_X10_undo  M = some q := h1
  have h2 : f_X11_undo  q.2 = some q' := h2
  exact l_sw C hv (by omega) rfl rfl (lcase_14 C hn h1 h2 he (hk _ hI2))
theorem ldis_15 (C : lCx p s m args c cells slots D cA adr A b L xs) {I : zM → Prop} (hI : lawOK I) {n : Nat} (hn : n + 6 ≤ L) {M : zM} (hM : I M) (hk : ∀ M', I M' → zS p l e room_1 s m args below meth c cells slots D cA adr A 4 Q (1418, lI n, [], M')) {v : Int} (hv : zw v = ((15 : Nat) : Int)) : zS p l e room_1 s m args below meth c cells slots D cA adr A 4 Q (33, lI n, [zi v], M) := by
  obtain ⟨q, q', h1, h2, he, hI2⟩ := hI 15 (by omega) (fun j => lA xs n j) (lA_in xs n) M hM
  have h1 : f_X10_ofOwner (lA xs n 1) (lA xs n 2) M = some q := h1
  have h2 : f_X11_ofOwner (lA xs n 1) (lA xs n 2) q.2 = some q' := h2
  exact l_sw C hv (by omega) rfl rfl (lcase_15 C hn h1 h2 he (hk _ hI2))
theorem ldis_16 (C : lCx p s m args c cells slots D cA adr A b L xs) {I : zM → Prop} (hI : lawOK I) {n : Nat} (hn : n + 6 ≤ L) {M : zM} (hM : I M) (hk : ∀ M', I M' → zS p l e room_1 s m args below meth c cells slots D cA adr A 4 Q (1418, lI n, [], M')) {v : Int} (hv : zw v = ((16 : Nat) : Int)) : zS p l e room_1 s m args below meth c cells slots D cA adr A 4 Q (33, lI n, [zi v], M) := by
  obtain ⟨q, q', h1, h2, he, hI2⟩ := hI 16 (by omega) (fun j => lA xs n j) (lA_in xs n) M hM
  have h1 : f_X10_of (lA xs n 1) (lA xs n 2) M = some q := h1
  have h2 : f_X11_of (lA xs n 1) (lA xs n 2) q.2 = some q' := h2
  exact l_sw C hv (by omega) rfl rfl (lcase_16 C hn h1 h2 he (hk _ hI2))
theorem ldis_17 (C : lCx p s m args c cells slots D cA adr A b L xs) {I : zM → Prop} (hI : lawOK I) {n : Nat} (hn : n + 6 ≤ L) {M : zM} (hM : I M) (hk : ∀ M', I M' → zS p l e room_1 s m args below meth c cells slots D cA adr A 4 Q (1418, lI n, [], M')) {v : Int} (hv : zw v = ((17 : Nat) : Int)) : zS p l e room_1 s m args below meth c cells slots D cA adr A 4 Q (33, lI n, [zi v], M) := by
  obtain ⟨q, q', h1, h2, he, hI2⟩ := hI 17 (by omega) (fun j => lA xs n j) (lA_in xs n) M hM
  have h1 : f_X10_law (lA xs n 1) (lA xs n 2) M = some q := h1
  have h2 : f_X11_law (lA xs n 1) (lA xs n 2) q.2 = some q' := h2
  exact l_sw C hv (by omega) rfl rfl (lcase_17 C hn h1 h2 he (hk _ hI2))
theorem ldis_18 (C : lCx p s m args c cells slots D cA adr A b L xs) {I : zM → Prop} (hI : lawOK I) {n : Nat} (hn : n + 6 ≤ L) {M : zM} (hM : I M) (hk : ∀ M', I M' → zS p l e room_1 s m args below meth c cells slots D cA adr A 4 Q (1418, lI n, [], M')) {v : Int} (hv : zw v = ((18 : Nat) : Int)) : zS p l e room_1 s m args below meth c cells slots D cA adr A 4 Q (33, lI n, [zi v], M) := by
  obtain ⟨q, q', h1, h2, he, hI2⟩ := hI 18 (by omega) (fun j => lA xs n j) (lA_in xs n) M hM
  have h1 : f_X10_book (lA xs n 1) (lA xs n 2) M = some q := h1
  have h2 : f_X11_book (lA xs n 1) (lA xs n 2) q.2 = some q' := h2
  exact l_sw C hv (by omega) rfl rfl (lcase_18 C hn h1 h2 he (hk _ hI2))
theorem ldis_19 (C : lCx p s m args c cells slots D cA adr A b L xs) {I : zM → Prop} (hI : lawOK I) {n : Nat} (hn : n + 6 ≤ L) {M : zM} (hM : I M) (hk : ∀ M', I M' → zS p l e room_1 s m args below meth c cells slots D cA adr A 4 Q (1418, lI n, [], M')) {v : Int} (hv : zw v = ((19 : Nat) : Int)) : zS p l e room_1 s m args below meth c cells slots D cA adr A 4 Q (33, lI n, [zi v], M) := by
  obtain ⟨q, q', h1, h2, he, hI2⟩ := hI 19 (by omega) (fun j => lA xs n j) (lA_in xs n) M hM
  have h1 : f_X10_foretold (lA xs n 1) (lA xs n 2) (lA xs n 3) M = some q := h1
  have h2 : f_X11_foretold (lA xs n 1) (lA xs n 2) (lA xs n 3) q.2 = some q' := h2
  exact l_sw C hv (by omega) rfl rfl (lcase_19 C hn h1 h2 he (hk _ hI2))
theorem ldis_20 (C : lCx p s m args c cells slots D cA adr A b L xs) {I : zM → Prop} (hI : lawOK I) {n : Nat} (hn : n + 6 ≤ L) {M : zM} (hM : I M) (hk : ∀ M', I M' → zS p l e room_1 s m args below meth c cells slots D cA adr A 4 Q (1418, lI n, [], M')) {v : Int} (hv : zw v = ((20 : Nat) : Int)) : zS p l e room_1 s m args below meth c cells slots D cA adr A 4 Q (33, lI n, [zi v], M) := by
  obtain ⟨q, q', h1, h2, he, hI2⟩ := hI 20 (by omega) (fun j => lA xs n j) (lA_in xs n) M hM
  have h1 : f_X10_pence (lA xs n 1) (lA xs n 2) M = some q := h1
  have h2 : f_X11_pence (lA xs n 1) (lA xs n 2) q.2 = some q' := h2
  exact l_sw C hv (by omega) rfl rfl (lcase_20 C hn h1 h2 he (hk _ hI2))
theorem ldis_21 (C : lCx p s m args c cells slots D cA adr A b L xs) {I : zM → Prop} (hI : lawOK I) {n : Nat} (hn : n + 6 ≤ L) {M : zM} (hM : I M) (hk : ∀ M', I M' → zS p l e room_1 s m args below meth c cells slots D cA adr A 4 Q (1418, lI n, [], M')) {v : Int} (hv : zw v = ((21 : Nat) : Int)) : zS p l e room_1 s m args below meth c cells slots D cA adr A 4 Q (33, lI n, [zi v], M) := by
  obtain ⟨q, q', h1, h2, he, hI2⟩ := hI 21 (by omega) (fun j => lA xs n j) (lA_in xs n) M hM
  have h1 : f_X10_plan (lA xs n 1) (lA xs n 2) M = some q := h1
  have h2 : f_X11_plan (lA xs n 1) (lA xs n 2) q.2 = some q' := h2
  exact l_sw C hv (by omega) rfl rfl (lcase_21 C hn h1 h2 he (hk _ hI2))
theorem ldis_22 (C : lCx p s m args c cells slots D cA adr A b L xs) {I : zM → Prop} (hI : lawOK I) {n : Nat} (hn : n + 6 ≤ L) {M : zM} (hM : I M) (hk : ∀ M', I M' → zS p l e room_1 s m args below meth c cells slots D cA adr A 4 Q (1418, lI n, [], M')) {v : Int} (hv : zw v = ((22 : Nat) : Int)) : zS p l e room_1 s m args below meth c cells slots D cA adr A 4 Q (33, lI n, [zi v], M) := by
  obtain ⟨q, q', h1, h2, he, hI2⟩ := hI 22 (by omega) (fun j => lA xs n j) (lA_in xs n) M hM
  have h1 : f_X10_first  M = some q := h1
  have h2 : f_X11_first  q.2 = some q' := h2
  exact l_sw C hv (by omega) rfl rfl (lcase_22 C hn h1 h2 he (hk _ hI2))
theorem ldis_23 (C : lCx p s m args c cells slots D cA adr A b L xs) {I : zM → Prop} (hI : lawOK I) {n : Nat} (hn : n + 6 ≤ L) {M : zM} (hM : I M) (hk : ∀ M', I M' → zS p l e room_1 s m args below meth c cells slots D cA adr A 4 Q (1418, lI n, [], M')) {v : Int} (hv : zw v = ((23 : Nat) : Int)) : zS p l e room_1 s m args below meth c cells slots D cA adr A 4 Q (33, lI n, [zi v], M) := by
  obtain ⟨q, q', h1, h2, he, hI2⟩ := hI 23 (by omega) (fun j => lA xs n j) (lA_in xs n) M hM
  have h1 : f_X10_fewest (lA xs n 1) (lA xs n 2) (lA xs n 3) (lA xs n 4) M = some q := h1
  have h2 : f_X11_fewest (lA xs n 1) (lA xs n 2) (lA xs n 3) (lA xs n 4) q.2 = some q' := h2
  exact l_sw C hv (by omega) rfl rfl (lcase_23 C hn h1 h2 he (hk _ hI2))
theorem ldis_24 (C : lCx p s m args c cells slots D cA adr A b L xs) {I : zM → Prop} (hI : lawOK I) {n : Nat} (hn : n + 6 ≤ L) {M : zM} (hM : I M) (hk : ∀ M', I M' → zS p l e room_1 s m args below meth c cells slots D cA adr A 4 Q (1418, lI n, [], M')) {v : Int} (hv : zw v = ((24 : Nat) : Int)) : zS p l e room_1 s m args below meth c cells slots D cA adr A 4 Q (33, lI n, [zi v], M) := by
  obtain ⟨q, q', h1, h2, he, hI2⟩ := hI 24 (by omega) (fun j => lA xs n j) (lA_in xs n) M hM
  have h1 : f_X10_worth (lA xs n 1) M = some q := h1
  have h2 : f_X11_worth (lA xs n 1) q.2 = some q' := h2
  exact l_sw C hv (by omega) rfl rfl (lcase_24 C hn h1 h2 he (hk _ hI2))
theorem ldis_25 (C : lCx p s m args c cells slots D cA adr A b L xs) {I : zM → Prop} (hI : lawOK I) {n : Nat} (hn : n + 6 ≤ L) {M : zM} (hM : I M) (hk : ∀ M', I M' → zS p l e room_1 s m args below meth c cells slots D cA adr A 4 Q (1418, lI n, [], M')) {v : Int} (hv : zw v = ((25 : Nat) : Int)) : zS p l e room_1 s m args below meth c cells slots D cA adr A 4 Q (33, lI n, [zi v], M) := by
  obtain ⟨q, q', h1, h2, he, hI2⟩ := hI 25 (by omega) (fun j => lA xs n j) (lA_in xs n) M hM
  have h1 : f_X10_whose (lA xs n 1) M = some q := h1
  have h2 : f_X11_whose (lA xs n 1) q.2 = some q' := h2
  exact l_sw C hv (by omega) rfl rfl (lcase_25 C hn h1 h2 he (hk _ hI2))
theorem ldis_26 (C : lCx p s m args c cells slots D cA adr A b L xs) {I : zM → Prop} (hI : lawOK I) {n : Nat} (hn : n + 6 ≤ L) {M : zM} (hM : I M) (hk : ∀ M', I M' → zS p l e room_1 s m args below meth c cells slots D cA adr A 4 Q (1418, lI n, [], M')) {v : Int} (hv : zw v = ((26 : Nat) : Int)) : zS p l e room_1 s m args below meth c cells slots D cA adr A 4 Q (33, lI n, [zi v], M) := by
  obtain ⟨q, q', h1, h2, he, hI2⟩ := hI 26 (by omega) (fun j => lA xs n j) (lA_in xs n) M hM
  have h1 : f_X10_twice  M = some q := h1
  have h2 : f_X11_twice  q.2 = some q' := h2
  exact l_sw C hv (by omega) rfl rfl (lcase_26 C hn h1 h2 he (hk _ hI2))
theorem ldis_27 (C : lCx p s m args c cells slots D cA adr A b L xs) {I : zM → Prop} (hI : lawOK I) {n : Nat} (hn : n + 6 ≤ L) {M : zM} (hM : I M) (hk : ∀ M', I M' → zS p l e room_1 s m args below meth c cells slots D cA adr A 4 Q (1418, lI n, [], M')) {v : Int} (hv : zw v = ((27 : Nat) : Int)) : zS p l e room_1 s m args below meth c cells slots D cA adr A 4 Q (33, lI n, [zi v], M) := by
  obtain ⟨q, q', h1, h2, he, hI2⟩ := hI 27 (by omega) (fun j => lA xs n j) (lA_in xs n) M hM
  have h1 : f_X10_since (lA xs n 1) (lA xs n 2) (lA xs n 3) (lB (lA xs n 4)) M = some q := h1
  have h2 : f_X11_since (lA xs n 1) (lA xs n 2) (lA xs n 3) (lB (lA xs n 4)) q.2 = some q' := h2
  exact l_sw C hv (by omega) rfl rfl (lcase_27 C hn h1 h2 he (hk _ hI2))
theorem ldis_28 (C : lCx p s m args c cells slots D cA adr A b L xs) {I : zM → Prop} (hI : lawOK I) {n : Nat} (hn : n + 6 ≤ L) {M : zM} (hM : I M) (hk : ∀ M', I M' → zS p l e room_1 s m args below meth c cells slots D cA adr A 4 Q (1418, lI n, [], M')) {v : Int} (hv : zw v = ((28 : Nat) : Int)) : zS p l e room_1 s m args below meth c cells slots D cA adr A 4 Q (33, lI n, [zi v], M) := by
  obtain ⟨q, q', h1, h2, he, hI2⟩ := hI 28 (by omega) (fun j => lA xs n j) (lA_in xs n) M hM
  have h1 : f_X10_bargain (lA xs n 1) (lA xs n 2) (lA xs n 3) (lB (lA xs n 4)) M = some q := h1
  have h2 : f_X11_bargain (lA xs n 1) (lA xs n 2) (lA xs n 3) (lB (lA xs n 4)) q.2 = some q' := h2
  exact l_sw C hv (by omega) rfl rfl (lcase_28 C hn h1 h2 he (hk _ hI2))
theorem ldis_29 (C : lCx p s m args c cells slots D cA adr A b L xs) {I : zM → Prop} (hI : lawOK I) {n : Nat} (hn : n + 6 ≤ L) {M : zM} (hM : I M) (hk : ∀ M', I M' → zS p l e room_1 s m args below meth c cells slots D cA adr A 4 Q (1418, lI n, [], M')) {v : Int} (hv : zw v = ((29 : Nat) : Int)) : zS p l e room_1 s m args below meth c cells slots D cA adr A 4 Q (33, lI n, [zi v], M) := by
  obtain ⟨q, q', h1, h2, he, hI2⟩ := hI 29 (by omega) (fun j => lA xs n j) (lA_in xs n) M hM
  have h1 : f_X10_vote (lA xs n 1) M = some q := h1
  have h2 : f_X11_vote (lA xs n 1) q.2 = some q' := h2
  exact l_sw C hv (by omega) rfl rfl (lcase_29 C hn h1 h2 he (hk _ hI2))
theorem ldis_30 (C : lCx p s m args c cells slots D cA adr A b L xs) {I : zM → Prop} (hI : lawOK I) {n : Nat} (hn : n + 6 ≤ L) {M : zM} (hM : I M) (hk : ∀ M', I M' → zS p l e room_1 s m args below meth c cells slots D cA adr A 4 Q (1418, lI n, [], M')) {v : Int} (hv : zw v = ((30 : Nat) : Int)) : zS p l e room_1 s m args below meth c cells slots D cA adr A 4 Q (33, lI n, [zi v], M) := by
  obtain ⟨q, q', h1, h2, he, hI2⟩ := hI 30 (by omega) (fun j => lA xs n j) (lA_in xs n) M hM
  have h1 : f_X10_voted (lB (lA xs n 1)) M = some q := h1
  have h2 : f_X11_voted (lB (lA xs n 1)) q.2 = some q' := h2
  exact l_sw C hv (by omega) rfl rfl (lcase_30 C hn h1 h2 he (hk _ hI2))
theorem ldis_31 (C : lCx p s m args c cells slots D cA adr A b L xs) {I : zM → Prop} (hI : lawOK I) {n : Nat} (hn : n + 6 ≤ L) {M : zM} (hM : I M) (hk : ∀ M', I M' → zS p l e room_1 s m args below meth c cells slots D cA adr A 4 Q (1418, lI n, [], M')) {v : Int} (hv : zw v = ((31 : Nat) : Int)) : zS p l e room_1 s m args below meth c cells slots D cA adr A 4 Q (33, lI n, [zi v], M) := by
  obtain ⟨q, q', h1, h2, he, hI2⟩ := hI 31 (by omega) (fun j => lA xs n j) (lA_in xs n) M hM
  have h1 : f_X10_lying (lA xs n 1) (lB (lA xs n 2)) M = some q := h1
  have h2 : f_X11_lying (lA xs n 1) (lB (lA xs n 2)) q.2 = some q' := h2
  exact l_sw C hv (by omega) rfl rfl (lcase_31 C hn h1 h2 he (hk _ hI2))
theorem ldis_32 (C : lCx p s m args c cells slots D cA adr A b L xs) {I : zM → Prop} (hI : lawOK I) {n : Nat} (hn : n + 6 ≤ L) {M : zM} (hM : I M) (hk : ∀ M', I M' → zS p l e room_1 s m args below meth c cells slots D cA adr A 4 Q (1418, lI n, [], M')) {v : Int} (hv : zw v = ((32 : Nat) : Int)) : zS p l e room_1 s m args below meth c cells slots D cA adr A 4 Q (33, lI n, [zi v], M) := by
  obtain ⟨q, q', h1, h2, he, hI2⟩ := hI 32 (by omega) (fun j => lA xs n j) (lA_in xs n) M hM
  have h1 : f_X10_seen (lA xs n 1) (lA xs n 2) (lB (lA xs n 3)) M = some q := h1
  have h2 : f_X11_seen (lA xs n 1) (lA xs n 2) (lB (lA xs n 3)) q.2 = some q' := h2
  exact l_sw C hv (by omega) rfl rfl (lcase_32 C hn h1 h2 he (hk _ hI2))
theorem ldis_33 (C : lCx p s m args c cells slots D cA adr A b L xs) {I : zM → Prop} (hI : lawOK I) {n : Nat} (hn : n + 6 ≤ L) {M : zM} (hM : I M) (hk : ∀ M', I M' → zS p l e room_1 s m args below meth c cells slots D cA adr A 4 Q (1418, lI n, [], M')) {v : Int} (hv : zw v = ((33 : Nat) : Int)) : zS p l e room_1 s m args below meth c cells slots D cA adr A 4 Q (33, lI n, [zi v], M) := by
  obtain ⟨q, q', h1, h2, he, hI2⟩ := hI 33 (by omega) (fun j => lA xs n j) (lA_in xs n) M hM
  have h1 : f_X10_rule  M = some q := h1
  have h2 : f_X11_rule  q.2 = some q' := h2
  exact l_sw C hv (by omega) rfl rfl (lcase_33 C hn h1 h2 he (hk _ hI2))
theorem ldis_34 (C : lCx p s m args c cells slots D cA adr A b L xs) {I : zM → Prop} (hI : lawOK I) {n : Nat} (hn : n + 6 ≤ L) {M : zM} (hM : I M) (hk : ∀ M', I M' → zS p l e room_1 s m args below meth c cells slots D cA adr A 4 Q (1418, lI n, [], M')) {v : Int} (hv : zw v = ((34 : Nat) : Int)) : zS p l e room_1 s m args below meth c cells slots D cA adr A 4 Q (33, lI n, [zi v], M) := by
  obtain ⟨q, q', h1, h2, he, hI2⟩ := hI 34 (by omega) (fun j => lA xs n j) (lA_in xs n) M hM
  have h1 : f_X10_odds (lA xs n 1) (lA xs n 2) (lB (lA xs n 3)) M = some q := h1
  have h2 : f_X11_odds (lA xs n 1) (lA xs n 2) (lB (lA xs n 3)) q.2 = some q' := h2
  exact l_sw C hv (by omega) rfl rfl (lcase_34 C hn h1 h2 he (hk _ hI2))
theorem ldis_35 (C : lCx p s m args c cells slots D cA adr A b L xs) {I : zM → Prop} (hI : lawOK I) {n : Nat} (hn : n + 6 ≤ L) {M : zM} (hM : I M) (hk : ∀ M', I M' → zS p l e room_1 s m args below meth c cells slots D cA adr A 4 Q (1418, lI n, [], M')) {v : Int} (hv : zw v = ((35 : Nat) : Int)) : zS p l e room_1 s m args below meth c cells slots D cA adr A 4 Q (33, lI n, [zi v], M) := by
  obtain ⟨q, q', h1, h2, he, hI2⟩ := hI 35 (by omega) (fun j => lA xs n j) (lA_in xs n) M hM
  have h1 : f_X10_early  M = some q := h1
  have h2 : f_X11_early  q.2 = some q' := h2
  exact l_sw C hv (by omega) rfl rfl (lcase_35 C hn h1 h2 he (hk _ hI2))
theorem ldis_36 (C : lCx p s m args c cells slots D cA adr A b L xs) {I : zM → Prop} (hI : lawOK I) {n : Nat} (hn : n + 6 ≤ L) {M : zM} (hM : I M) (hk : ∀ M', I M' → zS p l e room_1 s m args below meth c cells slots D cA adr A 4 Q (1418, lI n, [], M')) {v : Int} (hv : zw v = ((36 : Nat) : Int)) : zS p l e room_1 s m args below meth c cells slots D cA adr A 4 Q (33, lI n, [zi v], M) := by
  obtain ⟨q, q', h1, h2, he, hI2⟩ := hI 36 (by omega) (fun j => lA xs n j) (lA_in xs n) M hM
  have h1 : f_X10_image  M = some q := h1
  have h2 : f_X11_image  q.2 = some q' := h2
  exact l_sw C hv (by omega) rfl rfl (lcase_36 C hn h1 h2 he (hk _ hI2))
theorem ldis_37 (C : lCx p s m args c cells slots D cA adr A b L xs) {I : zM → Prop} (hI : lawOK I) {n : Nat} (hn : n + 6 ≤ L) {M : zM} (hM : I M) (hk : ∀ M', I M' → zS p l e room_1 s m args below meth c cells slots D cA adr A 4 Q (1418, lI n, [], M')) {v : Int} (hv : zw v = ((37 : Nat) : Int)) : zS p l e room_1 s m args below meth c cells slots D cA adr A 4 Q (33, lI n, [zi v], M) := by
  obtain ⟨q, q', h1, h2, he, hI2⟩ := hI 37 (by omega) (fun j => lA xs n j) (lA_in xs n) M hM
  have h1 : f_X10_back  M = some q := h1
  have h2 : f_X11_back  q.2 = some q' := h2
  exact l_sw C hv (by omega) rfl rfl (lcase_37 C hn h1 h2 he (hk _ hI2))
theorem ldis_38 (C : lCx p s m args c cells slots D cA adr A b L xs) {I : zM → Prop} (hI : lawOK I) {n : Nat} (hn : n + 6 ≤ L) {M : zM} (hM : I M) (hk : ∀ M', I M' → zS p l e room_1 s m args below meth c cells slots D cA adr A 4 Q (1418, lI n, [], M')) {v : Int} (hv : zw v = ((38 : Nat) : Int)) : zS p l e room_1 s m args below meth c cells slots D cA adr A 4 Q (33, lI n, [zi v], M) := by
  obtain ⟨q, q', h1, h2, he, hI2⟩ := hI 38 (by omega) (fun j => lA xs n j) (lA_in xs n) M hM
  have h1 : f_X10_about (lA xs n 1) M = some q := h1
  have h2 : f_X11_about (lA xs n 1) q.2 = some q' := h2
  exact l_sw C hv (by omega) rfl rfl (lcase_38 C hn h1 h2 he (hk _ hI2))
theorem l_dispatch (C : lCx p s m args c cells slots D cA adr A b L xs) {I : zM → Prop} (hI : lawOK I) {n : Nat} (hn : n + 6 ≤ L) {M : zM} (hM : I M) (hk : ∀ M', I M' → zS p l e room_1 s m args below meth c cells slots D cA adr A 4 Q (1418, lI n, [], M')) {v : Int} (h0 : 0 ≤ zw v) (h38 : zw v ≤ 38) : zS p l e room_1 s m args below meth c cells slots D cA adr A 4 Q (33, lI n, [zi v], M) := by
  obtain ⟨t, ht⟩ := Int.eq_ofNat_of_zero_le h0
  by_cases c0 : t = 0
  · subst c0; exact ldis_0 C hI hn hM hk ht
  by_cases c1 : t = 1
  · subst c1; exact ldis_1 C hI hn hM hk ht
  by_cases c2 : t = 2
  · subst c2; exact ldis_2 C hI hn hM hk ht
  by_cases c3 : t = 3
  · subst c3; exact ldis_3 C hI hn hM hk ht
  by_cases c4 : t = 4
  · subst c4; exact ldis_4 C hI hn hM hk ht
  by_cases c5 : t = 5
  · subst c5; exact ldis_5 C hI hn hM hk ht
  by_cases c6 : t = 6
  · subst c6; exact ldis_6 C hI hn hM hk ht
  by_cases c7 : t = 7
  · subst c7; exact ldis_7 C hI hn hM hk ht
  by_cases c8 : t = 8
  · subst c8; exact ldis_8 C hI hn hM hk ht
  by_cases c9 : t = 9
  · subst c9; exact ldis_9 C hI hn hM hk ht
  by_cases c10 : t = 10
  · subst c10; exact ldis_10 C hI hn hM hk ht
  by_cases c11 : t = 11
  · subst c11; exact ldis_11 C hI hn hM hk ht
  by_cases c12 : t = 12
  · subst c12; exact ldis_12 C hI hn hM hk ht
  by_cases c13 : t = 13
  · subst c13; exact ldis_13 C hI hn hM hk ht
  by_cases c14 : t = 14
  · subst c14; exact ldis_14 C hI hn hM hk ht
  by_cases c15 : t = 15
  · subst c15; exact ldis_15 C hI hn hM hk ht
  by_cases c16 : t = 16
  · subst c16; exact ldis_16 C hI hn hM hk ht
  by_cases c17 : t = 17
  · subst c17; exact ldis_17 C hI hn hM hk ht
  by_cases c18 : t = 18
  · subst c18; exact ldis_18 C hI hn hM hk ht
  by_cases c19 : t = 19
  · subst c19; exact ldis_19 C hI hn hM hk ht
  by_cases c20 : t = 20
  · subst c20; exact ldis_20 C hI hn hM hk ht
  by_cases c21 : t = 21
  · subst c21; exact ldis_21 C hI hn hM hk ht
  by_cases c22 : t = 22
  · subst c22; exact ldis_22 C hI hn hM hk ht
  by_cases c23 : t = 23
  · subst c23; exact ldis_23 C hI hn hM hk ht
  by_cases c24 : t = 24
  · subst c24; exact ldis_24 C hI hn hM hk ht
  by_cases c25 : t = 25
  · subst c25; exact ldis_25 C hI hn hM hk ht
  by_cases c26 : t = 26
  · subst c26; exact ldis_26 C hI hn hM hk ht
  by_cases c27 : t = 27
  · subst c27; exact ldis_27 C hI hn hM hk ht
  by_cases c28 : t = 28
  · subst c28; exact ldis_28 C hI hn hM hk ht
  by_cases c29 : t = 29
  · subst c29; exact ldis_29 C hI hn hM hk ht
  by_cases c30 : t = 30
  · subst c30; exact ldis_30 C hI hn hM hk ht
  by_cases c31 : t = 31
  · subst c31; exact ldis_31 C hI hn hM hk ht
  by_cases c32 : t = 32
  · subst c32; exact ldis_32 C hI hn hM hk ht
  by_cases c33 : t = 33
  · subst c33; exact ldis_33 C hI hn hM hk ht
  by_cases c34 : t = 34
  · subst c34; exact ldis_34 C hI hn hM hk ht
  by_cases c35 : t = 35
  · subst c35; exact ldis_35 C hI hn hM hk ht
  by_cases c36 : t = 36
  · subst c36; exact ldis_36 C hI hn hM hk ht
  by_cases c37 : t = 37
  · subst c37; exact ldis_37 C hI hn hM hk ht
  by_cases c38 : t = 38
  · subst c38; exact ldis_38 C hI hn hM hk ht
  omega
theorem l_exit {T : Array Value} (hargs : args = T) (C : lCx p s m args c cells slots D cA adr A b L xs) (hA : ∀ q, A q → s.heap.size ≤ q) (hc : cells ≤ 600000) (hs : slots ≤ 7302250) (hret : ∀ (H : Heap) (ls : Array Slot), W p l e room_1 s m args below meth c H [] 600000 7302250 Q (F0 m 1425 ls [.int 1])) (n : Nat) (M : zM) : zS p l e room_1 s m args below meth c cells slots D cA adr A 4 Q (1424, lI n, [], M) := by
  refine lS_run C 1 (cf' := (1425, lI n, [zi 1], M)) rfl ?_
  intro H locs ls hP hS hlen hl hzl hzs
  refine va_forget (fun q hq => hA _ (hS.2.2 q hq)) ?_
  exact W.widen hc hs (hret H ls)
theorem l_loop (C : lCx p s m args c cells slots D cA adr A b L xs) {I : zM → Prop} (hI : lawOK I) (hex : ∀ (n : Nat) (M : zM), zS p l e room_1 s m args below meth c cells slots D cA adr A 4 Q (1424, lI n, [], M)) : ∀ (f n : Nat) (M : zM), L < n + f → n < 3100 → I M → zS p l e room_1 s m args below meth c cells slots D cA adr A 4 Q (18, lI n, [], M) := by
  intro f
  induction f with
  | zero =>
    intro n M hf hn hM
    have hL := C.2.2.2.2.2
    refine lS_run C 2 (cf' := (20, lI n, [zr 90 25, zi (n : Int)], M)) rfl ?_
    refine l_len C rfl ?_
    refine lS_run C 2 (cf' := (24, lI n, [zi ((L : Int) - 6), zi (n : Int)], M)) rfl ?_
    have hw1 : zw ((L : Int) - 6) = (L : Int) - 6 := zw_id (by omega) (by omega)
    have hw2 : zw (n : Int) = (n : Int) := zw_id (by omega) (by omega)
    exact l_br C (cf' := (1424, lI n, [], M)) rfl (if_pos (by rw [hw1, hw2]; omega)) (hex n M)
  | succ f ih =>
    intro n M hf hn hM
    have hL := C.2.2.2.2.2
    refine lS_run C 2 (cf' := (20, lI n, [zr 90 25, zi (n : Int)], M)) rfl ?_
    refine l_len C rfl ?_
    refine lS_run C 2 (cf' := (24, lI n, [zi ((L : Int) - 6), zi (n : Int)], M)) rfl ?_
    have hw1 : zw ((L : Int) - 6) = (L : Int) - 6 := zw_id (by omega) (by omega)
    have hw2 : zw (n : Int) = (n : Int) := zw_id (by omega) (by omega)
    by_cases hgt : (L : Int) - 6 < (n : Int)
    · exact l_br C (cf' := (1424, lI n, [], M)) rfl (if_pos (by rw [hw1, hw2]; exact hgt)) (hex n M)
    · refine l_br C (cf' := (27, lI n, [], M)) rfl (if_neg (by rw [hw1, hw2]; exact hgt)) ?_
      refine lS_run C 2 (cf' := (29, lI n, [zi (n : Int), zr 90 25], M)) rfl ?_
      have hld := l_ld (l := l) (e := e) (below := below) (meth := meth) (Q := Q) C (pc := 29) (n := n) (j := 0) (jz := 0) (lv := lI n) (st := []) (M := M) rfl rfl (by omega)
      rw [Int.add_zero] at hld
      refine hld ?_
      refine lS_run C 2 (cf' := (33, lI n, [zi (zand (lA xs n 0) 63)], M)) rfl ?_
      have hnext : ∀ M', I M' → zS p l e room_1 s m args below meth c cells slots D cA adr A 4 Q (1418, lI n, [], M') := by
        intro M' hM'
        refine lS_run C 2 (cf' := (18, lI (n + 6), [], M')) rfl ?_
        exact ih (n + 6) M' (by omega) (by omega) hM'
      by_cases h0 : 0 ≤ zw (zand (lA xs n 0) 63) ∧ zw (zand (lA xs n 0) 63) ≤ 38
      · exact l_dispatch C hI (by omega) hM hnext h0.1 h0.2
      · exact zswOut C.1 (l_dg (pc := 33) rfl) (by omega) rfl (hnext M hM)
end LAWL
