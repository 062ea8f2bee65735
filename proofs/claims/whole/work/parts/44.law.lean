section LAWC
variable {p : Program} {l : Launch} {e : Env} {s : State} {m : MethodId} {args : Array Value} {below : List Frame} {meth : Method} {c : Code} {cells slots : Nat} {Q : State → Prop} {D : va_G} {cA : Nat → ClassId} {adr : Nat → Nat} {A : Nat → Prop} {b L : Nat} {xs : Nat → Int32}
theorem lcase_0 (C : lCx p s m args c cells slots D cA adr A b L xs) {n : Nat} (hn : n + 6 ≤ L) {M : zM} {q q' : Int × zM} (h1 : f_X10_owner (lA xs n 1) M = some q) (h2 : f_X11_owner (lA xs n 1) q.2 = some q') (he : q.1 = q'.1) (hk : zS p l e room_1 s m args below meth c cells slots D cA adr A 4 Q (1418, lI n, [], q'.2)) : zS p l e room_1 s m args below meth c cells slots D cA adr A 4 Q (204, lI n, [], M) := by
  refine lS_run C 5 (cf' := (209, lI n, [zi ((n : Int) + 1), zr 90 25, zr 0 0], M)) rfl ?_
  refine l_ld C (j := 1) rfl rfl (by omega) ?_
  refine l_call C (k := 0) (as := [zi (lA xs n 1)]) (rest := []) (r := zi q.1) zmok_66 rfl rfl rfl (met_X10_owner (d := 400) (by omega) h1) ?_
  refine lS_run C 5 (cf' := (218, lI n, [zi ((n : Int) + 1), zr 90 25, zr 42 0, zi q.1], q.2)) rfl ?_
  refine l_ld C (j := 1) rfl rfl (by omega) ?_
  refine l_call C (k := 42) (as := [zi (lA xs n 1)]) (rest := [zi q.1]) (r := zi q'.1) zmok_124 rfl rfl rfl (met_X11_owner (d := 400) (by omega) h2) ?_
  exact l_br C (cf' := (1418, lI n, [], q'.2)) rfl (if_pos (congrArg zw he)) hk
theorem lcase_1 (C : lCx p s m args c cells slots D cA adr A b L xs) {n : Nat} (hn : n + 6 ≤ L) {M : zM} {q q' : Int × zM} (h1 : f_X10_thing (lA xs n 1) (lA xs n 2) (lA xs n 3) M = some q) (h2 : f_X11_thing (lA xs n 1) (lA xs n 2) (lA xs n 3) q.2 = some q') (he : q.1 = q'.1) (hk : zS p l e room_1 s m args below meth c cells slots D cA adr A 4 Q (1418, lI n, [], q'.2)) : zS p l e room_1 s m args below meth c cells slots D cA adr A 4 Q (227, lI n, [], M) := by
  refine lS_run C 5 (cf' := (232, lI n, [zi ((n : Int) + 1), zr 90 25, zr 0 0], M)) rfl ?_
  refine l_ld C (j := 1) rfl rfl (by omega) ?_
  refine lS_run C 4 (cf' := (237, lI n, [zi ((n : Int) + 2), zr 90 25, zi (lA xs n 1), zr 0 0], M)) rfl ?_
  refine l_ld C (j := 2) rfl rfl (by omega) ?_
  refine lS_run C 4 (cf' := (242, lI n, [zi ((n : Int) + 3), zr 90 25, zi (lA xs n 2), zi (lA xs n 1), zr 0 0], M)) rfl ?_
  refine l_ld C (j := 3) rfl rfl (by omega) ?_
  refine l_call C (k := 0) (as := [zi (lA xs n 1), zi (lA xs n 2), zi (lA xs n 3)]) (rest := []) (r := zi q.1) zmok_67 rfl rfl rfl (met_X10_thing (d := 400) (by omega) h1) ?_
  refine lS_run C 5 (cf' := (251, lI n, [zi ((n : Int) + 1), zr 90 25, zr 42 0, zi q.1], q.2)) rfl ?_
  refine l_ld C (j := 1) rfl rfl (by omega) ?_
  refine lS_run C 4 (cf' := (256, lI n, [zi ((n : Int) + 2), zr 90 25, zi (lA xs n 1), zr 42 0, zi q.1], q.2)) rfl ?_
  refine l_ld C (j := 2) rfl rfl (by omega) ?_
  refine lS_run C 4 (cf' := (261, lI n, [zi ((n : Int) + 3), zr 90 25, zi (lA xs n 2), zi (lA xs n 1), zr 42 0, zi q.1], q.2)) rfl ?_
  refine l_ld C (j := 3) rfl rfl (by omega) ?_
  refine l_call C (k := 42) (as := [zi (lA xs n 1), zi (lA xs n 2), zi (lA xs n 3)]) (rest := [zi q.1]) (r := zi q'.1) zmok_126 rfl rfl rfl (met_X11_thing (d := 400) (by omega) h2) ?_
  exact l_br C (cf' := (1418, lI n, [], q'.2)) rfl (if_pos (congrArg zw he)) hk
theorem lcase_2 (C : lCx p s m args c cells slots D cA adr A b L xs) {n : Nat} (hn : n + 6 ≤ L) {M : zM} {q q' : Int × zM} (h1 : f_X10_room (lA xs n 1) M = some q) (h2 : f_X11_room (lA xs n 1) q.2 = some q') (he : q.1 = q'.1) (hk : zS p l e room_1 s m args below meth c cells slots D cA adr A 4 Q (1418, lI n, [], q'.2)) : zS p l e room_1 s m args below meth c cells slots D cA adr A 4 Q (270, lI n, [], M) := by
  refine lS_run C 5 (cf' := (275, lI n, [zi ((n : Int) + 1), zr 90 25, zr 0 0], M)) rfl ?_
  refine l_ld C (j := 1) rfl rfl (by omega) ?_
  refine l_call C (k := 0) (as := [zi (lA xs n 1)]) (rest := []) (r := zi q.1) zmok_68 rfl rfl rfl (met_X10_room (d := 400) (by omega) h1) ?_
  refine lS_run C 5 (cf' := (284, lI n, [zi ((n : Int) + 1), zr 90 25, zr 42 0, zi q.1], q.2)) rfl ?_
  refine l_ld C (j := 1) rfl rfl (by omega) ?_
  refine l_call C (k := 42) (as := [zi (lA xs n 1)]) (rest := [zi q.1]) (r := zi q'.1) zmok_127 rfl rfl rfl (met_X11_room (d := 400) (by omega) h2) ?_
  exact l_br C (cf' := (1418, lI n, [], q'.2)) rfl (if_pos (congrArg zw he)) hk
theorem lcase_3 (C : lCx p s m args c cells slots D cA adr A b L xs) {n : Nat} (hn : n + 6 ≤ L) {M : zM} {q q' : Int × zM} (h1 : f_X10_steal (lA xs n 1) M = some q) (h2 : f_X11_steal (lA xs n 1) q.2 = some q') (he : q.1 = q'.1) (hk : zS p l e room_1 s m args below meth c cells slots D cA adr A 4 Q (1418, lI n, [], q'.2)) : zS p l e room_1 s m args below meth c cells slots D cA adr A 4 Q (293, lI n, [], M) := by
  refine lS_run C 5 (cf' := (298, lI n, [zi ((n : Int) + 1), zr 90 25, zr 0 0], M)) rfl ?_
  refine l_ld C (j := 1) rfl rfl (by omega) ?_
  refine l_call C (k := 0) (as := [zi (lA xs n 1)]) (rest := []) (r := zi q.1) zmok_69 rfl rfl rfl (met_X10_steal (d := 400) (by omega) h1) ?_
  refine lS_run C 5 (cf' := (307, lI n, [zi ((n : Int) + 1), zr 90 25, zr 42 0, zi q.1], q.2)) rfl ?_
  refine l_ld C (j := 1) rfl rfl (by omega) ?_
  refine l_call C (k := 42) (as := [zi (lA xs n 1)]) (rest := [zi q.1]) (r := zi q'.1) zmok_187 rfl rfl rfl (met_X11_steal (d := 400) (by omega) h2) ?_
  exact l_br C (cf' := (1418, lI n, [], q'.2)) rfl (if_pos (congrArg zw he)) hk
theorem lcase_4 (C : lCx p s m args c cells slots D cA adr A b L xs) {n : Nat} (hn : n + 6 ≤ L) {M : zM} {q q' : Int × zM} (h1 : f_X10_send (lA xs n 1) M = some q) (h2 : f_X11_send (lA xs n 1) q.2 = some q') (he : q.1 = q'.1) (hk : zS p l e room_1 s m args below meth c cells slots D cA adr A 4 Q (1418, lI n, [], q'.2)) : zS p l e room_1 s m args below meth c cells slots D cA adr A 4 Q (316, lI n, [], M) := by
  refine lS_run C 5 (cf' := (321, lI n, [zi ((n : Int) + 1), zr 90 25, zr 0 0], M)) rfl ?_
  refine l_ld C (j := 1) rfl rfl (by omega) ?_
  refine l_call C (k := 0) (as := [zi (lA xs n 1)]) (rest := []) (r := zi q.1) zmok_70 rfl rfl rfl (met_X10_send (d := 400) (by omega) h1) ?_
  refine lS_run C 5 (cf' := (330, lI n, [zi ((n : Int) + 1), zr 90 25, zr 42 0, zi q.1], q.2)) rfl ?_
  refine l_ld C (j := 1) rfl rfl (by omega) ?_
  refine l_call C (k := 42) (as := [zi (lA xs n 1)]) (rest := [zi q.1]) (r := zi q'.1) zmok_188 rfl rfl rfl (met_X11_send (d := 400) (by omega) h2) ?_
  exact l_br C (cf' := (1418, lI n, [], q'.2)) rfl (if_pos (congrArg zw he)) hk
theorem lcase_5 (C : lCx p s m args c cells slots D cA adr A b L xs) {n : Nat} (hn : n + 6 ≤ L) {M : zM} {q q' : Int × zM} (h1 : f_X10_give (lA xs n 1) (lA xs n 2) M = some q) (h2 : f_X11_give (lA xs n 1) (lA xs n 2) q.2 = some q') (he : q.1 = q'.1) (hk : zS p l e room_1 s m args below meth c cells slots D cA adr A 4 Q (1418, lI n, [], q'.2)) : zS p l e room_1 s m args below meth c cells slots D cA adr A 4 Q (339, lI n, [], M) := by
  refine lS_run C 5 (cf' := (344, lI n, [zi ((n : Int) + 1), zr 90 25, zr 0 0], M)) rfl ?_
  refine l_ld C (j := 1) rfl rfl (by omega) ?_
  refine lS_run C 4 (cf' := (349, lI n, [zi ((n : Int) + 2), zr 90 25, zi (lA xs n 1), zr 0 0], M)) rfl ?_
  refine l_ld C (j := 2) rfl rfl (by omega) ?_
  refine l_call C (k := 0) (as := [zi (lA xs n 1), zi (lA xs n 2)]) (rest := []) (r := zi q.1) zmok_71 rfl rfl rfl (met_X10_give (d := 400) (by omega) h1) ?_
  refine lS_run C 5 (cf' := (358, lI n, [zi ((n : Int) + 1), zr 90 25, zr 42 0, zi q.1], q.2)) rfl ?_
  refine l_ld C (j := 1) rfl rfl (by omega) ?_
  refine lS_run C 4 (cf' := (363, lI n, [zi ((n : Int) + 2), zr 90 25, zi (lA xs n 1), zr 42 0, zi q.1], q.2)) rfl ?_
  refine l_ld C (j := 2) rfl rfl (by omega) ?_
  refine l_call C (k := 42) (as := [zi (lA xs n 1), zi (lA xs n 2)]) (rest := [zi q.1]) (r := zi q'.1) zmok_189 rfl rfl rfl (met_X11_give (d := 400) (by omega) h2) ?_
  exact l_br C (cf' := (1418, lI n, [], q'.2)) rfl (if_pos (congrArg zw he)) hk
theorem lcase_6 (C : lCx p s m args c cells slots D cA adr A b L xs) {n : Nat} (hn : n + 6 ≤ L) {M : zM} {q q' : Int × zM} (h1 : f_X10_day (lA xs n 1) M = some q) (h2 : f_X11_day (lA xs n 1) q.2 = some q') (he : q.1 = q'.1) (hk : zS p l e room_1 s m args below meth c cells slots D cA adr A 4 Q (1418, lI n, [], q'.2)) : zS p l e room_1 s m args below meth c cells slots D cA adr A 4 Q (372, lI n, [], M) := by
  refine lS_run C 5 (cf' := (377, lI n, [zi ((n : Int) + 1), zr 90 25, zr 0 0], M)) rfl ?_
  refine l_ld C (j := 1) rfl rfl (by omega) ?_
  refine l_call C (k := 0) (as := [zi (lA xs n 1)]) (rest := []) (r := zi q.1) zmok_72 rfl rfl rfl (met_X10_day (d := 400) (by omega) h1) ?_
  refine lS_run C 5 (cf' := (386, lI n, [zi ((n : Int) + 1), zr 90 25, zr 42 0, zi q.1], q.2)) rfl ?_
  refine l_ld C (j := 1) rfl rfl (by omega) ?_
  refine l_call C (k := 42) (as := [zi (lA xs n 1)]) (rest := [zi q.1]) (r := zi q'.1) zmok_190 rfl rfl rfl (met_X11_day (d := 400) (by omega) h2) ?_
  exact l_br C (cf' := (1418, lI n, [], q'.2)) rfl (if_pos (congrArg zw he)) hk
theorem lcase_7 (C : lCx p s m args c cells slots D cA adr A b L xs) {n : Nat} (hn : n + 6 ≤ L) {M : zM} {q q' : Int × zM} (h1 : f_X10_decades (lA xs n 1) (lA xs n 2) M = some q) (h2 : f_X11_decades (lA xs n 1) (lA xs n 2) q.2 = some q') (he : q.1 = q'.1) (hk : zS p l e room_1 s m args below meth c cells slots D cA adr A 4 Q (1418, lI n, [], q'.2)) : zS p l e room_1 s m args below meth c cells slots D cA adr A 4 Q (395, lI n, [], M) := by
  refine lS_run C 5 (cf' := (400, lI n, [zi ((n : Int) + 1), zr 90 25, zr 0 0], M)) rfl ?_
  refine l_ld C (j := 1) rfl rfl (by omega) ?_
  refine lS_run C 4 (cf' := (405, lI n, [zi ((n : Int) + 2), zr 90 25, zi (lA xs n 1), zr 0 0], M)) rfl ?_
  refine l_ld C (j := 2) rfl rfl (by omega) ?_
  refine l_call C (k := 0) (as := [zi (lA xs n 1), zi (lA xs n 2)]) (rest := []) (r := zi q.1) zmok_73 rfl rfl rfl (met_X10_decades (d := 400) (by omega) h1) ?_
  refine lS_run C 5 (cf' := (414, lI n, [zi ((n : Int) + 1), zr 90 25, zr 42 0, zi q.1], q.2)) rfl ?_
  refine l_ld C (j := 1) rfl rfl (by omega) ?_
  refine lS_run C 4 (cf' := (419, lI n, [zi ((n : Int) + 2), zr 90 25, zi (lA xs n 1), zr 42 0, zi q.1], q.2)) rfl ?_
  refine l_ld C (j := 2) rfl rfl (by omega) ?_
  refine l_call C (k := 42) (as := [zi (lA xs n 1), zi (lA xs n 2)]) (rest := [zi q.1]) (r := zi q'.1) zmok_193 rfl rfl rfl (met_X11_decades (d := 400) (by omega) h2) ?_
  exact l_br C (cf' := (1418, lI n, [], q'.2)) rfl (if_pos (congrArg zw he)) hk
theorem lcase_8 (C : lCx p s m args c cells slots D cA adr A b L xs) {n : Nat} (hn : n + 6 ≤ L) {M : zM} {q q' : Int × zM} (h1 : f_X10_feed (lA xs n 1) (lA xs n 2) (lA xs n 3) (lA xs n 4) (lA xs n 5) M = some q) (h2 : f_X11_feed (lA xs n 1) (lA xs n 2) (lA xs n 3) (lA xs n 4) (lA xs n 5) q.2 = some q') (he : q.1 = q'.1) (hk : zS p l e room_1 s m args below meth c cells slots D cA adr A 4 Q (1418, lI n, [], q'.2)) : zS p l e room_1 s m args below meth c cells slots D cA adr A 4 Q (428, lI n, [], M) := by
  refine lS_run C 5 (cf' := (433, lI n, [zi ((n : Int) + 1), zr 90 25, zr 0 0], M)) rfl ?_
  refine l_ld C (j := 1) rfl rfl (by omega) ?_
  refine lS_run C 4 (cf' := (438, lI n, [zi ((n : Int) + 2), zr 90 25, zi (lA xs n 1), zr 0 0], M)) rfl ?_
  refine l_ld C (j := 2) rfl rfl (by omega) ?_
  refine lS_run C 4 (cf' := (443, lI n, [zi ((n : Int) + 3), zr 90 25, zi (lA xs n 2), zi (lA xs n 1), zr 0 0], M)) rfl ?_
  refine l_ld C (j := 3) rfl rfl (by omega) ?_
  refine lS_run C 4 (cf' := (448, lI n, [zi ((n : Int) + 4), zr 90 25, zi (lA xs n 3), zi (lA xs n 2), zi (lA xs n 1), zr 0 0], M)) rfl ?_
  refine l_ld C (j := 4) rfl rfl (by omega) ?_
  refine lS_run C 4 (cf' := (453, lI n, [zi ((n : Int) + 5), zr 90 25, zi (lA xs n 4), zi (lA xs n 3), zi (lA xs n 2), zi (lA xs n 1), zr 0 0], M)) rfl ?_
  refine l_ld C (j := 5) rfl rfl (by omega) ?_
  refine l_call C (k := 0) (as := [zi (lA xs n 1), zi (lA xs n 2), zi (lA xs n 3), zi (lA xs n 4), zi (lA xs n 5)]) (rest := []) (r := zi q.1) zmok_75 rfl rfl rfl (met_X10_feed (d := 400) (by omega) h1) ?_
  refine lS_run C 5 (cf' := (462, lI n, [zi ((n : Int) + 1), zr 90 25, zr 42 0, zi q.1], q.2)) rfl ?_
  refine l_ld C (j := 1) rfl rfl (by omega) ?_
  refine lS_run C 4 (cf' := (467, lI n, [zi ((n : Int) + 2), zr 90 25, zi (lA xs n 1), zr 42 0, zi q.1], q.2)) rfl ?_
  refine l_ld C (j := 2) rfl rfl (by omega) ?_
  refine lS_run C 4 (cf' := (472, lI n, [zi ((n : Int) + 3), zr 90 25, zi (lA xs n 2), zi (lA xs n 1), zr 42 0, zi q.1], q.2)) rfl ?_
  refine l_ld C (j := 3) rfl rfl (by omega) ?_
  refine lS_run C 4 (cf' := (477, lI n, [zi ((n : Int) + 4), zr 90 25, zi (lA xs n 3), zi (lA xs n 2), zi (lA xs n 1), zr 42 0, zi q.1], q.2)) rfl ?_
  refine l_ld C (j := 4) rfl rfl (by omega) ?_
  refine lS_run C 4 (cf' := (482, lI n, [zi ((n : Int) + 5), zr 90 25, zi (lA xs n 4), zi (lA xs n 3), zi (lA xs n 2), zi (lA xs n 1), zr 42 0, zi q.1], q.2)) rfl ?_
  refine l_ld C (j := 5) rfl rfl (by omega) ?_
  refine l_call C (k := 42) (as := [zi (lA xs n 1), zi (lA xs n 2), zi (lA xs n 3), zi (lA xs n 4), zi (lA xs n 5)]) (rest := [zi q.1]) (r := zi q'.1) zmok_131 rfl rfl rfl (met_X11_feed (d := 400) (by omega) h2) ?_
  exact l_br C (cf' := (1418, lI n, [], q'.2)) rfl (if_pos (congrArg zw he)) hk
theorem lcase_9 (C : lCx p s m args c cells slots D cA adr A b L xs) {n : Nat} (hn : n + 6 ≤ L) {M : zM} {q q' : Int × zM} (h1 : f_X10_end (lA xs n 1) M = some q) (h2 : f_X11_end (lA xs n 1) q.2 = some q') (he : q.1 = q'.1) (hk : zS p l e room_1 s m args below meth c cells slots D cA adr A 4 Q (1418, lI n, [], q'.2)) : zS p l e room_1 s m args below meth c cells slots D cA adr A 4 Q (491, lI n, [], M) := by
  refine lS_run C 5 (cf' := (496, lI n, [zi ((n : Int) + 1), zr 90 25, zr 0 0], M)) rfl ?_
  refine l_ld C (j := 1) rfl rfl (by omega) ?_
  refine l_call C (k := 0) (as := [zi (lA xs n 1)]) (rest := []) (r := zi q.1) zmok_76 rfl rfl rfl (met_X10_end (d := 400) (by omega) h1) ?_
  refine lS_run C 5 (cf' := (505, lI n, [zi ((n : Int) + 1), zr 90 25, zr 42 0, zi q.1], q.2)) rfl ?_
  refine l_ld C (j := 1) rfl rfl (by omega) ?_
  refine l_call C (k := 42) (as := [zi (lA xs n 1)]) (rest := [zi q.1]) (r := zi q'.1) zmok_132 rfl rfl rfl (met_X11_end (d := 400) (by omega) h2) ?_
  exact l_br C (cf' := (1418, lI n, [], q'.2)) rfl (if_pos (congrArg zw he)) hk
theorem lcase_10 (C : lCx p s m args c cells slots D cA adr A b L xs) {n : Nat} (hn : n + 6 ≤ L) {M : zM} {q q' : Int × zM} (h1 : f_X10_text  M = some q) (h2 : f_X11_text  q.2 = some q') (he : q.1 = q'.1) (hk : zS p l e room_1 s m args below meth c cells slots D cA adr A 4 Q (1418, lI n, [], q'.2)) : zS p l e room_1 s m args below meth c cells slots D cA adr A 4 Q (514, lI n, [], M) := by
  refine lS_run C 1 (cf' := (515, lI n, [zr 0 0], M)) rfl ?_
  refine l_call C (k := 0) (as := []) (rest := []) (r := zi q.1) zmok_77 rfl rfl rfl (met_X10_text (d := 400) (by omega) h1) ?_
  refine lS_run C 1 (cf' := (519, lI n, [zr 42 0, zi q.1], q.2)) rfl ?_
  refine l_call C (k := 42) (as := []) (rest := [zi q.1]) (r := zi q'.1) zmok_163 rfl rfl rfl (met_X11_text (d := 400) (by omega) h2) ?_
  exact l_br C (cf' := (1418, lI n, [], q'.2)) rfl (if_pos (congrArg zw he)) hk
theorem lcase_11 (C : lCx p s m args c cells slots D cA adr A b L xs) {n : Nat} (hn : n + 6 ≤ L) {M : zM} {q q' : Int × zM} (h1 : f_X10_fault (lA xs n 1) M = some q) (h2 : f_X11_fault (lA xs n 1) q.2 = some q') (he : q.1 = q'.1) (hk : zS p l e room_1 s m args below meth c cells slots D cA adr A 4 Q (1418, lI n, [], q'.2)) : zS p l e room_1 s m args below meth c cells slots D cA adr A 4 Q (527, lI n, [], M) := by
  refine lS_run C 5 (cf' := (532, lI n, [zi ((n : Int) + 1), zr 90 25, zr 0 0], M)) rfl ?_
  refine l_ld C (j := 1) rfl rfl (by omega) ?_
  refine l_call C (k := 0) (as := [zi (lA xs n 1)]) (rest := []) (r := zi q.1) zmok_78 rfl rfl rfl (met_X10_fault (d := 400) (by omega) h1) ?_
  refine lS_run C 5 (cf' := (541, lI n, [zi ((n : Int) + 1), zr 90 25, zr 42 0, zi q.1], q.2)) rfl ?_
  refine l_ld C (j := 1) rfl rfl (by omega) ?_
  refine l_call C (k := 42) (as := [zi (lA xs n 1)]) (rest := [zi q.1]) (r := zi q'.1) zmok_164 rfl rfl rfl (met_X11_fault (d := 400) (by omega) h2) ?_
  exact l_br C (cf' := (1418, lI n, [], q'.2)) rfl (if_pos (congrArg zw he)) hk
theorem lcase_12 (C : lCx p s m args c cells slots D cA adr A b L xs) {n : Nat} (hn : n + 6 ≤ L) {M : zM} {q q' : Int × zM} (h1 : f_X10_by (lA xs n 1) M = some q) (h2 : f_X11_by (lA xs n 1) q.2 = some q') (he : q.1 = q'.1) (hk : zS p l e room_1 s m args below meth c cells slots D cA adr A 4 Q (1418, lI n, [], q'.2)) : zS p l e room_1 s m args below meth c cells slots D cA adr A 4 Q (550, lI n, [], M) := by
  refine lS_run C 5 (cf' := (555, lI n, [zi ((n : Int) + 1), zr 90 25, zr 0 0], M)) rfl ?_
  refine l_ld C (j := 1) rfl rfl (by omega) ?_
  refine l_call C (k := 0) (as := [zi (lA xs n 1)]) (rest := []) (r := zi q.1) zmok_79 rfl rfl rfl (met_X10_by (d := 400) (by omega) h1) ?_
  refine lS_run C 5 (cf' := (564, lI n, [zi ((n : Int) + 1), zr 90 25, zr 42 0, zi q.1], q.2)) rfl ?_
  refine l_ld C (j := 1) rfl rfl (by omega) ?_
  refine l_call C (k := 42) (as := [zi (lA xs n 1)]) (rest := [zi q.1]) (r := zi q'.1) zmok_169 rfl rfl rfl (met_X11_by (d := 400) (by omega) h2) ?_
  exact l_br C (cf' := (1418, lI n, [], q'.2)) rfl (if_pos (congrArg zw he)) hk
theorem lcase_13 (C : lCx p s m args c cells slots D cA adr A b L xs) {n : Nat} (hn : n + 6 ≤ L) {M : zM} {q q' : Int × zM} (h1 : f_X10_played (lA xs n 1) M = some q) (h2 : f_X11_played (lA xs n 1) q.2 = some q') (he : q.1 = q'.1) (hk : zS p l e room_1 s m args below meth c cells slots D cA adr A 4 Q (1418, lI n, [], q'.2)) : zS p l e room_1 s m args below meth c cells slots D cA adr A 4 Q (573, lI n, [], M) := by
  refine lS_run C 5 (cf' := (578, lI n, [zi ((n : Int) + 1), zr 90 25, zr 0 0], M)) rfl ?_
  refine l_ld C (j := 1) rfl rfl (by omega) ?_
  refine l_call C (k := 0) (as := [zi (lA xs n 1)]) (rest := []) (r := zi q.1) zmok_80 rfl rfl rfl (met_X10_played (d := 400) (by omega) h1) ?_
  refine lS_run C 5 (cf' := (587, lI n, [zi ((n : Int) + 1), zr 90 25, zr 42 0, zi q.1], q.2)) rfl ?_
  refine l_ld C (j := 1) rfl rfl (by omega) ?_
  refine l_call C (k := 42) (as := [zi (lA xs n 1)]) (rest := [zi q.1]) (r := zi q'.1) zmok_195 rfl rfl rfl (met_X11_played (d := 400) (by omega) h2) ?_
  exact l_br C (cf' := (1418, lI n, [], q'.2)) rfl (if_pos (congrArg zw he)) hk
theorem lcase_14 (C : lCx p s m args c cells slots D cA adr A b L xs) {n : Nat} (hn : n + 6 ≤ L) {M : zM} {q q' : Int × zM} (h1 : f_X10_undo  M = some q) (h2 : f_X11_undo  q.2 = some q') (he : q.1 = q'.1) (hk : zS p l e room_1 s m args below meth c cells slots D cA adr A 4 Q (1418, lI n, [], q'.2)) : zS p l e room_1 s m args below meth c cells slots D cA adr A 4 Q (596, lI n, [], M) := by
  refine lS_run C 1 (cf' := (597, lI n, [zr 0 0], M)) rfl ?_
  refine l_call C (k := 0) (as := []) (rest := []) (r := zi q.1) zmok_74 rfl rfl rfl (met_X10_undo (d := 400) (by omega) h1) ?_
  refine lS_run C 1 (cf' := (601, lI n, [zr 42 0, zi q.1], q.2)) rfl ?_
  refine l_call C (k := 42) (as := []) (rest := [zi q.1]) (r := zi q'.1) zmok_129 rfl rfl rfl (met_X11_undo (d := 400) (by omega) h2) ?_
  exact l_br C (cf' := (1418, lI n, [], q'.2)) rfl (if_pos (congrArg zw he)) hk
theorem lcase_15 (C : lCx p s m args c cells slots D cA adr A b L xs) {n : Nat} (hn : n + 6 ≤ L) {M : zM} {q q' : Int × zM} (h1 : f_X10_ofOwner (lA xs n 1) (lA xs n 2) M = some q) (h2 : f_X11_ofOwner (lA xs n 1) (lA xs n 2) q.2 = some q') (he : q.1 = q'.1) (hk : zS p l e room_1 s m args below meth c cells slots D cA adr A 4 Q (1418, lI n, [], q'.2)) : zS p l e room_1 s m args below meth c cells slots D cA adr A 4 Q (609, lI n, [], M) := by
  refine lS_run C 5 (cf' := (614, lI n, [zi ((n : Int) + 1), zr 90 25, zr 0 0], M)) rfl ?_
  refine l_ld C (j := 1) rfl rfl (by omega) ?_
  refine lS_run C 4 (cf' := (619, lI n, [zi ((n : Int) + 2), zr 90 25, zi (lA xs n 1), zr 0 0], M)) rfl ?_
  refine l_ld C (j := 2) rfl rfl (by omega) ?_
  refine l_call C (k := 0) (as := [zi (lA xs n 1), zi (lA xs n 2)]) (rest := []) (r := zi q.1) zmok_82 rfl rfl rfl (met_X10_ofOwner (d := 400) (by omega) h1) ?_
  refine lS_run C 5 (cf' := (628, lI n, [zi ((n : Int) + 1), zr 90 25, zr 42 0, zi q.1], q.2)) rfl ?_
  refine l_ld C (j := 1) rfl rfl (by omega) ?_
  refine lS_run C 4 (cf' := (633, lI n, [zi ((n : Int) + 2), zr 90 25, zi (lA xs n 1), zr 42 0, zi q.1], q.2)) rfl ?_
  refine l_ld C (j := 2) rfl rfl (by omega) ?_
  refine l_call C (k := 42) (as := [zi (lA xs n 1), zi (lA xs n 2)]) (rest := [zi q.1]) (r := zi q'.1) zmok_196 rfl rfl rfl (met_X11_ofOwner (d := 400) (by omega) h2) ?_
  exact l_br C (cf' := (1418, lI n, [], q'.2)) rfl (if_pos (congrArg zw he)) hk
theorem lcase_16 (C : lCx p s m args c cells slots D cA adr A b L xs) {n : Nat} (hn : n + 6 ≤ L) {M : zM} {q q' : Int × zM} (h1 : f_X10_of (lA xs n 1) (lA xs n 2) M = some q) (h2 : f_X11_of (lA xs n 1) (lA xs n 2) q.2 = some q') (he : q.1 = q'.1) (hk : zS p l e room_1 s m args below meth c cells slots D cA adr A 4 Q (1418, lI n, [], q'.2)) : zS p l e room_1 s m args below meth c cells slots D cA adr A 4 Q (642, lI n, [], M) := by
  refine lS_run C 5 (cf' := (647, lI n, [zi ((n : Int) + 1), zr 90 25, zr 0 0], M)) rfl ?_
  refine l_ld C (j := 1) rfl rfl (by omega) ?_
  refine lS_run C 4 (cf' := (652, lI n, [zi ((n : Int) + 2), zr 90 25, zi (lA xs n 1), zr 0 0], M)) rfl ?_
  refine l_ld C (j := 2) rfl rfl (by omega) ?_
  refine l_call C (k := 0) (as := [zi (lA xs n 1), zi (lA xs n 2)]) (rest := []) (r := zi q.1) zmok_83 rfl rfl rfl (met_X10_of (d := 400) (by omega) h1) ?_
  refine lS_run C 5 (cf' := (661, lI n, [zi ((n : Int) + 1), zr 90 25, zr 42 0, zi q.1], q.2)) rfl ?_
  refine l_ld C (j := 1) rfl rfl (by omega) ?_
  refine lS_run C 4 (cf' := (666, lI n, [zi ((n : Int) + 2), zr 90 25, zi (lA xs n 1), zr 42 0, zi q.1], q.2)) rfl ?_
  refine l_ld C (j := 2) rfl rfl (by omega) ?_
  refine l_call C (k := 42) (as := [zi (lA xs n 1), zi (lA xs n 2)]) (rest := [zi q.1]) (r := zi q'.1) zmok_197 rfl rfl rfl (met_X11_of (d := 400) (by omega) h2) ?_
  exact l_br C (cf' := (1418, lI n, [], q'.2)) rfl (if_pos (congrArg zw he)) hk
theorem lcase_17 (C : lCx p s m args c cells slots D cA adr A b L xs) {n : Nat} (hn : n + 6 ≤ L) {M : zM} {q q' : Int × zM} (h1 : f_X10_law (lA xs n 1) (lA xs n 2) M = some q) (h2 : f_X11_law (lA xs n 1) (lA xs n 2) q.2 = some q') (he : q.1 = q'.1) (hk : zS p l e room_1 s m args below meth c cells slots D cA adr A 4 Q (1418, lI n, [], q'.2)) : zS p l e room_1 s m args below meth c cells slots D cA adr A 4 Q (675, lI n, [], M) := by
  refine lS_run C 5 (cf' := (680, lI n, [zi ((n : Int) + 1), zr 90 25, zr 0 0], M)) rfl ?_
  refine l_ld C (j := 1) rfl rfl (by omega) ?_
  refine lS_run C 4 (cf' := (685, lI n, [zi ((n : Int) + 2), zr 90 25, zi (lA xs n 1), zr 0 0], M)) rfl ?_
  refine l_ld C (j := 2) rfl rfl (by omega) ?_
  refine l_call C (k := 0) (as := [zi (lA xs n 1), zi (lA xs n 2)]) (rest := []) (r := zi q.1) zmok_84 rfl rfl rfl (met_X10_law (d := 400) (by omega) h1) ?_
  refine lS_run C 5 (cf' := (694, lI n, [zi ((n : Int) + 1), zr 90 25, zr 42 0, zi q.1], q.2)) rfl ?_
  refine l_ld C (j := 1) rfl rfl (by omega) ?_
  refine lS_run C 4 (cf' := (699, lI n, [zi ((n : Int) + 2), zr 90 25, zi (lA xs n 1), zr 42 0, zi q.1], q.2)) rfl ?_
  refine l_ld C (j := 2) rfl rfl (by omega) ?_
  refine l_call C (k := 42) (as := [zi (lA xs n 1), zi (lA xs n 2)]) (rest := [zi q.1]) (r := zi q'.1) zmok_198 rfl rfl rfl (met_X11_law (d := 400) (by omega) h2) ?_
  exact l_br C (cf' := (1418, lI n, [], q'.2)) rfl (if_pos (congrArg zw he)) hk
theorem lcase_18 (C : lCx p s m args c cells slots D cA adr A b L xs) {n : Nat} (hn : n + 6 ≤ L) {M : zM} {q q' : Int × zM} (h1 : f_X10_book (lA xs n 1) (lA xs n 2) M = some q) (h2 : f_X11_book (lA xs n 1) (lA xs n 2) q.2 = some q') (he : q.1 = q'.1) (hk : zS p l e room_1 s m args below meth c cells slots D cA adr A 4 Q (1418, lI n, [], q'.2)) : zS p l e room_1 s m args below meth c cells slots D cA adr A 4 Q (708, lI n, [], M) := by
  refine lS_run C 5 (cf' := (713, lI n, [zi ((n : Int) + 1), zr 90 25, zr 0 0], M)) rfl ?_
  refine l_ld C (j := 1) rfl rfl (by omega) ?_
  refine lS_run C 4 (cf' := (718, lI n, [zi ((n : Int) + 2), zr 90 25, zi (lA xs n 1), zr 0 0], M)) rfl ?_
  refine l_ld C (j := 2) rfl rfl (by omega) ?_
  refine l_call C (k := 0) (as := [zi (lA xs n 1), zi (lA xs n 2)]) (rest := []) (r := zi q.1) zmok_85 rfl rfl rfl (met_X10_book (d := 400) (by omega) h1) ?_
  refine lS_run C 5 (cf' := (727, lI n, [zi ((n : Int) + 1), zr 90 25, zr 42 0, zi q.1], q.2)) rfl ?_
  refine l_ld C (j := 1) rfl rfl (by omega) ?_
  refine lS_run C 4 (cf' := (732, lI n, [zi ((n : Int) + 2), zr 90 25, zi (lA xs n 1), zr 42 0, zi q.1], q.2)) rfl ?_
  refine l_ld C (j := 2) rfl rfl (by omega) ?_
  refine l_call C (k := 42) (as := [zi (lA xs n 1), zi (lA xs n 2)]) (rest := [zi q.1]) (r := zi q'.1) zmok_199 rfl rfl rfl (met_X11_book (d := 400) (by omega) h2) ?_
  exact l_br C (cf' := (1418, lI n, [], q'.2)) rfl (if_pos (congrArg zw he)) hk
theorem lcase_19 (C : lCx p s m args c cells slots D cA adr A b L xs) {n : Nat} (hn : n + 6 ≤ L) {M : zM} {q q' : Int × zM} (h1 : f_X10_foretold (lA xs n 1) (lA xs n 2) (lA xs n 3) M = some q) (h2 : f_X11_foretold (lA xs n 1) (lA xs n 2) (lA xs n 3) q.2 = some q') (he : q.1 = q'.1) (hk : zS p l e room_1 s m args below meth c cells slots D cA adr A 4 Q (1418, lI n, [], q'.2)) : zS p l e room_1 s m args below meth c cells slots D cA adr A 4 Q (741, lI n, [], M) := by
  refine lS_run C 5 (cf' := (746, lI n, [zi ((n : Int) + 1), zr 90 25, zr 0 0], M)) rfl ?_
  refine l_ld C (j := 1) rfl rfl (by omega) ?_
  refine lS_run C 4 (cf' := (751, lI n, [zi ((n : Int) + 2), zr 90 25, zi (lA xs n 1), zr 0 0], M)) rfl ?_
  refine l_ld C (j := 2) rfl rfl (by omega) ?_
  refine lS_run C 4 (cf' := (756, lI n, [zi ((n : Int) + 3), zr 90 25, zi (lA xs n 2), zi (lA xs n 1), zr 0 0], M)) rfl ?_
  refine l_ld C (j := 3) rfl rfl (by omega) ?_
  refine l_call C (k := 0) (as := [zi (lA xs n 1), zi (lA xs n 2), zi (lA xs n 3)]) (rest := []) (r := zi q.1) zmok_87 rfl rfl rfl (met_X10_foretold (d := 400) (by omega) h1) ?_
  refine lS_run C 5 (cf' := (765, lI n, [zi ((n : Int) + 1), zr 90 25, zr 42 0, zi q.1], q.2)) rfl ?_
  refine l_ld C (j := 1) rfl rfl (by omega) ?_
  refine lS_run C 4 (cf' := (770, lI n, [zi ((n : Int) + 2), zr 90 25, zi (lA xs n 1), zr 42 0, zi q.1], q.2)) rfl ?_
  refine l_ld C (j := 2) rfl rfl (by omega) ?_
  refine lS_run C 4 (cf' := (775, lI n, [zi ((n : Int) + 3), zr 90 25, zi (lA xs n 2), zi (lA xs n 1), zr 42 0, zi q.1], q.2)) rfl ?_
  refine l_ld C (j := 3) rfl rfl (by omega) ?_
  refine l_call C (k := 42) (as := [zi (lA xs n 1), zi (lA xs n 2), zi (lA xs n 3)]) (rest := [zi q.1]) (r := zi q'.1) zmok_200 rfl rfl rfl (met_X11_foretold (d := 400) (by omega) h2) ?_
  exact l_br C (cf' := (1418, lI n, [], q'.2)) rfl (if_pos (congrArg zw he)) hk
theorem lcase_20 (C : lCx p s m args c cells slots D cA adr A b L xs) {n : Nat} (hn : n + 6 ≤ L) {M : zM} {q q' : Int × zM} (h1 : f_X10_pence (lA xs n 1) (lA xs n 2) M = some q) (h2 : f_X11_pence (lA xs n 1) (lA xs n 2) q.2 = some q') (he : q.1 = q'.1) (hk : zS p l e room_1 s m args below meth c cells slots D cA adr A 4 Q (1418, lI n, [], q'.2)) : zS p l e room_1 s m args below meth c cells slots D cA adr A 4 Q (784, lI n, [], M) := by
  refine lS_run C 5 (cf' := (789, lI n, [zi ((n : Int) + 1), zr 90 25, zr 0 0], M)) rfl ?_
  refine l_ld C (j := 1) rfl rfl (by omega) ?_
  refine lS_run C 4 (cf' := (794, lI n, [zi ((n : Int) + 2), zr 90 25, zi (lA xs n 1), zr 0 0], M)) rfl ?_
  refine l_ld C (j := 2) rfl rfl (by omega) ?_
  refine l_call C (k := 0) (as := [zi (lA xs n 1), zi (lA xs n 2)]) (rest := []) (r := zi q.1) zmok_88 rfl rfl rfl (met_X10_pence (d := 400) (by omega) h1) ?_
  refine lS_run C 5 (cf' := (803, lI n, [zi ((n : Int) + 1), zr 90 25, zr 42 0, zi q.1], q.2)) rfl ?_
  refine l_ld C (j := 1) rfl rfl (by omega) ?_
  refine lS_run C 4 (cf' := (808, lI n, [zi ((n : Int) + 2), zr 90 25, zi (lA xs n 1), zr 42 0, zi q.1], q.2)) rfl ?_
  refine l_ld C (j := 2) rfl rfl (by omega) ?_
  refine l_call C (k := 42) (as := [zi (lA xs n 1), zi (lA xs n 2)]) (rest := [zi q.1]) (r := zi q'.1) zmok_201 rfl rfl rfl (met_X11_pence (d := 400) (by omega) h2) ?_
  exact l_br C (cf' := (1418, lI n, [], q'.2)) rfl (if_pos (congrArg zw he)) hk
theorem lcase_21 (C : lCx p s m args c cells slots D cA adr A b L xs) {n : Nat} (hn : n + 6 ≤ L) {M : zM} {q q' : Int × zM} (h1 : f_X10_plan (lA xs n 1) (lA xs n 2) M = some q) (h2 : f_X11_plan (lA xs n 1) (lA xs n 2) q.2 = some q') (he : q.1 = q'.1) (hk : zS p l e room_1 s m args below meth c cells slots D cA adr A 4 Q (1418, lI n, [], q'.2)) : zS p l e room_1 s m args below meth c cells slots D cA adr A 4 Q (817, lI n, [], M) := by
  refine lS_run C 5 (cf' := (822, lI n, [zi ((n : Int) + 1), zr 90 25, zr 0 0], M)) rfl ?_
  refine l_ld C (j := 1) rfl rfl (by omega) ?_
  refine lS_run C 4 (cf' := (827, lI n, [zi ((n : Int) + 2), zr 90 25, zi (lA xs n 1), zr 0 0], M)) rfl ?_
  refine l_ld C (j := 2) rfl rfl (by omega) ?_
  refine l_call C (k := 0) (as := [zi (lA xs n 1), zi (lA xs n 2)]) (rest := []) (r := zi q.1) zmok_90 rfl rfl rfl (met_X10_plan (d := 400) (by omega) h1) ?_
  refine lS_run C 5 (cf' := (836, lI n, [zi ((n : Int) + 1), zr 90 25, zr 42 0, zi q.1], q.2)) rfl ?_
  refine l_ld C (j := 1) rfl rfl (by omega) ?_
  refine lS_run C 4 (cf' := (841, lI n, [zi ((n : Int) + 2), zr 90 25, zi (lA xs n 1), zr 42 0, zi q.1], q.2)) rfl ?_
  refine l_ld C (j := 2) rfl rfl (by omega) ?_
  refine l_call C (k := 42) (as := [zi (lA xs n 1), zi (lA xs n 2)]) (rest := [zi q.1]) (r := zi q'.1) zmok_202 rfl rfl rfl (met_X11_plan (d := 400) (by omega) h2) ?_
  exact l_br C (cf' := (1418, lI n, [], q'.2)) rfl (if_pos (congrArg zw he)) hk
theorem lcase_22 (C : lCx p s m args c cells slots D cA adr A b L xs) {n : Nat} (hn : n + 6 ≤ L) {M : zM} {q q' : Int × zM} (h1 : f_X10_first  M = some q) (h2 : f_X11_first  q.2 = some q') (he : q.1 = q'.1) (hk : zS p l e room_1 s m args below meth c cells slots D cA adr A 4 Q (1418, lI n, [], q'.2)) : zS p l e room_1 s m args below meth c cells slots D cA adr A 4 Q (850, lI n, [], M) := by
  refine lS_run C 1 (cf' := (851, lI n, [zr 0 0], M)) rfl ?_
  refine l_call C (k := 0) (as := []) (rest := []) (r := zi q.1) zmok_91 rfl rfl rfl (met_X10_first (d := 400) (by omega) h1) ?_
  refine lS_run C 1 (cf' := (855, lI n, [zr 42 0, zi q.1], q.2)) rfl ?_
  refine l_call C (k := 42) (as := []) (rest := [zi q.1]) (r := zi q'.1) zmok_203 rfl rfl rfl (met_X11_first (d := 400) (by omega) h2) ?_
  exact l_br C (cf' := (1418, lI n, [], q'.2)) rfl (if_pos (congrArg zw he)) hk
theorem lcase_23 (C : lCx p s m args c cells slots D cA adr A b L xs) {n : Nat} (hn : n + 6 ≤ L) {M : zM} {q q' : Int × zM} (h1 : f_X10_fewest (lA xs n 1) (lA xs n 2) (lA xs n 3) (lA xs n 4) M = some q) (h2 : f_X11_fewest (lA xs n 1) (lA xs n 2) (lA xs n 3) (lA xs n 4) q.2 = some q') (he : q.1 = q'.1) (hk : zS p l e room_1 s m args below meth c cells slots D cA adr A 4 Q (1418, lI n, [], q'.2)) : zS p l e room_1 s m args below meth c cells slots D cA adr A 4 Q (863, lI n, [], M) := by
  refine lS_run C 5 (cf' := (868, lI n, [zi ((n : Int) + 1), zr 90 25, zr 0 0], M)) rfl ?_
  refine l_ld C (j := 1) rfl rfl (by omega) ?_
  refine lS_run C 4 (cf' := (873, lI n, [zi ((n : Int) + 2), zr 90 25, zi (lA xs n 1), zr 0 0], M)) rfl ?_
  refine l_ld C (j := 2) rfl rfl (by omega) ?_
  refine lS_run C 4 (cf' := (878, lI n, [zi ((n : Int) + 3), zr 90 25, zi (lA xs n 2), zi (lA xs n 1), zr 0 0], M)) rfl ?_
  refine l_ld C (j := 3) rfl rfl (by omega) ?_
  refine lS_run C 4 (cf' := (883, lI n, [zi ((n : Int) + 4), zr 90 25, zi (lA xs n 3), zi (lA xs n 2), zi (lA xs n 1), zr 0 0], M)) rfl ?_
  refine l_ld C (j := 4) rfl rfl (by omega) ?_
  refine l_call C (k := 0) (as := [zi (lA xs n 1), zi (lA xs n 2), zi (lA xs n 3), zi (lA xs n 4)]) (rest := []) (r := zi q.1) zmok_93 rfl rfl rfl (met_X10_fewest (d := 400) (by omega) h1) ?_
  refine lS_run C 5 (cf' := (892, lI n, [zi ((n : Int) + 1), zr 90 25, zr 42 0, zi q.1], q.2)) rfl ?_
  refine l_ld C (j := 1) rfl rfl (by omega) ?_
  refine lS_run C 4 (cf' := (897, lI n, [zi ((n : Int) + 2), zr 90 25, zi (lA xs n 1), zr 42 0, zi q.1], q.2)) rfl ?_
  refine l_ld C (j := 2) rfl rfl (by omega) ?_
  refine lS_run C 4 (cf' := (902, lI n, [zi ((n : Int) + 3), zr 90 25, zi (lA xs n 2), zi (lA xs n 1), zr 42 0, zi q.1], q.2)) rfl ?_
  refine l_ld C (j := 3) rfl rfl (by omega) ?_
  refine lS_run C 4 (cf' := (907, lI n, [zi ((n : Int) + 4), zr 90 25, zi (lA xs n 3), zi (lA xs n 2), zi (lA xs n 1), zr 42 0, zi q.1], q.2)) rfl ?_
  refine l_ld C (j := 4) rfl rfl (by omega) ?_
  refine l_call C (k := 42) (as := [zi (lA xs n 1), zi (lA xs n 2), zi (lA xs n 3), zi (lA xs n 4)]) (rest := [zi q.1]) (r := zi q'.1) zmok_207 rfl rfl rfl (met_X11_fewest (d := 400) (by omega) h2) ?_
  exact l_br C (cf' := (1418, lI n, [], q'.2)) rfl (if_pos (congrArg zw he)) hk
theorem lcase_24 (C : lCx p s m args c cells slots D cA adr A b L xs) {n : Nat} (hn : n + 6 ≤ L) {M : zM} {q q' : Int × zM} (h1 : f_X10_worth (lA xs n 1) M = some q) (h2 : f_X11_worth (lA xs n 1) q.2 = some q') (he : q.1 = q'.1) (hk : zS p l e room_1 s m args below meth c cells slots D cA adr A 4 Q (1418, lI n, [], q'.2)) : zS p l e room_1 s m args below meth c cells slots D cA adr A 4 Q (916, lI n, [], M) := by
  refine lS_run C 5 (cf' := (921, lI n, [zi ((n : Int) + 1), zr 90 25, zr 0 0], M)) rfl ?_
  refine l_ld C (j := 1) rfl rfl (by omega) ?_
  refine l_call C (k := 0) (as := [zi (lA xs n 1)]) (rest := []) (r := zi q.1) zmok_94 rfl rfl rfl (met_X10_worth (d := 400) (by omega) h1) ?_
  refine lS_run C 5 (cf' := (930, lI n, [zi ((n : Int) + 1), zr 90 25, zr 42 0, zi q.1], q.2)) rfl ?_
  refine l_ld C (j := 1) rfl rfl (by omega) ?_
  refine l_call C (k := 42) (as := [zi (lA xs n 1)]) (rest := [zi q.1]) (r := zi q'.1) zmok_208 rfl rfl rfl (met_X11_worth (d := 400) (by omega) h2) ?_
  exact l_br C (cf' := (1418, lI n, [], q'.2)) rfl (if_pos (congrArg zw he)) hk
theorem lcase_25 (C : lCx p s m args c cells slots D cA adr A b L xs) {n : Nat} (hn : n + 6 ≤ L) {M : zM} {q q' : Int × zM} (h1 : f_X10_whose (lA xs n 1) M = some q) (h2 : f_X11_whose (lA xs n 1) q.2 = some q') (he : q.1 = q'.1) (hk : zS p l e room_1 s m args below meth c cells slots D cA adr A 4 Q (1418, lI n, [], q'.2)) : zS p l e room_1 s m args below meth c cells slots D cA adr A 4 Q (939, lI n, [], M) := by
  refine lS_run C 5 (cf' := (944, lI n, [zi ((n : Int) + 1), zr 90 25, zr 0 0], M)) rfl ?_
  refine l_ld C (j := 1) rfl rfl (by omega) ?_
  refine l_call C (k := 0) (as := [zi (lA xs n 1)]) (rest := []) (r := zi q.1) zmok_95 rfl rfl rfl (met_X10_whose (d := 400) (by omega) h1) ?_
  refine lS_run C 5 (cf' := (953, lI n, [zi ((n : Int) + 1), zr 90 25, zr 42 0, zi q.1], q.2)) rfl ?_
  refine l_ld C (j := 1) rfl rfl (by omega) ?_
  refine l_call C (k := 42) (as := [zi (lA xs n 1)]) (rest := [zi q.1]) (r := zi q'.1) zmok_210 rfl rfl rfl (met_X11_whose (d := 400) (by omega) h2) ?_
  exact l_br C (cf' := (1418, lI n, [], q'.2)) rfl (if_pos (congrArg zw he)) hk
theorem lcase_26 (C : lCx p s m args c cells slots D cA adr A b L xs) {n : Nat} (hn : n + 6 ≤ L) {M : zM} {q q' : Int × zM} (h1 : f_X10_twice  M = some q) (h2 : f_X11_twice  q.2 = some q') (he : q.1 = q'.1) (hk : zS p l e room_1 s m args below meth c cells slots D cA adr A 4 Q (1418, lI n, [], q'.2)) : zS p l e room_1 s m args below meth c cells slots D cA adr A 4 Q (962, lI n, [], M) := by
  refine lS_run C 1 (cf' := (963, lI n, [zr 0 0], M)) rfl ?_
  refine l_call C (k := 0) (as := []) (rest := []) (r := zi q.1) zmok_96 rfl rfl rfl (met_X10_twice (d := 400) (by omega) h1) ?_
  refine lS_run C 1 (cf' := (967, lI n, [zr 42 0, zi q.1], q.2)) rfl ?_
  refine l_call C (k := 42) (as := []) (rest := [zi q.1]) (r := zi q'.1) zmok_211 rfl rfl rfl (met_X11_twice (d := 400) (by omega) h2) ?_
  exact l_br C (cf' := (1418, lI n, [], q'.2)) rfl (if_pos (congrArg zw he)) hk
theorem lcase_27 (C : lCx p s m args c cells slots D cA adr A b L xs) {n : Nat} (hn : n + 6 ≤ L) {M : zM} {q q' : Int × zM} (h1 : f_X10_since (lA xs n 1) (lA xs n 2) (lA xs n 3) (lB (lA xs n 4)) M = some q) (h2 : f_X11_since (lA xs n 1) (lA xs n 2) (lA xs n 3) (lB (lA xs n 4)) q.2 = some q') (he : q.1 = q'.1) (hk : zS p l e room_1 s m args below meth c cells slots D cA adr A 4 Q (1418, lI n, [], q'.2)) : zS p l e room_1 s m args below meth c cells slots D cA adr A 4 Q (975, lI n, [], M) := by
  refine lS_run C 5 (cf' := (980, lI n, [zi ((n : Int) + 1), zr 90 25, zr 0 0], M)) rfl ?_
  refine l_ld C (j := 1) rfl rfl (by omega) ?_
  refine lS_run C 4 (cf' := (985, lI n, [zi ((n : Int) + 2), zr 90 25, zi (lA xs n 1), zr 0 0], M)) rfl ?_
  refine l_ld C (j := 2) rfl rfl (by omega) ?_
  refine lS_run C 4 (cf' := (990, lI n, [zi ((n : Int) + 3), zr 90 25, zi (lA xs n 2), zi (lA xs n 1), zr 0 0], M)) rfl ?_
  refine l_ld C (j := 3) rfl rfl (by omega) ?_
  refine lS_run C 4 (cf' := (995, lI n, [zi ((n : Int) + 4), zr 90 25, zi (lA xs n 3), zi (lA xs n 2), zi (lA xs n 1), zr 0 0], M)) rfl ?_
  refine l_ld C (j := 4) rfl rfl (by omega) ?_
  refine l_bool C rfl rfl rfl rfl ?_
  refine l_call C (k := 0) (as := [zi (lA xs n 1), zi (lA xs n 2), zi (lA xs n 3), zi (lB (lA xs n 4))]) (rest := []) (r := zi q.1) zmok_97 rfl rfl rfl (met_X10_since (d := 400) (by omega) h1) ?_
  refine lS_run C 5 (cf' := (1012, lI n, [zi ((n : Int) + 1), zr 90 25, zr 42 0, zi q.1], q.2)) rfl ?_
  refine l_ld C (j := 1) rfl rfl (by omega) ?_
  refine lS_run C 4 (cf' := (1017, lI n, [zi ((n : Int) + 2), zr 90 25, zi (lA xs n 1), zr 42 0, zi q.1], q.2)) rfl ?_
  refine l_ld C (j := 2) rfl rfl (by omega) ?_
  refine lS_run C 4 (cf' := (1022, lI n, [zi ((n : Int) + 3), zr 90 25, zi (lA xs n 2), zi (lA xs n 1), zr 42 0, zi q.1], q.2)) rfl ?_
  refine l_ld C (j := 3) rfl rfl (by omega) ?_
  refine lS_run C 4 (cf' := (1027, lI n, [zi ((n : Int) + 4), zr 90 25, zi (lA xs n 3), zi (lA xs n 2), zi (lA xs n 1), zr 42 0, zi q.1], q.2)) rfl ?_
  refine l_ld C (j := 4) rfl rfl (by omega) ?_
  refine l_bool C rfl rfl rfl rfl ?_
  refine l_call C (k := 42) (as := [zi (lA xs n 1), zi (lA xs n 2), zi (lA xs n 3), zi (lB (lA xs n 4))]) (rest := [zi q.1]) (r := zi q'.1) zmok_212 rfl rfl rfl (met_X11_since (d := 400) (by omega) h2) ?_
  exact l_br C (cf' := (1418, lI n, [], q'.2)) rfl (if_pos (congrArg zw he)) hk
theorem lcase_28 (C : lCx p s m args c cells slots D cA adr A b L xs) {n : Nat} (hn : n + 6 ≤ L) {M : zM} {q q' : Int × zM} (h1 : f_X10_bargain (lA xs n 1) (lA xs n 2) (lA xs n 3) (lB (lA xs n 4)) M = some q) (h2 : f_X11_bargain (lA xs n 1) (lA xs n 2) (lA xs n 3) (lB (lA xs n 4)) q.2 = some q') (he : q.1 = q'.1) (hk : zS p l e room_1 s m args below meth c cells slots D cA adr A 4 Q (1418, lI n, [], q'.2)) : zS p l e room_1 s m args below meth c cells slots D cA adr A 4 Q (1044, lI n, [], M) := by
  refine lS_run C 5 (cf' := (1049, lI n, [zi ((n : Int) + 1), zr 90 25, zr 0 0], M)) rfl ?_
  refine l_ld C (j := 1) rfl rfl (by omega) ?_
  refine lS_run C 4 (cf' := (1054, lI n, [zi ((n : Int) + 2), zr 90 25, zi (lA xs n 1), zr 0 0], M)) rfl ?_
  refine l_ld C (j := 2) rfl rfl (by omega) ?_
  refine lS_run C 4 (cf' := (1059, lI n, [zi ((n : Int) + 3), zr 90 25, zi (lA xs n 2), zi (lA xs n 1), zr 0 0], M)) rfl ?_
  refine l_ld C (j := 3) rfl rfl (by omega) ?_
  refine lS_run C 4 (cf' := (1064, lI n, [zi ((n : Int) + 4), zr 90 25, zi (lA xs n 3), zi (lA xs n 2), zi (lA xs n 1), zr 0 0], M)) rfl ?_
  refine l_ld C (j := 4) rfl rfl (by omega) ?_
  refine l_bool C rfl rfl rfl rfl ?_
  refine l_call C (k := 0) (as := [zi (lA xs n 1), zi (lA xs n 2), zi (lA xs n 3), zi (lB (lA xs n 4))]) (rest := []) (r := zi q.1) zmok_98 rfl rfl rfl (met_X10_bargain (d := 400) (by omega) h1) ?_
  refine lS_run C 5 (cf' := (1081, lI n, [zi ((n : Int) + 1), zr 90 25, zr 42 0, zi q.1], q.2)) rfl ?_
  refine l_ld C (j := 1) rfl rfl (by omega) ?_
  refine lS_run C 4 (cf' := (1086, lI n, [zi ((n : Int) + 2), zr 90 25, zi (lA xs n 1), zr 42 0, zi q.1], q.2)) rfl ?_
  refine l_ld C (j := 2) rfl rfl (by omega) ?_
  refine lS_run C 4 (cf' := (1091, lI n, [zi ((n : Int) + 3), zr 90 25, zi (lA xs n 2), zi (lA xs n 1), zr 42 0, zi q.1], q.2)) rfl ?_
  refine l_ld C (j := 3) rfl rfl (by omega) ?_
  refine lS_run C 4 (cf' := (1096, lI n, [zi ((n : Int) + 4), zr 90 25, zi (lA xs n 3), zi (lA xs n 2), zi (lA xs n 1), zr 42 0, zi q.1], q.2)) rfl ?_
  refine l_ld C (j := 4) rfl rfl (by omega) ?_
  refine l_bool C rfl rfl rfl rfl ?_
  refine l_call C (k := 42) (as := [zi (lA xs n 1), zi (lA xs n 2), zi (lA xs n 3), zi (lB (lA xs n 4))]) (rest := [zi q.1]) (r := zi q'.1) zmok_213 rfl rfl rfl (met_X11_bargain (d := 400) (by omega) h2) ?_
  exact l_br C (cf' := (1418, lI n, [], q'.2)) rfl (if_pos (congrArg zw he)) hk
theorem lcase_29 (C : lCx p s m args c cells slots D cA adr A b L xs) {n : Nat} (hn : n + 6 ≤ L) {M : zM} {q q' : Int × zM} (h1 : f_X10_vote (lA xs n 1) M = some q) (h2 : f_X11_vote (lA xs n 1) q.2 = some q') (he : q.1 = q'.1) (hk : zS p l e room_1 s m args below meth c cells slots D cA adr A 4 Q (1418, lI n, [], q'.2)) : zS p l e room_1 s m args below meth c cells slots D cA adr A 4 Q (1113, lI n, [], M) := by
  refine lS_run C 5 (cf' := (1118, lI n, [zi ((n : Int) + 1), zr 90 25, zr 0 0], M)) rfl ?_
  refine l_ld C (j := 1) rfl rfl (by omega) ?_
  refine l_call C (k := 0) (as := [zi (lA xs n 1)]) (rest := []) (r := zi q.1) zmok_99 rfl rfl rfl (met_X10_vote (d := 400) (by omega) h1) ?_
  refine lS_run C 5 (cf' := (1127, lI n, [zi ((n : Int) + 1), zr 90 25, zr 42 0, zi q.1], q.2)) rfl ?_
  refine l_ld C (j := 1) rfl rfl (by omega) ?_
  refine l_call C (k := 42) (as := [zi (lA xs n 1)]) (rest := [zi q.1]) (r := zi q'.1) zmok_214 rfl rfl rfl (met_X11_vote (d := 400) (by omega) h2) ?_
  exact l_br C (cf' := (1418, lI n, [], q'.2)) rfl (if_pos (congrArg zw he)) hk
theorem lcase_30 (C : lCx p s m args c cells slots D cA adr A b L xs) {n : Nat} (hn : n + 6 ≤ L) {M : zM} {q q' : Int × zM} (h1 : f_X10_voted (lB (lA xs n 1)) M = some q) (h2 : f_X11_voted (lB (lA xs n 1)) q.2 = some q') (he : q.1 = q'.1) (hk : zS p l e room_1 s m args below meth c cells slots D cA adr A 4 Q (1418, lI n, [], q'.2)) : zS p l e room_1 s m args below meth c cells slots D cA adr A 4 Q (1136, lI n, [], M) := by
  refine lS_run C 5 (cf' := (1141, lI n, [zi ((n : Int) + 1), zr 90 25, zr 0 0], M)) rfl ?_
  refine l_ld C (j := 1) rfl rfl (by omega) ?_
  refine l_bool C rfl rfl rfl rfl ?_
  refine l_call C (k := 0) (as := [zi (lB (lA xs n 1))]) (rest := []) (r := zi q.1) zmok_100 rfl rfl rfl (met_X10_voted (d := 400) (by omega) h1) ?_
  refine lS_run C 5 (cf' := (1158, lI n, [zi ((n : Int) + 1), zr 90 25, zr 42 0, zi q.1], q.2)) rfl ?_
  refine l_ld C (j := 1) rfl rfl (by omega) ?_
  refine l_bool C rfl rfl rfl rfl ?_
  refine l_call C (k := 42) (as := [zi (lB (lA xs n 1))]) (rest := [zi q.1]) (r := zi q'.1) zmok_216 rfl rfl rfl (met_X11_voted (d := 400) (by omega) h2) ?_
  exact l_br C (cf' := (1418, lI n, [], q'.2)) rfl (if_pos (congrArg zw he)) hk
theorem lcase_31 (C : lCx p s m args c cells slots D cA adr A b L xs) {n : Nat} (hn : n + 6 ≤ L) {M : zM} {q q' : Int × zM} (h1 : f_X10_lying (lA xs n 1) (lB (lA xs n 2)) M = some q) (h2 : f_X11_lying (lA xs n 1) (lB (lA xs n 2)) q.2 = some q') (he : q.1 = q'.1) (hk : zS p l e room_1 s m args below meth c cells slots D cA adr A 4 Q (1418, lI n, [], q'.2)) : zS p l e room_1 s m args below meth c cells slots D cA adr A 4 Q (1175, lI n, [], M) := by
  refine lS_run C 5 (cf' := (1180, lI n, [zi ((n : Int) + 1), zr 90 25, zr 0 0], M)) rfl ?_
  refine l_ld C (j := 1) rfl rfl (by omega) ?_
  refine lS_run C 4 (cf' := (1185, lI n, [zi ((n : Int) + 2), zr 90 25, zi (lA xs n 1), zr 0 0], M)) rfl ?_
  refine l_ld C (j := 2) rfl rfl (by omega) ?_
  refine l_bool C rfl rfl rfl rfl ?_
  refine l_call C (k := 0) (as := [zi (lA xs n 1), zi (lB (lA xs n 2))]) (rest := []) (r := zi q.1) zmok_101 rfl rfl rfl (met_X10_lying (d := 400) (by omega) h1) ?_
  refine lS_run C 5 (cf' := (1202, lI n, [zi ((n : Int) + 1), zr 90 25, zr 42 0, zi q.1], q.2)) rfl ?_
  refine l_ld C (j := 1) rfl rfl (by omega) ?_
  refine lS_run C 4 (cf' := (1207, lI n, [zi ((n : Int) + 2), zr 90 25, zi (lA xs n 1), zr 42 0, zi q.1], q.2)) rfl ?_
  refine l_ld C (j := 2) rfl rfl (by omega) ?_
  refine l_bool C rfl rfl rfl rfl ?_
  refine l_call C (k := 42) (as := [zi (lA xs n 1), zi (lB (lA xs n 2))]) (rest := [zi q.1]) (r := zi q'.1) zmok_218 rfl rfl rfl (met_X11_lying (d := 400) (by omega) h2) ?_
  exact l_br C (cf' := (1418, lI n, [], q'.2)) rfl (if_pos (congrArg zw he)) hk
theorem lcase_32 (C : lCx p s m args c cells slots D cA adr A b L xs) {n : Nat} (hn : n + 6 ≤ L) {M : zM} {q q' : Int × zM} (h1 : f_X10_seen (lA xs n 1) (lA xs n 2) (lB (lA xs n 3)) M = some q) (h2 : f_X11_seen (lA xs n 1) (lA xs n 2) (lB (lA xs n 3)) q.2 = some q') (he : q.1 = q'.1) (hk : zS p l e room_1 s m args below meth c cells slots D cA adr A 4 Q (1418, lI n, [], q'.2)) : zS p l e room_1 s m args below meth c cells slots D cA adr A 4 Q (1224, lI n, [], M) := by
  refine lS_run C 5 (cf' := (1229, lI n, [zi ((n : Int) + 1), zr 90 25, zr 0 0], M)) rfl ?_
  refine l_ld C (j := 1) rfl rfl (by omega) ?_
  refine lS_run C 4 (cf' := (1234, lI n, [zi ((n : Int) + 2), zr 90 25, zi (lA xs n 1), zr 0 0], M)) rfl ?_
  refine l_ld C (j := 2) rfl rfl (by omega) ?_
  refine lS_run C 4 (cf' := (1239, lI n, [zi ((n : Int) + 3), zr 90 25, zi (lA xs n 2), zi (lA xs n 1), zr 0 0], M)) rfl ?_
  refine l_ld C (j := 3) rfl rfl (by omega) ?_
  refine l_bool C rfl rfl rfl rfl ?_
  refine l_call C (k := 0) (as := [zi (lA xs n 1), zi (lA xs n 2), zi (lB (lA xs n 3))]) (rest := []) (r := zi q.1) zmok_102 rfl rfl rfl (met_X10_seen (d := 400) (by omega) h1) ?_
  refine lS_run C 5 (cf' := (1256, lI n, [zi ((n : Int) + 1), zr 90 25, zr 42 0, zi q.1], q.2)) rfl ?_
  refine l_ld C (j := 1) rfl rfl (by omega) ?_
  refine lS_run C 4 (cf' := (1261, lI n, [zi ((n : Int) + 2), zr 90 25, zi (lA xs n 1), zr 42 0, zi q.1], q.2)) rfl ?_
  refine l_ld C (j := 2) rfl rfl (by omega) ?_
  refine lS_run C 4 (cf' := (1266, lI n, [zi ((n : Int) + 3), zr 90 25, zi (lA xs n 2), zi (lA xs n 1), zr 42 0, zi q.1], q.2)) rfl ?_
  refine l_ld C (j := 3) rfl rfl (by omega) ?_
  refine l_bool C rfl rfl rfl rfl ?_
  refine l_call C (k := 42) (as := [zi (lA xs n 1), zi (lA xs n 2), zi (lB (lA xs n 3))]) (rest := [zi q.1]) (r := zi q'.1) zmok_219 rfl rfl rfl (met_X11_seen (d := 400) (by omega) h2) ?_
  exact l_br C (cf' := (1418, lI n, [], q'.2)) rfl (if_pos (congrArg zw he)) hk
theorem lcase_33 (C : lCx p s m args c cells slots D cA adr A b L xs) {n : Nat} (hn : n + 6 ≤ L) {M : zM} {q q' : Int × zM} (h1 : f_X10_rule  M = some q) (h2 : f_X11_rule  q.2 = some q') (he : q.1 = q'.1) (hk : zS p l e room_1 s m args below meth c cells slots D cA adr A 4 Q (1418, lI n, [], q'.2)) : zS p l e room_1 s m args below meth c cells slots D cA adr A 4 Q (1283, lI n, [], M) := by
  refine lS_run C 1 (cf' := (1284, lI n, [zr 0 0], M)) rfl ?_
  refine l_call C (k := 0) (as := []) (rest := []) (r := zi q.1) zmok_103 rfl rfl rfl (met_X10_rule (d := 400) (by omega) h1) ?_
  refine lS_run C 1 (cf' := (1288, lI n, [zr 42 0, zi q.1], q.2)) rfl ?_
  refine l_call C (k := 42) (as := []) (rest := [zi q.1]) (r := zi q'.1) zmok_221 rfl rfl rfl (met_X11_rule (d := 400) (by omega) h2) ?_
  exact l_br C (cf' := (1418, lI n, [], q'.2)) rfl (if_pos (congrArg zw he)) hk
theorem lcase_34 (C : lCx p s m args c cells slots D cA adr A b L xs) {n : Nat} (hn : n + 6 ≤ L) {M : zM} {q q' : Int × zM} (h1 : f_X10_odds (lA xs n 1) (lA xs n 2) (lB (lA xs n 3)) M = some q) (h2 : f_X11_odds (lA xs n 1) (lA xs n 2) (lB (lA xs n 3)) q.2 = some q') (he : q.1 = q'.1) (hk : zS p l e room_1 s m args below meth c cells slots D cA adr A 4 Q (1418, lI n, [], q'.2)) : zS p l e room_1 s m args below meth c cells slots D cA adr A 4 Q (1296, lI n, [], M) := by
  refine lS_run C 5 (cf' := (1301, lI n, [zi ((n : Int) + 1), zr 90 25, zr 0 0], M)) rfl ?_
  refine l_ld C (j := 1) rfl rfl (by omega) ?_
  refine lS_run C 4 (cf' := (1306, lI n, [zi ((n : Int) + 2), zr 90 25, zi (lA xs n 1), zr 0 0], M)) rfl ?_
  refine l_ld C (j := 2) rfl rfl (by omega) ?_
  refine lS_run C 4 (cf' := (1311, lI n, [zi ((n : Int) + 3), zr 90 25, zi (lA xs n 2), zi (lA xs n 1), zr 0 0], M)) rfl ?_
  refine l_ld C (j := 3) rfl rfl (by omega) ?_
  refine l_bool C rfl rfl rfl rfl ?_
  refine l_call C (k := 0) (as := [zi (lA xs n 1), zi (lA xs n 2), zi (lB (lA xs n 3))]) (rest := []) (r := zl q.1) zmok_104 rfl rfl rfl (met_X10_odds (d := 400) (by omega) h1) ?_
  refine lS_run C 5 (cf' := (1328, lI n, [zi ((n : Int) + 1), zr 90 25, zr 42 0, zl q.1], q.2)) rfl ?_
  refine l_ld C (j := 1) rfl rfl (by omega) ?_
  refine lS_run C 4 (cf' := (1333, lI n, [zi ((n : Int) + 2), zr 90 25, zi (lA xs n 1), zr 42 0, zl q.1], q.2)) rfl ?_
  refine l_ld C (j := 2) rfl rfl (by omega) ?_
  refine lS_run C 4 (cf' := (1338, lI n, [zi ((n : Int) + 3), zr 90 25, zi (lA xs n 2), zi (lA xs n 1), zr 42 0, zl q.1], q.2)) rfl ?_
  refine l_ld C (j := 3) rfl rfl (by omega) ?_
  refine l_bool C rfl rfl rfl rfl ?_
  refine l_call C (k := 42) (as := [zi (lA xs n 1), zi (lA xs n 2), zi (lB (lA xs n 3))]) (rest := [zl q.1]) (r := zl q'.1) zmok_224 rfl rfl rfl (met_X11_odds (d := 400) (by omega) h2) ?_
  refine l_br C (cf' := (1351, lI n, [zi 0], q'.2)) rfl (by show some _ = some _; rw [he, zlcmp_self]) ?_
  exact l_br C (cf' := (1418, lI n, [], q'.2)) rfl rfl hk
theorem lcase_35 (C : lCx p s m args c cells slots D cA adr A b L xs) {n : Nat} (hn : n + 6 ≤ L) {M : zM} {q q' : Int × zM} (h1 : f_X10_early  M = some q) (h2 : f_X11_early  q.2 = some q') (he : q.1 = q'.1) (hk : zS p l e room_1 s m args below meth c cells slots D cA adr A 4 Q (1418, lI n, [], q'.2)) : zS p l e room_1 s m args below meth c cells slots D cA adr A 4 Q (1356, lI n, [], M) := by
  refine lS_run C 1 (cf' := (1357, lI n, [zr 0 0], M)) rfl ?_
  refine l_call C (k := 0) (as := []) (rest := []) (r := zi q.1) zmok_105 rfl rfl rfl (met_X10_early (d := 400) (by omega) h1) ?_
  refine lS_run C 1 (cf' := (1361, lI n, [zr 42 0, zi q.1], q.2)) rfl ?_
  refine l_call C (k := 42) (as := []) (rest := [zi q.1]) (r := zi q'.1) zmok_225 rfl rfl rfl (met_X11_early (d := 400) (by omega) h2) ?_
  exact l_br C (cf' := (1418, lI n, [], q'.2)) rfl (if_pos (congrArg zw he)) hk
theorem lcase_36 (C : lCx p s m args c cells slots D cA adr A b L xs) {n : Nat} (hn : n + 6 ≤ L) {M : zM} {q q' : Int × zM} (h1 : f_X10_image  M = some q) (h2 : f_X11_image  q.2 = some q') (he : q.1 = q'.1) (hk : zS p l e room_1 s m args below meth c cells slots D cA adr A 4 Q (1418, lI n, [], q'.2)) : zS p l e room_1 s m args below meth c cells slots D cA adr A 4 Q (1369, lI n, [], M) := by
  refine lS_run C 1 (cf' := (1370, lI n, [zr 0 0], M)) rfl ?_
  refine l_call C (k := 0) (as := []) (rest := []) (r := zi q.1) zmok_106 rfl rfl rfl (met_X10_image (d := 400) (by omega) h1) ?_
  refine lS_run C 1 (cf' := (1374, lI n, [zr 42 0, zi q.1], q.2)) rfl ?_
  refine l_call C (k := 42) (as := []) (rest := [zi q.1]) (r := zi q'.1) zmok_226 rfl rfl rfl (met_X11_image (d := 400) (by omega) h2) ?_
  exact l_br C (cf' := (1418, lI n, [], q'.2)) rfl (if_pos (congrArg zw he)) hk
theorem lcase_37 (C : lCx p s m args c cells slots D cA adr A b L xs) {n : Nat} (hn : n + 6 ≤ L) {M : zM} {q q' : Int × zM} (h1 : f_X10_back  M = some q) (h2 : f_X11_back  q.2 = some q') (he : q.1 = q'.1) (hk : zS p l e room_1 s m args below meth c cells slots D cA adr A 4 Q (1418, lI n, [], q'.2)) : zS p l e room_1 s m args below meth c cells slots D cA adr A 4 Q (1382, lI n, [], M) := by
  refine lS_run C 1 (cf' := (1383, lI n, [zr 0 0], M)) rfl ?_
  refine l_call C (k := 0) (as := []) (rest := []) (r := zi q.1) zmok_107 rfl rfl rfl (met_X10_back (d := 400) (by omega) h1) ?_
  refine lS_run C 1 (cf' := (1387, lI n, [zr 42 0, zi q.1], q.2)) rfl ?_
  refine l_call C (k := 42) (as := []) (rest := [zi q.1]) (r := zi q'.1) zmok_227 rfl rfl rfl (met_X11_back (d := 400) (by omega) h2) ?_
  exact l_br C (cf' := (1418, lI n, [], q'.2)) rfl (if_pos (congrArg zw he)) hk
theorem lcase_38 (C : lCx p s m args c cells slots D cA adr A b L xs) {n : Nat} (hn : n + 6 ≤ L) {M : zM} {q q' : Int × zM} (h1 : f_X10_about (lA xs n 1) M = some q) (h2 : f_X11_about (lA xs n 1) q.2 = some q') (he : q.1 = q'.1) (hk : zS p l e room_1 s m args below meth c cells slots D cA adr A 4 Q (1418, lI n, [], q'.2)) : zS p l e room_1 s m args below meth c cells slots D cA adr A 4 Q (1395, lI n, [], M) := by
  refine lS_run C 5 (cf' := (1400, lI n, [zi ((n : Int) + 1), zr 90 25, zr 0 0], M)) rfl ?_
  refine l_ld C (j := 1) rfl rfl (by omega) ?_
  refine l_call C (k := 0) (as := [zi (lA xs n 1)]) (rest := []) (r := zi q.1) zmok_86 rfl rfl rfl (met_X10_about (d := 400) (by omega) h1) ?_
  refine lS_run C 5 (cf' := (1409, lI n, [zi ((n : Int) + 1), zr 90 25, zr 42 0, zi q.1], q.2)) rfl ?_
  refine l_ld C (j := 1) rfl rfl (by omega) ?_
  refine l_call C (k := 42) (as := [zi (lA xs n 1)]) (rest := [zi q.1]) (r := zi q'.1) zmok_228 rfl rfl rfl (met_X11_about (d := 400) (by omega) h2) ?_
  exact l_br C (cf' := (1418, lI n, [], q'.2)) rfl (if_pos (congrArg zw he)) hk
end LAWC
/-- the calls of the law: of the class, of the reference -/
def lawX (k : Nat) (a : Nat → Int) (M : zM) : Option (Int × zM) := match k with
  | 0 => f_X10_owner (a 1) M
  | 1 => f_X10_thing (a 1) (a 2) (a 3) M
  | 2 => f_X10_room (a 1) M
  | 3 => f_X10_steal (a 1) M
  | 4 => f_X10_send (a 1) M
  | 5 => f_X10_give (a 1) (a 2) M
  | 6 => f_X10_day (a 1) M
  | 7 => f_X10_decades (a 1) (a 2) M
  | 8 => f_X10_feed (a 1) (a 2) (a 3) (a 4) (a 5) M
  | 9 => f_X10_end (a 1) M
  | 10 => f_X10_text  M
  | 11 => f_X10_fault (a 1) M
  | 12 => f_X10_by (a 1) M
  | 13 => f_X10_played (a 1) M
  | 14 => f_X10_undo  M
  | 15 => f_X10_ofOwner (a 1) (a 2) M
  | 16 => f_X10_of (a 1) (a 2) M
  | 17 => f_X10_law (a 1) (a 2) M
  | 18 => f_X10_book (a 1) (a 2) M
  | 19 => f_X10_foretold (a 1) (a 2) (a 3) M
  | 20 => f_X10_pence (a 1) (a 2) M
  | 21 => f_X10_plan (a 1) (a 2) M
  | 22 => f_X10_first  M
  | 23 => f_X10_fewest (a 1) (a 2) (a 3) (a 4) M
  | 24 => f_X10_worth (a 1) M
  | 25 => f_X10_whose (a 1) M
  | 26 => f_X10_twice  M
  | 27 => f_X10_since (a 1) (a 2) (a 3) (lB (a 4)) M
  | 28 => f_X10_bargain (a 1) (a 2) (a 3) (lB (a 4)) M
  | 29 => f_X10_vote (a 1) M
  | 30 => f_X10_voted (lB (a 1)) M
  | 31 => f_X10_lying (a 1) (lB (a 2)) M
  | 32 => f_X10_seen (a 1) (a 2) (lB (a 3)) M
  | 33 => f_X10_rule  M
  | 34 => f_X10_odds (a 1) (a 2) (lB (a 3)) M
  | 35 => f_X10_early  M
  | 36 => f_X10_image  M
  | 37 => f_X10_back  M
  | 38 => f_X10_about (a 1) M
  | _ => none
def lawR (k : Nat) (a : Nat → Int) (M : zM) : Option (Int × zM) := match k with
  | 0 => f_X11_owner (a 1) M
  | 1 => f_X11_thing (a 1) (a 2) (a 3) M
  | 2 => f_X11_room (a 1) M
  | 3 => f_X11_steal (a 1) M
  | 4 => f_X11_send (a 1) M
  | 5 => f_X11_give (a 1) (a 2) M
  | 6 => f_X11_day (a 1) M
  | 7 => f_X11_decades (a 1) (a 2) M
  | 8 => f_X11_feed (a 1) (a 2) (a 3) (a 4) (a 5) M
  | 9 => f_X11_end (a 1) M
  | 10 => f_X11_text  M
  | 11 => f_X11_fault (a 1) M
  | 12 => f_X11_by (a 1) M
  | 13 => f_X11_played (a 1) M
  | 14 => f_X11_undo  M
  | 15 => f_X11_ofOwner (a 1) (a 2) M
  | 16 => f_X11_of (a 1) (a 2) M
  | 17 => f_X11_law (a 1) (a 2) M
  | 18 => f_X11_book (a 1) (a 2) M
  | 19 => f_X11_foretold (a 1) (a 2) (a 3) M
  | 20 => f_X11_pence (a 1) (a 2) M
  | 21 => f_X11_plan (a 1) (a 2) M
  | 22 => f_X11_first  M
  | 23 => f_X11_fewest (a 1) (a 2) (a 3) (a 4) M
  | 24 => f_X11_worth (a 1) M
  | 25 => f_X11_whose (a 1) M
  | 26 => f_X11_twice  M
  | 27 => f_X11_since (a 1) (a 2) (a 3) (lB (a 4)) M
  | 28 => f_X11_bargain (a 1) (a 2) (a 3) (lB (a 4)) M
  | 29 => f_X11_vote (a 1) M
  | 30 => f_X11_voted (lB (a 1)) M
  | 31 => f_X11_lying (a 1) (lB (a 2)) M
  | 32 => f_X11_seen (a 1) (a 2) (lB (a 3)) M
  | 33 => f_X11_rule  M
  | 34 => f_X11_odds (a 1) (a 2) (lB (a 3)) M
  | 35 => f_X11_early  M
  | 36 => f_X11_image  M
  | 37 => f_X11_back  M
  | 38 => f_X11_about (a 1) M
  | _ => none
