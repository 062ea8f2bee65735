/-! text: the reference's next TOKEN -/
set_option maxRecDepth 8000 in
set_option maxHeartbeats 2000000 in
theorem zln {a b : Int} (ha : 0 ≤ a ∧ a < 9000000000000) (h : a ≠ b) : ¬ zw (zlcmp (zwl a) b) = 0 := by
  rw [zwl_id (by omega) (by omega)]
  exact fun z => h (zlc_eq.mp z)
set_option maxRecDepth 8000 in
set_option maxHeartbeats 2000000 in
theorem zly {a b : Int} (ha : 0 ≤ a ∧ a < 9000000000000) (h : a = b) : ¬ ¬ zw (zlcmp (zwl a) b) = 0 := by
  rw [zwl_id (by omega) (by omega)]
  exact fun z => z (zlc_eq.mpr h)
set_option maxRecDepth 8000 in
set_option maxHeartbeats 2000000 in
theorem R_wo_0 {v : Int} {N : zM} (h : v = 613817523) : f_X11_wordOf v N = some (0, N) := by
  have hv : 0 ≤ v ∧ v < 9000000000000 := by omega
  unfold f_X11_wordOf
  exact if_neg (zly hv h)
set_option maxRecDepth 8000 in
set_option maxHeartbeats 2000000 in
theorem R_wo_1 {v : Int} {N : zM} (h : v = 563825010) : f_X11_wordOf v N = some (1, N) := by
  have hv : 0 ≤ v ∧ v < 9000000000000 := by omega
  unfold f_X11_wordOf
  refine (if_pos (zln hv (by omega))).trans ?_
  exact if_neg (zly hv h)
set_option maxRecDepth 8000 in
set_option maxHeartbeats 2000000 in
theorem R_wo_2 {v : Int} {N : zM} (h : v = 3375) : f_X11_wordOf v N = some (2, N) := by
  have hv : 0 ≤ v ∧ v < 9000000000000 := by omega
  unfold f_X11_wordOf
  refine (if_pos (zln hv (by omega))).trans ?_
  refine (if_pos (zln hv (by omega))).trans ?_
  exact if_neg (zly hv h)
set_option maxRecDepth 8000 in
set_option maxHeartbeats 2000000 in
theorem R_wo_3 {v : Int} {N : zM} (h : v = 37357021683) : f_X11_wordOf v N = some (3, N) := by
  have hv : 0 ≤ v ∧ v < 9000000000000 := by omega
  unfold f_X11_wordOf
  refine (if_pos (zln hv (by omega))).trans ?_
  refine (if_pos (zln hv (by omega))).trans ?_
  refine (if_pos (zln hv (by omega))).trans ?_
  exact if_neg (zly hv h)
set_option maxRecDepth 8000 in
set_option maxHeartbeats 2000000 in
theorem R_wo_4 {v : Int} {N : zM} (h : v = 803137906) : f_X11_wordOf v N = some (4, N) := by
  have hv : 0 ≤ v ∧ v < 9000000000000 := by omega
  unfold f_X11_wordOf
  refine (if_pos (zln hv (by omega))).trans ?_
  refine (if_pos (zln hv (by omega))).trans ?_
  refine (if_pos (zln hv (by omega))).trans ?_
  refine (if_pos (zln hv (by omega))).trans ?_
  exact if_neg (zly hv h)
set_option maxRecDepth 8000 in
set_option maxHeartbeats 2000000 in
theorem R_wo_5 {v : Int} {N : zM} (h : v = 883071911) : f_X11_wordOf v N = some (5, N) := by
  have hv : 0 ≤ v ∧ v < 9000000000000 := by omega
  unfold f_X11_wordOf
  refine (if_pos (zln hv (by omega))).trans ?_
  refine (if_pos (zln hv (by omega))).trans ?_
  refine (if_pos (zln hv (by omega))).trans ?_
  refine (if_pos (zln hv (by omega))).trans ?_
  refine (if_pos (zln hv (by omega))).trans ?_
  exact if_neg (zly hv h)
set_option maxRecDepth 8000 in
set_option maxHeartbeats 2000000 in
theorem R_wo_6 {v : Int} {N : zM} (h : v = 13302765) : f_X11_wordOf v N = some (6, N) := by
  have hv : 0 ≤ v ∧ v < 9000000000000 := by omega
  unfold f_X11_wordOf
  refine (if_pos (zln hv (by omega))).trans ?_
  refine (if_pos (zln hv (by omega))).trans ?_
  refine (if_pos (zln hv (by omega))).trans ?_
  refine (if_pos (zln hv (by omega))).trans ?_
  refine (if_pos (zln hv (by omega))).trans ?_
  refine (if_pos (zln hv (by omega))).trans ?_
  exact if_neg (zly hv h)
set_option maxRecDepth 8000 in
set_option maxHeartbeats 2000000 in
theorem R_wo_7 {v : Int} {N : zM} (h : v = 869423212) : f_X11_wordOf v N = some (7, N) := by
  have hv : 0 ≤ v ∧ v < 9000000000000 := by omega
  unfold f_X11_wordOf
  refine (if_pos (zln hv (by omega))).trans ?_
  refine (if_pos (zln hv (by omega))).trans ?_
  refine (if_pos (zln hv (by omega))).trans ?_
  refine (if_pos (zln hv (by omega))).trans ?_
  refine (if_pos (zln hv (by omega))).trans ?_
  refine (if_pos (zln hv (by omega))).trans ?_
  refine (if_pos (zln hv (by omega))).trans ?_
  exact if_neg (zly hv h)
set_option maxRecDepth 8000 in
set_option maxHeartbeats 2000000 in
theorem R_wo_8 {v : Int} {N : zM} (h : v = 13523876) : f_X11_wordOf v N = some (8, N) := by
  have hv : 0 ≤ v ∧ v < 9000000000000 := by omega
  unfold f_X11_wordOf
  refine (if_pos (zln hv (by omega))).trans ?_
  refine (if_pos (zln hv (by omega))).trans ?_
  refine (if_pos (zln hv (by omega))).trans ?_
  refine (if_pos (zln hv (by omega))).trans ?_
  refine (if_pos (zln hv (by omega))).trans ?_
  refine (if_pos (zln hv (by omega))).trans ?_
  refine (if_pos (zln hv (by omega))).trans ?_
  refine (if_pos (zln hv (by omega))).trans ?_
  exact if_neg (zly hv h)
set_option maxRecDepth 8000 in
set_option maxHeartbeats 2000000 in
theorem R_wo_9 {v : Int} {N : zM} (h : v = 10395045) : f_X11_wordOf v N = some (9, N) := by
  have hv : 0 ≤ v ∧ v < 9000000000000 := by omega
  unfold f_X11_wordOf
  refine (if_pos (zln hv (by omega))).trans ?_
  refine (if_pos (zln hv (by omega))).trans ?_
  refine (if_pos (zln hv (by omega))).trans ?_
  refine (if_pos (zln hv (by omega))).trans ?_
  refine (if_pos (zln hv (by omega))).trans ?_
  refine (if_pos (zln hv (by omega))).trans ?_
  refine (if_pos (zln hv (by omega))).trans ?_
  refine (if_pos (zln hv (by omega))).trans ?_
  refine (if_pos (zln hv (by omega))).trans ?_
  exact if_neg (zly hv h)
set_option maxRecDepth 8000 in
set_option maxHeartbeats 2000000 in
theorem R_wo_10 {v : Int} {N : zM} (h : v = 149625) : f_X11_wordOf v N = some (10, N) := by
  have hv : 0 ≤ v ∧ v < 9000000000000 := by omega
  unfold f_X11_wordOf
  refine (if_pos (zln hv (by omega))).trans ?_
  refine (if_pos (zln hv (by omega))).trans ?_
  refine (if_pos (zln hv (by omega))).trans ?_
  refine (if_pos (zln hv (by omega))).trans ?_
  refine (if_pos (zln hv (by omega))).trans ?_
  refine (if_pos (zln hv (by omega))).trans ?_
  refine (if_pos (zln hv (by omega))).trans ?_
  refine (if_pos (zln hv (by omega))).trans ?_
  refine (if_pos (zln hv (by omega))).trans ?_
  refine (if_pos (zln hv (by omega))).trans ?_
  exact if_neg (zly hv h)
set_option maxRecDepth 8000 in
set_option maxHeartbeats 2000000 in
theorem R_wo_11 {v : Int} {N : zM} (h : v = 3046) : f_X11_wordOf v N = some (11, N) := by
  have hv : 0 ≤ v ∧ v < 9000000000000 := by omega
  unfold f_X11_wordOf
  refine (if_pos (zln hv (by omega))).trans ?_
  refine (if_pos (zln hv (by omega))).trans ?_
  refine (if_pos (zln hv (by omega))).trans ?_
  refine (if_pos (zln hv (by omega))).trans ?_
  refine (if_pos (zln hv (by omega))).trans ?_
  refine (if_pos (zln hv (by omega))).trans ?_
  refine (if_pos (zln hv (by omega))).trans ?_
  refine (if_pos (zln hv (by omega))).trans ?_
  refine (if_pos (zln hv (by omega))).trans ?_
  refine (if_pos (zln hv (by omega))).trans ?_
  refine (if_pos (zln hv (by omega))).trans ?_
  exact if_neg (zly hv h)
set_option maxRecDepth 8000 in
set_option maxHeartbeats 2000000 in
theorem R_wo_12 {v : Int} {N : zM} (h : v = 9132843) : f_X11_wordOf v N = some (12, N) := by
  have hv : 0 ≤ v ∧ v < 9000000000000 := by omega
  unfold f_X11_wordOf
  refine (if_pos (zln hv (by omega))).trans ?_
  refine (if_pos (zln hv (by omega))).trans ?_
  refine (if_pos (zln hv (by omega))).trans ?_
  refine (if_pos (zln hv (by omega))).trans ?_
  refine (if_pos (zln hv (by omega))).trans ?_
  refine (if_pos (zln hv (by omega))).trans ?_
  refine (if_pos (zln hv (by omega))).trans ?_
  refine (if_pos (zln hv (by omega))).trans ?_
  refine (if_pos (zln hv (by omega))).trans ?_
  refine (if_pos (zln hv (by omega))).trans ?_
  refine (if_pos (zln hv (by omega))).trans ?_
  refine (if_pos (zln hv (by omega))).trans ?_
  exact if_neg (zly hv h)
set_option maxRecDepth 8000 in
set_option maxHeartbeats 2000000 in
theorem R_wo_13 {v : Int} {N : zM} (h : v = 11688372) : f_X11_wordOf v N = some (13, N) := by
  have hv : 0 ≤ v ∧ v < 9000000000000 := by omega
  unfold f_X11_wordOf
  refine (if_pos (zln hv (by omega))).trans ?_
  refine (if_pos (zln hv (by omega))).trans ?_
  refine (if_pos (zln hv (by omega))).trans ?_
  refine (if_pos (zln hv (by omega))).trans ?_
  refine (if_pos (zln hv (by omega))).trans ?_
  refine (if_pos (zln hv (by omega))).trans ?_
  refine (if_pos (zln hv (by omega))).trans ?_
  refine (if_pos (zln hv (by omega))).trans ?_
  refine (if_pos (zln hv (by omega))).trans ?_
  refine (if_pos (zln hv (by omega))).trans ?_
  refine (if_pos (zln hv (by omega))).trans ?_
  refine (if_pos (zln hv (by omega))).trans ?_
  refine (if_pos (zln hv (by omega))).trans ?_
  exact if_neg (zly hv h)
set_option maxRecDepth 8000 in
set_option maxHeartbeats 2000000 in
theorem R_wo_14 {v : Int} {N : zM} (h : v = 2662) : f_X11_wordOf v N = some (14, N) := by
  have hv : 0 ≤ v ∧ v < 9000000000000 := by omega
  unfold f_X11_wordOf
  refine (if_pos (zln hv (by omega))).trans ?_
  refine (if_pos (zln hv (by omega))).trans ?_
  refine (if_pos (zln hv (by omega))).trans ?_
  refine (if_pos (zln hv (by omega))).trans ?_
  refine (if_pos (zln hv (by omega))).trans ?_
  refine (if_pos (zln hv (by omega))).trans ?_
  refine (if_pos (zln hv (by omega))).trans ?_
  refine (if_pos (zln hv (by omega))).trans ?_
  refine (if_pos (zln hv (by omega))).trans ?_
  refine (if_pos (zln hv (by omega))).trans ?_
  refine (if_pos (zln hv (by omega))).trans ?_
  refine (if_pos (zln hv (by omega))).trans ?_
  refine (if_pos (zln hv (by omega))).trans ?_
  refine (if_pos (zln hv (by omega))).trans ?_
  exact if_neg (zly hv h)
set_option maxRecDepth 8000 in
set_option maxHeartbeats 2000000 in
theorem R_wo_15 {v : Int} {N : zM} (h : v = 13797742) : f_X11_wordOf v N = some (15, N) := by
  have hv : 0 ≤ v ∧ v < 9000000000000 := by omega
  unfold f_X11_wordOf
  refine (if_pos (zln hv (by omega))).trans ?_
  refine (if_pos (zln hv (by omega))).trans ?_
  refine (if_pos (zln hv (by omega))).trans ?_
  refine (if_pos (zln hv (by omega))).trans ?_
  refine (if_pos (zln hv (by omega))).trans ?_
  refine (if_pos (zln hv (by omega))).trans ?_
  refine (if_pos (zln hv (by omega))).trans ?_
  refine (if_pos (zln hv (by omega))).trans ?_
  refine (if_pos (zln hv (by omega))).trans ?_
  refine (if_pos (zln hv (by omega))).trans ?_
  refine (if_pos (zln hv (by omega))).trans ?_
  refine (if_pos (zln hv (by omega))).trans ?_
  refine (if_pos (zln hv (by omega))).trans ?_
  refine (if_pos (zln hv (by omega))).trans ?_
  refine (if_pos (zln hv (by omega))).trans ?_
  exact if_neg (zly hv h)
set_option maxRecDepth 8000 in
set_option maxHeartbeats 2000000 in
theorem R_wo_16 {v : Int} {N : zM} (h : v = 9882853) : f_X11_wordOf v N = some (16, N) := by
  have hv : 0 ≤ v ∧ v < 9000000000000 := by omega
  unfold f_X11_wordOf
  refine (if_pos (zln hv (by omega))).trans ?_
  refine (if_pos (zln hv (by omega))).trans ?_
  refine (if_pos (zln hv (by omega))).trans ?_
  refine (if_pos (zln hv (by omega))).trans ?_
  refine (if_pos (zln hv (by omega))).trans ?_
  refine (if_pos (zln hv (by omega))).trans ?_
  refine (if_pos (zln hv (by omega))).trans ?_
  refine (if_pos (zln hv (by omega))).trans ?_
  refine (if_pos (zln hv (by omega))).trans ?_
  refine (if_pos (zln hv (by omega))).trans ?_
  refine (if_pos (zln hv (by omega))).trans ?_
  refine (if_pos (zln hv (by omega))).trans ?_
  refine (if_pos (zln hv (by omega))).trans ?_
  refine (if_pos (zln hv (by omega))).trans ?_
  refine (if_pos (zln hv (by omega))).trans ?_
  refine (if_pos (zln hv (by omega))).trans ?_
  exact if_neg (zly hv h)
set_option maxRecDepth 8000 in
set_option maxHeartbeats 2000000 in
theorem R_wo_17 {v : Int} {N : zM} (h : v = 154532) : f_X11_wordOf v N = some (17, N) := by
  have hv : 0 ≤ v ∧ v < 9000000000000 := by omega
  unfold f_X11_wordOf
  refine (if_pos (zln hv (by omega))).trans ?_
  refine (if_pos (zln hv (by omega))).trans ?_
  refine (if_pos (zln hv (by omega))).trans ?_
  refine (if_pos (zln hv (by omega))).trans ?_
  refine (if_pos (zln hv (by omega))).trans ?_
  refine (if_pos (zln hv (by omega))).trans ?_
  refine (if_pos (zln hv (by omega))).trans ?_
  refine (if_pos (zln hv (by omega))).trans ?_
  refine (if_pos (zln hv (by omega))).trans ?_
  refine (if_pos (zln hv (by omega))).trans ?_
  refine (if_pos (zln hv (by omega))).trans ?_
  refine (if_pos (zln hv (by omega))).trans ?_
  refine (if_pos (zln hv (by omega))).trans ?_
  refine (if_pos (zln hv (by omega))).trans ?_
  refine (if_pos (zln hv (by omega))).trans ?_
  refine (if_pos (zln hv (by omega))).trans ?_
  refine (if_pos (zln hv (by omega))).trans ?_
  exact if_neg (zly hv h)
set_option maxRecDepth 8000 in
set_option maxHeartbeats 2000000 in
theorem R_wo_18 {v : Int} {N : zM} (h : v = 3058) : f_X11_wordOf v N = some (18, N) := by
  have hv : 0 ≤ v ∧ v < 9000000000000 := by omega
  unfold f_X11_wordOf
  refine (if_pos (zln hv (by omega))).trans ?_
  refine (if_pos (zln hv (by omega))).trans ?_
  refine (if_pos (zln hv (by omega))).trans ?_
  refine (if_pos (zln hv (by omega))).trans ?_
  refine (if_pos (zln hv (by omega))).trans ?_
  refine (if_pos (zln hv (by omega))).trans ?_
  refine (if_pos (zln hv (by omega))).trans ?_
  refine (if_pos (zln hv (by omega))).trans ?_
  refine (if_pos (zln hv (by omega))).trans ?_
  refine (if_pos (zln hv (by omega))).trans ?_
  refine (if_pos (zln hv (by omega))).trans ?_
  refine (if_pos (zln hv (by omega))).trans ?_
  refine (if_pos (zln hv (by omega))).trans ?_
  refine (if_pos (zln hv (by omega))).trans ?_
  refine (if_pos (zln hv (by omega))).trans ?_
  refine (if_pos (zln hv (by omega))).trans ?_
  refine (if_pos (zln hv (by omega))).trans ?_
  refine (if_pos (zln hv (by omega))).trans ?_
  exact if_neg (zly hv h)
set_option maxRecDepth 8000 in
set_option maxHeartbeats 2000000 in
theorem R_wo_19 {v : Int} {N : zM} (h : v = 138148) : f_X11_wordOf v N = some (19, N) := by
  have hv : 0 ≤ v ∧ v < 9000000000000 := by omega
  unfold f_X11_wordOf
  refine (if_pos (zln hv (by omega))).trans ?_
  refine (if_pos (zln hv (by omega))).trans ?_
  refine (if_pos (zln hv (by omega))).trans ?_
  refine (if_pos (zln hv (by omega))).trans ?_
  refine (if_pos (zln hv (by omega))).trans ?_
  refine (if_pos (zln hv (by omega))).trans ?_
  refine (if_pos (zln hv (by omega))).trans ?_
  refine (if_pos (zln hv (by omega))).trans ?_
  refine (if_pos (zln hv (by omega))).trans ?_
  refine (if_pos (zln hv (by omega))).trans ?_
  refine (if_pos (zln hv (by omega))).trans ?_
  refine (if_pos (zln hv (by omega))).trans ?_
  refine (if_pos (zln hv (by omega))).trans ?_
  refine (if_pos (zln hv (by omega))).trans ?_
  refine (if_pos (zln hv (by omega))).trans ?_
  refine (if_pos (zln hv (by omega))).trans ?_
  refine (if_pos (zln hv (by omega))).trans ?_
  refine (if_pos (zln hv (by omega))).trans ?_
  refine (if_pos (zln hv (by omega))).trans ?_
  exact if_neg (zly hv h)
set_option maxRecDepth 8000 in
set_option maxHeartbeats 2000000 in
theorem R_wo_20 {v : Int} {N : zM} (h : v = 191476) : f_X11_wordOf v N = some (20, N) := by
  have hv : 0 ≤ v ∧ v < 9000000000000 := by omega
  unfold f_X11_wordOf
  refine (if_pos (zln hv (by omega))).trans ?_
  refine (if_pos (zln hv (by omega))).trans ?_
  refine (if_pos (zln hv (by omega))).trans ?_
  refine (if_pos (zln hv (by omega))).trans ?_
  refine (if_pos (zln hv (by omega))).trans ?_
  refine (if_pos (zln hv (by omega))).trans ?_
  refine (if_pos (zln hv (by omega))).trans ?_
  refine (if_pos (zln hv (by omega))).trans ?_
  refine (if_pos (zln hv (by omega))).trans ?_
  refine (if_pos (zln hv (by omega))).trans ?_
  refine (if_pos (zln hv (by omega))).trans ?_
  refine (if_pos (zln hv (by omega))).trans ?_
  refine (if_pos (zln hv (by omega))).trans ?_
  refine (if_pos (zln hv (by omega))).trans ?_
  refine (if_pos (zln hv (by omega))).trans ?_
  refine (if_pos (zln hv (by omega))).trans ?_
  refine (if_pos (zln hv (by omega))).trans ?_
  refine (if_pos (zln hv (by omega))).trans ?_
  refine (if_pos (zln hv (by omega))).trans ?_
  refine (if_pos (zln hv (by omega))).trans ?_
  exact if_neg (zly hv h)
set_option maxRecDepth 8000 in
set_option maxHeartbeats 2000000 in
theorem R_wo_21 {v : Int} {N : zM} (h : v = 11426868) : f_X11_wordOf v N = some (21, N) := by
  have hv : 0 ≤ v ∧ v < 9000000000000 := by omega
  unfold f_X11_wordOf
  refine (if_pos (zln hv (by omega))).trans ?_
  refine (if_pos (zln hv (by omega))).trans ?_
  refine (if_pos (zln hv (by omega))).trans ?_
  refine (if_pos (zln hv (by omega))).trans ?_
  refine (if_pos (zln hv (by omega))).trans ?_
  refine (if_pos (zln hv (by omega))).trans ?_
  refine (if_pos (zln hv (by omega))).trans ?_
  refine (if_pos (zln hv (by omega))).trans ?_
  refine (if_pos (zln hv (by omega))).trans ?_
  refine (if_pos (zln hv (by omega))).trans ?_
  refine (if_pos (zln hv (by omega))).trans ?_
  refine (if_pos (zln hv (by omega))).trans ?_
  refine (if_pos (zln hv (by omega))).trans ?_
  refine (if_pos (zln hv (by omega))).trans ?_
  refine (if_pos (zln hv (by omega))).trans ?_
  refine (if_pos (zln hv (by omega))).trans ?_
  refine (if_pos (zln hv (by omega))).trans ?_
  refine (if_pos (zln hv (by omega))).trans ?_
  refine (if_pos (zln hv (by omega))).trans ?_
  refine (if_pos (zln hv (by omega))).trans ?_
  refine (if_pos (zln hv (by omega))).trans ?_
  exact if_neg (zly hv h)
set_option maxRecDepth 8000 in
set_option maxHeartbeats 2000000 in
theorem R_wo_22 {v : Int} {N : zM} (h : v = 9590898) : f_X11_wordOf v N = some (22, N) := by
  have hv : 0 ≤ v ∧ v < 9000000000000 := by omega
  unfold f_X11_wordOf
  refine (if_pos (zln hv (by omega))).trans ?_
  refine (if_pos (zln hv (by omega))).trans ?_
  refine (if_pos (zln hv (by omega))).trans ?_
  refine (if_pos (zln hv (by omega))).trans ?_
  refine (if_pos (zln hv (by omega))).trans ?_
  refine (if_pos (zln hv (by omega))).trans ?_
  refine (if_pos (zln hv (by omega))).trans ?_
  refine (if_pos (zln hv (by omega))).trans ?_
  refine (if_pos (zln hv (by omega))).trans ?_
  refine (if_pos (zln hv (by omega))).trans ?_
  refine (if_pos (zln hv (by omega))).trans ?_
  refine (if_pos (zln hv (by omega))).trans ?_
  refine (if_pos (zln hv (by omega))).trans ?_
  refine (if_pos (zln hv (by omega))).trans ?_
  refine (if_pos (zln hv (by omega))).trans ?_
  refine (if_pos (zln hv (by omega))).trans ?_
  refine (if_pos (zln hv (by omega))).trans ?_
  refine (if_pos (zln hv (by omega))).trans ?_
  refine (if_pos (zln hv (by omega))).trans ?_
  refine (if_pos (zln hv (by omega))).trans ?_
  refine (if_pos (zln hv (by omega))).trans ?_
  refine (if_pos (zln hv (by omega))).trans ?_
  exact if_neg (zly hv h)
set_option maxRecDepth 8000 in
set_option maxHeartbeats 2000000 in
theorem R_wo_23 {v : Int} {N : zM} (h : v = 10169325) : f_X11_wordOf v N = some (23, N) := by
  have hv : 0 ≤ v ∧ v < 9000000000000 := by omega
  unfold f_X11_wordOf
  refine (if_pos (zln hv (by omega))).trans ?_
  refine (if_pos (zln hv (by omega))).trans ?_
  refine (if_pos (zln hv (by omega))).trans ?_
  refine (if_pos (zln hv (by omega))).trans ?_
  refine (if_pos (zln hv (by omega))).trans ?_
  refine (if_pos (zln hv (by omega))).trans ?_
  refine (if_pos (zln hv (by omega))).trans ?_
  refine (if_pos (zln hv (by omega))).trans ?_
  refine (if_pos (zln hv (by omega))).trans ?_
  refine (if_pos (zln hv (by omega))).trans ?_
  refine (if_pos (zln hv (by omega))).trans ?_
  refine (if_pos (zln hv (by omega))).trans ?_
  refine (if_pos (zln hv (by omega))).trans ?_
  refine (if_pos (zln hv (by omega))).trans ?_
  refine (if_pos (zln hv (by omega))).trans ?_
  refine (if_pos (zln hv (by omega))).trans ?_
  refine (if_pos (zln hv (by omega))).trans ?_
  refine (if_pos (zln hv (by omega))).trans ?_
  refine (if_pos (zln hv (by omega))).trans ?_
  refine (if_pos (zln hv (by omega))).trans ?_
  refine (if_pos (zln hv (by omega))).trans ?_
  refine (if_pos (zln hv (by omega))).trans ?_
  refine (if_pos (zln hv (by omega))).trans ?_
  exact if_neg (zly hv h)
set_option maxRecDepth 8000 in
set_option maxHeartbeats 2000000 in
theorem R_wo_24 {v : Int} {N : zM} (h : v = 815196389) : f_X11_wordOf v N = some (24, N) := by
  have hv : 0 ≤ v ∧ v < 9000000000000 := by omega
  unfold f_X11_wordOf
  refine (if_pos (zln hv (by omega))).trans ?_
  refine (if_pos (zln hv (by omega))).trans ?_
  refine (if_pos (zln hv (by omega))).trans ?_
  refine (if_pos (zln hv (by omega))).trans ?_
  refine (if_pos (zln hv (by omega))).trans ?_
  refine (if_pos (zln hv (by omega))).trans ?_
  refine (if_pos (zln hv (by omega))).trans ?_
  refine (if_pos (zln hv (by omega))).trans ?_
  refine (if_pos (zln hv (by omega))).trans ?_
  refine (if_pos (zln hv (by omega))).trans ?_
  refine (if_pos (zln hv (by omega))).trans ?_
  refine (if_pos (zln hv (by omega))).trans ?_
  refine (if_pos (zln hv (by omega))).trans ?_
  refine (if_pos (zln hv (by omega))).trans ?_
  refine (if_pos (zln hv (by omega))).trans ?_
  refine (if_pos (zln hv (by omega))).trans ?_
  refine (if_pos (zln hv (by omega))).trans ?_
  refine (if_pos (zln hv (by omega))).trans ?_
  refine (if_pos (zln hv (by omega))).trans ?_
  refine (if_pos (zln hv (by omega))).trans ?_
  refine (if_pos (zln hv (by omega))).trans ?_
  refine (if_pos (zln hv (by omega))).trans ?_
  refine (if_pos (zln hv (by omega))).trans ?_
  refine (if_pos (zln hv (by omega))).trans ?_
  exact if_neg (zly hv h)
set_option maxRecDepth 8000 in
set_option maxHeartbeats 2000000 in
theorem R_wordOf_at : ∀ (j : Nat) (N : zM), j < 25 → f_X11_wordOf (hcL.getD j 0) N = some (rkL.getD j 0, N) := by
  intro j N hj
  have hj2 : j = 0 ∨ j = 1 ∨ j = 2 ∨ j = 3 ∨ j = 4 ∨ j = 5 ∨ j = 6 ∨ j = 7 ∨ j = 8 ∨ j = 9 ∨ j = 10 ∨ j = 11 ∨ j = 12 ∨ j = 13 ∨ j = 14 ∨ j = 15 ∨ j = 16 ∨ j = 17 ∨ j = 18 ∨ j = 19 ∨ j = 20 ∨ j = 21 ∨ j = 22 ∨ j = 23 ∨ j = 24 := by omega
  rcases hj2 with rfl | rfl | rfl | rfl | rfl | rfl | rfl | rfl | rfl | rfl | rfl | rfl | rfl | rfl | rfl | rfl | rfl | rfl | rfl | rfl | rfl | rfl | rfl | rfl | rfl
  · exact R_wo_0 rfl
  · exact R_wo_1 rfl
  · exact R_wo_2 rfl
  · exact R_wo_3 rfl
  · exact R_wo_4 rfl
  · exact R_wo_5 rfl
  · exact R_wo_6 rfl
  · exact R_wo_7 rfl
  · exact R_wo_8 rfl
  · exact R_wo_9 rfl
  · exact R_wo_10 rfl
  · exact R_wo_21 rfl
  · exact R_wo_22 rfl
  · exact R_wo_12 rfl
  · exact R_wo_23 rfl
  · exact R_wo_24 rfl
  · exact R_wo_11 rfl
  · exact R_wo_13 rfl
  · exact R_wo_14 rfl
  · exact R_wo_15 rfl
  · exact R_wo_16 rfl
  · exact R_wo_17 rfl
  · exact R_wo_18 rfl
  · exact R_wo_19 rfl
  · exact R_wo_20 rfl
set_option maxRecDepth 8000 in
set_option maxHeartbeats 2000000 in
theorem R_wordOf_no {v : Int} {N : zM} (hv : 0 ≤ v ∧ v < 9000000000000) (h : ∀ j, j < 25 → v ≠ hcL.getD j 0) : f_X11_wordOf v N = some (-1, N) := by
  unfold f_X11_wordOf
  refine (if_pos (zln hv (h 0 (by omega)))).trans ?_
  refine (if_pos (zln hv (h 1 (by omega)))).trans ?_
  refine (if_pos (zln hv (h 2 (by omega)))).trans ?_
  refine (if_pos (zln hv (h 3 (by omega)))).trans ?_
  refine (if_pos (zln hv (h 4 (by omega)))).trans ?_
  refine (if_pos (zln hv (h 5 (by omega)))).trans ?_
  refine (if_pos (zln hv (h 6 (by omega)))).trans ?_
  refine (if_pos (zln hv (h 7 (by omega)))).trans ?_
  refine (if_pos (zln hv (h 8 (by omega)))).trans ?_
  refine (if_pos (zln hv (h 9 (by omega)))).trans ?_
  refine (if_pos (zln hv (h 10 (by omega)))).trans ?_
  refine (if_pos (zln hv (h 16 (by omega)))).trans ?_
  refine (if_pos (zln hv (h 13 (by omega)))).trans ?_
  refine (if_pos (zln hv (h 17 (by omega)))).trans ?_
  refine (if_pos (zln hv (h 18 (by omega)))).trans ?_
  refine (if_pos (zln hv (h 19 (by omega)))).trans ?_
  refine (if_pos (zln hv (h 20 (by omega)))).trans ?_
  refine (if_pos (zln hv (h 21 (by omega)))).trans ?_
  refine (if_pos (zln hv (h 22 (by omega)))).trans ?_
  refine (if_pos (zln hv (h 23 (by omega)))).trans ?_
  refine (if_pos (zln hv (h 24 (by omega)))).trans ?_
  refine (if_pos (zln hv (h 11 (by omega)))).trans ?_
  refine (if_pos (zln hv (h 12 (by omega)))).trans ?_
  refine (if_pos (zln hv (h 14 (by omega)))).trans ?_
  refine (if_pos (zln hv (h 15 (by omega)))).trans ?_
  rfl
/-- a byte, as the reference has it -/
def sgn (c : Int) : Int := if c < 128 then c else c - 256
set_option maxRecDepth 8000 in
set_option maxHeartbeats 2000000 in
theorem sgn_bmod {c : Int} (h : 0 ≤ c ∧ c ≤ 255) : Int.bmod (sgn c) 256 = sgn c := by
  unfold sgn Int.bmod
  dsimp only
  split <;> split <;> omega
set_option maxRecDepth 8000 in
set_option maxHeartbeats 2000000 in
theorem R_isLt {c : Int} {N : zM} (h : 0 ≤ c ∧ c ≤ 255) : f_X11_isLetter (sgn c) N = some (if isLt c = true then 1 else 0, N) := by
  have hs : -128 ≤ sgn c ∧ sgn c ≤ 127 := by unfold sgn; split <;> omega
  unfold f_X11_isLetter
  by_cases h1 : 97 ≤ c ∧ c ≤ 122
  · have e : sgn c = c := if_pos (by omega)
    rw [e, in_yes h1.1 h1.2 (by omega) (by omega) (by omega)]
    simp only [zbs]
    rw [if_pos zw_1n, if_pos (by unfold isLt; exact decide_eq_true (Or.inl h1))]
  · rw [in_no (by unfold sgn; split <;> omega) (by omega) (by omega) (by omega)]
    simp only [zbs]
    rw [if_neg (nn_ zw_0)]
    by_cases h2 : 65 ≤ c ∧ c ≤ 90
    · have e : sgn c = c := if_pos (by omega)
      rw [e, in_yes h2.1 h2.2 (by omega) (by omega) (by omega)]
      simp only [zbs]
      rw [if_neg zw_1n, if_pos (by unfold isLt; exact decide_eq_true (Or.inr h2))]
    · rw [in_no (by unfold sgn; split <;> omega) (by omega) (by omega) (by omega)]
      simp only [zbs]
      rw [if_pos zw_0, if_neg (by unfold isLt; rw [decide_eq_true_eq]; omega)]
set_option maxRecDepth 8000 in
set_option maxHeartbeats 2000000 in
theorem R_isDg {c : Int} {N : zM} (h : 0 ≤ c ∧ c ≤ 255) : f_X11_in (sgn c) 48 57 N = some (if isDg c = true then 1 else 0, N) := by
  by_cases h1 : 48 ≤ c ∧ c ≤ 57
  · have e : sgn c = c := if_pos (by omega)
    rw [e, in_yes h1.1 h1.2 (by omega) (by omega) (by omega), if_pos (by unfold isDg; exact decide_eq_true h1)]
  · rw [in_no (by unfold sgn; split <;> omega) (by unfold sgn; split <;> omega) (by omega) (by omega), if_neg (by unfold isDg; rw [decide_eq_true_eq]; exact h1)]
/-- what the reference has of a TOKEN -/
def sgL : List Int := [60, 300, 62, 301, 61, 35, 43, 45, 42, 47, 40, 41, 59]
def rk (k : Int) : Int := rkL.getD k.toNat 0
def sg (k : Int) : Int := sgL.getD (k - 26).toNat 0
def tokS (s t k v : Int) : Prop := (k = 40 ∧ s = 0) ∨ (k = 25 ∧ s = 2 ∧ (0 ≤ t ∧ t ≤ 1000000) ∧ ((v ≤ 9999 ∧ t = v) ∨ (v = 10000 ∧ 9999 < t))) ∨ ((0 ≤ k ∧ k < 25) ∧ s = 1 ∧ t = rk k) ∨ ((26 ≤ k ∧ k ≤ 38) ∧ s = 3 ∧ t = sg k) ∨ (k = 39 ∧ (s = 4 ∨ (s = 3 ∧ t = 44)))
/-- cells that a TOKEN changes -/
def frN (N N' : zM) : Prop := (∀ k i, ¬ (k = 42 ∧ i = 0) → N' k i = N k i) ∧ ∀ j, j ≠ 15 → j ≠ 16 → j ≠ 17 → j ≠ 18 → N' 42 0 j = N 42 0 j
set_option maxRecDepth 8000 in
set_option maxHeartbeats 2000000 in
theorem frN.rfl_ {N : zM} : frN N N := ⟨fun _ _ _ => rfl, fun _ _ _ _ _ => rfl⟩
set_option maxRecDepth 8000 in
set_option maxHeartbeats 2000000 in
theorem frN.trans {N N' N2 : zM} (h : frN N N') (h2 : frN N' N2) : frN N N2 := ⟨fun k i a => by rw [h2.1 k i a, h.1 k i a], fun j a b c d => by rw [h2.2 j a b c d, h.2 j a b c d]⟩
set_option maxRecDepth 8000 in
set_option maxHeartbeats 2000000 in
theorem frN.put {N : zM} {j : Nat} {v : Int} (h : 15 ≤ j ∧ j ≤ 18) : frN N (zput N 42 0 j v) := ⟨fun k i a => zput_rowk (by omega), fun q a b c d => zput_j (by omega)⟩
/-- the tape on the reference's side -/
def tapeR (N : zM) (B : Nat → Int) (L : Nat) : Prop := (L ≤ 300 ∧ ∀ i, i < L → 0 ≤ B i ∧ B i ≤ 255) ∧ N 42 0 14 = L ∧ ∀ i, i < L → N 45 0 i = sgn (B i)
set_option maxRecDepth 8000 in
set_option maxHeartbeats 2000000 in
theorem tapeR.frN {N N' : zM} {B : Nat → Int} {L : Nat} (h : tapeR N B L) (f : frN N N') : tapeR N' B L := by
  refine ⟨h.1, by rw [f.2 14 (by omega) (by omega) (by omega) (by omega)]; exact h.2.1, ?_⟩
  rw [f.1 45 0 (by omega)]
  exact h.2.2
set_option maxRecDepth 8000 in
set_option maxHeartbeats 2000000 in
theorem tapeR.at_ {N : zM} {B : Nat → Int} {L p : Nat} (h : tapeR N B L) (hp : p < L) : Int.bmod (N 45 0 p) 256 = sgn (B p) := by
  rw [h.2.2 p hp]
  exact sgn_bmod (h.1.2 p hp)
set_option maxRecDepth 8000 in
set_option maxHeartbeats 2000000 in
theorem R_skip {N : zM} {B : Nat → Int} {L a : Nat} (h : tapeR N B L) (ha : a ≤ L) (hat : N 42 0 15 = a) : ∃ N', zlp (fun s : zM => f_X11_next_L0 s) zF N = some N' ∧ N' 42 0 15 = skE isBl B L a ∧ frN N N' := by
  obtain ⟨s1, s2, s3, s4⟩ := skE_spec (p := isBl) (B := B) ha
  have h3 := h.1.1
  refine zT_for (body := fun s : zM => f_X11_next_L0 s) (fun i s => s 42 0 15 = ((a + i : Nat) : Int) ∧ frN N s) (skE isBl B L a - a) (Q := fun N' => N' 42 0 15 = skE isBl B L a ∧ frN N N') ?_ (m := zF) (by unfold zF; omega) (s := N) ⟨hat, frN.rfl_⟩
  rintro i s hi ⟨g1, g2⟩
  have ht := h.frN g2
  unfold f_X11_next_L0 f_X11_next_j39
  rw [ht.2.1, g1, zw_nat (by omega), zw_nat (by omega), zix_nat (by omega)]
  by_cases hin : a + i = skE isBl B L a
  · by_cases hl : a + i < L
    · have hb := h.1.2 (a + i) hl
      have hn : ¬ (B (a + i) = 32 ∨ B (a + i) = 10) := by
        have := s4 (by omega)
        rw [← hin] at this
        unfold isBl at this
        exact fun z => this (decide_eq_true z)
      have hsg : sgn (B (a + i)) ≠ 32 ∧ sgn (B (a + i)) ≠ 10 ∧ -128 ≤ sgn (B (a + i)) ∧ sgn (B (a + i)) ≤ 127 := by unfold sgn; split <;> omega
      rw [if_neg (by omega), if_pos (by omega), ht.at_ hl, zw_id (z := sgn (B (a + i))) (by omega) (by omega), if_neg hsg.1, if_pos (by omega), if_pos hsg.2.1]
      exact zT_some (Or.inr ⟨_, rfl, by rw [g1, hin], g2⟩)
    · rw [if_pos (by omega)]
      exact zT_some (Or.inr ⟨_, rfl, by rw [g1, hin], g2⟩)
  · have hl : a + i < L := by omega
    have hb := s3 (a + i) (by omega) (by omega)
    unfold isBl at hb
    have hb := of_decide_eq_true hb
    have hsg : sgn (B (a + i)) = B (a + i) := if_pos (by omega)
    have go : zT (zlet (zput s 42 0 15 (((a + i : Nat) : Int) + 1)) fun M1 => (some (.inl M1) : Option (zM ⊕ zM))) (fun r => (∃ s', r = .inl s' ∧ i < skE isBl B L a - a ∧ (s' 42 0 15 = ((a + (i + 1) : Nat) : Int) ∧ frN N s')) ∨ ∃ e, r = .inr e ∧ (e 42 0 15 = skE isBl B L a ∧ frN N e)) := by
      rw [zlt_]
      exact zT_some (Or.inl ⟨_, rfl, by omega, by rw [zput_eq]; omega, g2.trans (frN.put (by omega))⟩)
    rw [if_neg (by omega), if_pos (by omega), ht.at_ hl, hsg, zw_id (z := B (a + i)) (by omega) (by omega)]
    by_cases h32 : B (a + i) = 32
    · rw [if_pos h32]; exact go
    · rw [if_neg h32, if_pos (by omega), if_neg (nn_ (by omega))]; exact go
set_option maxRecDepth 8000 in
set_option maxHeartbeats 2000000 in
theorem rk_word {j : Nat} : rk (j : Int) = rkL.getD j 0 := by unfold rk; rw [Int.toNat_natCast]
set_option maxRecDepth 8000 in
set_option maxHeartbeats 2000000 in
/-- letters -/
theorem R_letters {N : zM} {B : Nat → Int} {L p : Nat} (h : tapeR N B L) (hp : p < L) (hlt : isLt (B p) = true) (hat : N 42 0 15 = p) : ∃ (v : Int) (N' : zM), zlp (fun s : Int × Int × zM => f_X11_next_L99 s.1 s.2.1 s.2.2) zF (0, 0, N) = some (v, ((skE isLt B L (p + 1) - p : Nat) : Int), N') ∧ (skE isLt B L (p + 1) - p ≤ 8 → v = hsh B p (skE isLt B L (p + 1) - p)) ∧ N' 42 0 15 = skE isLt B L (p + 1) ∧ N' 42 0 16 = N 42 0 16 ∧ frN N N' := by
  have e0 : skE isLt B L p = skE isLt B L (p + 1) := skE_yes hp hlt
  obtain ⟨s1, s2, s3, s4⟩ := skE_spec (p := isLt) (B := B) (show p ≤ L by omega)
  rw [e0] at s1 s2 s3 s4
  have h3 := h.1.1
  generalize skE isLt B L (p + 1) = e at s1 s2 s3 s4
  have hB : ∀ i, i < e - p → 65 ≤ B (p + i) ∧ B (p + i) ≤ 127 := fun i hi => isLt_rng (s3 (p + i) (by omega) (by omega))
  have key := zT_for (body := fun s : Int × Int × zM => f_X11_next_L99 s.1 s.2.1 s.2.2) (fun i s => s.2.1 = (i : Int) ∧ s.1 = hsh B p (if i ≤ 8 then i else 8) ∧ s.2.2 42 0 15 = ((p + i : Nat) : Int) ∧ s.2.2 42 0 16 = N 42 0 16 ∧ frN N s.2.2) (e - p) (Q := fun r => r.2.1 = ((e - p : Nat) : Int) ∧ (e - p ≤ 8 → r.1 = hsh B p (e - p)) ∧ r.2.2 42 0 15 = e ∧ r.2.2 42 0 16 = N 42 0 16 ∧ frN N r.2.2) ?_ (m := zF) (by unfold zF; omega) (s := (0, 0, N)) ⟨rfl, rfl, hat, rfl, frN.rfl_⟩
  · obtain ⟨⟨v, n, N'⟩, k1, k2, k3, k4, k6, k5⟩ := key
    dsimp only at k2 k3 k4 k5 k6
    rw [k2] at k1
    exact ⟨v, N', k1, k3, k4, k6, k5⟩
  · rintro i ⟨v, n, s⟩ hi ⟨g1, g2, g3, g5, g4⟩
    dsimp only at g1 g2 g3 g4 g5 ⊢
    subst g1
    have ht := h.frN g4
    unfold f_X11_next_L99
    rw [ht.2.1, g3, zw_nat (n := L) (by omega), zw_nat (n := p + i) (by omega), zix_nat (by omega), zw_nat (n := i) (by omega)]
    have stop : p + i = e → zT (some (.inr (v, (i : Int), s)) : Option ((Int × Int × zM) ⊕ (Int × Int × zM))) (fun r => (∃ s', r = .inl s' ∧ i < e - p ∧ (s'.2.1 = ((i + 1 : Nat) : Int) ∧ s'.1 = hsh B p (if i + 1 ≤ 8 then i + 1 else 8) ∧ s'.2.2 42 0 15 = ((p + (i + 1) : Nat) : Int) ∧ s'.2.2 42 0 16 = N 42 0 16 ∧ frN N s'.2.2)) ∨ ∃ r', r = .inr r' ∧ (r'.2.1 = ((e - p : Nat) : Int) ∧ (e - p ≤ 8 → r'.1 = hsh B p (e - p)) ∧ r'.2.2 42 0 15 = e ∧ r'.2.2 42 0 16 = N 42 0 16 ∧ frN N r'.2.2)) := by
      intro hie
      refine zT_some (Or.inr ⟨_, rfl, by dsimp only; omega, fun h8 => ?_, by dsimp only; rw [g3, hie], g5, g4⟩)
      dsimp only
      rw [g2, show i = e - p by omega, if_pos h8]
    by_cases hin : p + i = e
    · by_cases hl : p + i < L
      · have hn := s4 (by omega)
        rw [← hin] at hn
        rw [if_neg (by omega), if_pos (by omega), ht.at_ hl, R_isLt (h.1.2 _ hl), if_neg hn]
        simp only [zbs]
        rw [if_pos zw_0]
        exact stop hin
      · rw [if_pos (by omega)]
        exact stop hin
    · have hl : p + i < L := by omega
      have hb := hB i (by omega)
      have hsg : sgn (B (p + i)) = B (p + i) := if_pos (by omega)
      rw [if_neg (by omega), if_pos (by omega), ht.at_ hl, R_isLt (h.1.2 _ hl), if_pos (s3 (p + i) (by omega) (by omega))]
      simp only [zbs]
      rw [if_neg zw_1n]
      unfold f_X11_next_j156
      by_cases h8 : 8 ≤ i
      · rw [if_pos (by omega), zlt_]
        refine zT_some (Or.inl ⟨_, rfl, by omega, by dsimp only; omega, ?_, by dsimp only; rw [zput_eq, g3]; omega, by dsimp only; rw [zput_j (by omega)]; exact g5, g4.trans (frN.put (by omega))⟩)
        dsimp only
        rw [g2, if_neg (show ¬ i + 1 ≤ 8 by omega)]
        by_cases h8' : i = 8
        · rw [if_pos (by omega), h8']
        · rw [if_neg (by omega)]
      · rw [if_neg (by omega), g3, zw_nat (n := p + i) (by omega), zix_nat (by omega), ht.at_ hl, hsg, zw_id (z := B (p + i)) (by omega) (by omega), if_pos (by omega), zlt_]
        refine zT_some (Or.inl ⟨_, rfl, by omega, by dsimp only; omega, ?_, by dsimp only; rw [zput_eq]; omega, by dsimp only; rw [zput_j (by omega)]; exact g5, g4.trans (frN.put (by omega))⟩)
        dsimp only
        rw [g2, if_pos (show i ≤ 8 by omega), if_pos (show i + 1 ≤ 8 by omega)]
        rfl
/-- digits -/
def nB (c r : Int) : Prop := (0 ≤ r ∧ r ≤ 1000000) ∧ ((c ≤ 9999 ∧ r = c) ∨ (c = 10000 ∧ 9999 < r))
set_option maxRecDepth 8000 in
set_option maxHeartbeats 2000000 in
theorem R_digits {N : zM} {B : Nat → Int} {L p : Nat} (h : tapeR N B L) (hp : p < L) (hdg : isDg (B p) = true) (hat : N 42 0 15 = p) (h0 : N 42 0 18 = 0) : ∃ N', zlp (fun s : zM => f_X11_next_L232 s) zF N = some N' ∧ nB (tVal B L p) (N' 42 0 18) ∧ N' 42 0 15 = skE isDg B L (p + 1) ∧ N' 42 0 16 = N 42 0 16 ∧ N' 42 0 17 = N 42 0 17 ∧ frN N N' := by
  have e0 : skE isDg B L p = skE isDg B L (p + 1) := skE_yes hp hdg
  obtain ⟨s1, s2, s3, s4⟩ := skE_spec (p := isDg) (B := B) (show p ≤ L by omega)
  have h3 := h.1.1
  unfold tVal
  rw [e0] at s1 s2 s3 s4
  generalize skE isDg B L (p + 1) = e at s1 s2 s3 s4
  have hB : ∀ i, i < e - p → 48 ≤ B (p + i) ∧ B (p + i) ≤ 57 := fun i hi => by
    have := s3 (p + i) (by omega) (by omega)
    unfold isDg at this
    exact of_decide_eq_true this
  refine zT_for (body := fun s : zM => f_X11_next_L232 s) (fun i s => nB (nV B p i) (s 42 0 18) ∧ s 42 0 15 = ((p + i : Nat) : Int) ∧ s 42 0 16 = N 42 0 16 ∧ s 42 0 17 = N 42 0 17 ∧ frN N s) (e - p) (Q := fun N' => nB (nV B p (e - p)) (N' 42 0 18) ∧ N' 42 0 15 = e ∧ N' 42 0 16 = N 42 0 16 ∧ N' 42 0 17 = N 42 0 17 ∧ frN N N') ?_ (m := zF) (by unfold zF; omega) (s := N) ⟨by rw [h0]; exact ⟨⟨Int.le_refl _, by decide⟩, Or.inl ⟨show (0 : Int) ≤ 9999 by omega, rfl⟩⟩, hat, rfl, rfl, frN.rfl_⟩
  rintro i s hi ⟨g1, g2, g3, g4, g5⟩
  have ht := h.frN g5
  unfold f_X11_next_L232
  rw [ht.2.1, g2, zw_nat (n := L) (by omega), zw_nat (n := p + i) (by omega), zix_nat (by omega)]
  have stop : p + i = e → zT (some (.inr s) : Option (zM ⊕ zM)) (fun r => (∃ s', r = .inl s' ∧ i < e - p ∧ (nB (nV B p (i + 1)) (s' 42 0 18) ∧ s' 42 0 15 = ((p + (i + 1) : Nat) : Int) ∧ s' 42 0 16 = N 42 0 16 ∧ s' 42 0 17 = N 42 0 17 ∧ frN N s')) ∨ ∃ r', r = .inr r' ∧ (nB (nV B p (e - p)) (r' 42 0 18) ∧ r' 42 0 15 = e ∧ r' 42 0 16 = N 42 0 16 ∧ r' 42 0 17 = N 42 0 17 ∧ frN N r')) := by
    intro hie
    rw [show i = e - p by omega] at g1
    exact zT_some (Or.inr ⟨_, rfl, g1, by rw [g2, hie], g3, g4, g5⟩)
  by_cases hin : p + i = e
  · by_cases hl : p + i < L
    · have hn := s4 (by omega)
      rw [← hin] at hn
      rw [if_neg (by omega), if_pos (by omega), ht.at_ hl, R_isDg (h.1.2 _ hl), if_neg hn]
      simp only [zbs]
      rw [if_pos zw_0]
      exact stop hin
    · rw [if_pos (by omega)]
      exact stop hin
  · have hl : p + i < L := by omega
    have hb := hB i (by omega)
    have hsg : sgn (B (p + i)) = B (p + i) := if_pos (by omega)
    obtain ⟨b1, b2⟩ := g1
    rw [if_neg (by omega), if_pos (by omega), ht.at_ hl, R_isDg (h.1.2 _ hl), if_pos (s3 (p + i) (by omega) (by omega))]
    simp only [zbs]
    rw [if_neg zw_1n, g2, zw_id (z := s 42 0 18) (by omega) (by omega), zw_nat (n := p + i) (by omega), zix_nat (by omega), ht.at_ hl, hsg]
    unfold f_X11_next_j299
    have hnv : nV B p (i + 1) = if 10000 < nV B p i * 10 + B (p + i) - 48 then 10000 else nV B p i * 10 + B (p + i) - 48 := rfl
    by_cases h9 : s 42 0 18 ≤ 99999
    · rw [if_pos h9, if_pos (by omega), zlt_, zlt_]
      refine zT_some (Or.inl ⟨_, rfl, by omega, ?_, by rw [zput_eq, zput_j (by omega), g2]; omega, by rw [zput_j (by omega), zput_j (by omega)]; exact g3, by rw [zput_j (by omega), zput_j (by omega)]; exact g4, g5.trans ((frN.put (by omega)).trans (frN.put (by omega)))⟩)
      rw [zput_j (by omega), zput_eq, hnv]
      unfold nB
      split <;> omega
    · rw [if_neg h9, zlt_, zlt_]
      refine zT_some (Or.inl ⟨_, rfl, by omega, ?_, by rw [zput_eq, zput_j (by omega), g2]; omega, by rw [zput_j (by omega), zput_j (by omega)]; exact g3, by rw [zput_j (by omega), zput_j (by omega)]; exact g4, g5.trans ((frN.put (by omega)).trans (frN.put (by omega)))⟩)
      rw [zput_j (by omega), zput_eq, hnv]
      unfold nB
      split <;> omega
