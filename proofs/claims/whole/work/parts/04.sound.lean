/-! SOUNDNESS of the abstract machine's step -/
def ztys (cA : Nat → ClassId) : List (ClassId × FieldType) := [(cA 0, .int), (cA 1, .byte), (cA 2, .boolean), (cA 3, .long), (cA 4, .object "ThanksByPost$Text"), (cA 5, .object "ThanksByPost$Thing"), (cA 6, .array .int)]
def zwords : List Cond := lw_tbl.filter goodWord
def znest : List Cond := znestp.filterMap zwat
def znw : Cond → Bool
  | .fieldLinkNest _ _ _ _ _ _ => true
  | .methodLinkNest _ _ _ _ => true
  | _ => false
theorem znest_ok : znest.all znw = true := by decide +kernel
theorem ztb_in (k : Nat) : ∀ c ∈ ztb k, c ∈ lw_tbl := by
  intro c hc
  unfold ztb at hc
  unfold lw_tbl tables_1
  split at hc
  · exact List.mem_append_left _ hc
  · exact List.mem_append_right _ (List.mem_append_left _ hc)
  · exact List.mem_append_right _ (List.mem_append_right _ (List.mem_append_left _ hc))
  · exact List.mem_append_right _ (List.mem_append_right _ (List.mem_append_right _ (List.mem_append_left _ hc)))
  · exact List.mem_append_right _ (List.mem_append_right _ (List.mem_append_right _ (List.mem_append_right _ (List.mem_append_left _ hc))))
  · exact List.mem_append_right _ (List.mem_append_right _ (List.mem_append_right _ (List.mem_append_right _ (List.mem_append_right _ (List.mem_append_left _ hc)))))
  · exact List.mem_append_right _ (List.mem_append_right _ (List.mem_append_right _ (List.mem_append_right _ (List.mem_append_right _ (List.mem_append_right _ (List.mem_append_left _ hc))))))
  · exact List.mem_append_right _ (List.mem_append_right _ (List.mem_append_right _ (List.mem_append_right _ (List.mem_append_right _ (List.mem_append_right _ (List.mem_append_right _ hc))))))
  · cases hc
theorem zwat_mem {w : Nat} {c : Cond} (h : zwat w = some c) : c ∈ lw_tbl := ztb_in _ c (List.mem_of_getElem? h)
theorem zwat_in {w : Nat} {c : Cond} (h : zwat w = some c) (hg : goodWord c = true) : c ∈ zwords := List.mem_filter.mpr ⟨zwat_mem h, hg⟩
theorem znest_in : ∀ w ∈ znest, w ∈ lw_tbl := fun w h => by
  obtain ⟨i, -, hi⟩ := List.mem_filterMap.mp h
  exact zwat_mem hi
theorem zcl_words : (List.range 12).all (fun i => match vwCl[i]? with
  | some (C, T, N) => (List.range N).all (fun k => decide (((zcW.getD i []).map zwat)[k]? = some (some (u_lay C T k))) && goodWord (u_lay C T k))
  | none => false) = true := by decide +kernel
theorem zcl_lt {ci : Nat} {q : vw_C} (h : vwCl[ci]? = some q) : ci < 12 := (List.getElem?_eq_some_iff.mp h).1
theorem zcl_in {ci N : Nat} {C : String} {T : u_T} (h : vwCl[ci]? = some (C, T, N)) : ∀ w ∈ u_ws C T N, w ∈ zwords := by
  intro w hw
  have h1 := List.all_eq_true.mp zcl_words ci (List.mem_range.mpr (zcl_lt h))
  rw [h] at h1
  obtain ⟨k, hk, rfl⟩ := List.mem_map.mp hw
  have h2 := List.all_eq_true.mp h1 k hk
  rw [Bool.and_eq_true, decide_eq_true_eq] at h2
  obtain ⟨h3, h4⟩ := h2
  rw [List.getElem?_map] at h3
  cases hz : (zcW.getD ci [])[k]? with
  | none => rw [hz] at h3; cases h3
  | some a =>
    rw [hz] at h3
    exact zwat_in (Option.some.inj h3) h4
theorem zcl_ty {ci N : Nat} {C : String} {T : u_T} (h : vwCl[ci]? = some (C, T, N)) : ∃ ty : Nat → FieldType, ∀ k, k < N → parseFieldDescriptor (T k).2.2.1 = some (ty k) := by
  have hl := zcl_lt h
  match ci, h with
  | 0, h => cases h; exact ⟨_, tyX0_ok⟩
  | 1, h => cases h; exact ⟨_, tyX1_ok⟩
  | 2, h => cases h; exact ⟨_, tyX2_ok⟩
  | 3, h => cases h; exact ⟨_, tyX3_ok⟩
  | 4, h => cases h; exact ⟨_, tyX4_ok⟩
  | 5, h => cases h; exact ⟨_, tyX5_ok⟩
  | 6, h => cases h; exact ⟨_, tyX6_ok⟩
  | 7, h => cases h; exact ⟨_, tyX7_ok⟩
  | 8, h => cases h; exact ⟨_, tyX8_ok⟩
  | 9, h => cases h; exact ⟨_, tyX9_ok⟩
  | 10, h => cases h; exact ⟨_, tyX10_ok⟩
  | 11, h => cases h; exact ⟨_, tyX11_ok⟩
  | n + 12, h => omega
theorem zcl_nm {ci N : Nat} {C : String} {T : u_T} (h : vwCl[ci]? = some (C, T, N)) : ∀ a, a < N → ∀ b, b < N → a ≠ b → (T a).2.1 ≠ (T b).2.1 := by
  have hl := zcl_lt h
  match ci, h with
  | 0, h => cases h; exact nmX0
  | 1, h => cases h; exact nmX1
  | 2, h => cases h; exact nmX2
  | 3, h => cases h; exact nmX3
  | 4, h => cases h; exact nmX4
  | 5, h => cases h; exact nmX5
  | 6, h => cases h; exact nmX6
  | 7, h => cases h; exact nmX7
  | 8, h => cases h; exact nmX8
  | 9, h => cases h; exact nmX9
  | 10, h => cases h; exact nmX10
  | 11, h => cases h; exact nmX11
  | n + 12, h => omega
/-- the kinds' tables speak of the classes: the number of fields, and of each its type -/
def zdesc (t : Nat) : String := match t with
  | 0 => "I"
  | 1 => "Z"
  | _ => "LThanksByPost$Text;"
theorem zkd_all : (List.range zNK).all (fun k => match zobj k with
  | none => decide (ztag k < 7)
  | some ci => match vwCl[ci]? with
    | none => false
    | some (_, T, N) => decide (zlen k = N) && (List.range N).all (fun x => decide (zft k x < 4) && (decide (zft k x = 2) || (decide ((T x).2.2.1 = zdesc (zft k x)) && decide ((T x).2.2.2 = false))))) = true := by decide +kernel
theorem zkd {k ci N : Nat} {C : String} {T : u_T} (hk : k < zNK) (ho : zobj k = some ci) (h : vwCl[ci]? = some (C, T, N)) : zlen k = N ∧ ∀ x, x < N → zft k x < 4 ∧ (zft k x = 2 ∨ ((T x).2.2.1 = zdesc (zft k x) ∧ (T x).2.2.2 = false)) := by
  have h1 := List.all_eq_true.mp zkd_all k (List.mem_range.mpr hk)
  simp only [ho, h] at h1
  rw [Bool.and_eq_true, decide_eq_true_eq] at h1
  refine ⟨h1.1, fun x hx => ?_⟩
  have h2 := List.all_eq_true.mp h1.2 x (List.mem_range.mpr hx)
  simp only [Bool.and_eq_true, Bool.or_eq_true, decide_eq_true_eq] at h2
  exact h2
/-- references that stay lead to cells -/
theorem zrt_all : (List.range zNK).all (fun k => (List.range (zcnt k)).all (fun i => (List.range (zlen k)).all (fun x => match zobj k with
  | some _ => decide (zft k x ≠ 2) || (decide ((zrtO k i x).1 < zNK) && decide ((zrtO k i x).2 < zcnt (zrtO k i x).1))
  | none => decide (ztag k < 4) || (decide ((zrtA k i x).1 < zNK) && decide ((zrtA k i x).2 < zcnt (zrtA k i x).1))))) = true := by decide +kernel
theorem zrtO_ok {k i x ci : Nat} (hk : k < zNK) (hi : i < zcnt k) (hx : x < zlen k) (ho : zobj k = some ci) (ht : zft k x = 2) : zokr (zrtO k i x).1 (zrtO k i x).2 := by
  have h1 := List.all_eq_true.mp (List.all_eq_true.mp (List.all_eq_true.mp zrt_all k (List.mem_range.mpr hk)) i (List.mem_range.mpr hi)) x (List.mem_range.mpr hx)
  simp only [ho, ht, ne_eq, not_true_eq_false, decide_false, Bool.false_or, Bool.and_eq_true, decide_eq_true_eq] at h1
  exact Or.inl h1
theorem zrtA_ok {k i x : Nat} (hk : k < zNK) (hi : i < zcnt k) (hx : x < zlen k) (ho : zobj k = none) (ht : 4 ≤ ztag k) : zokr (zrtA k i x).1 (zrtA k i x).2 := by
  have h1 := List.all_eq_true.mp (List.all_eq_true.mp (List.all_eq_true.mp zrt_all k (List.mem_range.mpr hk)) i (List.mem_range.mpr hi)) x (List.mem_range.mpr hx)
  simp only [ho, Bool.or_eq_true, Bool.and_eq_true, decide_eq_true_eq] at h1
  rcases h1 with h1 | h1
  · omega
  · exact Or.inl h1
/-- String constants -/
def zsbyt : List (List Int32) := zctx.map (fun t => t.toList.map (fun c => Int32.ofNat c.toNat))
def zslen : List Nat := zsbyt.map List.length
def zX (adr : Nat → Nat) (A : Nat → Prop) (U : State) (H : Heap) : Prop :=
  vk_S 25 zslen zsbyt (fun i => adr (zNP + i)) (fun i => adr (zNP + (50 + i))) A U H ∧ (∀ i, i < 25 → vk_R RX4 (zcp.getD i 0) (zctx.getD i "") (adr (zNP + i)) U) ∧ va_Z "java/lang/String" "COMPACT_STRINGS" "Z" (.int 1) A U H ∧ va_Zq "jdk/internal/util/Preconditions" "SIOOBE_FORMATTER" "Ljava/util/function/BiFunction;" A U H
def zK (D : va_G) (cA : Nat → ClassId) (adr : Nat → Nat) (A : Nat → Prop) (U : State) (H : Heap) : Prop :=
  va_K D vwCl (ztys cA) U ∧ (∀ w ∈ znest, va_Nw w U) ∧ zX adr A U H
theorem zNw_warm {s U : State} {w : Cond} (hw : znw w = true) (hW : s.WarmedH U.vm) (h : va_Nw w s) : va_Nw w U := by
  cases w with
  | fieldLinkNest a i b n d h' => exact va_Nw.warmF hW h
  | methodLinkNest a i x h' => exact va_Nw.warmM hW h
  | _ => cases hw
theorem zK_warm {D : va_G} {cA : Nat → ClassId} {adr : Nat → Nat} {A : Nat → Prop} {s U : State} {H0 H : Heap} (hW : s.WarmedH U.vm) (h : zK D cA adr A s H0) (hq : ∀ a : Nat, a < H0.size → ¬ A a → H[a]? = H0[a]?) (hAz : ∀ q, zA adr q → A q) : zK D cA adr (zA adr) U H := by
  obtain ⟨h1, h2, h3, h4, h5, h6⟩ := h
  exact ⟨va_K.moved hW.alike h1, fun w hw => zNw_warm (List.all_eq_true.mp znest_ok w hw) hW (h2 w hw), ((h3.kept hq).narrow hAz).moved hW.alike, fun i hi => (h4 i hi).warm hW, ((h5.kept hq).narrow hAz).moved hW.alike, ((h6.kept hq).narrow hAz).moved hW.alike⟩
theorem zK_same {D : va_G} {cA : Nat → ClassId} {adr : Nat → Nat} {A : Nat → Prop} {u U : State} {H : Heap} (hv : U.vm = u.vm) (h : zK D cA adr A u H) : zK D cA adr A U H := by
  obtain ⟨h1, h2, h3, h4, h5, h6⟩ := h
  have ha : u.vm.Alike U.vm := by rw [hv]; exact Vm.Alike.refl _
  refine ⟨va_K.moved ha h1, fun w hw => ?_, h3.moved ha, fun i hi => (h4 i hi).same hv, h5.moved ha, h6.moved ha⟩
  have hz := List.all_eq_true.mp znest_ok w hw
  cases w with
  | fieldLinkNest a i b n d h' => exact va_Nw.same rfl hv.symm (h2 _ hw)
  | methodLinkNest a i x h' => exact va_Nw.same rfl hv.symm (h2 _ hw)
  | _ => cases hz
