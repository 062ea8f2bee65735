/-! every method's table is what its bytes say -/
def zmchk4 (mi : Nat) : Bool := (match zmS mi with
  | true => decide (zwat (zmW mi).2.1 = some (.static (zmN mi)))
  | false => decide (zwat (zmW mi).2.1 = some (.instanceMethod (zmN mi))) && decide (zwat (zmW mi).2.2.1 = some (.selects (zmN mi).cls (zmN mi) (zmN mi))) && (decide (zmC mi = 99) || decide ((vwCl[zmC mi]?).map (fun q => q.1) = some (zmN mi).cls))) &&
  decide (zwat (zmW mi).2.2.2 = some (.initialized (zmN mi).cls)) && decide ((zmN mi).cls ≠ "java/lang/invoke/MethodHandle" ∧ (zmN mi).cls ≠ "java/lang/invoke/VarHandle" ∧ (parseMethodDescriptor (zmN mi).desc).map (fun d => d.parameters.length) = some (zmA mi)) && plainName (zmN mi).cls && Nat.ble (zmL mi) 40
theorem zmOK_of {mi n : Nat} (h1 : ∀ pc, n ≤ pc → zpt mi pc = none) (h2 : (List.range n).all (fun pc => match zpt mi pc with
  | some E => zchk (zmN mi).cls (zmB mi) pc E && zchkI (zmN mi).cls E
  | none => true) = true) (h3 : zwat (zmW mi).1 = some (Cond.code (zmN mi) (zmB mi) (zmL mi) (zmR mi))) (h4 : zmchk4 mi = true) : zmOK mi := by
  unfold zmchk4 at h4
  simp only [Bool.and_eq_true, decide_eq_true_eq] at h4
  obtain ⟨⟨⟨⟨a1, a2⟩, a3⟩, a4⟩, a5⟩ := h4
  refine ⟨fun pc E hE => ?_, zwat_in h3 rfl, fun hs => ?_, fun hs => ?_, zwat_in a2 rfl, a3, a4, zNat_ble a5⟩
  · have hlt : pc < n := by
      rcases Nat.lt_or_ge pc n with q | q
      · exact q
      · rw [h1 pc q] at hE; cases hE
    have h := List.all_eq_true.mp h2 pc (List.mem_range.mpr hlt)
    rw [hE] at h
    exact (Bool.and_eq_true _ _).mp h
  · rw [hs] at a1
    simp only [Bool.and_eq_true, Bool.or_eq_true, decide_eq_true_eq] at a1
    obtain ⟨⟨b1, b2⟩, b3⟩ := a1
    refine ⟨zwat_in b1 rfl, zwat_in b2 rfl, fun h99 => ?_⟩
    replace b3 := b3.resolve_left h99
    cases hz : vwCl[zmC mi]? with
    | none => rw [hz] at b3; cases b3
    | some q =>
      rw [hz] at b3
      obtain ⟨C, T, N⟩ := q
      cases Option.some.inj b3
      exact ⟨T, N, rfl⟩
  · rw [hs] at a1
    exact zwat_in (of_decide_eq_true a1) rfl
