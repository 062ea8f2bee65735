/-! the law's entry: what the premises give -/
def nwl : List Cond := flatC (Jvm.Cond.and given_1 narrow_1)
def nwP : List Nat := [33, 42, 52, 60, 73, 86, 100, 114, 130, 146, 163, 180, 199, 219, 240, 262, 286, 308, 333, 357, 384, 412, 440, 468, 498]
def nwt (i : Nat) : Term := .string RX4 (zcp.getD i 0)
def nwv (i : Nat) : Term := .field (nwt i) "java/lang/String" "value" "[B"
def nwck (i : Nat) : Bool := decide (nwl[nwP.getD i 0]? = some (.exactly (nwt i) "java/lang/String")) && decide (nwl[nwP.getD i 0 + 1]? = some (.eq (.field (nwt i) "java/lang/String" "coder" "B") (.int 0))) && decide (nwl[nwP.getD i 0 + 2]? = some (.arrayOf (nwv i) .byte)) && decide (nwl[nwP.getD i 0 + 3]? = some (.eq (.length (nwv i)) (.int (Int32.ofNat (zslen.getD i 0))))) && Nat.blt (zslen.getD i 0) 100 &&
  (List.range (zslen.getD i 0)).all (fun j => decide (nwl[nwP.getD i 0 + 4 + j]? = some (.eq (.elem (nwv i) (.int (Int32.ofNat j))) (.int ((zsbyt.getD i []).getD j 0))))) && (List.range i).all (fun j => decide (nwl[nwP.getD i 0 + 4 + zslen.getD i 0 + j]? = some (.not (.eq (nwt j) (nwt i)))))
set_option maxRecDepth 100000 in
theorem nwck_all : (List.range 25).all nwck = true := by decide +kernel
theorem nw_str {args : Array Value} {s : State} (h : (Jvm.Cond.and given_1 narrow_1).before args s = true) {A : Nat → Prop} (hA : ∀ a : Nat, a < s.heap.size → ¬ A a) : ∃ adK adV : Nat → Nat, vk_S 25 zslen zsbyt adK adV A s s.heap ∧ ∀ i : Nat, i < 25 → (nwt i).eval args s none [] s = some (.ref (adK i)) := by
  have hf := flat_of_before _ h
  have key : ∀ i, i < 25 → _ := fun i hi => List.all_eq_true.mp nwck_all i (List.mem_range.mpr hi)
  unfold nwck at key
  simp only [Bool.and_eq_true, decide_eq_true_eq] at key
  have gi : ∀ {k : Nat} {w : Cond}, nwl[k]? = some w → w.before args s = true := fun hk => hf _ (List.mem_of_getElem? hk)
  refine vk_Sof (tm := nwt) (fun i hi => ?_) (fun i hi => gi (key i hi).1.1.1.1.1.1) (fun i hi => gi (key i hi).1.1.1.1.1.2) (fun i hi => gi (key i hi).1.1.1.1.2) (fun i hi => gi (key i hi).1.1.1.2) (fun i hi j hj => ?_) (fun i j hi hj hij => ?_) hA
  · have := (key i hi).1.1.2
    unfold Nat.blt at this
    have := Nat.ble_eq.mp this
    omega
  · have := List.all_eq_true.mp (key i hi).1.2 j (List.mem_range.mpr hj)
    exact gi (of_decide_eq_true this)
  · rcases Nat.lt_or_gt_of_ne hij with q | q
    · have := List.all_eq_true.mp (key j hj).2 i (List.mem_range.mpr q)
      exact Or.inl (gi (of_decide_eq_true this))
    · have := List.all_eq_true.mp (key i hi).2 j (List.mem_range.mpr q)
      exact Or.inr (gi (of_decide_eq_true this))
