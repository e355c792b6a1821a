/-- THE OWED STATEMENT IS FALSE: at the Statement's own witness (launch0, which has room for 32768 cells and 262144 slots) -/
theorem p27_false : ¬ (Claimed_1_1 ∧ Claimed_1_2) :=
  false_at (l := launch0) rfl start1.atStart (launch0.hasRoom_least _ R9 (by decide +kernel) (by decide +kernel) (by decide +kernel) (by decide +kernel) (by decide +kernel) (by decide +kernel)) (b9 := 0) (scr := { cls := 15, slots := start1.cells0, vm := .none }) rfl rfl rfl
theorem i_vc : Claimed_1_1 ∧ Claimed_1_2 := sorry
