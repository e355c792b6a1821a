/-- .. and it has the wide room: so with that room the statement would be met by the same start -/
theorem wd_start : start1.about.hasRoom start1.e0.platform Rw = true := launch0.hasRoom_least _ Rw (by decide +kernel) (by decide +kernel) (by decide +kernel) (by decide +kernel) (by decide +kernel) (by decide +kernel)
/-- THE OWED STATEMENT IS FALSE: at the Statement's own witness (launch0, which has room for 32768 cells and 262144 slots) -/
theorem p27_false : ¬ (Claimed_1_1 ∧ Claimed_1_2) :=
  false_at (l := launch0) rfl start1.atStart (launch0.hasRoom_least _ R9 (by decide +kernel) (by decide +kernel) (by decide +kernel) (by decide +kernel) (by decide +kernel) (by decide +kernel)) (b9 := 0) (scr := { cls := 15, slots := start1.cells0, vm := .none }) rfl rfl rfl
theorem i_vc : Claimed_1_1 ∧ Claimed_1_2 := sorry
