set_option maxHeartbeats 4000000 in
set_option maxRecDepth 100000 in
theorem c_X3_changes (l : Launch) (G : va_G) (cy : Nat → ClassId) (a : Nat → Nat) (sz : Nat) (T : TS) (tr : Nat → Int32) (hI : Inv T) : Met l yX3_changes wsX3_changes ({ frames := 1, cells := 0, slots := 0, locals := 20 } : Room) (ml_P G cy [.ref (a 0)] (wC a cy T tr) sz) (va_Qi (fun (r : Int32) (_ : Unit) => r = nI (tn T)) (ml_B G cy (va_A (wC a cy T tr) sz) (fun (_ : Unit) => (wC a cy T tr))) (va_A (wC a cy T tr) sz)) 0 0 (va_A (wC a cy T tr) sz) := by
  refine Met.ofW (cc := cX3_changes) (maxL := 1) (ret := (some .int)) (by decide) rfl ?_
  intro p e s m args below meth c s₁ B hml hv
  obtain ⟨rfl, hsz, hP, hK, hD0, hN⟩ := hv
  have hx := B.exec
  have hb := B.bytes
  have hr := B.returns
  have hts := atoms_spec (ws := wsX3_changes) B.pre
  have hown : s.vm.findClass RX3 = some m.cls := findClass_of_methodNamed B.named
  have hlocks := B.notSynchronized
  subst hsz
  have hD := hD0.self (sz := s.heap.size)
  generalize hAe : va_A (wC a cy T tr) s.heap.size = A at hD ⊢
  have hA : ∀ q : Nat, s.heap.size ≤ q → A q := fun q h => by rw [← hAe]; exact Or.inr h
  have hS : va_S A s.heap s.heap [] := va_S.rf
  have hP : va_P G vwCl (wC a cy T tr) s.heap := hP
  have hin_X3 : ∀ w ∈ wsX30, w ∈ wsX3_changes := by decide +kernel
  have hl := lv_entry ([.ref (a 0)]) (n := 1) (Nat.le_of_ble_eq_true rfl)
  rw [lg_entry_eq]
  generalize (lg_sl ([.ref (a 0)]) ++ List.replicate (1 - (lg_sl ([.ref (a 0)])).length) Slot.unset).toArray = ls at hl ⊢
  have hl : lv_has ls 1 [(0, .ref (a 0))] := hl
  have hn12 : tn T ≤ 12 := hI.1.1
  have hlvn : tlv T ≤ tn T := hI.1.2.1
  refine lv_aload_n hx hb dX3_changes_0 rfl (lv_at hl 0 rfl) ?_
  refine va_get (D := G) (ci := 3) (v := .ref (a 1)) (C := RX3) (T := TX3) (N := 7) hx hb hts hin_X3 hown hK hP 0 rfl rfl 0 (by decide) (hts (.fieldLink RX3 10 "Migrationledger" "list" "LMigrationledger$ChangeList;") (by decide +kernel)) (fun _ h9 => h9) rfl dX3_changes_1 ?_
  refine ml_Vi (G := G) (As := []) (rest := []) ⟨hx, hb, hml, hown, hts⟩ (c_X0_count l G cy a s.heap.size T tr) (cwV 0 hts gX3_changes_X0_count rfl rfl rfl (by decide +kernel) ⟨Nat.le_of_ble_eq_true rfl, Nat.le_of_ble_eq_true rfl⟩) (va_recv hK hP (ci := 0) (q0 := 1) rfl rfl) hP hK hD hS hN hA rfl hl.1 (Nat.le_of_ble_eq_true rfl) dX3_changes_4 ⟨Nat.le_of_ble_eq_true rfl, Nat.le_of_ble_eq_true rfl⟩ (fun r_4 u_4 H locs hw hP hD hS => ?_)
  obtain rfl : r_4 = nI (tn T) := hw
  have hP : va_P G vwCl (wC a cy T tr) H := hP
  have hD : va_D A (wC a cy T tr) := hD
  exact ml_ri () hx hb hr hlocks hP hK hD hS rfl rfl dX3_changes_7
set_option maxHeartbeats 4000000 in
set_option maxRecDepth 100000 in
theorem c_X3_level (l : Launch) (G : va_G) (cy : Nat → ClassId) (a : Nat → Nat) (sz : Nat) (T : TS) (tr : Nat → Int32) (hI : Inv T) : Met l yX3_level wsX3_level ({ frames := 0, cells := 0, slots := 0, locals := 0 } : Room) (ml_P G cy [.ref (a 0)] (wC a cy T tr) sz) (va_Qi (fun (r : Int32) (_ : Unit) => r = nI (tlv T)) (ml_B G cy (va_A (wC a cy T tr) sz) (fun (_ : Unit) => (wC a cy T tr))) (va_A (wC a cy T tr) sz)) 0 0 (va_A (wC a cy T tr) sz) := by
  refine Met.ofW (cc := cX3_level) (maxL := 1) (ret := (some .int)) (by decide) rfl ?_
  intro p e s m args below meth c s₁ B hml hv
  obtain ⟨rfl, hsz, hP, hK, hD0, hN⟩ := hv
  have hx := B.exec
  have hb := B.bytes
  have hr := B.returns
  have hts := atoms_spec (ws := wsX3_level) B.pre
  have hown : s.vm.findClass RX3 = some m.cls := findClass_of_methodNamed B.named
  have hlocks := B.notSynchronized
  subst hsz
  have hD := hD0.self (sz := s.heap.size)
  generalize hAe : va_A (wC a cy T tr) s.heap.size = A at hD ⊢
  have hA : ∀ q : Nat, s.heap.size ≤ q → A q := fun q h => by rw [← hAe]; exact Or.inr h
  have hS : va_S A s.heap s.heap [] := va_S.rf
  have hP : va_P G vwCl (wC a cy T tr) s.heap := hP
  have hin_X3 : ∀ w ∈ wsX30, w ∈ wsX3_level := by decide +kernel
  have hl := lv_entry ([.ref (a 0)]) (n := 1) (Nat.le_of_ble_eq_true rfl)
  rw [lg_entry_eq]
  generalize (lg_sl ([.ref (a 0)]) ++ List.replicate (1 - (lg_sl ([.ref (a 0)])).length) Slot.unset).toArray = ls at hl ⊢
  have hl : lv_has ls 1 [(0, .ref (a 0))] := hl
  have hn12 : tn T ≤ 12 := hI.1.1
  have hlvn : tlv T ≤ tn T := hI.1.2.1
  refine lv_aload_n hx hb dX3_level_0 rfl (lv_at hl 0 rfl) ?_
  refine va_get (D := G) (ci := 3) (v := .int (nI (tlv T))) (C := RX3) (T := TX3) (N := 7) hx hb hts hin_X3 hown hK hP 0 rfl rfl 4 (by decide) (hts (.fieldLink RX3 81 "Migrationledger" "done" "I") (by decide +kernel)) (fun _ h9 => h9) rfl dX3_level_1 ?_
  exact ml_ri () hx hb hr hlocks hP hK hD hS rfl rfl dX3_level_4
set_option maxHeartbeats 4000000 in
set_option maxRecDepth 100000 in
theorem c_X3_holder (l : Launch) (G : va_G) (cy : Nat → ClassId) (a : Nat → Nat) (sz : Nat) (T : TS) (tr : Nat → Int32) (hI : Inv T) : Met l yX3_holder wsX3_holder ({ frames := 1, cells := 0, slots := 0, locals := 20 } : Room) (ml_P G cy [.ref (a 0)] (wC a cy T tr) sz) (va_Qi (fun (r : Int32) (_ : Unit) => r = owner T) (ml_B G cy (va_A (wC a cy T tr) sz) (fun (_ : Unit) => (wC a cy T tr))) (va_A (wC a cy T tr) sz)) 0 0 (va_A (wC a cy T tr) sz) := by
  refine Met.ofW (cc := cX3_holder) (maxL := 1) (ret := (some .int)) (by decide) rfl ?_
  intro p e s m args below meth c s₁ B hml hv
  obtain ⟨rfl, hsz, hP, hK, hD0, hN⟩ := hv
  have hx := B.exec
  have hb := B.bytes
  have hr := B.returns
  have hts := atoms_spec (ws := wsX3_holder) B.pre
  have hown : s.vm.findClass RX3 = some m.cls := findClass_of_methodNamed B.named
  have hlocks := B.notSynchronized
  subst hsz
  have hD := hD0.self (sz := s.heap.size)
  generalize hAe : va_A (wC a cy T tr) s.heap.size = A at hD ⊢
  have hA : ∀ q : Nat, s.heap.size ≤ q → A q := fun q h => by rw [← hAe]; exact Or.inr h
  have hS : va_S A s.heap s.heap [] := va_S.rf
  have hP : va_P G vwCl (wC a cy T tr) s.heap := hP
  have hin_X3 : ∀ w ∈ wsX30, w ∈ wsX3_holder := by decide +kernel
  have hl := lv_entry ([.ref (a 0)]) (n := 1) (Nat.le_of_ble_eq_true rfl)
  rw [lg_entry_eq]
  generalize (lg_sl ([.ref (a 0)]) ++ List.replicate (1 - (lg_sl ([.ref (a 0)])).length) Slot.unset).toArray = ls at hl ⊢
  have hl : lv_has ls 1 [(0, .ref (a 0))] := hl
  have hn12 : tn T ≤ 12 := hI.1.1
  have hlvn : tlv T ≤ tn T := hI.1.2.1
  refine lv_aload_n hx hb dX3_holder_0 rfl (lv_at hl 0 rfl) ?_
  refine va_get (D := G) (ci := 3) (v := .ref (a 3)) (C := RX3) (T := TX3) (N := 7) hx hb hts hin_X3 hown hK hP 0 rfl rfl 2 (by decide) (hts (.fieldLink RX3 26 "Migrationledger" "lock" "LMigrationledger$Lock;") (by decide +kernel)) (fun _ h9 => h9) rfl dX3_holder_1 ?_
  refine ml_Vi (G := G) (As := []) (rest := []) ⟨hx, hb, hml, hown, hts⟩ (c_X1_owner l G cy a s.heap.size T tr) (cwV 0 hts gX3_holder_X1_owner rfl rfl rfl (by decide +kernel) ⟨Nat.le_of_ble_eq_true rfl, Nat.le_of_ble_eq_true rfl⟩) (va_recv hK hP (ci := 1) (q0 := 3) rfl rfl) hP hK hD hS hN hA rfl hl.1 (Nat.le_of_ble_eq_true rfl) dX3_holder_4 ⟨Nat.le_of_ble_eq_true rfl, Nat.le_of_ble_eq_true rfl⟩ (fun r_4 u_4 H locs hw hP hD hS => ?_)
  obtain rfl : r_4 = owner T := hw
  have hP : va_P G vwCl (wC a cy T tr) H := hP
  have hD : va_D A (wC a cy T tr) := hD
  exact ml_ri () hx hb hr hlocks hP hK hD hS rfl rfl dX3_holder_7
set_option maxHeartbeats 4000000 in
set_option maxRecDepth 100000 in
theorem c_X3_drifted (l : Launch) (G : va_G) (cy : Nat → ClassId) (a : Nat → Nat) (sz : Nat) (T : TS) (tr : Nat → Int32) (hI : Inv T) : Met l yX3_drifted wsX3_drifted ({ frames := 3, cells := 0, slots := 0, locals := 66 } : Room) (ml_P G cy [.ref (a 0)] (wC a cy T tr) sz) (va_Qi (fun (r : Int32) (_ : Unit) => r = fdr T) (ml_B G cy (va_A (wC a cy T tr) sz) (fun (_ : Unit) => (wC a cy T tr))) (va_A (wC a cy T tr) sz)) 0 0 (va_A (wC a cy T tr) sz) := by
  refine Met.ofW (cc := cX3_drifted) (maxL := 1) (ret := (some .int)) (by decide) rfl ?_
  intro p e s m args below meth c s₁ B hml hv
  obtain ⟨rfl, hsz, hP, hK, hD0, hN⟩ := hv
  have hx := B.exec
  have hb := B.bytes
  have hr := B.returns
  have hts := atoms_spec (ws := wsX3_drifted) B.pre
  have hown : s.vm.findClass RX3 = some m.cls := findClass_of_methodNamed B.named
  have hlocks := B.notSynchronized
  subst hsz
  have hD := hD0.self (sz := s.heap.size)
  generalize hAe : va_A (wC a cy T tr) s.heap.size = A at hD ⊢
  have hA : ∀ q : Nat, s.heap.size ≤ q → A q := fun q h => by rw [← hAe]; exact Or.inr h
  have hS : va_S A s.heap s.heap [] := va_S.rf
  have hP : va_P G vwCl (wC a cy T tr) s.heap := hP
  have hin_X3 : ∀ w ∈ wsX30, w ∈ wsX3_drifted := by decide +kernel
  have hl := lv_entry ([.ref (a 0)]) (n := 1) (Nat.le_of_ble_eq_true rfl)
  rw [lg_entry_eq]
  generalize (lg_sl ([.ref (a 0)]) ++ List.replicate (1 - (lg_sl ([.ref (a 0)])).length) Slot.unset).toArray = ls at hl ⊢
  have hl : lv_has ls 1 [(0, .ref (a 0))] := hl
  have hn12 : tn T ≤ 12 := hI.1.1
  have hlvn : tlv T ≤ tn T := hI.1.2.1
  refine lv_aload_n hx hb dX3_drifted_0 rfl (lv_at hl 0 rfl) ?_
  refine va_get (D := G) (ci := 3) (v := .ref (a 1)) (C := RX3) (T := TX3) (N := 7) hx hb hts hin_X3 hown hK hP 0 rfl rfl 0 (by decide) (hts (.fieldLink RX3 10 "Migrationledger" "list" "LMigrationledger$ChangeList;") (by decide +kernel)) (fun _ h9 => h9) rfl dX3_drifted_1 ?_
  refine lv_aload_n hx hb dX3_drifted_4 rfl (lv_at hl 0 rfl) ?_
  refine va_get (D := G) (ci := 3) (v := .int (nI (tlv T))) (C := RX3) (T := TX3) (N := 7) hx hb hts hin_X3 hown hK hP 0 rfl rfl 4 (by decide) (hts (.fieldLink RX3 81 "Migrationledger" "done" "I") (by decide +kernel)) (fun _ h9 => h9) rfl dX3_drifted_5 ?_
  refine ml_Vi (G := G) (As := [.int (nI (tlv T))]) (rest := []) ⟨hx, hb, hml, hown, hts⟩ (c_X0_firstDrifted l G cy a s.heap.size T tr (tlv T) (by omega)) (cwV 1 hts gX3_drifted_X0_firstDrifted rfl rfl rfl (by decide +kernel) ⟨Nat.le_of_ble_eq_true rfl, Nat.le_of_ble_eq_true rfl⟩) (va_recv hK hP (ci := 0) (q0 := 1) rfl rfl) hP hK hD hS hN hA rfl hl.1 (Nat.le_of_ble_eq_true rfl) dX3_drifted_8 ⟨Nat.le_of_ble_eq_true rfl, Nat.le_of_ble_eq_true rfl⟩ (fun r_8 u_8 H locs hw hP hD hS => ?_)
  obtain rfl : r_8 = fdU T (tlv T) 0 := hw
  have hP : va_P G vwCl (wC a cy T tr) H := hP
  have hD : va_D A (wC a cy T tr) := hD
  exact ml_ri () hx hb hr hlocks hP hK hD hS rfl rfl dX3_drifted_11
set_option maxHeartbeats 4000000 in
set_option maxRecDepth 100000 in
theorem c_X3_addChange (l : Launch) (hlt : l.stackTraces = false) (G : va_G) (cy : Nat → ClassId) (a : Nat → Nat) (sz : Nat) (T : TS) (tr : Nat → Int32) (x : Int32) (y : Int32) (z : Int32) (hI : Inv T) : vy_Met l yX3_addChange wsX3_addChange ({ frames := 8, cells := 1, slots := 6, locals := 124 } : Room) (ml_PX G cy [.ref (a 0), .int x, .int y, .int z] (wC a cy T tr) sz) (va_Qi (fun (r : Int32) (u : Nat → Int32) => (sp_addChange T x y z).1 = 0 ∧ (sp_addChange T x y z).2.1 = r) (ml_B G cy (va_A (wC a cy T tr) sz) (fun (u : Nat → Int32) => (wC a cy ((sp_addChange T x y z).2.2) u))) (va_A (wC a cy T tr) sz)) (ml_XE G cy (va_A (wC a cy T tr) sz) (fun tr9 : Nat → Int32 => wC a cy T tr9) (fun E => (E = eIA ∧ sp_addChange T x y z = (1, 0, T)) ∨ (E = eIS ∧ sp_addChange T x y z = (2, 0, T)))) 1 6 (va_A (wC a cy T tr) sz) := by
  refine vy_ofW (cc := cX3_addChange) (maxL := 4) (ret := (some .int)) (by decide) rfl ?_
  intro p e s m args below meth c s₁ B hml hout hv
  obtain ⟨rfl, hsz, hP, hK, hD0, hN, hE⟩ := hv
  have hx := B.exec
  have hb := B.bytes
  have hr := B.returns
  have hts := atoms_spec (ws := wsX3_addChange) B.pre
  have hown : s.vm.findClass RX3 = some m.cls := findClass_of_methodNamed B.named
  have hlocks := B.notSynchronized
  subst hsz
  have hD := hD0.self (sz := s.heap.size)
  generalize hAe : va_A (wC a cy T tr) s.heap.size = A at hD hE ⊢
  have hA : ∀ q : Nat, s.heap.size ≤ q → A q := fun q h => by rw [← hAe]; exact Or.inr h
  have hS : va_S A s.heap s.heap [] := va_S.rf
  have hP : va_P G vwCl (wC a cy T tr) s.heap := hP
  have hin_X3 : ∀ w ∈ wsX30, w ∈ wsX3_addChange := by decide +kernel
  have hl := lv_entry ([.ref (a 0), .int x, .int y, .int z]) (n := 4) (Nat.le_of_ble_eq_true rfl)
  rw [lg_entry_eq]
  generalize (lg_sl ([.ref (a 0), .int x, .int y, .int z]) ++ List.replicate (4 - (lg_sl ([.ref (a 0), .int x, .int y, .int z])).length) Slot.unset).toArray = ls at hl ⊢
  have hl : lv_has ls 4 [(0, .ref (a 0)), (1, .int x), (2, .int y), (3, .int z)] := hl
  have hn12 : tn T ≤ 12 := hI.1.1
  have hlvn : tlv T ≤ tn T := hI.1.2.1
  have hcu : tcu T ≤ 40 := hI.1.2.2
  have hW := hI.w
  refine lv_iload_n hx hb dX3_addChange_0 rfl (lv_at hl 1 rfl) ?_
  refine lv_iload_n hx hb dX3_addChange_1 rfl (lv_at hl 2 rfl) ?_
  refine lv_iload_n hx hb dX3_addChange_2 rfl (lv_at hl 3 rfl) ?_
  refine ml_xSv (G := G) (As := [.int x, .int y, .int z]) (rest := []) ⟨hx, hb, hml, hown, hts⟩ (c_X3_requireChangeParts l hlt G cy a s.heap.size T tr x y z) (va_cwS 3 hts gX3_addChange_X3_requireChangeParts rfl rfl rfl (by decide +kernel) ⟨Nat.le_of_ble_eq_true rfl, Nat.le_of_ble_eq_true rfl⟩) hP hK hD hS hN hA hE rfl hl.1 (Nat.le_of_ble_eq_true rfl) dX3_addChange_3 ⟨Nat.le_of_ble_eq_true rfl, Nat.le_of_ble_eq_true rfl⟩ (fun E ce q9 H1 locs1 hz9 hp hP hD hS9 hcell hv hcl => ml_outE tr rfl hout hlocks (Nat.lt_of_le_of_lt hS.1 hz9) (Or.inl (⟨hp.1, by unfold sp_addChange; rw [cif_t hp.2] <;> rfl⟩)) hP hK hD hS9 hcell hv hcl (Nat.le_of_ble_eq_true rfl) (Nat.le_of_ble_eq_true rfl)) (fun u_3 H locs hw hP hD hS => ?_)
  have q_3 := hw
  have hP : va_P G vwCl (wC a cy T tr) H := hP
  have hD : va_D A (wC a cy T tr) := hD
  refine lv_aload_n hx hb dX3_addChange_6 rfl (lv_at hl 0 rfl) ?_
  refine va_get (D := G) (ci := 3) (v := .ref (a 1)) (C := RX3) (T := TX3) (N := 7) hx hb hts hin_X3 hown hK hP 0 rfl rfl 0 (by decide) (hts (.fieldLink RX3 10 "Migrationledger" "list" "LMigrationledger$ChangeList;") (by decide +kernel)) (fun _ h9 => h9) rfl dX3_addChange_7 ?_
  refine ml_Vi (G := G) (As := []) (rest := []) ⟨hx, hb, hml, hown, hts⟩ (c_X0_isFull l G cy a H.size T tr hn12) (cwV 0 hts gX3_addChange_X0_isFull rfl rfl rfl (by decide +kernel) ⟨Nat.le_of_ble_eq_true rfl, Nat.le_of_ble_eq_true rfl⟩) (va_recv hK hP (ci := 0) (q0 := 1) rfl rfl) hP hK hD hS hN hA rfl hl.1 (Nat.le_of_ble_eq_true rfl) dX3_addChange_10 ⟨Nat.le_of_ble_eq_true rfl, Nat.le_of_ble_eq_true rfl⟩ (fun r_10 u_10 H locs hw hP hD hS => ?_)
  obtain rfl : r_10 = b2i (12 ≤ tn T) := hw
  have hP : va_P G vwCl (wC a cy T tr) H := hP
  have hD : va_D A (wC a cy T tr) := hD
  refine ml_ifeqb (tgt := 26) hx hb dX3_addChange_13 (by decide) (fun c_13 => ?_) (fun c_13 => ?_)
  · refine lv_aload_n hx hb dX3_addChange_26 rfl (lv_at hl 0 rfl) ?_
    refine va_get (D := G) (ci := 3) (v := .ref (a 1)) (C := RX3) (T := TX3) (N := 7) hx hb hts hin_X3 hown hK hP 0 rfl rfl 0 (by decide) (hts (.fieldLink RX3 10 "Migrationledger" "list" "LMigrationledger$ChangeList;") (by decide +kernel)) (fun _ h9 => h9) rfl dX3_addChange_27 ?_
    refine lv_iload_n hx hb dX3_addChange_30 rfl (lv_at hl 1 rfl) ?_
    refine lv_iload_n hx hb dX3_addChange_31 rfl (lv_at hl 2 rfl) ?_
    refine lv_iload_n hx hb dX3_addChange_32 rfl (lv_at hl 3 rfl) ?_
    refine ml_Vi (G := G) (As := [.int x, .int y, .int z]) (rest := []) ⟨hx, hb, hml, hown, hts⟩ (c_X0_append l G cy a H.size T tr x y z (Nat.lt_of_not_le c_13)) (cwV 3 hts gX3_addChange_X0_append rfl rfl rfl (by decide +kernel) ⟨Nat.le_of_ble_eq_true rfl, Nat.le_of_ble_eq_true rfl⟩) (va_recv hK hP (ci := 0) (q0 := 1) rfl rfl) hP hK hD hS hN hA rfl hl.1 (Nat.le_of_ble_eq_true rfl) dX3_addChange_33 ⟨Nat.le_of_ble_eq_true rfl, Nat.le_of_ble_eq_true rfl⟩ (fun r_33 u_33 H locs hw hP hD hS => ?_)
    obtain rfl : r_33 = nI (tn T + 1) := hw
    have hP : va_P G vwCl (wC a cy (putC (un T (tn T + 1)) (tn T + 1) x y z) tr) H := hP
    have hD : va_D A (wC a cy (putC (un T (tn T + 1)) (tn T + 1) x y z) tr) := hD
    exact vy_ret (ml_ri tr hx hb hr hlocks hP hK hD hS (by rw [(show sp_addChange T x y z = (0, nI (tn T + 1), putC (un T (tn T + 1)) (tn T + 1) x y z) from by unfold sp_addChange; rw [cif_f (not_not_intro q_3), cif_f (fun h => c_13 (Nat.le_of_eq h.symm) : ¬ tn T = 12)] <;> rfl)]) ⟨by rw [(show sp_addChange T x y z = (0, nI (tn T + 1), putC (un T (tn T + 1)) (tn T + 1) x y z) from by unfold sp_addChange; rw [cif_f (not_not_intro q_3), cif_f (fun h => c_13 (Nat.le_of_eq h.symm) : ¬ tn T = 12)] <;> rfl)], by rw [(show sp_addChange T x y z = (0, nI (tn T + 1), putC (un T (tn T + 1)) (tn T + 1) x y z) from by unfold sp_addChange; rw [cif_f (not_not_intro q_3), cif_f (fun h => c_13 (Nat.le_of_eq h.symm) : ¬ tn T = 12)] <;> rfl)]⟩ dX3_addChange_36)
  · exact ml_thrE tr rfl false hx hb hlt hown rfl (by decide) (text := "there are 12 changes") (by decide) (hts (.classLink RX3 46 eIS) (by decide +kernel)) (hts (.initialized eIS) (by decide +kernel)) (fun w h => hts w (List.mem_cons_of_mem _ (List.mem_append_left _ (List.mem_append_right _ h)))) th_ng50 th_gd50 hP hK hD hE hS (hl.1.trans hml.symm) dX3_addChange_16 dX3_addChange_19 dX3_addChange_20 dX3_addChange_22 dX3_addChange_25 hout (Nat.le_of_ble_eq_true rfl) (Nat.le_of_ble_eq_true rfl) (Nat.le_of_ble_eq_true rfl) (Nat.le_of_ble_eq_true rfl) hlocks (Or.inr (⟨rfl, by unfold sp_addChange; rw [cif_f (not_not_intro q_3), cif_t (tn_12 hn12 c_13)] <;> rfl⟩)) (Nat.le_of_ble_eq_true rfl) (Nat.le_of_ble_eq_true rfl)
set_option maxHeartbeats 4000000 in
set_option maxRecDepth 100000 in
theorem c_X3_edit (l : Launch) (hlt : l.stackTraces = false) (G : va_G) (cy : Nat → ClassId) (a : Nat → Nat) (sz : Nat) (T : TS) (tr : Nat → Int32) (h : Int32) (x : Int32) (y : Int32) (z : Int32) (hI : Inv T) : vy_Met l yX3_edit wsX3_edit ({ frames := 8, cells := 1, slots := 6, locals := 124 } : Room) (ml_PX G cy [.ref (a 0), .int h, .int x, .int y, .int z] (wC a cy T tr) sz) (va_Qi (fun (r : Int32) (u : Nat → Int32) => (sp_edit T h x y z).1 = 0 ∧ (sp_edit T h x y z).2.1 = r) (ml_B G cy (va_A (wC a cy T tr) sz) (fun (u : Nat → Int32) => (wC a cy ((sp_edit T h x y z).2.2) u))) (va_A (wC a cy T tr) sz)) (ml_XE G cy (va_A (wC a cy T tr) sz) (fun tr9 : Nat → Int32 => wC a cy T tr9) (fun E => (E = eIA ∧ sp_edit T h x y z = (1, 0, T)) ∨ (E = eIB ∧ sp_edit T h x y z = (2, 0, T)) ∨ (E = eIS ∧ sp_edit T h x y z = (3, 0, T)))) 1 6 (va_A (wC a cy T tr) sz) := by
  refine vy_ofW (cc := cX3_edit) (maxL := 5) (ret := (some .int)) (by decide) rfl ?_
  intro p e s m args below meth c s₁ B hml hout hv
  obtain ⟨rfl, hsz, hP, hK, hD0, hN, hE⟩ := hv
  have hx := B.exec
  have hb := B.bytes
  have hr := B.returns
  have hts := atoms_spec (ws := wsX3_edit) B.pre
  have hown : s.vm.findClass RX3 = some m.cls := findClass_of_methodNamed B.named
  have hlocks := B.notSynchronized
  subst hsz
  have hD := hD0.self (sz := s.heap.size)
  generalize hAe : va_A (wC a cy T tr) s.heap.size = A at hD hE ⊢
  have hA : ∀ q : Nat, s.heap.size ≤ q → A q := fun q h => by rw [← hAe]; exact Or.inr h
  have hS : va_S A s.heap s.heap [] := va_S.rf
  have hP : va_P G vwCl (wC a cy T tr) s.heap := hP
  have hin_X3 : ∀ w ∈ wsX30, w ∈ wsX3_edit := by decide +kernel
  have hl := lv_entry ([.ref (a 0), .int h, .int x, .int y, .int z]) (n := 5) (Nat.le_of_ble_eq_true rfl)
  rw [lg_entry_eq]
  generalize (lg_sl ([.ref (a 0), .int h, .int x, .int y, .int z]) ++ List.replicate (5 - (lg_sl ([.ref (a 0), .int h, .int x, .int y, .int z])).length) Slot.unset).toArray = ls at hl ⊢
  have hl : lv_has ls 5 [(0, .ref (a 0)), (1, .int h), (2, .int x), (3, .int y), (4, .int z)] := hl
  have hn12 : tn T ≤ 12 := hI.1.1
  have hlvn : tlv T ≤ tn T := hI.1.2.1
  have hcu : tcu T ≤ 40 := hI.1.2.2
  have hW := hI.w
  refine lv_iload_n hx hb dX3_edit_0 rfl (lv_at hl 2 rfl) ?_
  refine lv_iload_n hx hb dX3_edit_1 rfl (lv_at hl 3 rfl) ?_
  refine lv_iload hx hb dX3_edit_2 (lv_at hl 4 rfl) ?_
  refine ml_xSv (G := G) (As := [.int x, .int y, .int z]) (rest := []) ⟨hx, hb, hml, hown, hts⟩ (c_X3_requireChangeParts l hlt G cy a s.heap.size T tr x y z) (va_cwS 3 hts gX3_edit_X3_requireChangeParts rfl rfl rfl (by decide +kernel) ⟨Nat.le_of_ble_eq_true rfl, Nat.le_of_ble_eq_true rfl⟩) hP hK hD hS hN hA hE rfl hl.1 (Nat.le_of_ble_eq_true rfl) dX3_edit_4 ⟨Nat.le_of_ble_eq_true rfl, Nat.le_of_ble_eq_true rfl⟩ (fun E ce q9 H1 locs1 hz9 hp hP hD hS9 hcell hv hcl => ml_outE tr rfl hout hlocks (Nat.lt_of_le_of_lt hS.1 hz9) (Or.inl (⟨hp.1, by unfold sp_edit; rw [cif_t hp.2] <;> rfl⟩)) hP hK hD hS9 hcell hv hcl (Nat.le_of_ble_eq_true rfl) (Nat.le_of_ble_eq_true rfl)) (fun u_4 H locs hw hP hD hS => ?_)
  have q_4 := hw
  have hP : va_P G vwCl (wC a cy T tr) H := hP
  have hD : va_D A (wC a cy T tr) := hD
  refine lv_aload_n hx hb dX3_edit_7 rfl (lv_at hl 0 rfl) ?_
  refine lv_iload_n hx hb dX3_edit_8 rfl (lv_at hl 1 rfl) ?_
  refine ml_xVv (G := G) (As := [.int h]) (rest := []) ⟨hx, hb, hml, hown, hts⟩ (c_X3_requireListed l hlt G cy a H.size T tr h) (cwV 1 hts gX3_edit_X3_requireListed rfl rfl rfl (by decide +kernel) ⟨Nat.le_of_ble_eq_true rfl, Nat.le_of_ble_eq_true rfl⟩) (va_recv hK hP (ci := 3) (q0 := 0) rfl rfl) hP hK hD hS hN hA hE rfl hl.1 (Nat.le_of_ble_eq_true rfl) dX3_edit_9 ⟨Nat.le_of_ble_eq_true rfl, Nat.le_of_ble_eq_true rfl⟩ (fun E ce q9 H1 locs1 hz9 hp hP hD hS9 hcell hv hcl => ml_outE tr rfl hout hlocks (Nat.lt_of_le_of_lt hS.1 hz9) (Or.inr (Or.inl (⟨hp.1, by unfold sp_edit; rw [cif_f (not_not_intro q_4), cif_t hp.2] <;> rfl⟩))) hP hK hD hS9 hcell hv hcl (Nat.le_of_ble_eq_true rfl) (Nat.le_of_ble_eq_true rfl)) (fun u_9 H locs hw hP hD hS => ?_)
  have q_9 := hw
  have hP : va_P G vwCl (wC a cy T tr) H := hP
  have hD : va_D A (wC a cy T tr) := hD
  obtain ⟨k, hk, rfl⟩ := inR_1 (by omega) q_9
  refine lv_aload_n hx hb dX3_edit_12 rfl (lv_at hl 0 rfl) ?_
  refine ml_Vi (G := G) (As := []) (rest := []) ⟨hx, hb, hml, hown, hts⟩ (c_X3_isActive l G cy a H.size T tr) (cwV 0 hts gX3_edit_X3_isActive rfl rfl rfl (by decide +kernel) ⟨Nat.le_of_ble_eq_true rfl, Nat.le_of_ble_eq_true rfl⟩) (va_recv hK hP (ci := 3) (q0 := 0) rfl rfl) hP hK hD hS hN hA rfl hl.1 (Nat.le_of_ble_eq_true rfl) dX3_edit_13 ⟨Nat.le_of_ble_eq_true rfl, Nat.le_of_ble_eq_true rfl⟩ (fun r_13 u_13 H locs hw hP hD hS => ?_)
  obtain rfl : r_13 = b2i (tac T ≠ 0) := hw
  have hP : va_P G vwCl (wC a cy T tr) H := hP
  have hD : va_D A (wC a cy T tr) := hD
  refine ml_ifeqb (tgt := 37) hx hb dX3_edit_16 (by decide) (fun c_16 => ?_) (fun c_16 => ?_)
  · refine lv_aload_n hx hb dX3_edit_37 rfl (lv_at hl 0 rfl) ?_
    refine va_get (D := G) (ci := 3) (v := .ref (a 1)) (C := RX3) (T := TX3) (N := 7) hx hb hts hin_X3 hown hK hP 0 rfl rfl 0 (by decide) (hts (.fieldLink RX3 10 "Migrationledger" "list" "LMigrationledger$ChangeList;") (by decide +kernel)) (fun _ h9 => h9) rfl dX3_edit_38 ?_
    refine lv_iload_n hx hb dX3_edit_41 rfl (lv_at hl 1 rfl) ?_
    refine lv_iload_n hx hb dX3_edit_42 rfl (lv_at hl 2 rfl) ?_
    refine lv_iload_n hx hb dX3_edit_43 rfl (lv_at hl 3 rfl) ?_
    refine lv_iload hx hb dX3_edit_44 (lv_at hl 4 rfl) ?_
    refine ml_Vv (G := G) (As := [.int (nI (k + 1)), .int x, .int y, .int z]) (rest := []) ⟨hx, hb, hml, hown, hts⟩ (c_X0_put l G cy a H.size T tr k (by omega) x y z) (cwV 4 hts gX3_edit_X0_put rfl rfl rfl (by decide +kernel) ⟨Nat.le_of_ble_eq_true rfl, Nat.le_of_ble_eq_true rfl⟩) (va_recv hK hP (ci := 0) (q0 := 1) rfl rfl) hP hK hD hS hN hA rfl hl.1 (Nat.le_of_ble_eq_true rfl) dX3_edit_46 ⟨Nat.le_of_ble_eq_true rfl, Nat.le_of_ble_eq_true rfl⟩ (fun u_46 H locs hw hP hD hS => ?_)
    have hP : va_P G vwCl (wC a cy (putC T (k + 1) x y z) tr) H := hP
    have hD : va_D A (wC a cy (putC T (k + 1) x y z) tr) := hD
    refine lv_aload_n hx hb dX3_edit_49 rfl (lv_at hl 0 rfl) ?_
    refine va_get (D := G) (ci := 3) (v := .ref (a 1)) (C := RX3) (T := TX3) (N := 7) hx hb hts hin_X3 hown hK hP 0 rfl rfl 0 (by decide) (hts (.fieldLink RX3 10 "Migrationledger" "list" "LMigrationledger$ChangeList;") (by decide +kernel)) (fun _ h9 => h9) rfl dX3_edit_50 ?_
    refine lv_iload_n hx hb dX3_edit_53 rfl (lv_at hl 1 rfl) ?_
    refine ml_Vi (G := G) (As := [.int (nI (k + 1))]) (rest := []) ⟨hx, hb, hml, hown, hts⟩ (c_X0_checksumOf l G cy a H.size (putC T (k + 1) x y z) tr k (by omega)) (cwV 1 hts gX3_edit_X0_checksumOf rfl rfl rfl (by decide +kernel) ⟨Nat.le_of_ble_eq_true rfl, Nat.le_of_ble_eq_true rfl⟩) (va_recv hK hP (ci := 0) (q0 := 1) rfl rfl) hP hK hD hS hN hA rfl hl.1 (Nat.le_of_ble_eq_true rfl) dX3_edit_54 ⟨Nat.le_of_ble_eq_true rfl, Nat.le_of_ble_eq_true rfl⟩ (fun r_54 u_54 H locs hw hP hD hS => ?_)
    obtain rfl : r_54 = sumOf (putC T (k + 1) x y z) (k + 1) := hw
    have hP : va_P G vwCl (wC a cy (putC T (k + 1) x y z) tr) H := hP
    have hD : va_D A (wC a cy (putC T (k + 1) x y z) tr) := hD
    exact vy_ret (ml_ri tr hx hb hr hlocks hP hK hD hS (by rw [(show sp_edit T (nI (k + 1)) x y z = (0, sumOf (putC T (k + 1) x y z) (k + 1), putC T (k + 1) x y z) from by unfold sp_edit; rw [cif_f (not_not_intro q_4), cif_f (not_not_intro q_9), cif_f (fun q => c_16 q.1 : ¬ (tac T ≠ 0 ∧ nI (k + 1) = nI (tlv T + 1))), ix_n (j := k + 1) (by omega)] <;> rfl)]) ⟨by rw [(show sp_edit T (nI (k + 1)) x y z = (0, sumOf (putC T (k + 1) x y z) (k + 1), putC T (k + 1) x y z) from by unfold sp_edit; rw [cif_f (not_not_intro q_4), cif_f (not_not_intro q_9), cif_f (fun q => c_16 q.1 : ¬ (tac T ≠ 0 ∧ nI (k + 1) = nI (tlv T + 1))), ix_n (j := k + 1) (by omega)] <;> rfl)], by rw [(show sp_edit T (nI (k + 1)) x y z = (0, sumOf (putC T (k + 1) x y z) (k + 1), putC T (k + 1) x y z) from by unfold sp_edit; rw [cif_f (not_not_intro q_4), cif_f (not_not_intro q_9), cif_f (fun q => c_16 q.1 : ¬ (tac T ≠ 0 ∧ nI (k + 1) = nI (tlv T + 1))), ix_n (j := k + 1) (by omega)] <;> rfl)]⟩ dX3_edit_57)
  · refine lv_iload_n hx hb dX3_edit_19 rfl (lv_at hl 1 rfl) ?_
    refine lv_aload_n hx hb dX3_edit_20 rfl (lv_at hl 0 rfl) ?_
    refine ml_Vi (G := G) (As := []) (rest := [.int (nI (k + 1))]) ⟨hx, hb, hml, hown, hts⟩ (c_X3_activeNumber l G cy a H.size T tr) (cwV 0 hts gX3_edit_X3_activeNumber rfl rfl rfl (by decide +kernel) ⟨Nat.le_of_ble_eq_true rfl, Nat.le_of_ble_eq_true rfl⟩) (va_recv hK hP (ci := 3) (q0 := 0) rfl rfl) hP hK hD hS hN hA rfl hl.1 (Nat.le_of_ble_eq_true rfl) dX3_edit_21 ⟨Nat.le_of_ble_eq_true rfl, Nat.le_of_ble_eq_true rfl⟩ (fun r_21 u_21 H locs hw hP hD hS => ?_)
    obtain rfl : r_21 = nI (tlv T + 1) := hw
    have hP : va_P G vwCl (wC a cy T tr) H := hP
    have hD : va_D A (wC a cy T tr) := hD
    refine lv_icmp_ne (tgt := 37) hx hb dX3_edit_24 (by decide) (fun c_24 => ?_) (fun c_24 => ?_)
    · refine lv_aload_n hx hb dX3_edit_37 rfl (lv_at hl 0 rfl) ?_
      refine va_get (D := G) (ci := 3) (v := .ref (a 1)) (C := RX3) (T := TX3) (N := 7) hx hb hts hin_X3 hown hK hP 0 rfl rfl 0 (by decide) (hts (.fieldLink RX3 10 "Migrationledger" "list" "LMigrationledger$ChangeList;") (by decide +kernel)) (fun _ h9 => h9) rfl dX3_edit_38 ?_
      refine lv_iload_n hx hb dX3_edit_41 rfl (lv_at hl 1 rfl) ?_
      refine lv_iload_n hx hb dX3_edit_42 rfl (lv_at hl 2 rfl) ?_
      refine lv_iload_n hx hb dX3_edit_43 rfl (lv_at hl 3 rfl) ?_
      refine lv_iload hx hb dX3_edit_44 (lv_at hl 4 rfl) ?_
      refine ml_Vv (G := G) (As := [.int (nI (k + 1)), .int x, .int y, .int z]) (rest := []) ⟨hx, hb, hml, hown, hts⟩ (c_X0_put l G cy a H.size T tr k (by omega) x y z) (cwV 4 hts gX3_edit_X0_put rfl rfl rfl (by decide +kernel) ⟨Nat.le_of_ble_eq_true rfl, Nat.le_of_ble_eq_true rfl⟩) (va_recv hK hP (ci := 0) (q0 := 1) rfl rfl) hP hK hD hS hN hA rfl hl.1 (Nat.le_of_ble_eq_true rfl) dX3_edit_46 ⟨Nat.le_of_ble_eq_true rfl, Nat.le_of_ble_eq_true rfl⟩ (fun u_46 H locs hw hP hD hS => ?_)
      have hP : va_P G vwCl (wC a cy (putC T (k + 1) x y z) tr) H := hP
      have hD : va_D A (wC a cy (putC T (k + 1) x y z) tr) := hD
      refine lv_aload_n hx hb dX3_edit_49 rfl (lv_at hl 0 rfl) ?_
      refine va_get (D := G) (ci := 3) (v := .ref (a 1)) (C := RX3) (T := TX3) (N := 7) hx hb hts hin_X3 hown hK hP 0 rfl rfl 0 (by decide) (hts (.fieldLink RX3 10 "Migrationledger" "list" "LMigrationledger$ChangeList;") (by decide +kernel)) (fun _ h9 => h9) rfl dX3_edit_50 ?_
      refine lv_iload_n hx hb dX3_edit_53 rfl (lv_at hl 1 rfl) ?_
      refine ml_Vi (G := G) (As := [.int (nI (k + 1))]) (rest := []) ⟨hx, hb, hml, hown, hts⟩ (c_X0_checksumOf l G cy a H.size (putC T (k + 1) x y z) tr k (by omega)) (cwV 1 hts gX3_edit_X0_checksumOf rfl rfl rfl (by decide +kernel) ⟨Nat.le_of_ble_eq_true rfl, Nat.le_of_ble_eq_true rfl⟩) (va_recv hK hP (ci := 0) (q0 := 1) rfl rfl) hP hK hD hS hN hA rfl hl.1 (Nat.le_of_ble_eq_true rfl) dX3_edit_54 ⟨Nat.le_of_ble_eq_true rfl, Nat.le_of_ble_eq_true rfl⟩ (fun r_54 u_54 H locs hw hP hD hS => ?_)
      obtain rfl : r_54 = sumOf (putC T (k + 1) x y z) (k + 1) := hw
      have hP : va_P G vwCl (wC a cy (putC T (k + 1) x y z) tr) H := hP
      have hD : va_D A (wC a cy (putC T (k + 1) x y z) tr) := hD
      exact vy_ret (ml_ri tr hx hb hr hlocks hP hK hD hS (by rw [(show sp_edit T (nI (k + 1)) x y z = (0, sumOf (putC T (k + 1) x y z) (k + 1), putC T (k + 1) x y z) from by unfold sp_edit; rw [cif_f (not_not_intro q_4), cif_f (not_not_intro q_9), cif_f (fun q => c_24 q.2 : ¬ (tac T ≠ 0 ∧ nI (k + 1) = nI (tlv T + 1))), ix_n (j := k + 1) (by omega)] <;> rfl)]) ⟨by rw [(show sp_edit T (nI (k + 1)) x y z = (0, sumOf (putC T (k + 1) x y z) (k + 1), putC T (k + 1) x y z) from by unfold sp_edit; rw [cif_f (not_not_intro q_4), cif_f (not_not_intro q_9), cif_f (fun q => c_24 q.2 : ¬ (tac T ≠ 0 ∧ nI (k + 1) = nI (tlv T + 1))), ix_n (j := k + 1) (by omega)] <;> rfl)], by rw [(show sp_edit T (nI (k + 1)) x y z = (0, sumOf (putC T (k + 1) x y z) (k + 1), putC T (k + 1) x y z) from by unfold sp_edit; rw [cif_f (not_not_intro q_4), cif_f (not_not_intro q_9), cif_f (fun q => c_24 q.2 : ¬ (tac T ≠ 0 ∧ nI (k + 1) = nI (tlv T + 1))), ix_n (j := k + 1) (by omega)] <;> rfl)]⟩ dX3_edit_57)
    · exact ml_thrE tr rfl false hx hb hlt hown rfl (by decide) (text := "the change is running or being undone") (by decide) (hts (.classLink RX3 46 eIS) (by decide +kernel)) (hts (.initialized eIS) (by decide +kernel)) (fun w h => hts w (List.mem_cons_of_mem _ (List.mem_append_left _ (List.mem_append_left _ (List.mem_append_right _ h))))) th_ng50 th_gd50 hP hK hD hE hS (hl.1.trans hml.symm) dX3_edit_27 dX3_edit_30 dX3_edit_31 dX3_edit_33 dX3_edit_36 hout (Nat.le_of_ble_eq_true rfl) (Nat.le_of_ble_eq_true rfl) (Nat.le_of_ble_eq_true rfl) (Nat.le_of_ble_eq_true rfl) hlocks (Or.inr (Or.inr (⟨rfl, by unfold sp_edit; rw [cif_f (not_not_intro q_4), cif_f (not_not_intro q_9), cif_t ⟨c_16, c_24⟩] <;> rfl⟩))) (Nat.le_of_ble_eq_true rfl) (Nat.le_of_ble_eq_true rfl)
set_option maxHeartbeats 4000000 in
set_option maxRecDepth 100000 in
theorem c_X3_checksum (l : Launch) (hlt : l.stackTraces = false) (G : va_G) (cy : Nat → ClassId) (a : Nat → Nat) (sz : Nat) (T : TS) (tr : Nat → Int32) (h : Int32) (hI : Inv T) : vy_Met l yX3_checksum wsX3_checksum ({ frames := 7, cells := 1, slots := 6, locals := 103 } : Room) (ml_PX G cy [.ref (a 0), .int h] (wC a cy T tr) sz) (va_Qi (fun (r : Int32) (u : Nat → Int32) => (sp_checksum T h).1 = 0 ∧ (sp_checksum T h).2.1 = r) (ml_B G cy (va_A (wC a cy T tr) sz) (fun (u : Nat → Int32) => (wC a cy ((sp_checksum T h).2.2) u))) (va_A (wC a cy T tr) sz)) (ml_XE G cy (va_A (wC a cy T tr) sz) (fun tr9 : Nat → Int32 => wC a cy T tr9) (fun E => (E = eIB ∧ sp_checksum T h = (1, 0, T)))) 1 6 (va_A (wC a cy T tr) sz) := by
  refine vy_ofW (cc := cX3_checksum) (maxL := 2) (ret := (some .int)) (by decide) rfl ?_
  intro p e s m args below meth c s₁ B hml hout hv
  obtain ⟨rfl, hsz, hP, hK, hD0, hN, hE⟩ := hv
  have hx := B.exec
  have hb := B.bytes
  have hr := B.returns
  have hts := atoms_spec (ws := wsX3_checksum) B.pre
  have hown : s.vm.findClass RX3 = some m.cls := findClass_of_methodNamed B.named
  have hlocks := B.notSynchronized
  subst hsz
  have hD := hD0.self (sz := s.heap.size)
  generalize hAe : va_A (wC a cy T tr) s.heap.size = A at hD hE ⊢
  have hA : ∀ q : Nat, s.heap.size ≤ q → A q := fun q h => by rw [← hAe]; exact Or.inr h
  have hS : va_S A s.heap s.heap [] := va_S.rf
  have hP : va_P G vwCl (wC a cy T tr) s.heap := hP
  have hin_X3 : ∀ w ∈ wsX30, w ∈ wsX3_checksum := by decide +kernel
  have hl := lv_entry ([.ref (a 0), .int h]) (n := 2) (Nat.le_of_ble_eq_true rfl)
  rw [lg_entry_eq]
  generalize (lg_sl ([.ref (a 0), .int h]) ++ List.replicate (2 - (lg_sl ([.ref (a 0), .int h])).length) Slot.unset).toArray = ls at hl ⊢
  have hl : lv_has ls 2 [(0, .ref (a 0)), (1, .int h)] := hl
  have hn12 : tn T ≤ 12 := hI.1.1
  have hlvn : tlv T ≤ tn T := hI.1.2.1
  have hcu : tcu T ≤ 40 := hI.1.2.2
  have hW := hI.w
  refine lv_aload_n hx hb dX3_checksum_0 rfl (lv_at hl 0 rfl) ?_
  refine lv_iload_n hx hb dX3_checksum_1 rfl (lv_at hl 1 rfl) ?_
  refine ml_xVv (G := G) (As := [.int h]) (rest := []) ⟨hx, hb, hml, hown, hts⟩ (c_X3_requireListed l hlt G cy a s.heap.size T tr h) (cwV 1 hts gX3_checksum_X3_requireListed rfl rfl rfl (by decide +kernel) ⟨Nat.le_of_ble_eq_true rfl, Nat.le_of_ble_eq_true rfl⟩) (va_recv hK hP (ci := 3) (q0 := 0) rfl rfl) hP hK hD hS hN hA hE rfl hl.1 (Nat.le_of_ble_eq_true rfl) dX3_checksum_2 ⟨Nat.le_of_ble_eq_true rfl, Nat.le_of_ble_eq_true rfl⟩ (fun E ce q9 H1 locs1 hz9 hp hP hD hS9 hcell hv hcl => ml_outE tr rfl hout hlocks (Nat.lt_of_le_of_lt hS.1 hz9) (⟨hp.1, by unfold sp_checksum; rw [cif_t hp.2] <;> rfl⟩) hP hK hD hS9 hcell hv hcl (Nat.le_of_ble_eq_true rfl) (Nat.le_of_ble_eq_true rfl)) (fun u_2 H locs hw hP hD hS => ?_)
  have q_2 := hw
  have hP : va_P G vwCl (wC a cy T tr) H := hP
  have hD : va_D A (wC a cy T tr) := hD
  obtain ⟨k, hk, rfl⟩ := inR_1 (by omega) q_2
  refine lv_aload_n hx hb dX3_checksum_5 rfl (lv_at hl 0 rfl) ?_
  refine va_get (D := G) (ci := 3) (v := .ref (a 1)) (C := RX3) (T := TX3) (N := 7) hx hb hts hin_X3 hown hK hP 0 rfl rfl 0 (by decide) (hts (.fieldLink RX3 10 "Migrationledger" "list" "LMigrationledger$ChangeList;") (by decide +kernel)) (fun _ h9 => h9) rfl dX3_checksum_6 ?_
  refine lv_iload_n hx hb dX3_checksum_9 rfl (lv_at hl 1 rfl) ?_
  refine ml_Vi (G := G) (As := [.int (nI (k + 1))]) (rest := []) ⟨hx, hb, hml, hown, hts⟩ (c_X0_checksumOf l G cy a H.size T tr k (by omega)) (cwV 1 hts gX3_checksum_X0_checksumOf rfl rfl rfl (by decide +kernel) ⟨Nat.le_of_ble_eq_true rfl, Nat.le_of_ble_eq_true rfl⟩) (va_recv hK hP (ci := 0) (q0 := 1) rfl rfl) hP hK hD hS hN hA rfl hl.1 (Nat.le_of_ble_eq_true rfl) dX3_checksum_10 ⟨Nat.le_of_ble_eq_true rfl, Nat.le_of_ble_eq_true rfl⟩ (fun r_10 u_10 H locs hw hP hD hS => ?_)
  obtain rfl : r_10 = sumOf T (k + 1) := hw
  have hP : va_P G vwCl (wC a cy T tr) H := hP
  have hD : va_D A (wC a cy T tr) := hD
  exact vy_ret (ml_ri tr hx hb hr hlocks hP hK hD hS (by rw [(show sp_checksum T (nI (k + 1)) = (0, sumOf T (k + 1), T) from by unfold sp_checksum; rw [cif_f (not_not_intro q_2), ix_n (j := k + 1) (by omega)] <;> rfl)]) ⟨by rw [(show sp_checksum T (nI (k + 1)) = (0, sumOf T (k + 1), T) from by unfold sp_checksum; rw [cif_f (not_not_intro q_2), ix_n (j := k + 1) (by omega)] <;> rfl)], by rw [(show sp_checksum T (nI (k + 1)) = (0, sumOf T (k + 1), T) from by unfold sp_checksum; rw [cif_f (not_not_intro q_2), ix_n (j := k + 1) (by omega)] <;> rfl)]⟩ dX3_checksum_13)
set_option maxHeartbeats 4000000 in
set_option maxRecDepth 100000 in
theorem c_X3_state (l : Launch) (hlt : l.stackTraces = false) (G : va_G) (cy : Nat → ClassId) (a : Nat → Nat) (sz : Nat) (T : TS) (tr : Nat → Int32) (h : Int32) (hI : Inv T) : vy_Met l yX3_state wsX3_state ({ frames := 7, cells := 1, slots := 6, locals := 103 } : Room) (ml_PX G cy [.ref (a 0), .int h] (wC a cy T tr) sz) (va_Qi (fun (r : Int32) (u : Nat → Int32) => (sp_state T h).1 = 0 ∧ (sp_state T h).2.1 = r) (ml_B G cy (va_A (wC a cy T tr) sz) (fun (u : Nat → Int32) => (wC a cy ((sp_state T h).2.2) u))) (va_A (wC a cy T tr) sz)) (ml_XE G cy (va_A (wC a cy T tr) sz) (fun tr9 : Nat → Int32 => wC a cy T tr9) (fun E => (E = eIB ∧ sp_state T h = (1, 0, T)))) 1 6 (va_A (wC a cy T tr) sz) := by
  refine vy_ofW (cc := cX3_state) (maxL := 2) (ret := (some .int)) (by decide) rfl ?_
  intro p e s m args below meth c s₁ B hml hout hv
  obtain ⟨rfl, hsz, hP, hK, hD0, hN, hE⟩ := hv
  have hx := B.exec
  have hb := B.bytes
  have hr := B.returns
  have hts := atoms_spec (ws := wsX3_state) B.pre
  have hown : s.vm.findClass RX3 = some m.cls := findClass_of_methodNamed B.named
  have hlocks := B.notSynchronized
  subst hsz
  have hD := hD0.self (sz := s.heap.size)
  generalize hAe : va_A (wC a cy T tr) s.heap.size = A at hD hE ⊢
  have hA : ∀ q : Nat, s.heap.size ≤ q → A q := fun q h => by rw [← hAe]; exact Or.inr h
  have hS : va_S A s.heap s.heap [] := va_S.rf
  have hP : va_P G vwCl (wC a cy T tr) s.heap := hP
  have hin_X3 : ∀ w ∈ wsX30, w ∈ wsX3_state := by decide +kernel
  have hl := lv_entry ([.ref (a 0), .int h]) (n := 2) (Nat.le_of_ble_eq_true rfl)
  rw [lg_entry_eq]
  generalize (lg_sl ([.ref (a 0), .int h]) ++ List.replicate (2 - (lg_sl ([.ref (a 0), .int h])).length) Slot.unset).toArray = ls at hl ⊢
  have hl : lv_has ls 2 [(0, .ref (a 0)), (1, .int h)] := hl
  have hn12 : tn T ≤ 12 := hI.1.1
  have hlvn : tlv T ≤ tn T := hI.1.2.1
  have hcu : tcu T ≤ 40 := hI.1.2.2
  have hW := hI.w
  refine lv_aload_n hx hb dX3_state_0 rfl (lv_at hl 0 rfl) ?_
  refine lv_iload_n hx hb dX3_state_1 rfl (lv_at hl 1 rfl) ?_
  refine ml_xVv (G := G) (As := [.int h]) (rest := []) ⟨hx, hb, hml, hown, hts⟩ (c_X3_requireListed l hlt G cy a s.heap.size T tr h) (cwV 1 hts gX3_state_X3_requireListed rfl rfl rfl (by decide +kernel) ⟨Nat.le_of_ble_eq_true rfl, Nat.le_of_ble_eq_true rfl⟩) (va_recv hK hP (ci := 3) (q0 := 0) rfl rfl) hP hK hD hS hN hA hE rfl hl.1 (Nat.le_of_ble_eq_true rfl) dX3_state_2 ⟨Nat.le_of_ble_eq_true rfl, Nat.le_of_ble_eq_true rfl⟩ (fun E ce q9 H1 locs1 hz9 hp hP hD hS9 hcell hv hcl => ml_outE tr rfl hout hlocks (Nat.lt_of_le_of_lt hS.1 hz9) (⟨hp.1, by unfold sp_state; rw [cif_t hp.2] <;> rfl⟩) hP hK hD hS9 hcell hv hcl (Nat.le_of_ble_eq_true rfl) (Nat.le_of_ble_eq_true rfl)) (fun u_2 H locs hw hP hD hS => ?_)
  have q_2 := hw
  have hP : va_P G vwCl (wC a cy T tr) H := hP
  have hD : va_D A (wC a cy T tr) := hD
  refine lv_iload_n hx hb dX3_state_5 rfl (lv_at hl 1 rfl) ?_
  refine lv_aload_n hx hb dX3_state_6 rfl (lv_at hl 0 rfl) ?_
  refine va_get (D := G) (ci := 3) (v := .int (nI (tlv T))) (C := RX3) (T := TX3) (N := 7) hx hb hts hin_X3 hown hK hP 0 rfl rfl 4 (by decide) (hts (.fieldLink RX3 81 "Migrationledger" "done" "I") (by decide +kernel)) (fun _ h9 => h9) rfl dX3_state_7 ?_
  refine lv_icmp_gt (tgt := 15) hx hb dX3_state_10 (by decide) (fun c_10 => ?_) (fun c_10 => ?_)
  · refine lv_iload_n hx hb dX3_state_15 rfl (lv_at hl 1 rfl) ?_
    refine lv_aload_n hx hb dX3_state_16 rfl (lv_at hl 0 rfl) ?_
    refine ml_Vi (G := G) (As := []) (rest := [.int h]) ⟨hx, hb, hml, hown, hts⟩ (c_X3_activeNumber l G cy a H.size T tr) (cwV 0 hts gX3_state_X3_activeNumber rfl rfl rfl (by decide +kernel) ⟨Nat.le_of_ble_eq_true rfl, Nat.le_of_ble_eq_true rfl⟩) (va_recv hK hP (ci := 3) (q0 := 0) rfl rfl) hP hK hD hS hN hA rfl hl.1 (Nat.le_of_ble_eq_true rfl) dX3_state_17 ⟨Nat.le_of_ble_eq_true rfl, Nat.le_of_ble_eq_true rfl⟩ (fun r_17 u_17 H locs hw hP hD hS => ?_)
    obtain rfl : r_17 = nI (tlv T + 1) := hw
    have hP : va_P G vwCl (wC a cy T tr) H := hP
    have hD : va_D A (wC a cy T tr) := hD
    refine lv_icmp_ne (tgt := 30) hx hb dX3_state_20 (by decide) (fun c_20 => ?_) (fun c_20 => ?_)
    · refine lv_iconst (v := 0) hx hb dX3_state_30 (by decide) ?_
      exact vy_ret (ml_ri tr hx hb hr hlocks hP hK hD hS (by rw [(show sp_state T h = (0, 0, T) from by unfold sp_state; rw [cif_f (not_not_intro q_2), show stOf T h = 0 from (cif_f (Int32.not_le.mpr c_10)).trans (cif_f c_20)] <;> rfl)]) ⟨by rw [(show sp_state T h = (0, 0, T) from by unfold sp_state; rw [cif_f (not_not_intro q_2), show stOf T h = 0 from (cif_f (Int32.not_le.mpr c_10)).trans (cif_f c_20)] <;> rfl)], by rw [(show sp_state T h = (0, 0, T) from by unfold sp_state; rw [cif_f (not_not_intro q_2), show stOf T h = 0 from (cif_f (Int32.not_le.mpr c_10)).trans (cif_f c_20)] <;> rfl)]⟩ dX3_state_31)
    · refine lv_aload_n hx hb dX3_state_23 rfl (lv_at hl 0 rfl) ?_
      refine va_get (D := G) (ci := 3) (v := .int (tac T)) (C := RX3) (T := TX3) (N := 7) hx hb hts hin_X3 hown hK hP 0 rfl rfl 5 (by decide) (hts (.fieldLink RX3 34 "Migrationledger" "phase" "I") (by decide +kernel)) (fun _ h9 => h9) rfl dX3_state_24 ?_
      refine lv_goto (tgt := 31) hx hb dX3_state_27 (by decide) ?_
      exact vy_ret (ml_ri tr hx hb hr hlocks hP hK hD hS (by rw [(show sp_state T h = (0, tac T, T) from by unfold sp_state; rw [cif_f (not_not_intro q_2), show stOf T h = tac T from (cif_f (Int32.not_le.mpr c_10)).trans (cif_t c_20)] <;> rfl)]) ⟨by rw [(show sp_state T h = (0, tac T, T) from by unfold sp_state; rw [cif_f (not_not_intro q_2), show stOf T h = tac T from (cif_f (Int32.not_le.mpr c_10)).trans (cif_t c_20)] <;> rfl)], by rw [(show sp_state T h = (0, tac T, T) from by unfold sp_state; rw [cif_f (not_not_intro q_2), show stOf T h = tac T from (cif_f (Int32.not_le.mpr c_10)).trans (cif_t c_20)] <;> rfl)]⟩ dX3_state_31)
  · refine lv_iconst (v := 2) hx hb dX3_state_13 (by decide) ?_
    exact vy_ret (ml_ri tr hx hb hr hlocks hP hK hD hS (by rw [(show sp_state T h = (0, 2, T) from by unfold sp_state; rw [cif_f (not_not_intro q_2), show stOf T h = 2 from cif_t (Int32.not_lt.mp c_10)] <;> rfl)]) ⟨by rw [(show sp_state T h = (0, 2, T) from by unfold sp_state; rw [cif_f (not_not_intro q_2), show stOf T h = 2 from cif_t (Int32.not_lt.mp c_10)] <;> rfl)], by rw [(show sp_state T h = (0, 2, T) from by unfold sp_state; rw [cif_f (not_not_intro q_2), show stOf T h = 2 from cif_t (Int32.not_lt.mp c_10)] <;> rfl)]⟩ dX3_state_14)
set_option maxHeartbeats 4000000 in
set_option maxRecDepth 100000 in
theorem c_X3_insert (l : Launch) (hlt : l.stackTraces = false) (G : va_G) (cy : Nat → ClassId) (a : Nat → Nat) (sz : Nat) (T : TS) (tr : Nat → Int32) (i : Int32) (x : Int32) (y : Int32) (z : Int32) (hI : Inv T) : vy_Met l yX3_insert wsX3_insert ({ frames := 7, cells := 1, slots := 6, locals := 102 } : Room) (ml_PX G cy [.ref (a 0), .int i, .int x, .int y, .int z] (wC a cy T tr) sz) (va_Qi (fun (r : Int32) (u : Nat → Int32) => (sp_insert T i x y z).1 = 0 ∧ (sp_insert T i x y z).2.1 = r) (ml_B G cy (va_A (wC a cy T tr) sz) (fun (u : Nat → Int32) => (wC a cy ((sp_insert T i x y z).2.2) u))) (va_A (wC a cy T tr) sz)) (ml_XE G cy (va_A (wC a cy T tr) sz) (fun tr9 : Nat → Int32 => wC a cy T tr9) (fun E => (E = eIA ∧ sp_insert T i x y z = (1, 0, T)) ∨ (E = eIS ∧ sp_insert T i x y z = (2, 0, T)))) 1 6 (va_A (wC a cy T tr) sz) := by
  refine vy_ofW (cc := cX3_insert) (maxL := 6) (ret := (some .int)) (by decide) rfl ?_
  intro p e s m args below meth c s₁ B hml hout hv
  obtain ⟨rfl, hsz, hP, hK, hD0, hN, hE⟩ := hv
  have hx := B.exec
  have hb := B.bytes
  have hr := B.returns
  have hts := atoms_spec (ws := wsX3_insert) B.pre
  have hown : s.vm.findClass RX3 = some m.cls := findClass_of_methodNamed B.named
  have hlocks := B.notSynchronized
  subst hsz
  have hD := hD0.self (sz := s.heap.size)
  generalize hAe : va_A (wC a cy T tr) s.heap.size = A at hD hE ⊢
  have hA : ∀ q : Nat, s.heap.size ≤ q → A q := fun q h => by rw [← hAe]; exact Or.inr h
  have hS : va_S A s.heap s.heap [] := va_S.rf
  have hP : va_P G vwCl (wC a cy T tr) s.heap := hP
  have hin_X3 : ∀ w ∈ wsX30, w ∈ wsX3_insert := by decide +kernel
  have hl := lv_entry ([.ref (a 0), .int i, .int x, .int y, .int z]) (n := 6) (Nat.le_of_ble_eq_true rfl)
  rw [lg_entry_eq]
  generalize (lg_sl ([.ref (a 0), .int i, .int x, .int y, .int z]) ++ List.replicate (6 - (lg_sl ([.ref (a 0), .int i, .int x, .int y, .int z])).length) Slot.unset).toArray = ls at hl ⊢
  have hl : lv_has ls 6 [(0, .ref (a 0)), (1, .int i), (2, .int x), (3, .int y), (4, .int z)] := hl
  have hn12 : tn T ≤ 12 := hI.1.1
  have hlvn : tlv T ≤ tn T := hI.1.2.1
  have hcu : tcu T ≤ 40 := hI.1.2.2
  have hW := hI.w
  refine lv_iload_n hx hb dX3_insert_0 rfl (lv_at hl 1 rfl) ?_
  refine ml_xSv (G := G) (As := [.int i]) (rest := []) ⟨hx, hb, hml, hown, hts⟩ (c_X3_requireId l hlt G cy a s.heap.size T tr i) (va_cwS 1 hts gX3_insert_X3_requireId rfl rfl rfl (by decide +kernel) ⟨Nat.le_of_ble_eq_true rfl, Nat.le_of_ble_eq_true rfl⟩) hP hK hD hS hN hA hE rfl hl.1 (Nat.le_of_ble_eq_true rfl) dX3_insert_1 ⟨Nat.le_of_ble_eq_true rfl, Nat.le_of_ble_eq_true rfl⟩ (fun E ce q9 H1 locs1 hz9 hp hP hD hS9 hcell hv hcl => ml_outE tr rfl hout hlocks (Nat.lt_of_le_of_lt hS.1 hz9) (Or.inl (⟨hp.1, by unfold sp_insert; rw [cif_t (fun q => hp.2 q.1 : ¬ (inR i 0 39 ∧ okV x.toInt64 ∧ okV y.toInt64 ∧ okV z.toInt64))] <;> rfl⟩)) hP hK hD hS9 hcell hv hcl (Nat.le_of_ble_eq_true rfl) (Nat.le_of_ble_eq_true rfl)) (fun u_1 H locs hw hP hD hS => ?_)
  have q_1 := hw
  have hP : va_P G vwCl (wC a cy T tr) H := hP
  have hD : va_D A (wC a cy T tr) := hD
  obtain ⟨j, hj, rfl⟩ := inR_n 39 (by decide) q_1
  refine lv_iload_n hx hb dX3_insert_4 rfl (lv_at hl 2 rfl) ?_
  refine ml_xSv (G := G) (As := [.int x]) (rest := []) ⟨hx, hb, hml, hown, hts⟩ (c_X3_requireTableValue l hlt G cy a H.size T tr x) (va_cwS 1 hts gX3_insert_X3_requireTableValue rfl rfl rfl (by decide +kernel) ⟨Nat.le_of_ble_eq_true rfl, Nat.le_of_ble_eq_true rfl⟩) hP hK hD hS hN hA hE rfl hl.1 (Nat.le_of_ble_eq_true rfl) dX3_insert_5 ⟨Nat.le_of_ble_eq_true rfl, Nat.le_of_ble_eq_true rfl⟩ (fun E ce q9 H1 locs1 hz9 hp hP hD hS9 hcell hv hcl => ml_outE tr rfl hout hlocks (Nat.lt_of_le_of_lt hS.1 hz9) (Or.inl (⟨hp.1, by unfold sp_insert; rw [cif_t (fun q => hp.2 q.2.1 : ¬ (inR (nI j) 0 39 ∧ okV x.toInt64 ∧ okV y.toInt64 ∧ okV z.toInt64))] <;> rfl⟩)) hP hK hD hS9 hcell hv hcl (Nat.le_of_ble_eq_true rfl) (Nat.le_of_ble_eq_true rfl)) (fun u_5 H locs hw hP hD hS => ?_)
  have q_5 := hw
  have hP : va_P G vwCl (wC a cy T tr) H := hP
  have hD : va_D A (wC a cy T tr) := hD
  refine lv_iload_n hx hb dX3_insert_8 rfl (lv_at hl 3 rfl) ?_
  refine ml_xSv (G := G) (As := [.int y]) (rest := []) ⟨hx, hb, hml, hown, hts⟩ (c_X3_requireTableValue l hlt G cy a H.size T tr y) (va_cwS 1 hts gX3_insert_X3_requireTableValue rfl rfl rfl (by decide +kernel) ⟨Nat.le_of_ble_eq_true rfl, Nat.le_of_ble_eq_true rfl⟩) hP hK hD hS hN hA hE rfl hl.1 (Nat.le_of_ble_eq_true rfl) dX3_insert_9 ⟨Nat.le_of_ble_eq_true rfl, Nat.le_of_ble_eq_true rfl⟩ (fun E ce q9 H1 locs1 hz9 hp hP hD hS9 hcell hv hcl => ml_outE tr rfl hout hlocks (Nat.lt_of_le_of_lt hS.1 hz9) (Or.inl (⟨hp.1, by unfold sp_insert; rw [cif_t (fun q => hp.2 q.2.2.1 : ¬ (inR (nI j) 0 39 ∧ okV x.toInt64 ∧ okV y.toInt64 ∧ okV z.toInt64))] <;> rfl⟩)) hP hK hD hS9 hcell hv hcl (Nat.le_of_ble_eq_true rfl) (Nat.le_of_ble_eq_true rfl)) (fun u_9 H locs hw hP hD hS => ?_)
  have q_9 := hw
  have hP : va_P G vwCl (wC a cy T tr) H := hP
  have hD : va_D A (wC a cy T tr) := hD
  refine lv_iload hx hb dX3_insert_12 (lv_at hl 4 rfl) ?_
  refine ml_xSv (G := G) (As := [.int z]) (rest := []) ⟨hx, hb, hml, hown, hts⟩ (c_X3_requireTableValue l hlt G cy a H.size T tr z) (va_cwS 1 hts gX3_insert_X3_requireTableValue rfl rfl rfl (by decide +kernel) ⟨Nat.le_of_ble_eq_true rfl, Nat.le_of_ble_eq_true rfl⟩) hP hK hD hS hN hA hE rfl hl.1 (Nat.le_of_ble_eq_true rfl) dX3_insert_14 ⟨Nat.le_of_ble_eq_true rfl, Nat.le_of_ble_eq_true rfl⟩ (fun E ce q9 H1 locs1 hz9 hp hP hD hS9 hcell hv hcl => ml_outE tr rfl hout hlocks (Nat.lt_of_le_of_lt hS.1 hz9) (Or.inl (⟨hp.1, by unfold sp_insert; rw [cif_t (fun q => hp.2 q.2.2.2 : ¬ (inR (nI j) 0 39 ∧ okV x.toInt64 ∧ okV y.toInt64 ∧ okV z.toInt64))] <;> rfl⟩)) hP hK hD hS9 hcell hv hcl (Nat.le_of_ble_eq_true rfl) (Nat.le_of_ble_eq_true rfl)) (fun u_14 H locs hw hP hD hS => ?_)
  have q_14 := hw
  have hP : va_P G vwCl (wC a cy T tr) H := hP
  have hD : va_D A (wC a cy T tr) := hD
  refine lv_aload_n hx hb dX3_insert_17 rfl (lv_at hl 0 rfl) ?_
  refine va_get (D := G) (ci := 3) (v := .ref (a 2)) (C := RX3) (T := TX3) (N := 7) hx hb hts hin_X3 hown hK hP 0 rfl rfl 1 (by decide) (hts (.fieldLink RX3 19 "Migrationledger" "table" "LMigrationledger$Table;") (by decide +kernel)) (fun _ h9 => h9) rfl dX3_insert_18 ?_
  refine lv_iload_n hx hb dX3_insert_21 rfl (lv_at hl 1 rfl) ?_
  refine ml_Vi (G := G) (As := [.int (nI j)]) (rest := []) ⟨hx, hb, hml, hown, hts⟩ (c_X2_isPresent l G cy a H.size T tr j (by omega)) (cwV 1 hts gX3_insert_X2_isPresent rfl rfl rfl (by decide +kernel) ⟨Nat.le_of_ble_eq_true rfl, Nat.le_of_ble_eq_true rfl⟩) (va_recv hK hP (ci := 2) (q0 := 2) rfl rfl) hP hK hD hS hN hA rfl hl.1 (Nat.le_of_ble_eq_true rfl) dX3_insert_22 ⟨Nat.le_of_ble_eq_true rfl, Nat.le_of_ble_eq_true rfl⟩ (fun r_22 u_22 H locs hw hP hD hS => ?_)
  obtain rfl : r_22 = b2i (tV T j ≠ -1) := hw
  have hP : va_P G vwCl (wC a cy T tr) H := hP
  have hD : va_D A (wC a cy T tr) := hD
  refine ml_ifeqb (tgt := 38) hx hb dX3_insert_25 (by decide) (fun c_25 => ?_) (fun c_25 => ?_)
  · refine lv_aload_n hx hb dX3_insert_38 rfl (lv_at hl 0 rfl) ?_
    refine lv_iload_n hx hb dX3_insert_39 rfl (lv_at hl 1 rfl) ?_
    refine ml_Vi (G := G) (As := [.int (nI j)]) (rest := []) ⟨hx, hb, hml, hown, hts⟩ (c_X3_versionForNewRow l G cy a H.size T tr j (by omega)) (cwV 1 hts gX3_insert_X3_versionForNewRow rfl rfl rfl (by decide +kernel) ⟨Nat.le_of_ble_eq_true rfl, Nat.le_of_ble_eq_true rfl⟩) (va_recv hK hP (ci := 3) (q0 := 0) rfl rfl) hP hK hD hS hN hA rfl hl.1 (Nat.le_of_ble_eq_true rfl) dX3_insert_40 ⟨Nat.le_of_ble_eq_true rfl, Nat.le_of_ble_eq_true rfl⟩ (fun r_40 u_40 H locs hw hP hD hS => ?_)
    obtain rfl : r_40 = vNew T j := hw
    have hP : va_P G vwCl (wC a cy T tr) H := hP
    have hD : va_D A (wC a cy T tr) := hD
    refine lv_istore (lv' := [(5, .int (vNew T j)), (0, .ref (a 0)), (1, .int (nI j)), (2, .int x), (3, .int y), (4, .int z)]) hx hb dX3_insert_43 hl (by decide) rfl (fun ls hl => ?_)
    refine lv_aload_n hx hb dX3_insert_45 rfl (lv_at hl 1 rfl) ?_
    refine va_get (D := G) (ci := 3) (v := .ref (a 2)) (C := RX3) (T := TX3) (N := 7) hx hb hts hin_X3 hown hK hP 0 rfl rfl 1 (by decide) (hts (.fieldLink RX3 19 "Migrationledger" "table" "LMigrationledger$Table;") (by decide +kernel)) (fun _ h9 => h9) rfl dX3_insert_46 ?_
    refine lv_iload_n hx hb dX3_insert_49 rfl (lv_at hl 2 rfl) ?_
    refine lv_iconst (v := 0) hx hb dX3_insert_50 (by decide) ?_
    refine lv_iload_n hx hb dX3_insert_51 rfl (lv_at hl 3 rfl) ?_
    refine ml_Vv (G := G) (As := [.int (nI j), .int 0, .int x]) (rest := []) ⟨hx, hb, hml, hown, hts⟩ (c_X2_setCell l G cy a H.size T tr j (by omega) 0 (by decide) x) (cwV 3 hts gX3_insert_X2_setCell rfl rfl rfl (by decide +kernel) ⟨Nat.le_of_ble_eq_true rfl, Nat.le_of_ble_eq_true rfl⟩) (va_recv hK hP (ci := 2) (q0 := 2) rfl rfl) hP hK hD hS hN hA rfl hl.1 (Nat.le_of_ble_eq_true rfl) dX3_insert_52 ⟨Nat.le_of_ble_eq_true rfl, Nat.le_of_ble_eq_true rfl⟩ (fun u_52 H locs hw hP hD hS => ?_)
    have hP : va_P G vwCl (wC a cy (uX T (upd (tX T) (3 * j + 0) x)) tr) H := hP
    have hD : va_D A (wC a cy (uX T (upd (tX T) (3 * j + 0) x)) tr) := hD
    refine lv_aload_n hx hb dX3_insert_55 rfl (lv_at hl 1 rfl) ?_
    refine va_get (D := G) (ci := 3) (v := .ref (a 2)) (C := RX3) (T := TX3) (N := 7) hx hb hts hin_X3 hown hK hP 0 rfl rfl 1 (by decide) (hts (.fieldLink RX3 19 "Migrationledger" "table" "LMigrationledger$Table;") (by decide +kernel)) (fun _ h9 => h9) rfl dX3_insert_56 ?_
    refine lv_iload_n hx hb dX3_insert_59 rfl (lv_at hl 2 rfl) ?_
    refine lv_iconst (v := 1) hx hb dX3_insert_60 (by decide) ?_
    refine lv_iload_n hx hb dX3_insert_61 rfl (lv_at hl 4 rfl) ?_
    refine ml_Vv (G := G) (As := [.int (nI j), .int 1, .int y]) (rest := []) ⟨hx, hb, hml, hown, hts⟩ (c_X2_setCell l G cy a H.size (uX T (upd (tX T) (3 * j + 0) x)) tr j (by omega) 1 (by decide) y) (cwV 3 hts gX3_insert_X2_setCell rfl rfl rfl (by decide +kernel) ⟨Nat.le_of_ble_eq_true rfl, Nat.le_of_ble_eq_true rfl⟩) (va_recv hK hP (ci := 2) (q0 := 2) rfl rfl) hP hK hD hS hN hA rfl hl.1 (Nat.le_of_ble_eq_true rfl) dX3_insert_62 ⟨Nat.le_of_ble_eq_true rfl, Nat.le_of_ble_eq_true rfl⟩ (fun u_62 H locs hw hP hD hS => ?_)
    have hP : va_P G vwCl (wC a cy (uX (uX T (upd (tX T) (3 * j + 0) x)) (upd (tX (uX T (upd (tX T) (3 * j + 0) x))) (3 * j + 1) y)) tr) H := hP
    have hD : va_D A (wC a cy (uX (uX T (upd (tX T) (3 * j + 0) x)) (upd (tX (uX T (upd (tX T) (3 * j + 0) x))) (3 * j + 1) y)) tr) := hD
    refine lv_aload_n hx hb dX3_insert_65 rfl (lv_at hl 1 rfl) ?_
    refine va_get (D := G) (ci := 3) (v := .ref (a 2)) (C := RX3) (T := TX3) (N := 7) hx hb hts hin_X3 hown hK hP 0 rfl rfl 1 (by decide) (hts (.fieldLink RX3 19 "Migrationledger" "table" "LMigrationledger$Table;") (by decide +kernel)) (fun _ h9 => h9) rfl dX3_insert_66 ?_
    refine lv_iload_n hx hb dX3_insert_69 rfl (lv_at hl 2 rfl) ?_
    refine lv_iconst (v := 2) hx hb dX3_insert_70 (by decide) ?_
    refine lv_iload hx hb dX3_insert_71 (lv_at hl 5 rfl) ?_
    refine ml_Vv (G := G) (As := [.int (nI j), .int 2, .int z]) (rest := []) ⟨hx, hb, hml, hown, hts⟩ (c_X2_setCell l G cy a H.size (uX (uX T (upd (tX T) (3 * j + 0) x)) (upd (tX (uX T (upd (tX T) (3 * j + 0) x))) (3 * j + 1) y)) tr j (by omega) 2 (by decide) z) (cwV 3 hts gX3_insert_X2_setCell rfl rfl rfl (by decide +kernel) ⟨Nat.le_of_ble_eq_true rfl, Nat.le_of_ble_eq_true rfl⟩) (va_recv hK hP (ci := 2) (q0 := 2) rfl rfl) hP hK hD hS hN hA rfl hl.1 (Nat.le_of_ble_eq_true rfl) dX3_insert_73 ⟨Nat.le_of_ble_eq_true rfl, Nat.le_of_ble_eq_true rfl⟩ (fun u_73 H locs hw hP hD hS => ?_)
    have hP : va_P G vwCl (wC a cy (uX (uX (uX T (upd (tX T) (3 * j + 0) x)) (upd (tX (uX T (upd (tX T) (3 * j + 0) x))) (3 * j + 1) y)) (upd (tX (uX (uX T (upd (tX T) (3 * j + 0) x)) (upd (tX (uX T (upd (tX T) (3 * j + 0) x))) (3 * j + 1) y))) (3 * j + 2) z)) tr) H := hP
    have hD : va_D A (wC a cy (uX (uX (uX T (upd (tX T) (3 * j + 0) x)) (upd (tX (uX T (upd (tX T) (3 * j + 0) x))) (3 * j + 1) y)) (upd (tX (uX (uX T (upd (tX T) (3 * j + 0) x)) (upd (tX (uX T (upd (tX T) (3 * j + 0) x))) (3 * j + 1) y))) (3 * j + 2) z)) tr) := hD
    refine lv_aload_n hx hb dX3_insert_76 rfl (lv_at hl 1 rfl) ?_
    refine va_get (D := G) (ci := 3) (v := .ref (a 2)) (C := RX3) (T := TX3) (N := 7) hx hb hts hin_X3 hown hK hP 0 rfl rfl 1 (by decide) (hts (.fieldLink RX3 19 "Migrationledger" "table" "LMigrationledger$Table;") (by decide +kernel)) (fun _ h9 => h9) rfl dX3_insert_77 ?_
    refine lv_iload_n hx hb dX3_insert_80 rfl (lv_at hl 2 rfl) ?_
    refine lv_iload hx hb dX3_insert_81 (lv_at hl 0 rfl) ?_
    refine ml_Vv (G := G) (As := [.int (nI j), .int (vNew T j)]) (rest := []) ⟨hx, hb, hml, hown, hts⟩ (c_X2_setVersion l G cy a H.size (uX (uX (uX T (upd (tX T) (3 * j + 0) x)) (upd (tX (uX T (upd (tX T) (3 * j + 0) x))) (3 * j + 1) y)) (upd (tX (uX (uX T (upd (tX T) (3 * j + 0) x)) (upd (tX (uX T (upd (tX T) (3 * j + 0) x))) (3 * j + 1) y))) (3 * j + 2) z)) tr j (by omega) (vNew T j)) (cwV 2 hts gX3_insert_X2_setVersion rfl rfl rfl (by decide +kernel) ⟨Nat.le_of_ble_eq_true rfl, Nat.le_of_ble_eq_true rfl⟩) (va_recv hK hP (ci := 2) (q0 := 2) rfl rfl) hP hK hD hS hN hA rfl hl.1 (Nat.le_of_ble_eq_true rfl) dX3_insert_83 ⟨Nat.le_of_ble_eq_true rfl, Nat.le_of_ble_eq_true rfl⟩ (fun u_83 H locs hw hP hD hS => ?_)
    have hP : va_P G vwCl (wC a cy (uV (uX (uX (uX T (upd (tX T) (3 * j + 0) x)) (upd (tX (uX T (upd (tX T) (3 * j + 0) x))) (3 * j + 1) y)) (upd (tX (uX (uX T (upd (tX T) (3 * j + 0) x)) (upd (tX (uX T (upd (tX T) (3 * j + 0) x))) (3 * j + 1) y))) (3 * j + 2) z)) (upd (tV (uX (uX (uX T (upd (tX T) (3 * j + 0) x)) (upd (tX (uX T (upd (tX T) (3 * j + 0) x))) (3 * j + 1) y)) (upd (tX (uX (uX T (upd (tX T) (3 * j + 0) x)) (upd (tX (uX T (upd (tX T) (3 * j + 0) x))) (3 * j + 1) y))) (3 * j + 2) z))) j (vNew T j))) tr) H := hP
    have hD : va_D A (wC a cy (uV (uX (uX (uX T (upd (tX T) (3 * j + 0) x)) (upd (tX (uX T (upd (tX T) (3 * j + 0) x))) (3 * j + 1) y)) (upd (tX (uX (uX T (upd (tX T) (3 * j + 0) x)) (upd (tX (uX T (upd (tX T) (3 * j + 0) x))) (3 * j + 1) y))) (3 * j + 2) z)) (upd (tV (uX (uX (uX T (upd (tX T) (3 * j + 0) x)) (upd (tX (uX T (upd (tX T) (3 * j + 0) x))) (3 * j + 1) y)) (upd (tX (uX (uX T (upd (tX T) (3 * j + 0) x)) (upd (tX (uX T (upd (tX T) (3 * j + 0) x))) (3 * j + 1) y))) (3 * j + 2) z))) j (vNew T j))) tr) := hD
    refine lv_iload hx hb dX3_insert_86 (lv_at hl 0 rfl) ?_
    exact vy_ret (ml_ri tr hx hb hr hlocks hP hK hD hS (by rw [(show sp_insert T (nI j) x y z = (0, vNew T j, uV (uX (uX (uX T (upd (tX T) (3 * j + 0) x)) (upd (tX (uX T (upd (tX T) (3 * j + 0) x))) (3 * j + 1) y)) (upd (tX (uX (uX T (upd (tX T) (3 * j + 0) x)) (upd (tX (uX T (upd (tX T) (3 * j + 0) x))) (3 * j + 1) y))) (3 * j + 2) z)) (upd (tV (uX (uX (uX T (upd (tX T) (3 * j + 0) x)) (upd (tX (uX T (upd (tX T) (3 * j + 0) x))) (3 * j + 1) y)) (upd (tX (uX (uX T (upd (tX T) (3 * j + 0) x)) (upd (tX (uX T (upd (tX T) (3 * j + 0) x))) (3 * j + 1) y))) (3 * j + 2) z))) j (vNew T j))) from by unfold sp_insert; rw [cif_f (not_not_intro ⟨q_1, q_5, q_9, q_14⟩), ix_n (j := j) (by omega), cif_f c_25] <;> rfl)]) ⟨by rw [(show sp_insert T (nI j) x y z = (0, vNew T j, uV (uX (uX (uX T (upd (tX T) (3 * j + 0) x)) (upd (tX (uX T (upd (tX T) (3 * j + 0) x))) (3 * j + 1) y)) (upd (tX (uX (uX T (upd (tX T) (3 * j + 0) x)) (upd (tX (uX T (upd (tX T) (3 * j + 0) x))) (3 * j + 1) y))) (3 * j + 2) z)) (upd (tV (uX (uX (uX T (upd (tX T) (3 * j + 0) x)) (upd (tX (uX T (upd (tX T) (3 * j + 0) x))) (3 * j + 1) y)) (upd (tX (uX (uX T (upd (tX T) (3 * j + 0) x)) (upd (tX (uX T (upd (tX T) (3 * j + 0) x))) (3 * j + 1) y))) (3 * j + 2) z))) j (vNew T j))) from by unfold sp_insert; rw [cif_f (not_not_intro ⟨q_1, q_5, q_9, q_14⟩), ix_n (j := j) (by omega), cif_f c_25] <;> rfl)], by rw [(show sp_insert T (nI j) x y z = (0, vNew T j, uV (uX (uX (uX T (upd (tX T) (3 * j + 0) x)) (upd (tX (uX T (upd (tX T) (3 * j + 0) x))) (3 * j + 1) y)) (upd (tX (uX (uX T (upd (tX T) (3 * j + 0) x)) (upd (tX (uX T (upd (tX T) (3 * j + 0) x))) (3 * j + 1) y))) (3 * j + 2) z)) (upd (tV (uX (uX (uX T (upd (tX T) (3 * j + 0) x)) (upd (tX (uX T (upd (tX T) (3 * j + 0) x))) (3 * j + 1) y)) (upd (tX (uX (uX T (upd (tX T) (3 * j + 0) x)) (upd (tX (uX T (upd (tX T) (3 * j + 0) x))) (3 * j + 1) y))) (3 * j + 2) z))) j (vNew T j))) from by unfold sp_insert; rw [cif_f (not_not_intro ⟨q_1, q_5, q_9, q_14⟩), ix_n (j := j) (by omega), cif_f c_25] <;> rfl)]⟩ dX3_insert_88)
  · exact ml_thrE tr rfl false hx hb hlt hown rfl (by decide) (text := "the row is present") (by decide) (hts (.classLink RX3 46 eIS) (by decide +kernel)) (hts (.initialized eIS) (by decide +kernel)) (fun w h => hts w (List.mem_cons_of_mem _ (List.mem_append_left _ (List.mem_append_right _ h)))) th_ng50 th_gd50 hP hK hD hE hS (hl.1.trans hml.symm) dX3_insert_28 dX3_insert_31 dX3_insert_32 dX3_insert_34 dX3_insert_37 hout (Nat.le_of_ble_eq_true rfl) (Nat.le_of_ble_eq_true rfl) (Nat.le_of_ble_eq_true rfl) (Nat.le_of_ble_eq_true rfl) hlocks (Or.inr (⟨rfl, by unfold sp_insert; rw [cif_f (not_not_intro ⟨q_1, q_5, q_9, q_14⟩), ix_n (j := j) (by omega), cif_t c_25] <;> rfl⟩)) (Nat.le_of_ble_eq_true rfl) (Nat.le_of_ble_eq_true rfl)
set_option maxHeartbeats 4000000 in
set_option maxRecDepth 100000 in
theorem c_X3_write (l : Launch) (hlt : l.stackTraces = false) (G : va_G) (cy : Nat → ClassId) (a : Nat → Nat) (sz : Nat) (T : TS) (tr : Nat → Int32) (i : Int32) (x : Int32) (y : Int32) (hI : Inv T) : vy_Met l yX3_write wsX3_write ({ frames := 7, cells := 1, slots := 6, locals := 103 } : Room) (ml_PX G cy [.ref (a 0), .int i, .int x, .int y] (wC a cy T tr) sz) (va_Qi (fun (r : Int32) (u : Nat → Int32) => (sp_write T i x y).1 = 0 ∧ (sp_write T i x y).2.1 = r) (ml_B G cy (va_A (wC a cy T tr) sz) (fun (u : Nat → Int32) => (wC a cy ((sp_write T i x y).2.2) u))) (va_A (wC a cy T tr) sz)) (ml_XE G cy (va_A (wC a cy T tr) sz) (fun tr9 : Nat → Int32 => wC a cy T tr9) (fun E => (E = eIA ∧ sp_write T i x y = (1, 0, T)) ∨ (E = eIB ∧ sp_write T i x y = (2, 0, T)))) 1 6 (va_A (wC a cy T tr) sz) := by
  refine vy_ofW (cc := cX3_write) (maxL := 5) (ret := (some .int)) (by decide) rfl ?_
  intro p e s m args below meth c s₁ B hml hout hv
  obtain ⟨rfl, hsz, hP, hK, hD0, hN, hE⟩ := hv
  have hx := B.exec
  have hb := B.bytes
  have hr := B.returns
  have hts := atoms_spec (ws := wsX3_write) B.pre
  have hown : s.vm.findClass RX3 = some m.cls := findClass_of_methodNamed B.named
  have hlocks := B.notSynchronized
  subst hsz
  have hD := hD0.self (sz := s.heap.size)
  generalize hAe : va_A (wC a cy T tr) s.heap.size = A at hD hE ⊢
  have hA : ∀ q : Nat, s.heap.size ≤ q → A q := fun q h => by rw [← hAe]; exact Or.inr h
  have hS : va_S A s.heap s.heap [] := va_S.rf
  have hP : va_P G vwCl (wC a cy T tr) s.heap := hP
  have hin_X3 : ∀ w ∈ wsX30, w ∈ wsX3_write := by decide +kernel
  have hl := lv_entry ([.ref (a 0), .int i, .int x, .int y]) (n := 5) (Nat.le_of_ble_eq_true rfl)
  rw [lg_entry_eq]
  generalize (lg_sl ([.ref (a 0), .int i, .int x, .int y]) ++ List.replicate (5 - (lg_sl ([.ref (a 0), .int i, .int x, .int y])).length) Slot.unset).toArray = ls at hl ⊢
  have hl : lv_has ls 5 [(0, .ref (a 0)), (1, .int i), (2, .int x), (3, .int y)] := hl
  have hn12 : tn T ≤ 12 := hI.1.1
  have hlvn : tlv T ≤ tn T := hI.1.2.1
  have hcu : tcu T ≤ 40 := hI.1.2.2
  have hW := hI.w
  refine lv_iload_n hx hb dX3_write_0 rfl (lv_at hl 1 rfl) ?_
  refine ml_xSv (G := G) (As := [.int i]) (rest := []) ⟨hx, hb, hml, hown, hts⟩ (c_X3_requireId l hlt G cy a s.heap.size T tr i) (va_cwS 1 hts gX3_write_X3_requireId rfl rfl rfl (by decide +kernel) ⟨Nat.le_of_ble_eq_true rfl, Nat.le_of_ble_eq_true rfl⟩) hP hK hD hS hN hA hE rfl hl.1 (Nat.le_of_ble_eq_true rfl) dX3_write_1 ⟨Nat.le_of_ble_eq_true rfl, Nat.le_of_ble_eq_true rfl⟩ (fun E ce q9 H1 locs1 hz9 hp hP hD hS9 hcell hv hcl => ml_outE tr rfl hout hlocks (Nat.lt_of_le_of_lt hS.1 hz9) (Or.inl (⟨hp.1, by unfold sp_write; rw [cif_t (fun q => hp.2 q.1 : ¬ (inR i 0 39 ∧ inR x 0 2 ∧ okV y.toInt64))] <;> rfl⟩)) hP hK hD hS9 hcell hv hcl (Nat.le_of_ble_eq_true rfl) (Nat.le_of_ble_eq_true rfl)) (fun u_1 H locs hw hP hD hS => ?_)
  have q_1 := hw
  have hP : va_P G vwCl (wC a cy T tr) H := hP
  have hD : va_D A (wC a cy T tr) := hD
  obtain ⟨j, hj, rfl⟩ := inR_n 39 (by decide) q_1
  refine lv_iload_n hx hb dX3_write_4 rfl (lv_at hl 2 rfl) ?_
  refine ml_xSv (G := G) (As := [.int x]) (rest := []) ⟨hx, hb, hml, hown, hts⟩ (c_X3_requireColumn l hlt G cy a H.size T tr x) (va_cwS 1 hts gX3_write_X3_requireColumn rfl rfl rfl (by decide +kernel) ⟨Nat.le_of_ble_eq_true rfl, Nat.le_of_ble_eq_true rfl⟩) hP hK hD hS hN hA hE rfl hl.1 (Nat.le_of_ble_eq_true rfl) dX3_write_5 ⟨Nat.le_of_ble_eq_true rfl, Nat.le_of_ble_eq_true rfl⟩ (fun E ce q9 H1 locs1 hz9 hp hP hD hS9 hcell hv hcl => ml_outE tr rfl hout hlocks (Nat.lt_of_le_of_lt hS.1 hz9) (Or.inl (⟨hp.1, by unfold sp_write; rw [cif_t (fun q => hp.2 q.2.1 : ¬ (inR (nI j) 0 39 ∧ inR x 0 2 ∧ okV y.toInt64))] <;> rfl⟩)) hP hK hD hS9 hcell hv hcl (Nat.le_of_ble_eq_true rfl) (Nat.le_of_ble_eq_true rfl)) (fun u_5 H locs hw hP hD hS => ?_)
  have q_5 := hw
  have hP : va_P G vwCl (wC a cy T tr) H := hP
  have hD : va_D A (wC a cy T tr) := hD
  obtain ⟨k, hk, rfl⟩ := inR_n 2 (by decide) q_5
  refine lv_iload_n hx hb dX3_write_8 rfl (lv_at hl 3 rfl) ?_
  refine ml_xSv (G := G) (As := [.int y]) (rest := []) ⟨hx, hb, hml, hown, hts⟩ (c_X3_requireTableValue l hlt G cy a H.size T tr y) (va_cwS 1 hts gX3_write_X3_requireTableValue rfl rfl rfl (by decide +kernel) ⟨Nat.le_of_ble_eq_true rfl, Nat.le_of_ble_eq_true rfl⟩) hP hK hD hS hN hA hE rfl hl.1 (Nat.le_of_ble_eq_true rfl) dX3_write_9 ⟨Nat.le_of_ble_eq_true rfl, Nat.le_of_ble_eq_true rfl⟩ (fun E ce q9 H1 locs1 hz9 hp hP hD hS9 hcell hv hcl => ml_outE tr rfl hout hlocks (Nat.lt_of_le_of_lt hS.1 hz9) (Or.inl (⟨hp.1, by unfold sp_write; rw [cif_t (fun q => hp.2 q.2.2 : ¬ (inR (nI j) 0 39 ∧ inR (nI k) 0 2 ∧ okV y.toInt64))] <;> rfl⟩)) hP hK hD hS9 hcell hv hcl (Nat.le_of_ble_eq_true rfl) (Nat.le_of_ble_eq_true rfl)) (fun u_9 H locs hw hP hD hS => ?_)
  have q_9 := hw
  have hP : va_P G vwCl (wC a cy T tr) H := hP
  have hD : va_D A (wC a cy T tr) := hD
  refine lv_aload_n hx hb dX3_write_12 rfl (lv_at hl 0 rfl) ?_
  refine lv_iload_n hx hb dX3_write_13 rfl (lv_at hl 1 rfl) ?_
  refine ml_xVv (G := G) (As := [.int (nI j)]) (rest := []) ⟨hx, hb, hml, hown, hts⟩ (c_X3_requirePresent l hlt G cy a H.size T tr j (by omega)) (cwV 1 hts gX3_write_X3_requirePresent rfl rfl rfl (by decide +kernel) ⟨Nat.le_of_ble_eq_true rfl, Nat.le_of_ble_eq_true rfl⟩) (va_recv hK hP (ci := 3) (q0 := 0) rfl rfl) hP hK hD hS hN hA hE rfl hl.1 (Nat.le_of_ble_eq_true rfl) dX3_write_14 ⟨Nat.le_of_ble_eq_true rfl, Nat.le_of_ble_eq_true rfl⟩ (fun E ce q9 H1 locs1 hz9 hp hP hD hS9 hcell hv hcl => ml_outE tr rfl hout hlocks (Nat.lt_of_le_of_lt hS.1 hz9) (Or.inr (⟨hp.1, by unfold sp_write; rw [cif_f (not_not_intro ⟨q_1, q_5, q_9⟩), ix_n (j := j) (by omega), cif_t hp.2] <;> rfl⟩)) hP hK hD hS9 hcell hv hcl (Nat.le_of_ble_eq_true rfl) (Nat.le_of_ble_eq_true rfl)) (fun u_14 H locs hw hP hD hS => ?_)
  have q_14 := hw
  have hP : va_P G vwCl (wC a cy T tr) H := hP
  have hD : va_D A (wC a cy T tr) := hD
  refine lv_aload_n hx hb dX3_write_17 rfl (lv_at hl 0 rfl) ?_
  refine va_get (D := G) (ci := 3) (v := .ref (a 2)) (C := RX3) (T := TX3) (N := 7) hx hb hts hin_X3 hown hK hP 0 rfl rfl 1 (by decide) (hts (.fieldLink RX3 19 "Migrationledger" "table" "LMigrationledger$Table;") (by decide +kernel)) (fun _ h9 => h9) rfl dX3_write_18 ?_
  refine lv_iload_n hx hb dX3_write_21 rfl (lv_at hl 1 rfl) ?_
  refine lv_iload_n hx hb dX3_write_22 rfl (lv_at hl 2 rfl) ?_
  refine ml_Vi (G := G) (As := [.int (nI j), .int (nI k)]) (rest := []) ⟨hx, hb, hml, hown, hts⟩ (c_X2_cell l G cy a H.size T tr j (by omega) k (by omega)) (cwV 2 hts gX3_write_X2_cell rfl rfl rfl (by decide +kernel) ⟨Nat.le_of_ble_eq_true rfl, Nat.le_of_ble_eq_true rfl⟩) (va_recv hK hP (ci := 2) (q0 := 2) rfl rfl) hP hK hD hS hN hA rfl hl.1 (Nat.le_of_ble_eq_true rfl) dX3_write_23 ⟨Nat.le_of_ble_eq_true rfl, Nat.le_of_ble_eq_true rfl⟩ (fun r_23 u_23 H locs hw hP hD hS => ?_)
  obtain rfl : r_23 = tX T (3 * j + k) := hw
  have hP : va_P G vwCl (wC a cy T tr) H := hP
  have hD : va_D A (wC a cy T tr) := hD
  refine lv_istore (lv' := [(4, .int (tX T (3 * j + k))), (0, .ref (a 0)), (1, .int (nI j)), (2, .int (nI k)), (3, .int y)]) hx hb dX3_write_26 hl (by decide) rfl (fun ls hl => ?_)
  refine lv_aload_n hx hb dX3_write_28 rfl (lv_at hl 1 rfl) ?_
  refine va_get (D := G) (ci := 3) (v := .ref (a 2)) (C := RX3) (T := TX3) (N := 7) hx hb hts hin_X3 hown hK hP 0 rfl rfl 1 (by decide) (hts (.fieldLink RX3 19 "Migrationledger" "table" "LMigrationledger$Table;") (by decide +kernel)) (fun _ h9 => h9) rfl dX3_write_29 ?_
  refine lv_iload_n hx hb dX3_write_32 rfl (lv_at hl 2 rfl) ?_
  refine lv_iload_n hx hb dX3_write_33 rfl (lv_at hl 3 rfl) ?_
  refine lv_iload_n hx hb dX3_write_34 rfl (lv_at hl 4 rfl) ?_
  refine ml_Vv (G := G) (As := [.int (nI j), .int (nI k), .int y]) (rest := []) ⟨hx, hb, hml, hown, hts⟩ (c_X2_setCell l G cy a H.size T tr j (by omega) k (by omega) y) (cwV 3 hts gX3_write_X2_setCell rfl rfl rfl (by decide +kernel) ⟨Nat.le_of_ble_eq_true rfl, Nat.le_of_ble_eq_true rfl⟩) (va_recv hK hP (ci := 2) (q0 := 2) rfl rfl) hP hK hD hS hN hA rfl hl.1 (Nat.le_of_ble_eq_true rfl) dX3_write_35 ⟨Nat.le_of_ble_eq_true rfl, Nat.le_of_ble_eq_true rfl⟩ (fun u_35 H locs hw hP hD hS => ?_)
  have hP : va_P G vwCl (wC a cy (uX T (upd (tX T) (3 * j + k) y)) tr) H := hP
  have hD : va_D A (wC a cy (uX T (upd (tX T) (3 * j + k) y)) tr) := hD
  refine lv_iload hx hb dX3_write_38 (lv_at hl 0 rfl) ?_
  exact vy_ret (ml_ri tr hx hb hr hlocks hP hK hD hS (by rw [(show sp_write T (nI j) (nI k) y = (0, tX T (3 * j + k), uX T (upd (tX T) (3 * j + k) y)) from by unfold sp_write; rw [cif_f (not_not_intro ⟨q_1, q_5, q_9⟩), ix_n (j := j) (by omega), cif_f q_14, ix_n (j := k) (by omega)] <;> rfl)]) ⟨by rw [(show sp_write T (nI j) (nI k) y = (0, tX T (3 * j + k), uX T (upd (tX T) (3 * j + k) y)) from by unfold sp_write; rw [cif_f (not_not_intro ⟨q_1, q_5, q_9⟩), ix_n (j := j) (by omega), cif_f q_14, ix_n (j := k) (by omega)] <;> rfl)], by rw [(show sp_write T (nI j) (nI k) y = (0, tX T (3 * j + k), uX T (upd (tX T) (3 * j + k) y)) from by unfold sp_write; rw [cif_f (not_not_intro ⟨q_1, q_5, q_9⟩), ix_n (j := j) (by omega), cif_f q_14, ix_n (j := k) (by omega)] <;> rfl)]⟩ dX3_write_40)
set_option maxHeartbeats 4000000 in
set_option maxRecDepth 100000 in
theorem c_X3_delete (l : Launch) (hlt : l.stackTraces = false) (G : va_G) (cy : Nat → ClassId) (a : Nat → Nat) (sz : Nat) (T : TS) (tr : Nat → Int32) (i : Int32) (hI : Inv T) : vy_Met l yX3_delete wsX3_delete ({ frames := 7, cells := 1, slots := 6, locals := 103 } : Room) (ml_PX G cy [.ref (a 0), .int i] (wC a cy T tr) sz) (va_Qi (fun (r : Int32) (u : Nat → Int32) => (sp_delete T i).1 = 0 ∧ (sp_delete T i).2.1 = r) (ml_B G cy (va_A (wC a cy T tr) sz) (fun (u : Nat → Int32) => (wC a cy ((sp_delete T i).2.2) u))) (va_A (wC a cy T tr) sz)) (ml_XE G cy (va_A (wC a cy T tr) sz) (fun tr9 : Nat → Int32 => wC a cy T tr9) (fun E => (E = eIA ∧ sp_delete T i = (1, 0, T)) ∨ (E = eIB ∧ sp_delete T i = (2, 0, T)))) 1 6 (va_A (wC a cy T tr) sz) := by
  refine vy_ofW (cc := cX3_delete) (maxL := 3) (ret := (some .int)) (by decide) rfl ?_
  intro p e s m args below meth c s₁ B hml hout hv
  obtain ⟨rfl, hsz, hP, hK, hD0, hN, hE⟩ := hv
  have hx := B.exec
  have hb := B.bytes
  have hr := B.returns
  have hts := atoms_spec (ws := wsX3_delete) B.pre
  have hown : s.vm.findClass RX3 = some m.cls := findClass_of_methodNamed B.named
  have hlocks := B.notSynchronized
  subst hsz
  have hD := hD0.self (sz := s.heap.size)
  generalize hAe : va_A (wC a cy T tr) s.heap.size = A at hD hE ⊢
  have hA : ∀ q : Nat, s.heap.size ≤ q → A q := fun q h => by rw [← hAe]; exact Or.inr h
  have hS : va_S A s.heap s.heap [] := va_S.rf
  have hP : va_P G vwCl (wC a cy T tr) s.heap := hP
  have hin_X3 : ∀ w ∈ wsX30, w ∈ wsX3_delete := by decide +kernel
  have hl := lv_entry ([.ref (a 0), .int i]) (n := 3) (Nat.le_of_ble_eq_true rfl)
  rw [lg_entry_eq]
  generalize (lg_sl ([.ref (a 0), .int i]) ++ List.replicate (3 - (lg_sl ([.ref (a 0), .int i])).length) Slot.unset).toArray = ls at hl ⊢
  have hl : lv_has ls 3 [(0, .ref (a 0)), (1, .int i)] := hl
  have hn12 : tn T ≤ 12 := hI.1.1
  have hlvn : tlv T ≤ tn T := hI.1.2.1
  have hcu : tcu T ≤ 40 := hI.1.2.2
  have hW := hI.w
  refine lv_iload_n hx hb dX3_delete_0 rfl (lv_at hl 1 rfl) ?_
  refine ml_xSv (G := G) (As := [.int i]) (rest := []) ⟨hx, hb, hml, hown, hts⟩ (c_X3_requireId l hlt G cy a s.heap.size T tr i) (va_cwS 1 hts gX3_delete_X3_requireId rfl rfl rfl (by decide +kernel) ⟨Nat.le_of_ble_eq_true rfl, Nat.le_of_ble_eq_true rfl⟩) hP hK hD hS hN hA hE rfl hl.1 (Nat.le_of_ble_eq_true rfl) dX3_delete_1 ⟨Nat.le_of_ble_eq_true rfl, Nat.le_of_ble_eq_true rfl⟩ (fun E ce q9 H1 locs1 hz9 hp hP hD hS9 hcell hv hcl => ml_outE tr rfl hout hlocks (Nat.lt_of_le_of_lt hS.1 hz9) (Or.inl (⟨hp.1, by unfold sp_delete; rw [cif_t hp.2] <;> rfl⟩)) hP hK hD hS9 hcell hv hcl (Nat.le_of_ble_eq_true rfl) (Nat.le_of_ble_eq_true rfl)) (fun u_1 H locs hw hP hD hS => ?_)
  have q_1 := hw
  have hP : va_P G vwCl (wC a cy T tr) H := hP
  have hD : va_D A (wC a cy T tr) := hD
  obtain ⟨j, hj, rfl⟩ := inR_n 39 (by decide) q_1
  refine lv_aload_n hx hb dX3_delete_4 rfl (lv_at hl 0 rfl) ?_
  refine lv_iload_n hx hb dX3_delete_5 rfl (lv_at hl 1 rfl) ?_
  refine ml_xVv (G := G) (As := [.int (nI j)]) (rest := []) ⟨hx, hb, hml, hown, hts⟩ (c_X3_requirePresent l hlt G cy a H.size T tr j (by omega)) (cwV 1 hts gX3_delete_X3_requirePresent rfl rfl rfl (by decide +kernel) ⟨Nat.le_of_ble_eq_true rfl, Nat.le_of_ble_eq_true rfl⟩) (va_recv hK hP (ci := 3) (q0 := 0) rfl rfl) hP hK hD hS hN hA hE rfl hl.1 (Nat.le_of_ble_eq_true rfl) dX3_delete_6 ⟨Nat.le_of_ble_eq_true rfl, Nat.le_of_ble_eq_true rfl⟩ (fun E ce q9 H1 locs1 hz9 hp hP hD hS9 hcell hv hcl => ml_outE tr rfl hout hlocks (Nat.lt_of_le_of_lt hS.1 hz9) (Or.inr (⟨hp.1, by unfold sp_delete; rw [cif_f (not_not_intro q_1), ix_n (j := j) (by omega), cif_t hp.2] <;> rfl⟩)) hP hK hD hS9 hcell hv hcl (Nat.le_of_ble_eq_true rfl) (Nat.le_of_ble_eq_true rfl)) (fun u_6 H locs hw hP hD hS => ?_)
  have q_6 := hw
  have hP : va_P G vwCl (wC a cy T tr) H := hP
  have hD : va_D A (wC a cy T tr) := hD
  refine lv_aload_n hx hb dX3_delete_9 rfl (lv_at hl 0 rfl) ?_
  refine va_get (D := G) (ci := 3) (v := .ref (a 2)) (C := RX3) (T := TX3) (N := 7) hx hb hts hin_X3 hown hK hP 0 rfl rfl 1 (by decide) (hts (.fieldLink RX3 19 "Migrationledger" "table" "LMigrationledger$Table;") (by decide +kernel)) (fun _ h9 => h9) rfl dX3_delete_10 ?_
  refine lv_iload_n hx hb dX3_delete_13 rfl (lv_at hl 1 rfl) ?_
  refine ml_Vi (G := G) (As := [.int (nI j)]) (rest := []) ⟨hx, hb, hml, hown, hts⟩ (c_X2_versionOf l G cy a H.size T tr j (by omega)) (cwV 1 hts gX3_delete_X2_versionOf rfl rfl rfl (by decide +kernel) ⟨Nat.le_of_ble_eq_true rfl, Nat.le_of_ble_eq_true rfl⟩) (va_recv hK hP (ci := 2) (q0 := 2) rfl rfl) hP hK hD hS hN hA rfl hl.1 (Nat.le_of_ble_eq_true rfl) dX3_delete_14 ⟨Nat.le_of_ble_eq_true rfl, Nat.le_of_ble_eq_true rfl⟩ (fun r_14 u_14 H locs hw hP hD hS => ?_)
  obtain rfl : r_14 = tV T j := hw
  have hP : va_P G vwCl (wC a cy T tr) H := hP
  have hD : va_D A (wC a cy T tr) := hD
  refine lv_istore_n (lv' := [(2, .int (tV T j)), (0, .ref (a 0)), (1, .int (nI j))]) hx hb dX3_delete_17 rfl hl (by decide) rfl (fun ls hl => ?_)
  refine lv_aload_n hx hb dX3_delete_18 rfl (lv_at hl 1 rfl) ?_
  refine va_get (D := G) (ci := 3) (v := .ref (a 2)) (C := RX3) (T := TX3) (N := 7) hx hb hts hin_X3 hown hK hP 0 rfl rfl 1 (by decide) (hts (.fieldLink RX3 19 "Migrationledger" "table" "LMigrationledger$Table;") (by decide +kernel)) (fun _ h9 => h9) rfl dX3_delete_19 ?_
  refine lv_iload_n hx hb dX3_delete_22 rfl (lv_at hl 2 rfl) ?_
  refine lv_iconst (v := (-1)) hx hb dX3_delete_23 (by decide) ?_
  refine ml_Vv (G := G) (As := [.int (nI j), .int (-1)]) (rest := []) ⟨hx, hb, hml, hown, hts⟩ (c_X2_setVersion l G cy a H.size T tr j (by omega) (-1)) (cwV 2 hts gX3_delete_X2_setVersion rfl rfl rfl (by decide +kernel) ⟨Nat.le_of_ble_eq_true rfl, Nat.le_of_ble_eq_true rfl⟩) (va_recv hK hP (ci := 2) (q0 := 2) rfl rfl) hP hK hD hS hN hA rfl hl.1 (Nat.le_of_ble_eq_true rfl) dX3_delete_24 ⟨Nat.le_of_ble_eq_true rfl, Nat.le_of_ble_eq_true rfl⟩ (fun u_24 H locs hw hP hD hS => ?_)
  have hP : va_P G vwCl (wC a cy (uV T (upd (tV T) j (-1))) tr) H := hP
  have hD : va_D A (wC a cy (uV T (upd (tV T) j (-1))) tr) := hD
  refine lv_iload_n hx hb dX3_delete_27 rfl (lv_at hl 0 rfl) ?_
  exact vy_ret (ml_ri tr hx hb hr hlocks hP hK hD hS (by rw [(show sp_delete T (nI j) = (0, tV T j, uV T (upd (tV T) j (-1))) from by unfold sp_delete; rw [cif_f (not_not_intro q_1), ix_n (j := j) (by omega), cif_f q_6] <;> rfl)]) ⟨by rw [(show sp_delete T (nI j) = (0, tV T j, uV T (upd (tV T) j (-1))) from by unfold sp_delete; rw [cif_f (not_not_intro q_1), ix_n (j := j) (by omega), cif_f q_6] <;> rfl)], by rw [(show sp_delete T (nI j) = (0, tV T j, uV T (upd (tV T) j (-1))) from by unfold sp_delete; rw [cif_f (not_not_intro q_1), ix_n (j := j) (by omega), cif_f q_6] <;> rfl)]⟩ dX3_delete_28)
set_option maxHeartbeats 4000000 in
set_option maxRecDepth 100000 in
theorem c_X3_value (l : Launch) (hlt : l.stackTraces = false) (G : va_G) (cy : Nat → ClassId) (a : Nat → Nat) (sz : Nat) (T : TS) (tr : Nat → Int32) (i : Int32) (x : Int32) (hI : Inv T) : vy_Met l yX3_value wsX3_value ({ frames := 7, cells := 1, slots := 6, locals := 103 } : Room) (ml_PX G cy [.ref (a 0), .int i, .int x] (wC a cy T tr) sz) (va_Qi (fun (r : Int32) (u : Nat → Int32) => (sp_value T i x).1 = 0 ∧ (sp_value T i x).2.1 = r) (ml_B G cy (va_A (wC a cy T tr) sz) (fun (u : Nat → Int32) => (wC a cy ((sp_value T i x).2.2) u))) (va_A (wC a cy T tr) sz)) (ml_XE G cy (va_A (wC a cy T tr) sz) (fun tr9 : Nat → Int32 => wC a cy T tr9) (fun E => (E = eIA ∧ sp_value T i x = (1, 0, T)) ∨ (E = eIB ∧ sp_value T i x = (2, 0, T)))) 1 6 (va_A (wC a cy T tr) sz) := by
  refine vy_ofW (cc := cX3_value) (maxL := 3) (ret := (some .int)) (by decide) rfl ?_
  intro p e s m args below meth c s₁ B hml hout hv
  obtain ⟨rfl, hsz, hP, hK, hD0, hN, hE⟩ := hv
  have hx := B.exec
  have hb := B.bytes
  have hr := B.returns
  have hts := atoms_spec (ws := wsX3_value) B.pre
  have hown : s.vm.findClass RX3 = some m.cls := findClass_of_methodNamed B.named
  have hlocks := B.notSynchronized
  subst hsz
  have hD := hD0.self (sz := s.heap.size)
  generalize hAe : va_A (wC a cy T tr) s.heap.size = A at hD hE ⊢
  have hA : ∀ q : Nat, s.heap.size ≤ q → A q := fun q h => by rw [← hAe]; exact Or.inr h
  have hS : va_S A s.heap s.heap [] := va_S.rf
  have hP : va_P G vwCl (wC a cy T tr) s.heap := hP
  have hin_X3 : ∀ w ∈ wsX30, w ∈ wsX3_value := by decide +kernel
  have hl := lv_entry ([.ref (a 0), .int i, .int x]) (n := 3) (Nat.le_of_ble_eq_true rfl)
  rw [lg_entry_eq]
  generalize (lg_sl ([.ref (a 0), .int i, .int x]) ++ List.replicate (3 - (lg_sl ([.ref (a 0), .int i, .int x])).length) Slot.unset).toArray = ls at hl ⊢
  have hl : lv_has ls 3 [(0, .ref (a 0)), (1, .int i), (2, .int x)] := hl
  have hn12 : tn T ≤ 12 := hI.1.1
  have hlvn : tlv T ≤ tn T := hI.1.2.1
  have hcu : tcu T ≤ 40 := hI.1.2.2
  have hW := hI.w
  refine lv_iload_n hx hb dX3_value_0 rfl (lv_at hl 1 rfl) ?_
  refine ml_xSv (G := G) (As := [.int i]) (rest := []) ⟨hx, hb, hml, hown, hts⟩ (c_X3_requireId l hlt G cy a s.heap.size T tr i) (va_cwS 1 hts gX3_value_X3_requireId rfl rfl rfl (by decide +kernel) ⟨Nat.le_of_ble_eq_true rfl, Nat.le_of_ble_eq_true rfl⟩) hP hK hD hS hN hA hE rfl hl.1 (Nat.le_of_ble_eq_true rfl) dX3_value_1 ⟨Nat.le_of_ble_eq_true rfl, Nat.le_of_ble_eq_true rfl⟩ (fun E ce q9 H1 locs1 hz9 hp hP hD hS9 hcell hv hcl => ml_outE tr rfl hout hlocks (Nat.lt_of_le_of_lt hS.1 hz9) (Or.inl (⟨hp.1, by unfold sp_value; rw [cif_t (fun q => hp.2 q.1 : ¬ (inR i 0 39 ∧ inR x 0 2))] <;> rfl⟩)) hP hK hD hS9 hcell hv hcl (Nat.le_of_ble_eq_true rfl) (Nat.le_of_ble_eq_true rfl)) (fun u_1 H locs hw hP hD hS => ?_)
  have q_1 := hw
  have hP : va_P G vwCl (wC a cy T tr) H := hP
  have hD : va_D A (wC a cy T tr) := hD
  obtain ⟨j, hj, rfl⟩ := inR_n 39 (by decide) q_1
  refine lv_iload_n hx hb dX3_value_4 rfl (lv_at hl 2 rfl) ?_
  refine ml_xSv (G := G) (As := [.int x]) (rest := []) ⟨hx, hb, hml, hown, hts⟩ (c_X3_requireColumn l hlt G cy a H.size T tr x) (va_cwS 1 hts gX3_value_X3_requireColumn rfl rfl rfl (by decide +kernel) ⟨Nat.le_of_ble_eq_true rfl, Nat.le_of_ble_eq_true rfl⟩) hP hK hD hS hN hA hE rfl hl.1 (Nat.le_of_ble_eq_true rfl) dX3_value_5 ⟨Nat.le_of_ble_eq_true rfl, Nat.le_of_ble_eq_true rfl⟩ (fun E ce q9 H1 locs1 hz9 hp hP hD hS9 hcell hv hcl => ml_outE tr rfl hout hlocks (Nat.lt_of_le_of_lt hS.1 hz9) (Or.inl (⟨hp.1, by unfold sp_value; rw [cif_t (fun q => hp.2 q.2 : ¬ (inR (nI j) 0 39 ∧ inR x 0 2))] <;> rfl⟩)) hP hK hD hS9 hcell hv hcl (Nat.le_of_ble_eq_true rfl) (Nat.le_of_ble_eq_true rfl)) (fun u_5 H locs hw hP hD hS => ?_)
  have q_5 := hw
  have hP : va_P G vwCl (wC a cy T tr) H := hP
  have hD : va_D A (wC a cy T tr) := hD
  obtain ⟨k, hk, rfl⟩ := inR_n 2 (by decide) q_5
  refine lv_aload_n hx hb dX3_value_8 rfl (lv_at hl 0 rfl) ?_
  refine lv_iload_n hx hb dX3_value_9 rfl (lv_at hl 1 rfl) ?_
  refine ml_xVv (G := G) (As := [.int (nI j)]) (rest := []) ⟨hx, hb, hml, hown, hts⟩ (c_X3_requirePresent l hlt G cy a H.size T tr j (by omega)) (cwV 1 hts gX3_value_X3_requirePresent rfl rfl rfl (by decide +kernel) ⟨Nat.le_of_ble_eq_true rfl, Nat.le_of_ble_eq_true rfl⟩) (va_recv hK hP (ci := 3) (q0 := 0) rfl rfl) hP hK hD hS hN hA hE rfl hl.1 (Nat.le_of_ble_eq_true rfl) dX3_value_10 ⟨Nat.le_of_ble_eq_true rfl, Nat.le_of_ble_eq_true rfl⟩ (fun E ce q9 H1 locs1 hz9 hp hP hD hS9 hcell hv hcl => ml_outE tr rfl hout hlocks (Nat.lt_of_le_of_lt hS.1 hz9) (Or.inr (⟨hp.1, by unfold sp_value; rw [cif_f (not_not_intro ⟨q_1, q_5⟩), ix_n (j := j) (by omega), cif_t hp.2] <;> rfl⟩)) hP hK hD hS9 hcell hv hcl (Nat.le_of_ble_eq_true rfl) (Nat.le_of_ble_eq_true rfl)) (fun u_10 H locs hw hP hD hS => ?_)
  have q_10 := hw
  have hP : va_P G vwCl (wC a cy T tr) H := hP
  have hD : va_D A (wC a cy T tr) := hD
  refine lv_aload_n hx hb dX3_value_13 rfl (lv_at hl 0 rfl) ?_
  refine va_get (D := G) (ci := 3) (v := .ref (a 2)) (C := RX3) (T := TX3) (N := 7) hx hb hts hin_X3 hown hK hP 0 rfl rfl 1 (by decide) (hts (.fieldLink RX3 19 "Migrationledger" "table" "LMigrationledger$Table;") (by decide +kernel)) (fun _ h9 => h9) rfl dX3_value_14 ?_
  refine lv_iload_n hx hb dX3_value_17 rfl (lv_at hl 1 rfl) ?_
  refine lv_iload_n hx hb dX3_value_18 rfl (lv_at hl 2 rfl) ?_
  refine ml_Vi (G := G) (As := [.int (nI j), .int (nI k)]) (rest := []) ⟨hx, hb, hml, hown, hts⟩ (c_X2_cell l G cy a H.size T tr j (by omega) k (by omega)) (cwV 2 hts gX3_value_X2_cell rfl rfl rfl (by decide +kernel) ⟨Nat.le_of_ble_eq_true rfl, Nat.le_of_ble_eq_true rfl⟩) (va_recv hK hP (ci := 2) (q0 := 2) rfl rfl) hP hK hD hS hN hA rfl hl.1 (Nat.le_of_ble_eq_true rfl) dX3_value_19 ⟨Nat.le_of_ble_eq_true rfl, Nat.le_of_ble_eq_true rfl⟩ (fun r_19 u_19 H locs hw hP hD hS => ?_)
  obtain rfl : r_19 = tX T (3 * j + k) := hw
  have hP : va_P G vwCl (wC a cy T tr) H := hP
  have hD : va_D A (wC a cy T tr) := hD
  exact vy_ret (ml_ri tr hx hb hr hlocks hP hK hD hS (by rw [(show sp_value T (nI j) (nI k) = (0, tX T (3 * j + k), T) from by unfold sp_value; rw [cif_f (not_not_intro ⟨q_1, q_5⟩), ix_n (j := j) (by omega), cif_f q_10, ix_n (j := k) (by omega)] <;> rfl)]) ⟨by rw [(show sp_value T (nI j) (nI k) = (0, tX T (3 * j + k), T) from by unfold sp_value; rw [cif_f (not_not_intro ⟨q_1, q_5⟩), ix_n (j := j) (by omega), cif_f q_10, ix_n (j := k) (by omega)] <;> rfl)], by rw [(show sp_value T (nI j) (nI k) = (0, tX T (3 * j + k), T) from by unfold sp_value; rw [cif_f (not_not_intro ⟨q_1, q_5⟩), ix_n (j := j) (by omega), cif_f q_10, ix_n (j := k) (by omega)] <;> rfl)]⟩ dX3_value_22)
set_option maxHeartbeats 4000000 in
set_option maxRecDepth 100000 in
theorem c_X3_version (l : Launch) (hlt : l.stackTraces = false) (G : va_G) (cy : Nat → ClassId) (a : Nat → Nat) (sz : Nat) (T : TS) (tr : Nat → Int32) (i : Int32) (hI : Inv T) : vy_Met l yX3_version wsX3_version ({ frames := 7, cells := 1, slots := 6, locals := 102 } : Room) (ml_PX G cy [.ref (a 0), .int i] (wC a cy T tr) sz) (va_Qi (fun (r : Int32) (u : Nat → Int32) => (sp_version T i).1 = 0 ∧ (sp_version T i).2.1 = r) (ml_B G cy (va_A (wC a cy T tr) sz) (fun (u : Nat → Int32) => (wC a cy ((sp_version T i).2.2) u))) (va_A (wC a cy T tr) sz)) (ml_XE G cy (va_A (wC a cy T tr) sz) (fun tr9 : Nat → Int32 => wC a cy T tr9) (fun E => (E = eIA ∧ sp_version T i = (1, 0, T)))) 1 6 (va_A (wC a cy T tr) sz) := by
  refine vy_ofW (cc := cX3_version) (maxL := 2) (ret := (some .int)) (by decide) rfl ?_
  intro p e s m args below meth c s₁ B hml hout hv
  obtain ⟨rfl, hsz, hP, hK, hD0, hN, hE⟩ := hv
  have hx := B.exec
  have hb := B.bytes
  have hr := B.returns
  have hts := atoms_spec (ws := wsX3_version) B.pre
  have hown : s.vm.findClass RX3 = some m.cls := findClass_of_methodNamed B.named
  have hlocks := B.notSynchronized
  subst hsz
  have hD := hD0.self (sz := s.heap.size)
  generalize hAe : va_A (wC a cy T tr) s.heap.size = A at hD hE ⊢
  have hA : ∀ q : Nat, s.heap.size ≤ q → A q := fun q h => by rw [← hAe]; exact Or.inr h
  have hS : va_S A s.heap s.heap [] := va_S.rf
  have hP : va_P G vwCl (wC a cy T tr) s.heap := hP
  have hin_X3 : ∀ w ∈ wsX30, w ∈ wsX3_version := by decide +kernel
  have hl := lv_entry ([.ref (a 0), .int i]) (n := 2) (Nat.le_of_ble_eq_true rfl)
  rw [lg_entry_eq]
  generalize (lg_sl ([.ref (a 0), .int i]) ++ List.replicate (2 - (lg_sl ([.ref (a 0), .int i])).length) Slot.unset).toArray = ls at hl ⊢
  have hl : lv_has ls 2 [(0, .ref (a 0)), (1, .int i)] := hl
  have hn12 : tn T ≤ 12 := hI.1.1
  have hlvn : tlv T ≤ tn T := hI.1.2.1
  have hcu : tcu T ≤ 40 := hI.1.2.2
  have hW := hI.w
  refine lv_iload_n hx hb dX3_version_0 rfl (lv_at hl 1 rfl) ?_
  refine ml_xSv (G := G) (As := [.int i]) (rest := []) ⟨hx, hb, hml, hown, hts⟩ (c_X3_requireId l hlt G cy a s.heap.size T tr i) (va_cwS 1 hts gX3_version_X3_requireId rfl rfl rfl (by decide +kernel) ⟨Nat.le_of_ble_eq_true rfl, Nat.le_of_ble_eq_true rfl⟩) hP hK hD hS hN hA hE rfl hl.1 (Nat.le_of_ble_eq_true rfl) dX3_version_1 ⟨Nat.le_of_ble_eq_true rfl, Nat.le_of_ble_eq_true rfl⟩ (fun E ce q9 H1 locs1 hz9 hp hP hD hS9 hcell hv hcl => ml_outE tr rfl hout hlocks (Nat.lt_of_le_of_lt hS.1 hz9) (⟨hp.1, by unfold sp_version; rw [cif_t hp.2] <;> rfl⟩) hP hK hD hS9 hcell hv hcl (Nat.le_of_ble_eq_true rfl) (Nat.le_of_ble_eq_true rfl)) (fun u_1 H locs hw hP hD hS => ?_)
  have q_1 := hw
  have hP : va_P G vwCl (wC a cy T tr) H := hP
  have hD : va_D A (wC a cy T tr) := hD
  obtain ⟨j, hj, rfl⟩ := inR_n 39 (by decide) q_1
  refine lv_aload_n hx hb dX3_version_4 rfl (lv_at hl 0 rfl) ?_
  refine va_get (D := G) (ci := 3) (v := .ref (a 2)) (C := RX3) (T := TX3) (N := 7) hx hb hts hin_X3 hown hK hP 0 rfl rfl 1 (by decide) (hts (.fieldLink RX3 19 "Migrationledger" "table" "LMigrationledger$Table;") (by decide +kernel)) (fun _ h9 => h9) rfl dX3_version_5 ?_
  refine lv_iload_n hx hb dX3_version_8 rfl (lv_at hl 1 rfl) ?_
  refine ml_Vi (G := G) (As := [.int (nI j)]) (rest := []) ⟨hx, hb, hml, hown, hts⟩ (c_X2_versionOf l G cy a H.size T tr j (by omega)) (cwV 1 hts gX3_version_X2_versionOf rfl rfl rfl (by decide +kernel) ⟨Nat.le_of_ble_eq_true rfl, Nat.le_of_ble_eq_true rfl⟩) (va_recv hK hP (ci := 2) (q0 := 2) rfl rfl) hP hK hD hS hN hA rfl hl.1 (Nat.le_of_ble_eq_true rfl) dX3_version_9 ⟨Nat.le_of_ble_eq_true rfl, Nat.le_of_ble_eq_true rfl⟩ (fun r_9 u_9 H locs hw hP hD hS => ?_)
  obtain rfl : r_9 = tV T j := hw
  have hP : va_P G vwCl (wC a cy T tr) H := hP
  have hD : va_D A (wC a cy T tr) := hD
  exact vy_ret (ml_ri tr hx hb hr hlocks hP hK hD hS (by rw [(show sp_version T (nI j) = (0, tV T j, T) from by unfold sp_version; rw [cif_f (not_not_intro q_1), ix_n (j := j) (by omega)] <;> rfl)]) ⟨by rw [(show sp_version T (nI j) = (0, tV T j, T) from by unfold sp_version; rw [cif_f (not_not_intro q_1), ix_n (j := j) (by omega)] <;> rfl)], by rw [(show sp_version T (nI j) = (0, tV T j, T) from by unfold sp_version; rw [cif_f (not_not_intro q_1), ix_n (j := j) (by omega)] <;> rfl)]⟩ dX3_version_12)
set_option maxHeartbeats 4000000 in
set_option maxRecDepth 100000 in
theorem c_X3_rowsAt (l : Launch) (hlt : l.stackTraces = false) (G : va_G) (cy : Nat → ClassId) (a : Nat → Nat) (sz : Nat) (T : TS) (tr : Nat → Int32) (x : Int32) (hI : Inv T) : vy_Met l yX3_rowsAt wsX3_rowsAt ({ frames := 6, cells := 1, slots := 6, locals := 82 } : Room) (ml_PX G cy [.ref (a 0), .int x] (wC a cy T tr) sz) (va_Qi (fun (r : Int32) (u : Nat → Int32) => (sp_rowsAt T x).1 = 0 ∧ (sp_rowsAt T x).2.1 = r) (ml_B G cy (va_A (wC a cy T tr) sz) (fun (u : Nat → Int32) => (wC a cy ((sp_rowsAt T x).2.2) u))) (va_A (wC a cy T tr) sz)) (ml_XE G cy (va_A (wC a cy T tr) sz) (fun tr9 : Nat → Int32 => wC a cy T tr9) (fun E => (E = eIA ∧ sp_rowsAt T x = (1, 0, T)))) 1 6 (va_A (wC a cy T tr) sz) := by
  refine vy_ofW (cc := cX3_rowsAt) (maxL := 2) (ret := (some .int)) (by decide) rfl ?_
  intro p e s m args below meth c s₁ B hml hout hv
  obtain ⟨rfl, hsz, hP, hK, hD0, hN, hE⟩ := hv
  have hx := B.exec
  have hb := B.bytes
  have hr := B.returns
  have hts := atoms_spec (ws := wsX3_rowsAt) B.pre
  have hown : s.vm.findClass RX3 = some m.cls := findClass_of_methodNamed B.named
  have hlocks := B.notSynchronized
  subst hsz
  have hD := hD0.self (sz := s.heap.size)
  generalize hAe : va_A (wC a cy T tr) s.heap.size = A at hD hE ⊢
  have hA : ∀ q : Nat, s.heap.size ≤ q → A q := fun q h => by rw [← hAe]; exact Or.inr h
  have hS : va_S A s.heap s.heap [] := va_S.rf
  have hP : va_P G vwCl (wC a cy T tr) s.heap := hP
  have hin_X3 : ∀ w ∈ wsX30, w ∈ wsX3_rowsAt := by decide +kernel
  have hl := lv_entry ([.ref (a 0), .int x]) (n := 2) (Nat.le_of_ble_eq_true rfl)
  rw [lg_entry_eq]
  generalize (lg_sl ([.ref (a 0), .int x]) ++ List.replicate (2 - (lg_sl ([.ref (a 0), .int x])).length) Slot.unset).toArray = ls at hl ⊢
  have hl : lv_has ls 2 [(0, .ref (a 0)), (1, .int x)] := hl
  have hn12 : tn T ≤ 12 := hI.1.1
  have hlvn : tlv T ≤ tn T := hI.1.2.1
  have hcu : tcu T ≤ 40 := hI.1.2.2
  have hW := hI.w
  refine lv_iload_n hx hb dX3_rowsAt_0 rfl (lv_at hl 1 rfl) ?_
  refine lv_if_lt (tgt := 10) hx hb dX3_rowsAt_1 (by decide) (fun c_1 => ?_) (fun c_1 => ?_)
  · exact ml_thrE tr rfl false hx hb hlt hown rfl (by decide) (text := "a version is 0 to 12") (by decide) (hts (.classLink RX3 122 eIA) (by decide +kernel)) (hts (.initialized eIA) (by decide +kernel)) (fun w h => hts w (List.mem_cons_of_mem _ (List.mem_append_right _ h))) th_ng126 th_gd126 hP hK hD hE hS (hl.1.trans hml.symm) dX3_rowsAt_10 dX3_rowsAt_13 dX3_rowsAt_14 dX3_rowsAt_16 dX3_rowsAt_19 hout (Nat.le_of_ble_eq_true rfl) (Nat.le_of_ble_eq_true rfl) (Nat.le_of_ble_eq_true rfl) (Nat.le_of_ble_eq_true rfl) hlocks (⟨rfl, by unfold sp_rowsAt; rw [cif_t (nR_a c_1)] <;> rfl⟩) (Nat.le_of_ble_eq_true rfl) (Nat.le_of_ble_eq_true rfl)
  · refine lv_iload_n hx hb dX3_rowsAt_4 rfl (lv_at hl 1 rfl) ?_
    refine lv_bipush (v := 12) hx hb dX3_rowsAt_5 (by decide) ?_
    refine lv_icmp_le (tgt := 20) hx hb dX3_rowsAt_7 (by decide) (fun c_7 => ?_) (fun c_7 => ?_)
    · refine lv_aload_n hx hb dX3_rowsAt_20 rfl (lv_at hl 0 rfl) ?_
      refine va_get (D := G) (ci := 3) (v := .ref (a 2)) (C := RX3) (T := TX3) (N := 7) hx hb hts hin_X3 hown hK hP 0 rfl rfl 1 (by decide) (hts (.fieldLink RX3 19 "Migrationledger" "table" "LMigrationledger$Table;") (by decide +kernel)) (fun _ h9 => h9) rfl dX3_rowsAt_21 ?_
      refine lv_iload_n hx hb dX3_rowsAt_24 rfl (lv_at hl 1 rfl) ?_
      refine ml_Vi (G := G) (As := [.int x]) (rest := []) ⟨hx, hb, hml, hown, hts⟩ (c_X2_countWithVersion l G cy a s.heap.size T tr x) (cwV 1 hts gX3_rowsAt_X2_countWithVersion rfl rfl rfl (by decide +kernel) ⟨Nat.le_of_ble_eq_true rfl, Nat.le_of_ble_eq_true rfl⟩) (va_recv hK hP (ci := 2) (q0 := 2) rfl rfl) hP hK hD hS hN hA rfl hl.1 (Nat.le_of_ble_eq_true rfl) dX3_rowsAt_25 ⟨Nat.le_of_ble_eq_true rfl, Nat.le_of_ble_eq_true rfl⟩ (fun r_25 u_25 H locs hw hP hD hS => ?_)
      obtain rfl : r_25 = nI (cntV (tV T) (fun y => y = x) 40) := hw
      have hP : va_P G vwCl (wC a cy T tr) H := hP
      have hD : va_D A (wC a cy T tr) := hD
      exact vy_ret (ml_ri tr hx hb hr hlocks hP hK hD hS (by rw [(show sp_rowsAt T x = (0, nI (cntV (tV T) (fun y => y = x) 40), T) from by unfold sp_rowsAt; rw [cif_f (not_not_intro (⟨Int32.not_lt.mp c_1, c_7⟩ : inR x 0 12))] <;> rfl)]) ⟨by rw [(show sp_rowsAt T x = (0, nI (cntV (tV T) (fun y => y = x) 40), T) from by unfold sp_rowsAt; rw [cif_f (not_not_intro (⟨Int32.not_lt.mp c_1, c_7⟩ : inR x 0 12))] <;> rfl)], by rw [(show sp_rowsAt T x = (0, nI (cntV (tV T) (fun y => y = x) 40), T) from by unfold sp_rowsAt; rw [cif_f (not_not_intro (⟨Int32.not_lt.mp c_1, c_7⟩ : inR x 0 12))] <;> rfl)]⟩ dX3_rowsAt_28)
    · exact ml_thrE tr rfl false hx hb hlt hown rfl (by decide) (text := "a version is 0 to 12") (by decide) (hts (.classLink RX3 122 eIA) (by decide +kernel)) (hts (.initialized eIA) (by decide +kernel)) (fun w h => hts w (List.mem_cons_of_mem _ (List.mem_append_right _ h))) th_ng126 th_gd126 hP hK hD hE hS (hl.1.trans hml.symm) dX3_rowsAt_10 dX3_rowsAt_13 dX3_rowsAt_14 dX3_rowsAt_16 dX3_rowsAt_19 hout (Nat.le_of_ble_eq_true rfl) (Nat.le_of_ble_eq_true rfl) (Nat.le_of_ble_eq_true rfl) (Nat.le_of_ble_eq_true rfl) hlocks (⟨rfl, by unfold sp_rowsAt; rw [cif_t (nR_b (Int32.not_le.mp c_7))] <;> rfl⟩) (Nat.le_of_ble_eq_true rfl) (Nat.le_of_ble_eq_true rfl)
set_option maxHeartbeats 4000000 in
set_option maxRecDepth 100000 in
theorem c_X3_valueAt (l : Launch) (hlt : l.stackTraces = false) (G : va_G) (cy : Nat → ClassId) (a : Nat → Nat) (sz : Nat) (T : TS) (tr : Nat → Int32) (i : Int32) (x : Int32) (y : Int32) (hI : Inv T) : vy_Met l yX3_valueAt wsX3_valueAt ({ frames := 7, cells := 1, slots := 6, locals := 103 } : Room) (ml_PX G cy [.ref (a 0), .int i, .int x, .int y] (wC a cy T tr) sz) (va_Qi (fun (r : Int32) (u : Nat → Int32) => (sp_valueAt T i x y).1 = 0 ∧ (sp_valueAt T i x y).2.1 = r) (ml_B G cy (va_A (wC a cy T tr) sz) (fun (u : Nat → Int32) => (wC a cy ((sp_valueAt T i x y).2.2) u))) (va_A (wC a cy T tr) sz)) (ml_XE G cy (va_A (wC a cy T tr) sz) (fun tr9 : Nat → Int32 => wC a cy T tr9) (fun E => (E = eIA ∧ sp_valueAt T i x y = (1, 0, T)) ∨ (E = eIB ∧ sp_valueAt T i x y = (2, 0, T)) ∨ (E = eIS ∧ sp_valueAt T i x y = (3, 0, T)))) 1 6 (va_A (wC a cy T tr) sz) := by
  refine vy_ofW (cc := cX3_valueAt) (maxL := 4) (ret := (some .int)) (by decide) rfl ?_
  intro p e s m args below meth c s₁ B hml hout hv
  obtain ⟨rfl, hsz, hP, hK, hD0, hN, hE⟩ := hv
  have hx := B.exec
  have hb := B.bytes
  have hr := B.returns
  have hts := atoms_spec (ws := wsX3_valueAt) B.pre
  have hown : s.vm.findClass RX3 = some m.cls := findClass_of_methodNamed B.named
  have hlocks := B.notSynchronized
  subst hsz
  have hD := hD0.self (sz := s.heap.size)
  generalize hAe : va_A (wC a cy T tr) s.heap.size = A at hD hE ⊢
  have hA : ∀ q : Nat, s.heap.size ≤ q → A q := fun q h => by rw [← hAe]; exact Or.inr h
  have hS : va_S A s.heap s.heap [] := va_S.rf
  have hP : va_P G vwCl (wC a cy T tr) s.heap := hP
  have hin_X3 : ∀ w ∈ wsX30, w ∈ wsX3_valueAt := by decide +kernel
  have hl := lv_entry ([.ref (a 0), .int i, .int x, .int y]) (n := 4) (Nat.le_of_ble_eq_true rfl)
  rw [lg_entry_eq]
  generalize (lg_sl ([.ref (a 0), .int i, .int x, .int y]) ++ List.replicate (4 - (lg_sl ([.ref (a 0), .int i, .int x, .int y])).length) Slot.unset).toArray = ls at hl ⊢
  have hl : lv_has ls 4 [(0, .ref (a 0)), (1, .int i), (2, .int x), (3, .int y)] := hl
  have hn12 : tn T ≤ 12 := hI.1.1
  have hlvn : tlv T ≤ tn T := hI.1.2.1
  have hcu : tcu T ≤ 40 := hI.1.2.2
  have hW := hI.w
  refine lv_iload_n hx hb dX3_valueAt_0 rfl (lv_at hl 1 rfl) ?_
  refine ml_xSv (G := G) (As := [.int i]) (rest := []) ⟨hx, hb, hml, hown, hts⟩ (c_X3_requireId l hlt G cy a s.heap.size T tr i) (va_cwS 1 hts gX3_valueAt_X3_requireId rfl rfl rfl (by decide +kernel) ⟨Nat.le_of_ble_eq_true rfl, Nat.le_of_ble_eq_true rfl⟩) hP hK hD hS hN hA hE rfl hl.1 (Nat.le_of_ble_eq_true rfl) dX3_valueAt_1 ⟨Nat.le_of_ble_eq_true rfl, Nat.le_of_ble_eq_true rfl⟩ (fun E ce q9 H1 locs1 hz9 hp hP hD hS9 hcell hv hcl => ml_outE tr rfl hout hlocks (Nat.lt_of_le_of_lt hS.1 hz9) (Or.inl (⟨hp.1, by unfold sp_valueAt; rw [cif_t (fun q => hp.2 q.1 : ¬ (inR i 0 39 ∧ inR x 0 2 ∧ inR y 0 (nI (tn T))))] <;> rfl⟩)) hP hK hD hS9 hcell hv hcl (Nat.le_of_ble_eq_true rfl) (Nat.le_of_ble_eq_true rfl)) (fun u_1 H locs hw hP hD hS => ?_)
  have q_1 := hw
  have hP : va_P G vwCl (wC a cy T tr) H := hP
  have hD : va_D A (wC a cy T tr) := hD
  obtain ⟨j, hj, rfl⟩ := inR_n 39 (by decide) q_1
  refine lv_iload_n hx hb dX3_valueAt_4 rfl (lv_at hl 2 rfl) ?_
  refine ml_xSv (G := G) (As := [.int x]) (rest := []) ⟨hx, hb, hml, hown, hts⟩ (c_X3_requireColumn l hlt G cy a H.size T tr x) (va_cwS 1 hts gX3_valueAt_X3_requireColumn rfl rfl rfl (by decide +kernel) ⟨Nat.le_of_ble_eq_true rfl, Nat.le_of_ble_eq_true rfl⟩) hP hK hD hS hN hA hE rfl hl.1 (Nat.le_of_ble_eq_true rfl) dX3_valueAt_5 ⟨Nat.le_of_ble_eq_true rfl, Nat.le_of_ble_eq_true rfl⟩ (fun E ce q9 H1 locs1 hz9 hp hP hD hS9 hcell hv hcl => ml_outE tr rfl hout hlocks (Nat.lt_of_le_of_lt hS.1 hz9) (Or.inl (⟨hp.1, by unfold sp_valueAt; rw [cif_t (fun q => hp.2 q.2.1 : ¬ (inR (nI j) 0 39 ∧ inR x 0 2 ∧ inR y 0 (nI (tn T))))] <;> rfl⟩)) hP hK hD hS9 hcell hv hcl (Nat.le_of_ble_eq_true rfl) (Nat.le_of_ble_eq_true rfl)) (fun u_5 H locs hw hP hD hS => ?_)
  have q_5 := hw
  have hP : va_P G vwCl (wC a cy T tr) H := hP
  have hD : va_D A (wC a cy T tr) := hD
  obtain ⟨k, hk, rfl⟩ := inR_n 2 (by decide) q_5
  refine lv_iload_n hx hb dX3_valueAt_8 rfl (lv_at hl 3 rfl) ?_
  refine lv_if_lt (tgt := 23) hx hb dX3_valueAt_9 (by decide) (fun c_9 => ?_) (fun c_9 => ?_)
  · exact ml_thrE tr rfl false hx hb hlt hown rfl (by decide) (text := "a version is 0 up to the number of changes") (by decide) (hts (.classLink RX3 122 eIA) (by decide +kernel)) (hts (.initialized eIA) (by decide +kernel)) (fun w h => hts w (List.mem_cons_of_mem _ (List.mem_append_left _ (List.mem_append_left _ (List.mem_append_right _ h))))) th_ng126 th_gd126 hP hK hD hE hS (hl.1.trans hml.symm) dX3_valueAt_23 dX3_valueAt_26 dX3_valueAt_27 dX3_valueAt_29 dX3_valueAt_32 hout (Nat.le_of_ble_eq_true rfl) (Nat.le_of_ble_eq_true rfl) (Nat.le_of_ble_eq_true rfl) (Nat.le_of_ble_eq_true rfl) hlocks (Or.inl (⟨rfl, by unfold sp_valueAt; rw [cif_t (fun q => nR_a c_9 q.2.2 : ¬ (inR (nI j) 0 39 ∧ inR (nI k) 0 2 ∧ inR y 0 (nI (tn T))))] <;> rfl⟩)) (Nat.le_of_ble_eq_true rfl) (Nat.le_of_ble_eq_true rfl)
  · refine lv_iload_n hx hb dX3_valueAt_12 rfl (lv_at hl 3 rfl) ?_
    refine lv_aload_n hx hb dX3_valueAt_13 rfl (lv_at hl 0 rfl) ?_
    refine va_get (D := G) (ci := 3) (v := .ref (a 1)) (C := RX3) (T := TX3) (N := 7) hx hb hts hin_X3 hown hK hP 0 rfl rfl 0 (by decide) (hts (.fieldLink RX3 10 "Migrationledger" "list" "LMigrationledger$ChangeList;") (by decide +kernel)) (fun _ h9 => h9) rfl dX3_valueAt_14 ?_
    refine ml_Vi (G := G) (As := []) (rest := [.int y]) ⟨hx, hb, hml, hown, hts⟩ (c_X0_count l G cy a H.size T tr) (cwV 0 hts gX3_valueAt_X0_count rfl rfl rfl (by decide +kernel) ⟨Nat.le_of_ble_eq_true rfl, Nat.le_of_ble_eq_true rfl⟩) (va_recv hK hP (ci := 0) (q0 := 1) rfl rfl) hP hK hD hS hN hA rfl hl.1 (Nat.le_of_ble_eq_true rfl) dX3_valueAt_17 ⟨Nat.le_of_ble_eq_true rfl, Nat.le_of_ble_eq_true rfl⟩ (fun r_17 u_17 H locs hw hP hD hS => ?_)
    obtain rfl : r_17 = nI (tn T) := hw
    have hP : va_P G vwCl (wC a cy T tr) H := hP
    have hD : va_D A (wC a cy T tr) := hD
    refine lv_icmp_le (tgt := 33) hx hb dX3_valueAt_20 (by decide) (fun c_20 => ?_) (fun c_20 => ?_)
    · have hy : inR y 0 (nI (tn T)) := ⟨Int32.not_lt.mp c_9, c_20⟩
      obtain ⟨t, ht, rfl⟩ := inR_nn (by omega) hy
      refine lv_aload_n hx hb dX3_valueAt_33 rfl (lv_at hl 0 rfl) ?_
      refine lv_iload_n hx hb dX3_valueAt_34 rfl (lv_at hl 1 rfl) ?_
      refine ml_xVv (G := G) (As := [.int (nI j)]) (rest := []) ⟨hx, hb, hml, hown, hts⟩ (c_X3_requirePresent l hlt G cy a H.size T tr j (by omega)) (cwV 1 hts gX3_valueAt_X3_requirePresent rfl rfl rfl (by decide +kernel) ⟨Nat.le_of_ble_eq_true rfl, Nat.le_of_ble_eq_true rfl⟩) (va_recv hK hP (ci := 3) (q0 := 0) rfl rfl) hP hK hD hS hN hA hE rfl hl.1 (Nat.le_of_ble_eq_true rfl) dX3_valueAt_35 ⟨Nat.le_of_ble_eq_true rfl, Nat.le_of_ble_eq_true rfl⟩ (fun E ce q9 H1 locs1 hz9 hp hP hD hS9 hcell hv hcl => ml_outE tr rfl hout hlocks (Nat.lt_of_le_of_lt hS.1 hz9) (Or.inr (Or.inl (⟨hp.1, by unfold sp_valueAt; rw [cif_f (not_not_intro ⟨q_1, q_5, hy⟩), ix_n (j := j) (by omega), cif_t hp.2] <;> rfl⟩))) hP hK hD hS9 hcell hv hcl (Nat.le_of_ble_eq_true rfl) (Nat.le_of_ble_eq_true rfl)) (fun u_35 H locs hw hP hD hS => ?_)
      have q_35 := hw
      have hP : va_P G vwCl (wC a cy T tr) H := hP
      have hD : va_D A (wC a cy T tr) := hD
      obtain ⟨f, ef, hf12, hfn⟩ := vN_of hW (by omega) q_35
      refine lv_aload_n hx hb dX3_valueAt_38 rfl (lv_at hl 0 rfl) ?_
      refine va_get (D := G) (ci := 3) (v := .ref (a 2)) (C := RX3) (T := TX3) (N := 7) hx hb hts hin_X3 hown hK hP 0 rfl rfl 1 (by decide) (hts (.fieldLink RX3 19 "Migrationledger" "table" "LMigrationledger$Table;") (by decide +kernel)) (fun _ h9 => h9) rfl dX3_valueAt_39 ?_
      refine lv_iload_n hx hb dX3_valueAt_42 rfl (lv_at hl 1 rfl) ?_
      refine lv_aload_n hx hb dX3_valueAt_43 rfl (lv_at hl 0 rfl) ?_
      refine va_get (D := G) (ci := 3) (v := .ref (a 4)) (C := RX3) (T := TX3) (N := 7) hx hb hts hin_X3 hown hK hP 0 rfl rfl 3 (by decide) (hts (.fieldLink RX3 30 "Migrationledger" "tried" "[I") (by decide +kernel)) (fun _ h9 => h9) rfl dX3_valueAt_44 ?_
      refine ml_Vv (G := G) (As := [.int (nI j), .ref (a 4)]) (rest := []) ⟨hx, hb, hml, hown, hts⟩ (c_X2_copyRow l G cy a H.size T tr j (by omega)) (cwV 2 hts gX3_valueAt_X2_copyRow rfl rfl rfl (by decide +kernel) ⟨Nat.le_of_ble_eq_true rfl, Nat.le_of_ble_eq_true rfl⟩) (va_recv hK hP (ci := 2) (q0 := 2) rfl rfl) hP hK hD hS hN hA rfl hl.1 (Nat.le_of_ble_eq_true rfl) dX3_valueAt_47 ⟨Nat.le_of_ble_eq_true rfl, Nat.le_of_ble_eq_true rfl⟩ (fun u_47 H locs hw hP hD hS => ?_)
      have hP : va_P G vwCl (wC a cy T (upd (upd (upd tr 0 (tX T (3 * j + 0))) 1 (tX T (3 * j + 1))) 2 (tX T (3 * j + 2)))) H := hP
      have hD : va_D A (wC a cy T (upd (upd (upd tr 0 (tX T (3 * j + 0))) 1 (tX T (3 * j + 1))) 2 (tX T (3 * j + 2)))) := hD
      refine lv_aload_n hx hb dX3_valueAt_50 rfl (lv_at hl 0 rfl) ?_
      refine lv_aload_n hx hb dX3_valueAt_51 rfl (lv_at hl 0 rfl) ?_
      refine va_get (D := G) (ci := 3) (v := .ref (a 2)) (C := RX3) (T := TX3) (N := 7) hx hb hts hin_X3 hown hK hP 0 rfl rfl 1 (by decide) (hts (.fieldLink RX3 19 "Migrationledger" "table" "LMigrationledger$Table;") (by decide +kernel)) (fun _ h9 => h9) rfl dX3_valueAt_52 ?_
      refine lv_iload_n hx hb dX3_valueAt_55 rfl (lv_at hl 1 rfl) ?_
      refine ml_Vi (G := G) (As := [.int (nI j)]) (rest := [.ref (a 0)]) ⟨hx, hb, hml, hown, hts⟩ (c_X2_versionOf l G cy a H.size T (upd (upd (upd tr 0 (tX T (3 * j + 0))) 1 (tX T (3 * j + 1))) 2 (tX T (3 * j + 2))) j (by omega)) (cwV 1 hts gX3_valueAt_X2_versionOf rfl rfl rfl (by decide +kernel) ⟨Nat.le_of_ble_eq_true rfl, Nat.le_of_ble_eq_true rfl⟩) (va_recv hK hP (ci := 2) (q0 := 2) rfl rfl) hP hK hD hS hN hA rfl hl.1 (Nat.le_of_ble_eq_true rfl) dX3_valueAt_56 ⟨Nat.le_of_ble_eq_true rfl, Nat.le_of_ble_eq_true rfl⟩ (fun r_56 u_56 H locs hw hP hD hS => ?_)
      obtain rfl : r_56 = tV T j := hw
      have hP : va_P G vwCl (wC a cy T (upd (upd (upd tr 0 (tX T (3 * j + 0))) 1 (tX T (3 * j + 1))) 2 (tX T (3 * j + 2)))) H := hP
      have hD : va_D A (wC a cy T (upd (upd (upd tr 0 (tX T (3 * j + 0))) 1 (tX T (3 * j + 1))) 2 (tX T (3 * j + 2)))) := hD
      refine ml_eqi (nI f) ef ?_
      refine lv_iload_n hx hb dX3_valueAt_59 rfl (lv_at hl 3 rfl) ?_
      refine ml_Vi (G := G) (As := [.int (nI f), .int (nI t)]) (rest := []) ⟨hx, hb, hml, hown, hts⟩ (c_X3_bringTried l G cy a H.size T (upd (upd (upd tr 0 (tX T (3 * j + 0))) 1 (tX T (3 * j + 1))) 2 (tX T (3 * j + 2))) f (by omega) t (by omega) hfn (by omega) hn12 hI.2.2.1 (rowOf T j) cpRow) (cwV 2 hts gX3_valueAt_X3_bringTried rfl rfl rfl (by decide +kernel) ⟨Nat.le_of_ble_eq_true rfl, Nat.le_of_ble_eq_true rfl⟩) (va_recv hK hP (ci := 3) (q0 := 0) rfl rfl) hP hK hD hS hN hA rfl hl.1 (Nat.le_of_ble_eq_true rfl) dX3_valueAt_60 ⟨Nat.le_of_ble_eq_true rfl, Nat.le_of_ble_eq_true rfl⟩ (fun r_60 u_60 H locs hw hP hD hS => ?_)
      obtain ⟨hw1, hw2_60⟩ := hw
      obtain rfl : r_60 = b2i ((bring T (rowOf T j) f t).isSome = true) := hw1
      have hP : va_P G vwCl (wC a cy T u_60) H := hP
      have hD : va_D A (wC a cy T u_60) := hD
      refine ml_ifneb (tgt := 76) hx hb dX3_valueAt_63 (by decide) (fun c_63 => ?_) (fun c_63 => ?_)
      · obtain ⟨row4, e4⟩ := is_s c_63
        refine lv_aload_n hx hb dX3_valueAt_76 rfl (lv_at hl 0 rfl) ?_
        refine va_get (D := G) (ci := 3) (v := .ref (a 4)) (C := RX3) (T := TX3) (N := 7) hx hb hts hin_X3 hown hK hP 0 rfl rfl 3 (by decide) (hts (.fieldLink RX3 30 "Migrationledger" "tried" "[I") (by decide +kernel)) (fun _ h9 => h9) rfl dX3_valueAt_77 ?_
        refine lv_iload_n hx hb dX3_valueAt_80 rfl (lv_at hl 2 rfl) ?_
        refine ml_iald hx hb hK hP 4 0 rfl rfl (k) rfl (by omega) (Nat.le_of_ble_eq_true rfl) (row4 k) (hw2_60 row4 e4 k (by omega)) dX3_valueAt_81 ?_
        exact vy_ret (ml_ri u_60 hx hb hr hlocks hP hK hD hS (by rw [(show sp_valueAt T (nI j) (nI k) (nI t) = (0, row4 k, T) from by unfold sp_valueAt; rw [cif_f (not_not_intro ⟨q_1, q_5, hy⟩), ix_n (j := j) (by omega), cif_f q_35, ef, ix_n (j := f) (by omega), ix_n (j := t) (by omega), e4, ix_n (j := k) (by omega)] <;> rfl)]) ⟨by rw [(show sp_valueAt T (nI j) (nI k) (nI t) = (0, row4 k, T) from by unfold sp_valueAt; rw [cif_f (not_not_intro ⟨q_1, q_5, hy⟩), ix_n (j := j) (by omega), cif_f q_35, ef, ix_n (j := f) (by omega), ix_n (j := t) (by omega), e4, ix_n (j := k) (by omega)] <;> rfl)], by rw [(show sp_valueAt T (nI j) (nI k) (nI t) = (0, row4 k, T) from by unfold sp_valueAt; rw [cif_f (not_not_intro ⟨q_1, q_5, hy⟩), ix_n (j := j) (by omega), cif_f q_35, ef, ix_n (j := f) (by omega), ix_n (j := t) (by omega), e4, ix_n (j := k) (by omega)] <;> rfl)]⟩ dX3_valueAt_82)
      · exact ml_thrE u_60 rfl false hx hb hlt hown rfl (by decide) (text := "a change cannot be applied to the row, or undone on it") (by decide) (hts (.classLink RX3 46 eIS) (by decide +kernel)) (hts (.initialized eIS) (by decide +kernel)) (fun w h => hts w (List.mem_cons_of_mem _ (List.mem_append_left _ (List.mem_append_right _ h)))) th_ng50 th_gd50 hP hK hD hE hS (hl.1.trans hml.symm) dX3_valueAt_66 dX3_valueAt_69 dX3_valueAt_70 dX3_valueAt_72 dX3_valueAt_75 hout (Nat.le_of_ble_eq_true rfl) (Nat.le_of_ble_eq_true rfl) (Nat.le_of_ble_eq_true rfl) (Nat.le_of_ble_eq_true rfl) hlocks (Or.inr (Or.inr (⟨rfl, by unfold sp_valueAt; rw [cif_f (not_not_intro ⟨q_1, q_5, hy⟩), ix_n (j := j) (by omega), cif_f q_35, ef, ix_n (j := f) (by omega), ix_n (j := t) (by omega), is_n c_63] <;> rfl⟩))) (Nat.le_of_ble_eq_true rfl) (Nat.le_of_ble_eq_true rfl)
    · exact ml_thrE tr rfl false hx hb hlt hown rfl (by decide) (text := "a version is 0 up to the number of changes") (by decide) (hts (.classLink RX3 122 eIA) (by decide +kernel)) (hts (.initialized eIA) (by decide +kernel)) (fun w h => hts w (List.mem_cons_of_mem _ (List.mem_append_left _ (List.mem_append_left _ (List.mem_append_right _ h))))) th_ng126 th_gd126 hP hK hD hE hS (hl.1.trans hml.symm) dX3_valueAt_23 dX3_valueAt_26 dX3_valueAt_27 dX3_valueAt_29 dX3_valueAt_32 hout (Nat.le_of_ble_eq_true rfl) (Nat.le_of_ble_eq_true rfl) (Nat.le_of_ble_eq_true rfl) (Nat.le_of_ble_eq_true rfl) hlocks (Or.inl (⟨rfl, by unfold sp_valueAt; rw [cif_t (fun q => nR_b (Int32.not_le.mp c_20) q.2.2 : ¬ (inR (nI j) 0 39 ∧ inR (nI k) 0 2 ∧ inR y 0 (nI (tn T))))] <;> rfl⟩)) (Nat.le_of_ble_eq_true rfl) (Nat.le_of_ble_eq_true rfl)
set_option maxHeartbeats 4000000 in
set_option maxRecDepth 100000 in
theorem c_X3_take (l : Launch) (hlt : l.stackTraces = false) (G : va_G) (cy : Nat → ClassId) (a : Nat → Nat) (sz : Nat) (T : TS) (tr : Nat → Int32) (x : Int32) (y : Int32) (hI : Inv T) : vy_Met l yX3_take wsX3_take ({ frames := 7, cells := 1, slots := 6, locals := 103 } : Room) (ml_PX G cy [.ref (a 0), .int x, .int y] (wC a cy T tr) sz) (va_Qi (fun (r : Int32) (u : Nat → Int32) => (sp_take T x y).1 = 0 ∧ (sp_take T x y).2.1 = r) (ml_B G cy (va_A (wC a cy T tr) sz) (fun (u : Nat → Int32) => (wC a cy ((sp_take T x y).2.2) u))) (va_A (wC a cy T tr) sz)) (ml_XE G cy (va_A (wC a cy T tr) sz) (fun tr9 : Nat → Int32 => wC a cy T tr9) (fun E => (E = eIA ∧ sp_take T x y = (1, 0, T)) ∨ (E = eIS ∧ sp_take T x y = (2, 0, T)))) 1 6 (va_A (wC a cy T tr) sz) := by
  refine vy_ofW (cc := cX3_take) (maxL := 4) (ret := (some .int)) (by decide) rfl ?_
  intro p e s m args below meth c s₁ B hml hout hv
  obtain ⟨rfl, hsz, hP, hK, hD0, hN, hE⟩ := hv
  have hx := B.exec
  have hb := B.bytes
  have hr := B.returns
  have hts := atoms_spec (ws := wsX3_take) B.pre
  have hown : s.vm.findClass RX3 = some m.cls := findClass_of_methodNamed B.named
  have hlocks := B.notSynchronized
  subst hsz
  have hD := hD0.self (sz := s.heap.size)
  generalize hAe : va_A (wC a cy T tr) s.heap.size = A at hD hE ⊢
  have hA : ∀ q : Nat, s.heap.size ≤ q → A q := fun q h => by rw [← hAe]; exact Or.inr h
  have hS : va_S A s.heap s.heap [] := va_S.rf
  have hP : va_P G vwCl (wC a cy T tr) s.heap := hP
  have hin_X3 : ∀ w ∈ wsX30, w ∈ wsX3_take := by decide +kernel
  have hl := lv_entry ([.ref (a 0), .int x, .int y]) (n := 4) (Nat.le_of_ble_eq_true rfl)
  rw [lg_entry_eq]
  generalize (lg_sl ([.ref (a 0), .int x, .int y]) ++ List.replicate (4 - (lg_sl ([.ref (a 0), .int x, .int y])).length) Slot.unset).toArray = ls at hl ⊢
  have hl : lv_has ls 4 [(0, .ref (a 0)), (1, .int x), (2, .int y)] := hl
  have hn12 : tn T ≤ 12 := hI.1.1
  have hlvn : tlv T ≤ tn T := hI.1.2.1
  have hcu : tcu T ≤ 40 := hI.1.2.2
  have hW := hI.w
  refine lv_iload_n hx hb dX3_take_0 rfl (lv_at hl 1 rfl) ?_
  refine ml_xSv (G := G) (As := [.int x]) (rest := []) ⟨hx, hb, hml, hown, hts⟩ (c_X3_requireWorker l hlt G cy a s.heap.size T tr x) (va_cwS 1 hts gX3_take_X3_requireWorker rfl rfl rfl (by decide +kernel) ⟨Nat.le_of_ble_eq_true rfl, Nat.le_of_ble_eq_true rfl⟩) hP hK hD hS hN hA hE rfl hl.1 (Nat.le_of_ble_eq_true rfl) dX3_take_1 ⟨Nat.le_of_ble_eq_true rfl, Nat.le_of_ble_eq_true rfl⟩ (fun E ce q9 H1 locs1 hz9 hp hP hD hS9 hcell hv hcl => ml_outE tr rfl hout hlocks (Nat.lt_of_le_of_lt hS.1 hz9) (Or.inl (⟨hp.1, by unfold sp_take; rw [cif_t (fun q => hp.2 q.1 : ¬ (inR x 0 3 ∧ inR y 1 100))] <;> rfl⟩)) hP hK hD hS9 hcell hv hcl (Nat.le_of_ble_eq_true rfl) (Nat.le_of_ble_eq_true rfl)) (fun u_1 H locs hw hP hD hS => ?_)
  have q_1 := hw
  have hP : va_P G vwCl (wC a cy T tr) H := hP
  have hD : va_D A (wC a cy T tr) := hD
  obtain ⟨j, hj, rfl⟩ := inR_n 3 (by decide) q_1
  refine lv_iload_n hx hb dX3_take_4 rfl (lv_at hl 2 rfl) ?_
  refine lv_iconst (v := 1) hx hb dX3_take_5 (by decide) ?_
  refine lv_icmp_lt (tgt := 15) hx hb dX3_take_6 (by decide) (fun c_6 => ?_) (fun c_6 => ?_)
  · exact ml_thrE tr rfl false hx hb hlt hown rfl (by decide) (text := "a lease is 1 to 100 ticks") (by decide) (hts (.classLink RX3 122 eIA) (by decide +kernel)) (hts (.initialized eIA) (by decide +kernel)) (fun w h => hts w (List.mem_cons_of_mem _ (List.mem_append_left _ (List.mem_append_right _ h)))) th_ng126 th_gd126 hP hK hD hE hS (hl.1.trans hml.symm) dX3_take_15 dX3_take_18 dX3_take_19 dX3_take_21 dX3_take_24 hout (Nat.le_of_ble_eq_true rfl) (Nat.le_of_ble_eq_true rfl) (Nat.le_of_ble_eq_true rfl) (Nat.le_of_ble_eq_true rfl) hlocks (Or.inl (⟨rfl, by unfold sp_take; rw [cif_t (fun q => nR_a c_6 q.2 : ¬ (inR (nI j) 0 3 ∧ inR y 1 100))] <;> rfl⟩)) (Nat.le_of_ble_eq_true rfl) (Nat.le_of_ble_eq_true rfl)
  · refine lv_iload_n hx hb dX3_take_9 rfl (lv_at hl 2 rfl) ?_
    refine lv_bipush (v := 100) hx hb dX3_take_10 (by decide) ?_
    refine lv_icmp_le (tgt := 25) hx hb dX3_take_12 (by decide) (fun c_12 => ?_) (fun c_12 => ?_)
    · refine lv_aload_n hx hb dX3_take_25 rfl (lv_at hl 0 rfl) ?_
      refine lv_iload_n hx hb dX3_take_26 rfl (lv_at hl 1 rfl) ?_
      refine ml_xVv (G := G) (As := [.int (nI j)]) (rest := []) ⟨hx, hb, hml, hown, hts⟩ (c_X3_requireNotCrashed l hlt G cy a H.size T tr j (by omega) (hI.2.2.2.2.1 j (by omega))) (cwV 1 hts gX3_take_X3_requireNotCrashed rfl rfl rfl (by decide +kernel) ⟨Nat.le_of_ble_eq_true rfl, Nat.le_of_ble_eq_true rfl⟩) (va_recv hK hP (ci := 3) (q0 := 0) rfl rfl) hP hK hD hS hN hA hE rfl hl.1 (Nat.le_of_ble_eq_true rfl) dX3_take_27 ⟨Nat.le_of_ble_eq_true rfl, Nat.le_of_ble_eq_true rfl⟩ (fun E ce q9 H1 locs1 hz9 hp hP hD hS9 hcell hv hcl => ml_outE tr rfl hout hlocks (Nat.lt_of_le_of_lt hS.1 hz9) (Or.inr (⟨hp.1, by unfold sp_take; rw [cif_f (not_not_intro (⟨q_1, ⟨Int32.not_lt.mp c_6, c_12⟩⟩ : inR (nI j) 0 3 ∧ inR y 1 100)), cif_t (Or.inl ((crd_n (by omega)).mpr hp.2))] <;> rfl⟩)) hP hK hD hS9 hcell hv hcl (Nat.le_of_ble_eq_true rfl) (Nat.le_of_ble_eq_true rfl)) (fun u_27 H locs hw hP hD hS => ?_)
      have q_27 := hw
      have hP : va_P G vwCl (wC a cy T tr) H := hP
      have hD : va_D A (wC a cy T tr) := hD
      refine lv_aload_n hx hb dX3_take_30 rfl (lv_at hl 0 rfl) ?_
      refine va_get (D := G) (ci := 3) (v := .ref (a 3)) (C := RX3) (T := TX3) (N := 7) hx hb hts hin_X3 hown hK hP 0 rfl rfl 2 (by decide) (hts (.fieldLink RX3 26 "Migrationledger" "lock" "LMigrationledger$Lock;") (by decide +kernel)) (fun _ h9 => h9) rfl dX3_take_31 ?_
      refine ml_Vi (G := G) (As := []) (rest := []) ⟨hx, hb, hml, hown, hts⟩ (c_X1_owner l G cy a H.size T tr) (cwV 0 hts gX3_take_X1_owner rfl rfl rfl (by decide +kernel) ⟨Nat.le_of_ble_eq_true rfl, Nat.le_of_ble_eq_true rfl⟩) (va_recv hK hP (ci := 1) (q0 := 3) rfl rfl) hP hK hD hS hN hA rfl hl.1 (Nat.le_of_ble_eq_true rfl) dX3_take_34 ⟨Nat.le_of_ble_eq_true rfl, Nat.le_of_ble_eq_true rfl⟩ (fun r_34 u_34 H locs hw hP hD hS => ?_)
      obtain rfl : r_34 = owner T := hw
      have hP : va_P G vwCl (wC a cy T tr) H := hP
      have hD : va_D A (wC a cy T tr) := hD
      refine lv_istore_n (lv' := [(3, .int (owner T)), (0, .ref (a 0)), (1, .int (nI j)), (2, .int y)]) hx hb dX3_take_37 rfl hl (by decide) rfl (fun ls hl => ?_)
      refine lv_iload_n hx hb dX3_take_38 rfl (lv_at hl 0 rfl) ?_
      refine lv_iconst (v := (-1)) hx hb dX3_take_39 (by decide) ?_
      refine lv_icmp_eq (tgt := 58) hx hb dX3_take_40 (by decide) (fun c_40 => ?_) (fun c_40 => ?_)
      · refine lv_aload_n hx hb dX3_take_58 rfl (lv_at hl 1 rfl) ?_
        refine va_get (D := G) (ci := 3) (v := .ref (a 3)) (C := RX3) (T := TX3) (N := 7) hx hb hts hin_X3 hown hK hP 0 rfl rfl 2 (by decide) (hts (.fieldLink RX3 26 "Migrationledger" "lock" "LMigrationledger$Lock;") (by decide +kernel)) (fun _ h9 => h9) rfl dX3_take_59 ?_
        refine lv_iload_n hx hb dX3_take_62 rfl (lv_at hl 2 rfl) ?_
        refine lv_iload_n hx hb dX3_take_63 rfl (lv_at hl 3 rfl) ?_
        refine ml_Vi (G := G) (As := [.int (nI j), .int y]) (rest := []) ⟨hx, hb, hml, hown, hts⟩ (c_X1_grant l G cy a H.size T tr (nI j) y) (cwV 2 hts gX3_take_X1_grant rfl rfl rfl (by decide +kernel) ⟨Nat.le_of_ble_eq_true rfl, Nat.le_of_ble_eq_true rfl⟩) (va_recv hK hP (ci := 1) (q0 := 3) rfl rfl) hP hK hD hS hN hA rfl hl.1 (Nat.le_of_ble_eq_true rfl) dX3_take_64 ⟨Nat.le_of_ble_eq_true rfl, Nat.le_of_ble_eq_true rfl⟩ (fun r_64 u_64 H locs hw hP hD hS => ?_)
        obtain rfl : r_64 = ttm T + y := hw
        have hP : va_P G vwCl (wC a cy (ule (uho T (nI j)) (ttm T + y)) tr) H := hP
        have hD : va_D A (wC a cy (ule (uho T (nI j)) (ttm T + y)) tr) := hD
        exact vy_ret (ml_ri tr hx hb hr hlocks hP hK hD hS (by rw [(show sp_take T (nI j) y = (0, ttm T + y, ule (uho T (nI j)) (ttm T + y)) from by unfold sp_take; rw [cif_f (not_not_intro (⟨q_1, ⟨Int32.not_lt.mp c_6, c_12⟩⟩ : inR (nI j) 0 3 ∧ inR y 1 100)), cif_f (fun q => q.elim (fun z => q_27 ((crd_n (by omega)).mp z)) (own_no (Or.inl c_40)) : ¬ (crd T (nI j) ∨ (isHeld T ∧ tho T ≠ nI j)))] <;> rfl)]) ⟨by rw [(show sp_take T (nI j) y = (0, ttm T + y, ule (uho T (nI j)) (ttm T + y)) from by unfold sp_take; rw [cif_f (not_not_intro (⟨q_1, ⟨Int32.not_lt.mp c_6, c_12⟩⟩ : inR (nI j) 0 3 ∧ inR y 1 100)), cif_f (fun q => q.elim (fun z => q_27 ((crd_n (by omega)).mp z)) (own_no (Or.inl c_40)) : ¬ (crd T (nI j) ∨ (isHeld T ∧ tho T ≠ nI j)))] <;> rfl)], by rw [(show sp_take T (nI j) y = (0, ttm T + y, ule (uho T (nI j)) (ttm T + y)) from by unfold sp_take; rw [cif_f (not_not_intro (⟨q_1, ⟨Int32.not_lt.mp c_6, c_12⟩⟩ : inR (nI j) 0 3 ∧ inR y 1 100)), cif_f (fun q => q.elim (fun z => q_27 ((crd_n (by omega)).mp z)) (own_no (Or.inl c_40)) : ¬ (crd T (nI j) ∨ (isHeld T ∧ tho T ≠ nI j)))] <;> rfl)]⟩ dX3_take_67)
      · refine lv_iload_n hx hb dX3_take_43 rfl (lv_at hl 0 rfl) ?_
        refine lv_iload_n hx hb dX3_take_44 rfl (lv_at hl 2 rfl) ?_
        refine lv_icmp_eq (tgt := 58) hx hb dX3_take_45 (by decide) (fun c_45 => ?_) (fun c_45 => ?_)
        · refine lv_aload_n hx hb dX3_take_58 rfl (lv_at hl 1 rfl) ?_
          refine va_get (D := G) (ci := 3) (v := .ref (a 3)) (C := RX3) (T := TX3) (N := 7) hx hb hts hin_X3 hown hK hP 0 rfl rfl 2 (by decide) (hts (.fieldLink RX3 26 "Migrationledger" "lock" "LMigrationledger$Lock;") (by decide +kernel)) (fun _ h9 => h9) rfl dX3_take_59 ?_
          refine lv_iload_n hx hb dX3_take_62 rfl (lv_at hl 2 rfl) ?_
          refine lv_iload_n hx hb dX3_take_63 rfl (lv_at hl 3 rfl) ?_
          refine ml_Vi (G := G) (As := [.int (nI j), .int y]) (rest := []) ⟨hx, hb, hml, hown, hts⟩ (c_X1_grant l G cy a H.size T tr (nI j) y) (cwV 2 hts gX3_take_X1_grant rfl rfl rfl (by decide +kernel) ⟨Nat.le_of_ble_eq_true rfl, Nat.le_of_ble_eq_true rfl⟩) (va_recv hK hP (ci := 1) (q0 := 3) rfl rfl) hP hK hD hS hN hA rfl hl.1 (Nat.le_of_ble_eq_true rfl) dX3_take_64 ⟨Nat.le_of_ble_eq_true rfl, Nat.le_of_ble_eq_true rfl⟩ (fun r_64 u_64 H locs hw hP hD hS => ?_)
          obtain rfl : r_64 = ttm T + y := hw
          have hP : va_P G vwCl (wC a cy (ule (uho T (nI j)) (ttm T + y)) tr) H := hP
          have hD : va_D A (wC a cy (ule (uho T (nI j)) (ttm T + y)) tr) := hD
          exact vy_ret (ml_ri tr hx hb hr hlocks hP hK hD hS (by rw [(show sp_take T (nI j) y = (0, ttm T + y, ule (uho T (nI j)) (ttm T + y)) from by unfold sp_take; rw [cif_f (not_not_intro (⟨q_1, ⟨Int32.not_lt.mp c_6, c_12⟩⟩ : inR (nI j) 0 3 ∧ inR y 1 100)), cif_f (fun q => q.elim (fun z => q_27 ((crd_n (by omega)).mp z)) (own_no (Or.inr c_45)) : ¬ (crd T (nI j) ∨ (isHeld T ∧ tho T ≠ nI j)))] <;> rfl)]) ⟨by rw [(show sp_take T (nI j) y = (0, ttm T + y, ule (uho T (nI j)) (ttm T + y)) from by unfold sp_take; rw [cif_f (not_not_intro (⟨q_1, ⟨Int32.not_lt.mp c_6, c_12⟩⟩ : inR (nI j) 0 3 ∧ inR y 1 100)), cif_f (fun q => q.elim (fun z => q_27 ((crd_n (by omega)).mp z)) (own_no (Or.inr c_45)) : ¬ (crd T (nI j) ∨ (isHeld T ∧ tho T ≠ nI j)))] <;> rfl)], by rw [(show sp_take T (nI j) y = (0, ttm T + y, ule (uho T (nI j)) (ttm T + y)) from by unfold sp_take; rw [cif_f (not_not_intro (⟨q_1, ⟨Int32.not_lt.mp c_6, c_12⟩⟩ : inR (nI j) 0 3 ∧ inR y 1 100)), cif_f (fun q => q.elim (fun z => q_27 ((crd_n (by omega)).mp z)) (own_no (Or.inr c_45)) : ¬ (crd T (nI j) ∨ (isHeld T ∧ tho T ≠ nI j)))] <;> rfl)]⟩ dX3_take_67)
        · exact ml_thrE tr rfl false hx hb hlt hown rfl (by decide) (text := "another worker has the lock") (by decide) (hts (.classLink RX3 46 eIS) (by decide +kernel)) (hts (.initialized eIS) (by decide +kernel)) (fun w h => hts w (List.mem_cons_of_mem _ (List.mem_append_right _ h))) th_ng50 th_gd50 hP hK hD hE hS (hl.1.trans hml.symm) dX3_take_48 dX3_take_51 dX3_take_52 dX3_take_54 dX3_take_57 hout (Nat.le_of_ble_eq_true rfl) (Nat.le_of_ble_eq_true rfl) (Nat.le_of_ble_eq_true rfl) (Nat.le_of_ble_eq_true rfl) hlocks (Or.inr (⟨rfl, by unfold sp_take; rw [cif_f (not_not_intro (⟨q_1, ⟨Int32.not_lt.mp c_6, c_12⟩⟩ : inR (nI j) 0 3 ∧ inR y 1 100)), cif_t (Or.inr (own_yes c_40 c_45))] <;> rfl⟩)) (Nat.le_of_ble_eq_true rfl) (Nat.le_of_ble_eq_true rfl)
    · exact ml_thrE tr rfl false hx hb hlt hown rfl (by decide) (text := "a lease is 1 to 100 ticks") (by decide) (hts (.classLink RX3 122 eIA) (by decide +kernel)) (hts (.initialized eIA) (by decide +kernel)) (fun w h => hts w (List.mem_cons_of_mem _ (List.mem_append_left _ (List.mem_append_right _ h)))) th_ng126 th_gd126 hP hK hD hE hS (hl.1.trans hml.symm) dX3_take_15 dX3_take_18 dX3_take_19 dX3_take_21 dX3_take_24 hout (Nat.le_of_ble_eq_true rfl) (Nat.le_of_ble_eq_true rfl) (Nat.le_of_ble_eq_true rfl) (Nat.le_of_ble_eq_true rfl) hlocks (Or.inl (⟨rfl, by unfold sp_take; rw [cif_t (fun q => nR_b (Int32.not_le.mp c_12) q.2 : ¬ (inR (nI j) 0 3 ∧ inR y 1 100))] <;> rfl⟩)) (Nat.le_of_ble_eq_true rfl) (Nat.le_of_ble_eq_true rfl)
set_option maxHeartbeats 4000000 in
set_option maxRecDepth 100000 in
theorem c_X3_giveBack (l : Launch) (hlt : l.stackTraces = false) (G : va_G) (cy : Nat → ClassId) (a : Nat → Nat) (sz : Nat) (T : TS) (tr : Nat → Int32) (x : Int32) (hI : Inv T) : vy_Met l yX3_giveBack wsX3_giveBack ({ frames := 8, cells := 1, slots := 6, locals := 124 } : Room) (ml_PX G cy [.ref (a 0), .int x] (wC a cy T tr) sz) (va_Qv (fun (u : Nat → Int32) => (sp_giveBack T x).1 = 0) (ml_B G cy (va_A (wC a cy T tr) sz) (fun (u : Nat → Int32) => (wC a cy ((sp_giveBack T x).2.2) u))) (va_A (wC a cy T tr) sz)) (ml_XE G cy (va_A (wC a cy T tr) sz) (fun tr9 : Nat → Int32 => wC a cy T tr9) (fun E => (E = eIA ∧ sp_giveBack T x = (1, 0, T)) ∨ (E = eIS ∧ sp_giveBack T x = (2, 0, T)))) 1 6 (va_A (wC a cy T tr) sz) := by
  refine vy_ofW (cc := cX3_giveBack) (maxL := 2) (ret := none) (by decide) rfl ?_
  intro p e s m args below meth c s₁ B hml hout hv
  obtain ⟨rfl, hsz, hP, hK, hD0, hN, hE⟩ := hv
  have hx := B.exec
  have hb := B.bytes
  have hr := B.returns
  have hts := atoms_spec (ws := wsX3_giveBack) B.pre
  have hown : s.vm.findClass RX3 = some m.cls := findClass_of_methodNamed B.named
  have hlocks := B.notSynchronized
  subst hsz
  have hD := hD0.self (sz := s.heap.size)
  generalize hAe : va_A (wC a cy T tr) s.heap.size = A at hD hE ⊢
  have hA : ∀ q : Nat, s.heap.size ≤ q → A q := fun q h => by rw [← hAe]; exact Or.inr h
  have hS : va_S A s.heap s.heap [] := va_S.rf
  have hP : va_P G vwCl (wC a cy T tr) s.heap := hP
  have hin_X3 : ∀ w ∈ wsX30, w ∈ wsX3_giveBack := by decide +kernel
  have hl := lv_entry ([.ref (a 0), .int x]) (n := 2) (Nat.le_of_ble_eq_true rfl)
  rw [lg_entry_eq]
  generalize (lg_sl ([.ref (a 0), .int x]) ++ List.replicate (2 - (lg_sl ([.ref (a 0), .int x])).length) Slot.unset).toArray = ls at hl ⊢
  have hl : lv_has ls 2 [(0, .ref (a 0)), (1, .int x)] := hl
  have hn12 : tn T ≤ 12 := hI.1.1
  have hlvn : tlv T ≤ tn T := hI.1.2.1
  have hcu : tcu T ≤ 40 := hI.1.2.2
  have hW := hI.w
  refine lv_iload_n hx hb dX3_giveBack_0 rfl (lv_at hl 1 rfl) ?_
  refine ml_xSv (G := G) (As := [.int x]) (rest := []) ⟨hx, hb, hml, hown, hts⟩ (c_X3_requireWorker l hlt G cy a s.heap.size T tr x) (va_cwS 1 hts gX3_giveBack_X3_requireWorker rfl rfl rfl (by decide +kernel) ⟨Nat.le_of_ble_eq_true rfl, Nat.le_of_ble_eq_true rfl⟩) hP hK hD hS hN hA hE rfl hl.1 (Nat.le_of_ble_eq_true rfl) dX3_giveBack_1 ⟨Nat.le_of_ble_eq_true rfl, Nat.le_of_ble_eq_true rfl⟩ (fun E ce q9 H1 locs1 hz9 hp hP hD hS9 hcell hv hcl => ml_outE tr rfl hout hlocks (Nat.lt_of_le_of_lt hS.1 hz9) (Or.inl (⟨hp.1, by unfold sp_giveBack; rw [cif_t hp.2] <;> rfl⟩)) hP hK hD hS9 hcell hv hcl (Nat.le_of_ble_eq_true rfl) (Nat.le_of_ble_eq_true rfl)) (fun u_1 H locs hw hP hD hS => ?_)
  have q_1 := hw
  have hP : va_P G vwCl (wC a cy T tr) H := hP
  have hD : va_D A (wC a cy T tr) := hD
  obtain ⟨j, hj, rfl⟩ := inR_n 3 (by decide) q_1
  refine lv_aload_n hx hb dX3_giveBack_4 rfl (lv_at hl 0 rfl) ?_
  refine lv_iload_n hx hb dX3_giveBack_5 rfl (lv_at hl 1 rfl) ?_
  refine ml_xVv (G := G) (As := [.int (nI j)]) (rest := []) ⟨hx, hb, hml, hown, hts⟩ (c_X3_requireAtWork l hlt G cy a H.size T tr j (by omega) (hI.2.2.2.2.1 j (by omega))) (cwV 1 hts gX3_giveBack_X3_requireAtWork rfl rfl rfl (by decide +kernel) ⟨Nat.le_of_ble_eq_true rfl, Nat.le_of_ble_eq_true rfl⟩) (va_recv hK hP (ci := 3) (q0 := 0) rfl rfl) hP hK hD hS hN hA hE rfl hl.1 (Nat.le_of_ble_eq_true rfl) dX3_giveBack_6 ⟨Nat.le_of_ble_eq_true rfl, Nat.le_of_ble_eq_true rfl⟩ (fun E ce q9 H1 locs1 hz9 hp hP hD hS9 hcell hv hcl => ml_outE tr rfl hout hlocks (Nat.lt_of_le_of_lt hS.1 hz9) (Or.inr (⟨hp.1, by unfold sp_giveBack; rw [cif_f (not_not_intro q_1), cif_t (atw_f (by omega) hp.2)] <;> rfl⟩)) hP hK hD hS9 hcell hv hcl (Nat.le_of_ble_eq_true rfl) (Nat.le_of_ble_eq_true rfl)) (fun u_6 H locs hw hP hD hS => ?_)
  have q_6 := hw
  have hP : va_P G vwCl (wC a cy T tr) H := hP
  have hD : va_D A (wC a cy T tr) := hD
  refine lv_aload_n hx hb dX3_giveBack_9 rfl (lv_at hl 0 rfl) ?_
  refine va_get (D := G) (ci := 3) (v := .ref (a 3)) (C := RX3) (T := TX3) (N := 7) hx hb hts hin_X3 hown hK hP 0 rfl rfl 2 (by decide) (hts (.fieldLink RX3 26 "Migrationledger" "lock" "LMigrationledger$Lock;") (by decide +kernel)) (fun _ h9 => h9) rfl dX3_giveBack_10 ?_
  refine ml_Vv (G := G) (As := []) (rest := []) ⟨hx, hb, hml, hown, hts⟩ (c_X1_release l G cy a H.size T tr) (cwV 0 hts gX3_giveBack_X1_release rfl rfl rfl (by decide +kernel) ⟨Nat.le_of_ble_eq_true rfl, Nat.le_of_ble_eq_true rfl⟩) (va_recv hK hP (ci := 1) (q0 := 3) rfl rfl) hP hK hD hS hN hA rfl hl.1 (Nat.le_of_ble_eq_true rfl) dX3_giveBack_13 ⟨Nat.le_of_ble_eq_true rfl, Nat.le_of_ble_eq_true rfl⟩ (fun u_13 H locs hw hP hD hS => ?_)
  have hP : va_P G vwCl (wC a cy (uho T (-1)) tr) H := hP
  have hD : va_D A (wC a cy (uho T (-1)) tr) := hD
  exact vy_ret (ml_rv tr hx hb hr hlocks hP hK hD hS (by rw [(show sp_giveBack T (nI j) = (0, 0, uho T (-1)) from by unfold sp_giveBack; rw [cif_f (not_not_intro q_1), cif_f (atw_t (by omega) q_6)] <;> rfl)]) (by rw [(show sp_giveBack T (nI j) = (0, 0, uho T (-1)) from by unfold sp_giveBack; rw [cif_f (not_not_intro q_1), cif_f (atw_t (by omega) q_6)] <;> rfl)]) dX3_giveBack_16)
set_option maxHeartbeats 4000000 in
set_option maxRecDepth 100000 in
theorem c_X3_restart (l : Launch) (hlt : l.stackTraces = false) (G : va_G) (cy : Nat → ClassId) (a : Nat → Nat) (sz : Nat) (T : TS) (tr : Nat → Int32) (x : Int32) (hI : Inv T) : vy_Met l yX3_restart wsX3_restart ({ frames := 7, cells := 1, slots := 6, locals := 102 } : Room) (ml_PX G cy [.ref (a 0), .int x] (wC a cy T tr) sz) (va_Qi (fun (r : Int32) (u : Nat → Int32) => (sp_restart T x).1 = 0 ∧ (sp_restart T x).2.1 = r) (ml_B G cy (va_A (wC a cy T tr) sz) (fun (u : Nat → Int32) => (wC a cy ((sp_restart T x).2.2) u))) (va_A (wC a cy T tr) sz)) (ml_XE G cy (va_A (wC a cy T tr) sz) (fun tr9 : Nat → Int32 => wC a cy T tr9) (fun E => (E = eIA ∧ sp_restart T x = (1, 0, T)) ∨ (E = eIS ∧ sp_restart T x = (2, 0, T)))) 1 6 (va_A (wC a cy T tr) sz) := by
  refine vy_ofW (cc := cX3_restart) (maxL := 2) (ret := (some .boolean)) (by decide) rfl ?_
  intro p e s m args below meth c s₁ B hml hout hv
  obtain ⟨rfl, hsz, hP, hK, hD0, hN, hE⟩ := hv
  have hx := B.exec
  have hb := B.bytes
  have hr := B.returns
  have hts := atoms_spec (ws := wsX3_restart) B.pre
  have hown : s.vm.findClass RX3 = some m.cls := findClass_of_methodNamed B.named
  have hlocks := B.notSynchronized
  subst hsz
  have hD := hD0.self (sz := s.heap.size)
  generalize hAe : va_A (wC a cy T tr) s.heap.size = A at hD hE ⊢
  have hA : ∀ q : Nat, s.heap.size ≤ q → A q := fun q h => by rw [← hAe]; exact Or.inr h
  have hS : va_S A s.heap s.heap [] := va_S.rf
  have hP : va_P G vwCl (wC a cy T tr) s.heap := hP
  have hin_X3 : ∀ w ∈ wsX30, w ∈ wsX3_restart := by decide +kernel
  have hl := lv_entry ([.ref (a 0), .int x]) (n := 2) (Nat.le_of_ble_eq_true rfl)
  rw [lg_entry_eq]
  generalize (lg_sl ([.ref (a 0), .int x]) ++ List.replicate (2 - (lg_sl ([.ref (a 0), .int x])).length) Slot.unset).toArray = ls at hl ⊢
  have hl : lv_has ls 2 [(0, .ref (a 0)), (1, .int x)] := hl
  have hn12 : tn T ≤ 12 := hI.1.1
  have hlvn : tlv T ≤ tn T := hI.1.2.1
  have hcu : tcu T ≤ 40 := hI.1.2.2
  have hW := hI.w
  refine lv_iload_n hx hb dX3_restart_0 rfl (lv_at hl 1 rfl) ?_
  refine ml_xSv (G := G) (As := [.int x]) (rest := []) ⟨hx, hb, hml, hown, hts⟩ (c_X3_requireWorker l hlt G cy a s.heap.size T tr x) (va_cwS 1 hts gX3_restart_X3_requireWorker rfl rfl rfl (by decide +kernel) ⟨Nat.le_of_ble_eq_true rfl, Nat.le_of_ble_eq_true rfl⟩) hP hK hD hS hN hA hE rfl hl.1 (Nat.le_of_ble_eq_true rfl) dX3_restart_1 ⟨Nat.le_of_ble_eq_true rfl, Nat.le_of_ble_eq_true rfl⟩ (fun E ce q9 H1 locs1 hz9 hp hP hD hS9 hcell hv hcl => ml_outE tr rfl hout hlocks (Nat.lt_of_le_of_lt hS.1 hz9) (Or.inl (⟨hp.1, by unfold sp_restart; rw [cif_t hp.2] <;> rfl⟩)) hP hK hD hS9 hcell hv hcl (Nat.le_of_ble_eq_true rfl) (Nat.le_of_ble_eq_true rfl)) (fun u_1 H locs hw hP hD hS => ?_)
  have q_1 := hw
  have hP : va_P G vwCl (wC a cy T tr) H := hP
  have hD : va_D A (wC a cy T tr) := hD
  obtain ⟨j, hj, rfl⟩ := inR_n 3 (by decide) q_1
  refine lv_aload_n hx hb dX3_restart_4 rfl (lv_at hl 0 rfl) ?_
  refine va_get (D := G) (ci := 3) (v := .ref (a 3)) (C := RX3) (T := TX3) (N := 7) hx hb hts hin_X3 hown hK hP 0 rfl rfl 2 (by decide) (hts (.fieldLink RX3 26 "Migrationledger" "lock" "LMigrationledger$Lock;") (by decide +kernel)) (fun _ h9 => h9) rfl dX3_restart_5 ?_
  refine lv_iload_n hx hb dX3_restart_8 rfl (lv_at hl 1 rfl) ?_
  refine ml_Vi (G := G) (As := [.int (nI j)]) (rest := []) ⟨hx, hb, hml, hown, hts⟩ (c_X1_hasCrashed l G cy a H.size T tr j (by omega) (hI.2.2.2.2.1 j (by omega))) (cwV 1 hts gX3_restart_X1_hasCrashed rfl rfl rfl (by decide +kernel) ⟨Nat.le_of_ble_eq_true rfl, Nat.le_of_ble_eq_true rfl⟩) (va_recv hK hP (ci := 1) (q0 := 3) rfl rfl) hP hK hD hS hN hA rfl hl.1 (Nat.le_of_ble_eq_true rfl) dX3_restart_9 ⟨Nat.le_of_ble_eq_true rfl, Nat.le_of_ble_eq_true rfl⟩ (fun r_9 u_9 H locs hw hP hD hS => ?_)
  obtain rfl : r_9 = b2i (tcr T j ≠ 0) := hw
  have hP : va_P G vwCl (wC a cy T tr) H := hP
  have hD : va_D A (wC a cy T tr) := hD
  refine ml_ifneb (tgt := 25) hx hb dX3_restart_12 (by decide) (fun c_12 => ?_) (fun c_12 => ?_)
  · refine lv_aload_n hx hb dX3_restart_25 rfl (lv_at hl 0 rfl) ?_
    refine va_get (D := G) (ci := 3) (v := .ref (a 3)) (C := RX3) (T := TX3) (N := 7) hx hb hts hin_X3 hown hK hP 0 rfl rfl 2 (by decide) (hts (.fieldLink RX3 26 "Migrationledger" "lock" "LMigrationledger$Lock;") (by decide +kernel)) (fun _ h9 => h9) rfl dX3_restart_26 ?_
    refine lv_iload_n hx hb dX3_restart_29 rfl (lv_at hl 1 rfl) ?_
    refine lv_iconst (v := 0) hx hb dX3_restart_30 (by decide) ?_
    refine ml_Vv (G := G) (As := [.int (nI j), .int 0]) (rest := []) ⟨hx, hb, hml, hown, hts⟩ (c_X1_setCrashed l G cy a H.size T tr j (by omega) 0 rfl) (cwV 2 hts gX3_restart_X1_setCrashed rfl rfl rfl (by decide +kernel) ⟨Nat.le_of_ble_eq_true rfl, Nat.le_of_ble_eq_true rfl⟩) (va_recv hK hP (ci := 1) (q0 := 3) rfl rfl) hP hK hD hS hN hA rfl hl.1 (Nat.le_of_ble_eq_true rfl) dX3_restart_31 ⟨Nat.le_of_ble_eq_true rfl, Nat.le_of_ble_eq_true rfl⟩ (fun u_31 H locs hw hP hD hS => ?_)
    have hP : va_P G vwCl (wC a cy (ucr T (upd (tcr T) j 0)) tr) H := hP
    have hD : va_D A (wC a cy (ucr T (upd (tcr T) j 0)) tr) := hD
    refine lv_aload_n hx hb dX3_restart_34 rfl (lv_at hl 0 rfl) ?_
    refine va_get (D := G) (ci := 3) (v := .ref (a 3)) (C := RX3) (T := TX3) (N := 7) hx hb hts hin_X3 hown hK hP 0 rfl rfl 2 (by decide) (hts (.fieldLink RX3 26 "Migrationledger" "lock" "LMigrationledger$Lock;") (by decide +kernel)) (fun _ h9 => h9) rfl dX3_restart_35 ?_
    refine ml_Vi (G := G) (As := []) (rest := []) ⟨hx, hb, hml, hown, hts⟩ (c_X1_owner l G cy a H.size (ucr T (upd (tcr T) j 0)) tr) (cwV 0 hts gX3_restart_X1_owner rfl rfl rfl (by decide +kernel) ⟨Nat.le_of_ble_eq_true rfl, Nat.le_of_ble_eq_true rfl⟩) (va_recv hK hP (ci := 1) (q0 := 3) rfl rfl) hP hK hD hS hN hA rfl hl.1 (Nat.le_of_ble_eq_true rfl) dX3_restart_38 ⟨Nat.le_of_ble_eq_true rfl, Nat.le_of_ble_eq_true rfl⟩ (fun r_38 u_38 H locs hw hP hD hS => ?_)
    obtain rfl : r_38 = owner (ucr T (upd (tcr T) j 0)) := hw
    have hP : va_P G vwCl (wC a cy (ucr T (upd (tcr T) j 0)) tr) H := hP
    have hD : va_D A (wC a cy (ucr T (upd (tcr T) j 0)) tr) := hD
    refine lv_iload_n hx hb dX3_restart_41 rfl (lv_at hl 1 rfl) ?_
    refine lv_icmp_ne (tgt := 49) hx hb dX3_restart_42 (by decide) (fun c_42 => ?_) (fun c_42 => ?_)
    · refine lv_iconst (v := 0) hx hb dX3_restart_49 (by decide) ?_
      exact vy_ret (ml_rz tr hx hb hr hlocks hP hK hD hS rfl (by rw [(show sp_restart T (nI j) = (0, 0, ucr T (upd (tcr T) j 0)) from by unfold sp_restart; rw [cif_f (not_not_intro q_1), cif_f (not_not_intro ((crd_n (by omega)).mpr c_12)), ix_n (j := j) (by omega), b2i_f (fun q => c_42 ((own_has (by omega)).mpr q) : ¬ has T (nI j))] <;> rfl)]) ⟨by rw [(show sp_restart T (nI j) = (0, 0, ucr T (upd (tcr T) j 0)) from by unfold sp_restart; rw [cif_f (not_not_intro q_1), cif_f (not_not_intro ((crd_n (by omega)).mpr c_12)), ix_n (j := j) (by omega), b2i_f (fun q => c_42 ((own_has (by omega)).mpr q) : ¬ has T (nI j))] <;> rfl)], by rw [(show sp_restart T (nI j) = (0, 0, ucr T (upd (tcr T) j 0)) from by unfold sp_restart; rw [cif_f (not_not_intro q_1), cif_f (not_not_intro ((crd_n (by omega)).mpr c_12)), ix_n (j := j) (by omega), b2i_f (fun q => c_42 ((own_has (by omega)).mpr q) : ¬ has T (nI j))] <;> rfl)]⟩ dX3_restart_50)
    · refine lv_iconst (v := 1) hx hb dX3_restart_45 (by decide) ?_
      refine lv_goto (tgt := 50) hx hb dX3_restart_46 (by decide) ?_
      exact vy_ret (ml_rz tr hx hb hr hlocks hP hK hD hS rfl (by rw [(show sp_restart T (nI j) = (0, 1, ucr T (upd (tcr T) j 0)) from by unfold sp_restart; rw [cif_f (not_not_intro q_1), cif_f (not_not_intro ((crd_n (by omega)).mpr c_12)), ix_n (j := j) (by omega), b2i_t ((own_has (by omega)).mp c_42 : has T (nI j))] <;> rfl)]) ⟨by rw [(show sp_restart T (nI j) = (0, 1, ucr T (upd (tcr T) j 0)) from by unfold sp_restart; rw [cif_f (not_not_intro q_1), cif_f (not_not_intro ((crd_n (by omega)).mpr c_12)), ix_n (j := j) (by omega), b2i_t ((own_has (by omega)).mp c_42 : has T (nI j))] <;> rfl)], by rw [(show sp_restart T (nI j) = (0, 1, ucr T (upd (tcr T) j 0)) from by unfold sp_restart; rw [cif_f (not_not_intro q_1), cif_f (not_not_intro ((crd_n (by omega)).mpr c_12)), ix_n (j := j) (by omega), b2i_t ((own_has (by omega)).mp c_42 : has T (nI j))] <;> rfl)]⟩ dX3_restart_50)
  · exact ml_thrE tr rfl false hx hb hlt hown rfl (by decide) (text := "the worker has not crashed") (by decide) (hts (.classLink RX3 46 eIS) (by decide +kernel)) (hts (.initialized eIS) (by decide +kernel)) (fun w h => hts w (List.mem_cons_of_mem _ (List.mem_append_left _ (List.mem_append_right _ h)))) th_ng50 th_gd50 hP hK hD hE hS (hl.1.trans hml.symm) dX3_restart_15 dX3_restart_18 dX3_restart_19 dX3_restart_21 dX3_restart_24 hout (Nat.le_of_ble_eq_true rfl) (Nat.le_of_ble_eq_true rfl) (Nat.le_of_ble_eq_true rfl) (Nat.le_of_ble_eq_true rfl) hlocks (Or.inr (⟨rfl, by unfold sp_restart; rw [cif_f (not_not_intro q_1), cif_t (fun q => c_12 ((crd_n (by omega)).mp q))] <;> rfl⟩)) (Nat.le_of_ble_eq_true rfl) (Nat.le_of_ble_eq_true rfl)
set_option maxHeartbeats 4000000 in
set_option maxRecDepth 100000 in
theorem c_X3_pass (l : Launch) (hlt : l.stackTraces = false) (G : va_G) (cy : Nat → ClassId) (a : Nat → Nat) (sz : Nat) (T : TS) (tr : Nat → Int32) (x : Int32) (hI : Inv T) : vy_Met l yX3_pass wsX3_pass ({ frames := 6, cells := 1, slots := 6, locals := 82 } : Room) (ml_PX G cy [.ref (a 0), .int x] (wC a cy T tr) sz) (va_Qi (fun (r : Int32) (u : Nat → Int32) => (sp_pass T x).1 = 0 ∧ (sp_pass T x).2.1 = r) (ml_B G cy (va_A (wC a cy T tr) sz) (fun (u : Nat → Int32) => (wC a cy ((sp_pass T x).2.2) u))) (va_A (wC a cy T tr) sz)) (ml_XE G cy (va_A (wC a cy T tr) sz) (fun tr9 : Nat → Int32 => wC a cy T tr9) (fun E => (E = eIA ∧ sp_pass T x = (1, 0, T)))) 1 6 (va_A (wC a cy T tr) sz) := by
  refine vy_ofW (cc := cX3_pass) (maxL := 2) (ret := (some .int)) (by decide) rfl ?_
  intro p e s m args below meth c s₁ B hml hout hv
  obtain ⟨rfl, hsz, hP, hK, hD0, hN, hE⟩ := hv
  have hx := B.exec
  have hb := B.bytes
  have hr := B.returns
  have hts := atoms_spec (ws := wsX3_pass) B.pre
  have hown : s.vm.findClass RX3 = some m.cls := findClass_of_methodNamed B.named
  have hlocks := B.notSynchronized
  subst hsz
  have hD := hD0.self (sz := s.heap.size)
  generalize hAe : va_A (wC a cy T tr) s.heap.size = A at hD hE ⊢
  have hA : ∀ q : Nat, s.heap.size ≤ q → A q := fun q h => by rw [← hAe]; exact Or.inr h
  have hS : va_S A s.heap s.heap [] := va_S.rf
  have hP : va_P G vwCl (wC a cy T tr) s.heap := hP
  have hin_X3 : ∀ w ∈ wsX30, w ∈ wsX3_pass := by decide +kernel
  have hl := lv_entry ([.ref (a 0), .int x]) (n := 2) (Nat.le_of_ble_eq_true rfl)
  rw [lg_entry_eq]
  generalize (lg_sl ([.ref (a 0), .int x]) ++ List.replicate (2 - (lg_sl ([.ref (a 0), .int x])).length) Slot.unset).toArray = ls at hl ⊢
  have hl : lv_has ls 2 [(0, .ref (a 0)), (1, .int x)] := hl
  have hn12 : tn T ≤ 12 := hI.1.1
  have hlvn : tlv T ≤ tn T := hI.1.2.1
  have hcu : tcu T ≤ 40 := hI.1.2.2
  have hW := hI.w
  refine lv_iload_n hx hb dX3_pass_0 rfl (lv_at hl 1 rfl) ?_
  refine lv_iconst (v := 1) hx hb dX3_pass_1 (by decide) ?_
  refine lv_icmp_lt (tgt := 12) hx hb dX3_pass_2 (by decide) (fun c_2 => ?_) (fun c_2 => ?_)
  · exact ml_thrE tr rfl false hx hb hlt hown rfl (by decide) (text := "1 to 1000 ticks pass") (by decide) (hts (.classLink RX3 122 eIA) (by decide +kernel)) (hts (.initialized eIA) (by decide +kernel)) (fun w h => hts w (List.mem_cons_of_mem _ (List.mem_append_right _ h))) th_ng126 th_gd126 hP hK hD hE hS (hl.1.trans hml.symm) dX3_pass_12 dX3_pass_15 dX3_pass_16 dX3_pass_18 dX3_pass_21 hout (Nat.le_of_ble_eq_true rfl) (Nat.le_of_ble_eq_true rfl) (Nat.le_of_ble_eq_true rfl) (Nat.le_of_ble_eq_true rfl) hlocks (⟨rfl, by unfold sp_pass; rw [cif_t (nR_a c_2)] <;> rfl⟩) (Nat.le_of_ble_eq_true rfl) (Nat.le_of_ble_eq_true rfl)
  · refine lv_iload_n hx hb dX3_pass_5 rfl (lv_at hl 1 rfl) ?_
    refine lv_sipush (v := 1000) hx hb dX3_pass_6 (by decide) ?_
    refine lv_icmp_le (tgt := 22) hx hb dX3_pass_9 (by decide) (fun c_9 => ?_) (fun c_9 => ?_)
    · refine lv_aload_n hx hb dX3_pass_22 rfl (lv_at hl 0 rfl) ?_
      refine va_get (D := G) (ci := 3) (v := .ref (a 3)) (C := RX3) (T := TX3) (N := 7) hx hb hts hin_X3 hown hK hP 0 rfl rfl 2 (by decide) (hts (.fieldLink RX3 26 "Migrationledger" "lock" "LMigrationledger$Lock;") (by decide +kernel)) (fun _ h9 => h9) rfl dX3_pass_23 ?_
      refine lv_iload_n hx hb dX3_pass_26 rfl (lv_at hl 1 rfl) ?_
      refine ml_Vi (G := G) (As := [.int x]) (rest := []) ⟨hx, hb, hml, hown, hts⟩ (c_X1_advance l G cy a s.heap.size T tr x) (cwV 1 hts gX3_pass_X1_advance rfl rfl rfl (by decide +kernel) ⟨Nat.le_of_ble_eq_true rfl, Nat.le_of_ble_eq_true rfl⟩) (va_recv hK hP (ci := 1) (q0 := 3) rfl rfl) hP hK hD hS hN hA rfl hl.1 (Nat.le_of_ble_eq_true rfl) dX3_pass_27 ⟨Nat.le_of_ble_eq_true rfl, Nat.le_of_ble_eq_true rfl⟩ (fun r_27 u_27 H locs hw hP hD hS => ?_)
      obtain rfl : r_27 = ttm T + x := hw
      have hP : va_P G vwCl (wC a cy (utm T (ttm T + x)) tr) H := hP
      have hD : va_D A (wC a cy (utm T (ttm T + x)) tr) := hD
      exact vy_ret (ml_ri tr hx hb hr hlocks hP hK hD hS (by rw [(show sp_pass T x = (0, ttm T + x, utm T (ttm T + x)) from by unfold sp_pass; rw [cif_f (not_not_intro (⟨Int32.not_lt.mp c_2, c_9⟩ : inR x 1 1000))] <;> rfl)]) ⟨by rw [(show sp_pass T x = (0, ttm T + x, utm T (ttm T + x)) from by unfold sp_pass; rw [cif_f (not_not_intro (⟨Int32.not_lt.mp c_2, c_9⟩ : inR x 1 1000))] <;> rfl)], by rw [(show sp_pass T x = (0, ttm T + x, utm T (ttm T + x)) from by unfold sp_pass; rw [cif_f (not_not_intro (⟨Int32.not_lt.mp c_2, c_9⟩ : inR x 1 1000))] <;> rfl)]⟩ dX3_pass_30)
    · exact ml_thrE tr rfl false hx hb hlt hown rfl (by decide) (text := "1 to 1000 ticks pass") (by decide) (hts (.classLink RX3 122 eIA) (by decide +kernel)) (hts (.initialized eIA) (by decide +kernel)) (fun w h => hts w (List.mem_cons_of_mem _ (List.mem_append_right _ h))) th_ng126 th_gd126 hP hK hD hE hS (hl.1.trans hml.symm) dX3_pass_12 dX3_pass_15 dX3_pass_16 dX3_pass_18 dX3_pass_21 hout (Nat.le_of_ble_eq_true rfl) (Nat.le_of_ble_eq_true rfl) (Nat.le_of_ble_eq_true rfl) (Nat.le_of_ble_eq_true rfl) hlocks (⟨rfl, by unfold sp_pass; rw [cif_t (nR_b (Int32.not_le.mp c_9))] <;> rfl⟩) (Nat.le_of_ble_eq_true rfl) (Nat.le_of_ble_eq_true rfl)
set_option maxHeartbeats 4000000 in
set_option maxRecDepth 100000 in
theorem c_X3_begin (l : Launch) (hlt : l.stackTraces = false) (G : va_G) (cy : Nat → ClassId) (a : Nat → Nat) (sz : Nat) (T : TS) (tr : Nat → Int32) (x : Int32) (hI : Inv T) : vy_Met l yX3_begin wsX3_begin ({ frames := 8, cells := 1, slots := 6, locals := 124 } : Room) (ml_PX G cy [.ref (a 0), .int x] (wC a cy T tr) sz) (va_Qi (fun (r : Int32) (u : Nat → Int32) => (sp_begin T x).1 = 0 ∧ (sp_begin T x).2.1 = r) (ml_B G cy (va_A (wC a cy T tr) sz) (fun (u : Nat → Int32) => (wC a cy ((sp_begin T x).2.2) u))) (va_A (wC a cy T tr) sz)) (ml_XE G cy (va_A (wC a cy T tr) sz) (fun tr9 : Nat → Int32 => wC a cy T tr9) (fun E => (E = eIA ∧ sp_begin T x = (1, 0, T)) ∨ (E = eIS ∧ sp_begin T x = (2, 0, T)))) 1 6 (va_A (wC a cy T tr) sz) := by
  refine vy_ofW (cc := cX3_begin) (maxL := 2) (ret := (some .int)) (by decide) rfl ?_
  intro p e s m args below meth c s₁ B hml hout hv
  obtain ⟨rfl, hsz, hP, hK, hD0, hN, hE⟩ := hv
  have hx := B.exec
  have hb := B.bytes
  have hr := B.returns
  have hts := atoms_spec (ws := wsX3_begin) B.pre
  have hown : s.vm.findClass RX3 = some m.cls := findClass_of_methodNamed B.named
  have hlocks := B.notSynchronized
  subst hsz
  have hD := hD0.self (sz := s.heap.size)
  generalize hAe : va_A (wC a cy T tr) s.heap.size = A at hD hE ⊢
  have hA : ∀ q : Nat, s.heap.size ≤ q → A q := fun q h => by rw [← hAe]; exact Or.inr h
  have hS : va_S A s.heap s.heap [] := va_S.rf
  have hP : va_P G vwCl (wC a cy T tr) s.heap := hP
  have hin_X3 : ∀ w ∈ wsX30, w ∈ wsX3_begin := by decide +kernel
  have hl := lv_entry ([.ref (a 0), .int x]) (n := 2) (Nat.le_of_ble_eq_true rfl)
  rw [lg_entry_eq]
  generalize (lg_sl ([.ref (a 0), .int x]) ++ List.replicate (2 - (lg_sl ([.ref (a 0), .int x])).length) Slot.unset).toArray = ls at hl ⊢
  have hl : lv_has ls 2 [(0, .ref (a 0)), (1, .int x)] := hl
  have hn12 : tn T ≤ 12 := hI.1.1
  have hlvn : tlv T ≤ tn T := hI.1.2.1
  have hcu : tcu T ≤ 40 := hI.1.2.2
  have hW := hI.w
  refine lv_iload_n hx hb dX3_begin_0 rfl (lv_at hl 1 rfl) ?_
  refine ml_xSv (G := G) (As := [.int x]) (rest := []) ⟨hx, hb, hml, hown, hts⟩ (c_X3_requireWorker l hlt G cy a s.heap.size T tr x) (va_cwS 1 hts gX3_begin_X3_requireWorker rfl rfl rfl (by decide +kernel) ⟨Nat.le_of_ble_eq_true rfl, Nat.le_of_ble_eq_true rfl⟩) hP hK hD hS hN hA hE rfl hl.1 (Nat.le_of_ble_eq_true rfl) dX3_begin_1 ⟨Nat.le_of_ble_eq_true rfl, Nat.le_of_ble_eq_true rfl⟩ (fun E ce q9 H1 locs1 hz9 hp hP hD hS9 hcell hv hcl => ml_outE tr rfl hout hlocks (Nat.lt_of_le_of_lt hS.1 hz9) (Or.inl (⟨hp.1, by unfold sp_begin; rw [cif_t hp.2] <;> rfl⟩)) hP hK hD hS9 hcell hv hcl (Nat.le_of_ble_eq_true rfl) (Nat.le_of_ble_eq_true rfl)) (fun u_1 H locs hw hP hD hS => ?_)
  have q_1 := hw
  have hP : va_P G vwCl (wC a cy T tr) H := hP
  have hD : va_D A (wC a cy T tr) := hD
  obtain ⟨j, hj, rfl⟩ := inR_n 3 (by decide) q_1
  refine lv_aload_n hx hb dX3_begin_4 rfl (lv_at hl 0 rfl) ?_
  refine lv_iload_n hx hb dX3_begin_5 rfl (lv_at hl 1 rfl) ?_
  refine ml_xVv (G := G) (As := [.int (nI j)]) (rest := []) ⟨hx, hb, hml, hown, hts⟩ (c_X3_requireAtWork l hlt G cy a H.size T tr j (by omega) (hI.2.2.2.2.1 j (by omega))) (cwV 1 hts gX3_begin_X3_requireAtWork rfl rfl rfl (by decide +kernel) ⟨Nat.le_of_ble_eq_true rfl, Nat.le_of_ble_eq_true rfl⟩) (va_recv hK hP (ci := 3) (q0 := 0) rfl rfl) hP hK hD hS hN hA hE rfl hl.1 (Nat.le_of_ble_eq_true rfl) dX3_begin_6 ⟨Nat.le_of_ble_eq_true rfl, Nat.le_of_ble_eq_true rfl⟩ (fun E ce q9 H1 locs1 hz9 hp hP hD hS9 hcell hv hcl => ml_outE tr rfl hout hlocks (Nat.lt_of_le_of_lt hS.1 hz9) (Or.inr (⟨hp.1, by unfold sp_begin; rw [cif_f (not_not_intro q_1), cif_t (Or.inl (atw_f (by omega) hp.2) : (crd T (nI j) ∨ ¬ has T (nI j)) ∨ tac T ≠ 0 ∨ fdr T ≠ 0 ∨ tlv T = tn T)] <;> rfl⟩)) hP hK hD hS9 hcell hv hcl (Nat.le_of_ble_eq_true rfl) (Nat.le_of_ble_eq_true rfl)) (fun u_6 H locs hw hP hD hS => ?_)
  have q_6 := hw
  have hP : va_P G vwCl (wC a cy T tr) H := hP
  have hD : va_D A (wC a cy T tr) := hD
  refine lv_aload_n hx hb dX3_begin_9 rfl (lv_at hl 0 rfl) ?_
  refine ml_Vi (G := G) (As := []) (rest := []) ⟨hx, hb, hml, hown, hts⟩ (c_X3_isActive l G cy a H.size T tr) (cwV 0 hts gX3_begin_X3_isActive rfl rfl rfl (by decide +kernel) ⟨Nat.le_of_ble_eq_true rfl, Nat.le_of_ble_eq_true rfl⟩) (va_recv hK hP (ci := 3) (q0 := 0) rfl rfl) hP hK hD hS hN hA rfl hl.1 (Nat.le_of_ble_eq_true rfl) dX3_begin_10 ⟨Nat.le_of_ble_eq_true rfl, Nat.le_of_ble_eq_true rfl⟩ (fun r_10 u_10 H locs hw hP hD hS => ?_)
  obtain rfl : r_10 = b2i (tac T ≠ 0) := hw
  have hP : va_P G vwCl (wC a cy T tr) H := hP
  have hD : va_D A (wC a cy T tr) := hD
  refine ml_ifeqb (tgt := 26) hx hb dX3_begin_13 (by decide) (fun c_13 => ?_) (fun c_13 => ?_)
  · refine lv_aload_n hx hb dX3_begin_26 rfl (lv_at hl 0 rfl) ?_
    refine va_get (D := G) (ci := 3) (v := .ref (a 1)) (C := RX3) (T := TX3) (N := 7) hx hb hts hin_X3 hown hK hP 0 rfl rfl 0 (by decide) (hts (.fieldLink RX3 10 "Migrationledger" "list" "LMigrationledger$ChangeList;") (by decide +kernel)) (fun _ h9 => h9) rfl dX3_begin_27 ?_
    refine lv_aload_n hx hb dX3_begin_30 rfl (lv_at hl 0 rfl) ?_
    refine va_get (D := G) (ci := 3) (v := .int (nI (tlv T))) (C := RX3) (T := TX3) (N := 7) hx hb hts hin_X3 hown hK hP 0 rfl rfl 4 (by decide) (hts (.fieldLink RX3 81 "Migrationledger" "done" "I") (by decide +kernel)) (fun _ h9 => h9) rfl dX3_begin_31 ?_
    refine ml_Vi (G := G) (As := [.int (nI (tlv T))]) (rest := []) ⟨hx, hb, hml, hown, hts⟩ (c_X0_firstDrifted l G cy a H.size T tr (tlv T) (by omega)) (cwV 1 hts gX3_begin_X0_firstDrifted rfl rfl rfl (by decide +kernel) ⟨Nat.le_of_ble_eq_true rfl, Nat.le_of_ble_eq_true rfl⟩) (va_recv hK hP (ci := 0) (q0 := 1) rfl rfl) hP hK hD hS hN hA rfl hl.1 (Nat.le_of_ble_eq_true rfl) dX3_begin_34 ⟨Nat.le_of_ble_eq_true rfl, Nat.le_of_ble_eq_true rfl⟩ (fun r_34 u_34 H locs hw hP hD hS => ?_)
    obtain rfl : r_34 = fdU T (tlv T) 0 := hw
    have hP : va_P G vwCl (wC a cy T tr) H := hP
    have hD : va_D A (wC a cy T tr) := hD
    refine lv_if_eq (tgt := 50) hx hb dX3_begin_37 (by decide) (fun c_37 => ?_) (fun c_37 => ?_)
    · refine lv_aload_n hx hb dX3_begin_50 rfl (lv_at hl 0 rfl) ?_
      refine va_get (D := G) (ci := 3) (v := .int (nI (tlv T))) (C := RX3) (T := TX3) (N := 7) hx hb hts hin_X3 hown hK hP 0 rfl rfl 4 (by decide) (hts (.fieldLink RX3 81 "Migrationledger" "done" "I") (by decide +kernel)) (fun _ h9 => h9) rfl dX3_begin_51 ?_
      refine lv_aload_n hx hb dX3_begin_54 rfl (lv_at hl 0 rfl) ?_
      refine va_get (D := G) (ci := 3) (v := .ref (a 1)) (C := RX3) (T := TX3) (N := 7) hx hb hts hin_X3 hown hK hP 0 rfl rfl 0 (by decide) (hts (.fieldLink RX3 10 "Migrationledger" "list" "LMigrationledger$ChangeList;") (by decide +kernel)) (fun _ h9 => h9) rfl dX3_begin_55 ?_
      refine ml_Vi (G := G) (As := []) (rest := [.int (nI (tlv T))]) ⟨hx, hb, hml, hown, hts⟩ (c_X0_count l G cy a H.size T tr) (cwV 0 hts gX3_begin_X0_count rfl rfl rfl (by decide +kernel) ⟨Nat.le_of_ble_eq_true rfl, Nat.le_of_ble_eq_true rfl⟩) (va_recv hK hP (ci := 0) (q0 := 1) rfl rfl) hP hK hD hS hN hA rfl hl.1 (Nat.le_of_ble_eq_true rfl) dX3_begin_58 ⟨Nat.le_of_ble_eq_true rfl, Nat.le_of_ble_eq_true rfl⟩ (fun r_58 u_58 H locs hw hP hD hS => ?_)
      obtain rfl : r_58 = nI (tn T) := hw
      have hP : va_P G vwCl (wC a cy T tr) H := hP
      have hD : va_D A (wC a cy T tr) := hD
      refine lv_icmp_lt (tgt := 74) hx hb dX3_begin_61 (by decide) (fun c_61 => ?_) (fun c_61 => ?_)
      · have hlt : tlv T < tn T := (nI_ltI (by omega) (by omega)).mp c_61
        refine lv_aload_n hx hb dX3_begin_74 rfl (lv_at hl 0 rfl) ?_
        refine lv_iconst (v := 1) hx hb dX3_begin_75 (by decide) ?_
        refine va_put (D := G) (ci := 3) (v := .int 1) (ty := .int) (C := RX3) (T := TX3) (N := 7) hx hb hts hin_X3 tyX3 tyX3_ok nmX3 hown hK hP hD hS 0 rfl rfl 5 (by decide) (hts (.fieldLink RX3 34 "Migrationledger" "phase" "I") (by decide +kernel)) (fun _ h9 => h9) rfl (by decide +kernel) rfl rfl (Nat.le_of_ble_eq_true rfl) dX3_begin_76 (fun H locs hP hD hS => ?_)
        have hP : va_P G vwCl (wC a cy (uac T 1) tr) H := hP
        have hD : va_D A (wC a cy (uac T 1) tr) := hD
        refine lv_aload_n hx hb dX3_begin_79 rfl (lv_at hl 0 rfl) ?_
        refine lv_iconst (v := 0) hx hb dX3_begin_80 (by decide) ?_
        refine ml_eqi (nI 0) (by decide) ?_
        refine va_put (D := G) (ci := 3) (v := .int (nI 0)) (ty := .int) (C := RX3) (T := TX3) (N := 7) hx hb hts hin_X3 tyX3 tyX3_ok nmX3 hown hK hP hD hS 0 rfl rfl 6 (by decide) (hts (.fieldLink RX3 184 "Migrationledger" "position" "I") (by decide +kernel)) (fun _ h9 => h9) rfl (by decide +kernel) rfl rfl (Nat.le_of_ble_eq_true rfl) dX3_begin_81 (fun H locs hP hD hS => ?_)
        have hP : va_P G vwCl (wC a cy (ucu (uac T 1) 0) tr) H := hP
        have hD : va_D A (wC a cy (ucu (uac T 1) 0) tr) := hD
        refine lv_aload_n hx hb dX3_begin_84 rfl (lv_at hl 0 rfl) ?_
        refine va_get (D := G) (ci := 3) (v := .ref (a 1)) (C := RX3) (T := TX3) (N := 7) hx hb hts hin_X3 hown hK hP 0 rfl rfl 0 (by decide) (hts (.fieldLink RX3 10 "Migrationledger" "list" "LMigrationledger$ChangeList;") (by decide +kernel)) (fun _ h9 => h9) rfl dX3_begin_85 ?_
        refine lv_aload_n hx hb dX3_begin_88 rfl (lv_at hl 0 rfl) ?_
        refine ml_Vi (G := G) (As := []) (rest := [.ref (a 1)]) ⟨hx, hb, hml, hown, hts⟩ (c_X3_activeNumber l G cy a H.size (ucu (uac T 1) 0) tr) (cwV 0 hts gX3_begin_X3_activeNumber rfl rfl rfl (by decide +kernel) ⟨Nat.le_of_ble_eq_true rfl, Nat.le_of_ble_eq_true rfl⟩) (va_recv hK hP (ci := 3) (q0 := 0) rfl rfl) hP hK hD hS hN hA rfl hl.1 (Nat.le_of_ble_eq_true rfl) dX3_begin_89 ⟨Nat.le_of_ble_eq_true rfl, Nat.le_of_ble_eq_true rfl⟩ (fun r_89 u_89 H locs hw hP hD hS => ?_)
        obtain rfl : r_89 = nI (tlv T + 1) := hw
        have hP : va_P G vwCl (wC a cy (ucu (uac T 1) 0) tr) H := hP
        have hD : va_D A (wC a cy (ucu (uac T 1) 0) tr) := hD
        refine ml_Vv (G := G) (As := [.int (nI (tlv T + 1))]) (rest := []) ⟨hx, hb, hml, hown, hts⟩ (c_X0_recordChecksum l G cy a H.size (ucu (uac T 1) 0) tr (tlv T) (by omega)) (cwV 1 hts gX3_begin_X0_recordChecksum rfl rfl rfl (by decide +kernel) ⟨Nat.le_of_ble_eq_true rfl, Nat.le_of_ble_eq_true rfl⟩) (va_recv hK hP (ci := 0) (q0 := 1) rfl rfl) hP hK hD hS hN hA rfl hl.1 (Nat.le_of_ble_eq_true rfl) dX3_begin_92 ⟨Nat.le_of_ble_eq_true rfl, Nat.le_of_ble_eq_true rfl⟩ (fun u_92 H locs hw hP hD hS => ?_)
        have hP : va_P G vwCl (wC a cy (uR (ucu (uac T 1) 0) (upd (tR (ucu (uac T 1) 0)) (tlv T + 1) (sumOf (ucu (uac T 1) 0) (tlv T + 1)))) tr) H := hP
        have hD : va_D A (wC a cy (uR (ucu (uac T 1) 0) (upd (tR (ucu (uac T 1) 0)) (tlv T + 1) (sumOf (ucu (uac T 1) 0) (tlv T + 1)))) tr) := hD
        refine lv_aload_n hx hb dX3_begin_95 rfl (lv_at hl 0 rfl) ?_
        refine ml_Vi (G := G) (As := []) (rest := []) ⟨hx, hb, hml, hown, hts⟩ (c_X3_activeNumber l G cy a H.size (uR (ucu (uac T 1) 0) (upd (tR (ucu (uac T 1) 0)) (tlv T + 1) (sumOf (ucu (uac T 1) 0) (tlv T + 1)))) tr) (cwV 0 hts gX3_begin_X3_activeNumber rfl rfl rfl (by decide +kernel) ⟨Nat.le_of_ble_eq_true rfl, Nat.le_of_ble_eq_true rfl⟩) (va_recv hK hP (ci := 3) (q0 := 0) rfl rfl) hP hK hD hS hN hA rfl hl.1 (Nat.le_of_ble_eq_true rfl) dX3_begin_96 ⟨Nat.le_of_ble_eq_true rfl, Nat.le_of_ble_eq_true rfl⟩ (fun r_96 u_96 H locs hw hP hD hS => ?_)
        obtain rfl : r_96 = nI (tlv (uR (ucu (uac T 1) 0) (upd (tR (ucu (uac T 1) 0)) (tlv T + 1) (sumOf (ucu (uac T 1) 0) (tlv T + 1)))) + 1) := hw
        have hP : va_P G vwCl (wC a cy (uR (ucu (uac T 1) 0) (upd (tR (ucu (uac T 1) 0)) (tlv T + 1) (sumOf (ucu (uac T 1) 0) (tlv T + 1)))) tr) H := hP
        have hD : va_D A (wC a cy (uR (ucu (uac T 1) 0) (upd (tR (ucu (uac T 1) 0)) (tlv T + 1) (sumOf (ucu (uac T 1) 0) (tlv T + 1)))) tr) := hD
        exact vy_ret (ml_ri tr hx hb hr hlocks hP hK hD hS (by rw [(show sp_begin T (nI j) = (0, nI (tlv (uR (ucu (uac T 1) 0) (upd (tR (ucu (uac T 1) 0)) (tlv T + 1) (sumOf (ucu (uac T 1) 0) (tlv T + 1)))) + 1), uR (ucu (uac T 1) 0) (upd (tR (ucu (uac T 1) 0)) (tlv T + 1) (sumOf (ucu (uac T 1) 0) (tlv T + 1)))) from by unfold sp_begin; rw [cif_f (not_not_intro q_1), cif_f (fun q => q.elim (atw_t (by omega) q_6) (fun q => q.elim c_13 (fun q => q.elim (fun z => z c_37) (fun z => absurd z (Nat.ne_of_lt hlt)))) : ¬ ((crd T (nI j) ∨ ¬ has T (nI j)) ∨ tac T ≠ 0 ∨ fdr T ≠ 0 ∨ tlv T = tn T))] <;> rfl)]) ⟨by rw [(show sp_begin T (nI j) = (0, nI (tlv (uR (ucu (uac T 1) 0) (upd (tR (ucu (uac T 1) 0)) (tlv T + 1) (sumOf (ucu (uac T 1) 0) (tlv T + 1)))) + 1), uR (ucu (uac T 1) 0) (upd (tR (ucu (uac T 1) 0)) (tlv T + 1) (sumOf (ucu (uac T 1) 0) (tlv T + 1)))) from by unfold sp_begin; rw [cif_f (not_not_intro q_1), cif_f (fun q => q.elim (atw_t (by omega) q_6) (fun q => q.elim c_13 (fun q => q.elim (fun z => z c_37) (fun z => absurd z (Nat.ne_of_lt hlt)))) : ¬ ((crd T (nI j) ∨ ¬ has T (nI j)) ∨ tac T ≠ 0 ∨ fdr T ≠ 0 ∨ tlv T = tn T))] <;> rfl)], by rw [(show sp_begin T (nI j) = (0, nI (tlv (uR (ucu (uac T 1) 0) (upd (tR (ucu (uac T 1) 0)) (tlv T + 1) (sumOf (ucu (uac T 1) 0) (tlv T + 1)))) + 1), uR (ucu (uac T 1) 0) (upd (tR (ucu (uac T 1) 0)) (tlv T + 1) (sumOf (ucu (uac T 1) 0) (tlv T + 1)))) from by unfold sp_begin; rw [cif_f (not_not_intro q_1), cif_f (fun q => q.elim (atw_t (by omega) q_6) (fun q => q.elim c_13 (fun q => q.elim (fun z => z c_37) (fun z => absurd z (Nat.ne_of_lt hlt)))) : ¬ ((crd T (nI j) ∨ ¬ has T (nI j)) ∨ tac T ≠ 0 ∨ fdr T ≠ 0 ∨ tlv T = tn T))] <;> rfl)]⟩ dX3_begin_99)
      · exact ml_thrE tr rfl false hx hb hlt hown rfl (by decide) (text := "no change is pending") (by decide) (hts (.classLink RX3 46 eIS) (by decide +kernel)) (hts (.initialized eIS) (by decide +kernel)) (fun w h => hts w (List.mem_cons_of_mem _ (List.mem_append_left _ (List.mem_append_right _ h)))) th_ng50 th_gd50 hP hK hD hE hS (hl.1.trans hml.symm) dX3_begin_64 dX3_begin_67 dX3_begin_68 dX3_begin_70 dX3_begin_73 hout (Nat.le_of_ble_eq_true rfl) (Nat.le_of_ble_eq_true rfl) (Nat.le_of_ble_eq_true rfl) (Nat.le_of_ble_eq_true rfl) hlocks (Or.inr (⟨rfl, by unfold sp_begin; rw [cif_f (not_not_intro q_1), cif_t (Or.inr (Or.inr (Or.inr (Nat.le_antisymm hlvn (Nat.le_of_not_lt fun z => c_61 ((nI_ltI (by omega) (by omega)).mpr z))))) : (crd T (nI j) ∨ ¬ has T (nI j)) ∨ tac T ≠ 0 ∨ fdr T ≠ 0 ∨ tlv T = tn T)] <;> rfl⟩)) (Nat.le_of_ble_eq_true rfl) (Nat.le_of_ble_eq_true rfl)
    · exact ml_thrE tr rfl false hx hb hlt hown rfl (by decide) (text := "a done change has drifted") (by decide) (hts (.classLink RX3 46 eIS) (by decide +kernel)) (hts (.initialized eIS) (by decide +kernel)) (fun w h => hts w (List.mem_cons_of_mem _ (List.mem_append_left _ (List.mem_append_right _ h)))) th_ng50 th_gd50 hP hK hD hE hS (hl.1.trans hml.symm) dX3_begin_40 dX3_begin_43 dX3_begin_44 dX3_begin_46 dX3_begin_49 hout (Nat.le_of_ble_eq_true rfl) (Nat.le_of_ble_eq_true rfl) (Nat.le_of_ble_eq_true rfl) (Nat.le_of_ble_eq_true rfl) hlocks (Or.inr (⟨rfl, by unfold sp_begin; rw [cif_f (not_not_intro q_1), cif_t (Or.inr (Or.inr (Or.inl c_37)) : (crd T (nI j) ∨ ¬ has T (nI j)) ∨ tac T ≠ 0 ∨ fdr T ≠ 0 ∨ tlv T = tn T)] <;> rfl⟩)) (Nat.le_of_ble_eq_true rfl) (Nat.le_of_ble_eq_true rfl)
  · exact ml_thrE tr rfl false hx hb hlt hown rfl (by decide) (text := "a change is running or being undone") (by decide) (hts (.classLink RX3 46 eIS) (by decide +kernel)) (hts (.initialized eIS) (by decide +kernel)) (fun w h => hts w (List.mem_cons_of_mem _ (List.mem_append_left _ (List.mem_append_right _ h)))) th_ng50 th_gd50 hP hK hD hE hS (hl.1.trans hml.symm) dX3_begin_16 dX3_begin_19 dX3_begin_20 dX3_begin_22 dX3_begin_25 hout (Nat.le_of_ble_eq_true rfl) (Nat.le_of_ble_eq_true rfl) (Nat.le_of_ble_eq_true rfl) (Nat.le_of_ble_eq_true rfl) hlocks (Or.inr (⟨rfl, by unfold sp_begin; rw [cif_f (not_not_intro q_1), cif_t (Or.inr (Or.inl c_13) : (crd T (nI j) ∨ ¬ has T (nI j)) ∨ tac T ≠ 0 ∨ fdr T ≠ 0 ∨ tlv T = tn T)] <;> rfl⟩)) (Nat.le_of_ble_eq_true rfl) (Nat.le_of_ble_eq_true rfl)
set_option maxHeartbeats 4000000 in
set_option maxRecDepth 100000 in
theorem c_X3_undo (l : Launch) (hlt : l.stackTraces = false) (G : va_G) (cy : Nat → ClassId) (a : Nat → Nat) (sz : Nat) (T : TS) (tr : Nat → Int32) (x : Int32) (hI : Inv T) : vy_Met l yX3_undo wsX3_undo ({ frames := 8, cells := 1, slots := 6, locals := 124 } : Room) (ml_PX G cy [.ref (a 0), .int x] (wC a cy T tr) sz) (va_Qi (fun (r : Int32) (u : Nat → Int32) => (sp_undo T x).1 = 0 ∧ (sp_undo T x).2.1 = r) (ml_B G cy (va_A (wC a cy T tr) sz) (fun (u : Nat → Int32) => (wC a cy ((sp_undo T x).2.2) u))) (va_A (wC a cy T tr) sz)) (ml_XE G cy (va_A (wC a cy T tr) sz) (fun tr9 : Nat → Int32 => wC a cy T tr9) (fun E => (E = eIA ∧ sp_undo T x = (1, 0, T)) ∨ (E = eIS ∧ sp_undo T x = (2, 0, T)))) 1 6 (va_A (wC a cy T tr) sz) := by
  refine vy_ofW (cc := cX3_undo) (maxL := 2) (ret := (some .int)) (by decide) rfl ?_
  intro p e s m args below meth c s₁ B hml hout hv
  obtain ⟨rfl, hsz, hP, hK, hD0, hN, hE⟩ := hv
  have hx := B.exec
  have hb := B.bytes
  have hr := B.returns
  have hts := atoms_spec (ws := wsX3_undo) B.pre
  have hown : s.vm.findClass RX3 = some m.cls := findClass_of_methodNamed B.named
  have hlocks := B.notSynchronized
  subst hsz
  have hD := hD0.self (sz := s.heap.size)
  generalize hAe : va_A (wC a cy T tr) s.heap.size = A at hD hE ⊢
  have hA : ∀ q : Nat, s.heap.size ≤ q → A q := fun q h => by rw [← hAe]; exact Or.inr h
  have hS : va_S A s.heap s.heap [] := va_S.rf
  have hP : va_P G vwCl (wC a cy T tr) s.heap := hP
  have hin_X3 : ∀ w ∈ wsX30, w ∈ wsX3_undo := by decide +kernel
  have hl := lv_entry ([.ref (a 0), .int x]) (n := 2) (Nat.le_of_ble_eq_true rfl)
  rw [lg_entry_eq]
  generalize (lg_sl ([.ref (a 0), .int x]) ++ List.replicate (2 - (lg_sl ([.ref (a 0), .int x])).length) Slot.unset).toArray = ls at hl ⊢
  have hl : lv_has ls 2 [(0, .ref (a 0)), (1, .int x)] := hl
  have hn12 : tn T ≤ 12 := hI.1.1
  have hlvn : tlv T ≤ tn T := hI.1.2.1
  have hcu : tcu T ≤ 40 := hI.1.2.2
  have hW := hI.w
  refine lv_iload_n hx hb dX3_undo_0 rfl (lv_at hl 1 rfl) ?_
  refine ml_xSv (G := G) (As := [.int x]) (rest := []) ⟨hx, hb, hml, hown, hts⟩ (c_X3_requireWorker l hlt G cy a s.heap.size T tr x) (va_cwS 1 hts gX3_undo_X3_requireWorker rfl rfl rfl (by decide +kernel) ⟨Nat.le_of_ble_eq_true rfl, Nat.le_of_ble_eq_true rfl⟩) hP hK hD hS hN hA hE rfl hl.1 (Nat.le_of_ble_eq_true rfl) dX3_undo_1 ⟨Nat.le_of_ble_eq_true rfl, Nat.le_of_ble_eq_true rfl⟩ (fun E ce q9 H1 locs1 hz9 hp hP hD hS9 hcell hv hcl => ml_outE tr rfl hout hlocks (Nat.lt_of_le_of_lt hS.1 hz9) (Or.inl (⟨hp.1, by unfold sp_undo; rw [cif_t hp.2] <;> rfl⟩)) hP hK hD hS9 hcell hv hcl (Nat.le_of_ble_eq_true rfl) (Nat.le_of_ble_eq_true rfl)) (fun u_1 H locs hw hP hD hS => ?_)
  have q_1 := hw
  have hP : va_P G vwCl (wC a cy T tr) H := hP
  have hD : va_D A (wC a cy T tr) := hD
  obtain ⟨j, hj, rfl⟩ := inR_n 3 (by decide) q_1
  refine lv_aload_n hx hb dX3_undo_4 rfl (lv_at hl 0 rfl) ?_
  refine lv_iload_n hx hb dX3_undo_5 rfl (lv_at hl 1 rfl) ?_
  refine ml_xVv (G := G) (As := [.int (nI j)]) (rest := []) ⟨hx, hb, hml, hown, hts⟩ (c_X3_requireAtWork l hlt G cy a H.size T tr j (by omega) (hI.2.2.2.2.1 j (by omega))) (cwV 1 hts gX3_undo_X3_requireAtWork rfl rfl rfl (by decide +kernel) ⟨Nat.le_of_ble_eq_true rfl, Nat.le_of_ble_eq_true rfl⟩) (va_recv hK hP (ci := 3) (q0 := 0) rfl rfl) hP hK hD hS hN hA hE rfl hl.1 (Nat.le_of_ble_eq_true rfl) dX3_undo_6 ⟨Nat.le_of_ble_eq_true rfl, Nat.le_of_ble_eq_true rfl⟩ (fun E ce q9 H1 locs1 hz9 hp hP hD hS9 hcell hv hcl => ml_outE tr rfl hout hlocks (Nat.lt_of_le_of_lt hS.1 hz9) (Or.inr (⟨hp.1, by unfold sp_undo; rw [cif_f (not_not_intro q_1), cif_t (Or.inl (atw_f (by omega) hp.2) : ((crd T (nI j) ∨ ¬ has T (nI j)) ∨ tac T = 3 ∨ (tac T = 0 ∧ (tlv T = 0 ∨ drf T (tlv T)))))] <;> rfl⟩)) hP hK hD hS9 hcell hv hcl (Nat.le_of_ble_eq_true rfl) (Nat.le_of_ble_eq_true rfl)) (fun u_6 H locs hw hP hD hS => ?_)
  have q_6 := hw
  have hP : va_P G vwCl (wC a cy T tr) H := hP
  have hD : va_D A (wC a cy T tr) := hD
  refine lv_aload_n hx hb dX3_undo_9 rfl (lv_at hl 0 rfl) ?_
  refine va_get (D := G) (ci := 3) (v := .int (tac T)) (C := RX3) (T := TX3) (N := 7) hx hb hts hin_X3 hown hK hP 0 rfl rfl 5 (by decide) (hts (.fieldLink RX3 34 "Migrationledger" "phase" "I") (by decide +kernel)) (fun _ h9 => h9) rfl dX3_undo_10 ?_
  refine lv_iconst (v := 3) hx hb dX3_undo_13 (by decide) ?_
  refine lv_icmp_ne (tgt := 27) hx hb dX3_undo_14 (by decide) (fun c_14 => ?_) (fun c_14 => ?_)
  · refine lv_aload_n hx hb dX3_undo_27 rfl (lv_at hl 0 rfl) ?_
    refine va_get (D := G) (ci := 3) (v := .int (tac T)) (C := RX3) (T := TX3) (N := 7) hx hb hts hin_X3 hown hK hP 0 rfl rfl 5 (by decide) (hts (.fieldLink RX3 34 "Migrationledger" "phase" "I") (by decide +kernel)) (fun _ h9 => h9) rfl dX3_undo_28 ?_
    refine lv_iconst (v := 1) hx hb dX3_undo_31 (by decide) ?_
    refine lv_icmp_eq (tgt := 49) hx hb dX3_undo_32 (by decide) (fun c_32 => ?_) (fun c_32 => ?_)
    · refine lv_aload_n hx hb dX3_undo_49 rfl (lv_at hl 0 rfl) ?_
      refine lv_iconst (v := 3) hx hb dX3_undo_50 (by decide) ?_
      refine va_put (D := G) (ci := 3) (v := .int 3) (ty := .int) (C := RX3) (T := TX3) (N := 7) hx hb hts hin_X3 tyX3 tyX3_ok nmX3 hown hK hP hD hS 0 rfl rfl 5 (by decide) (hts (.fieldLink RX3 34 "Migrationledger" "phase" "I") (by decide +kernel)) (fun _ h9 => h9) rfl (by decide +kernel) rfl rfl (Nat.le_of_ble_eq_true rfl) dX3_undo_51 (fun H locs hP hD hS => ?_)
      have hP : va_P G vwCl (wC a cy (uac T 3) tr) H := hP
      have hD : va_D A (wC a cy (uac T 3) tr) := hD
      refine lv_aload_n hx hb dX3_undo_54 rfl (lv_at hl 0 rfl) ?_
      refine lv_bipush (v := 40) hx hb dX3_undo_55 (by decide) ?_
      refine ml_eqi (nI 40) (by decide) ?_
      refine va_put (D := G) (ci := 3) (v := .int (nI 40)) (ty := .int) (C := RX3) (T := TX3) (N := 7) hx hb hts hin_X3 tyX3 tyX3_ok nmX3 hown hK hP hD hS 0 rfl rfl 6 (by decide) (hts (.fieldLink RX3 184 "Migrationledger" "position" "I") (by decide +kernel)) (fun _ h9 => h9) rfl (by decide +kernel) rfl rfl (Nat.le_of_ble_eq_true rfl) dX3_undo_57 (fun H locs hP hD hS => ?_)
      have hP : va_P G vwCl (wC a cy (ucu (uac T 3) 40) tr) H := hP
      have hD : va_D A (wC a cy (ucu (uac T 3) 40) tr) := hD
      refine lv_aload_n hx hb dX3_undo_60 rfl (lv_at hl 0 rfl) ?_
      refine ml_Vi (G := G) (As := []) (rest := []) ⟨hx, hb, hml, hown, hts⟩ (c_X3_activeNumber l G cy a H.size (ucu (uac T 3) 40) tr) (cwV 0 hts gX3_undo_X3_activeNumber rfl rfl rfl (by decide +kernel) ⟨Nat.le_of_ble_eq_true rfl, Nat.le_of_ble_eq_true rfl⟩) (va_recv hK hP (ci := 3) (q0 := 0) rfl rfl) hP hK hD hS hN hA rfl hl.1 (Nat.le_of_ble_eq_true rfl) dX3_undo_61 ⟨Nat.le_of_ble_eq_true rfl, Nat.le_of_ble_eq_true rfl⟩ (fun r_61 u_61 H locs hw hP hD hS => ?_)
      obtain rfl : r_61 = nI (tlv T + 1) := hw
      have hP : va_P G vwCl (wC a cy (ucu (uac T 3) 40) tr) H := hP
      have hD : va_D A (wC a cy (ucu (uac T 3) 40) tr) := hD
      exact vy_ret (ml_ri tr hx hb hr hlocks hP hK hD hS (by rw [(show sp_undo T (nI j) = (0, nI (tlv T + 1), ucu (uac T 3) 40) from by unfold sp_undo; rw [cif_f (not_not_intro q_1), cif_f (fun q => q.elim (atw_t (by omega) q_6) (fun q => q.elim c_14 (fun z => absurd (c_32.symm.trans z.1) (by decide))) : ¬ ((crd T (nI j) ∨ ¬ has T (nI j)) ∨ tac T = 3 ∨ (tac T = 0 ∧ (tlv T = 0 ∨ drf T (tlv T))))), show lvU T = tlv T from cif_f (fun z => absurd (c_32.symm.trans z) (by decide))] <;> rfl)]) ⟨by rw [(show sp_undo T (nI j) = (0, nI (tlv T + 1), ucu (uac T 3) 40) from by unfold sp_undo; rw [cif_f (not_not_intro q_1), cif_f (fun q => q.elim (atw_t (by omega) q_6) (fun q => q.elim c_14 (fun z => absurd (c_32.symm.trans z.1) (by decide))) : ¬ ((crd T (nI j) ∨ ¬ has T (nI j)) ∨ tac T = 3 ∨ (tac T = 0 ∧ (tlv T = 0 ∨ drf T (tlv T))))), show lvU T = tlv T from cif_f (fun z => absurd (c_32.symm.trans z) (by decide))] <;> rfl)], by rw [(show sp_undo T (nI j) = (0, nI (tlv T + 1), ucu (uac T 3) 40) from by unfold sp_undo; rw [cif_f (not_not_intro q_1), cif_f (fun q => q.elim (atw_t (by omega) q_6) (fun q => q.elim c_14 (fun z => absurd (c_32.symm.trans z.1) (by decide))) : ¬ ((crd T (nI j) ∨ ¬ has T (nI j)) ∨ tac T = 3 ∨ (tac T = 0 ∧ (tlv T = 0 ∨ drf T (tlv T))))), show lvU T = tlv T from cif_f (fun z => absurd (c_32.symm.trans z) (by decide))] <;> rfl)]⟩ dX3_undo_64)
    · have hac0 : tac T = 0 := by
        rcases hI.2.1 with q | ⟨q | q, -⟩
        · exact q
        · exact absurd q c_32
        · exact absurd q c_14
      refine lv_aload_n hx hb dX3_undo_35 rfl (lv_at hl 0 rfl) ?_
      refine ml_xVv (G := G) (As := []) (rest := []) ⟨hx, hb, hml, hown, hts⟩ (c_X3_requireUndoableDone l hlt G cy a H.size T tr (by omega)) (cwV 0 hts gX3_undo_X3_requireUndoableDone rfl rfl rfl (by decide +kernel) ⟨Nat.le_of_ble_eq_true rfl, Nat.le_of_ble_eq_true rfl⟩) (va_recv hK hP (ci := 3) (q0 := 0) rfl rfl) hP hK hD hS hN hA hE rfl hl.1 (Nat.le_of_ble_eq_true rfl) dX3_undo_36 ⟨Nat.le_of_ble_eq_true rfl, Nat.le_of_ble_eq_true rfl⟩ (fun E ce q9 H1 locs1 hz9 hp hP hD hS9 hcell hv hcl => ml_outE tr rfl hout hlocks (Nat.lt_of_le_of_lt hS.1 hz9) (Or.inr (⟨hp.1, by unfold sp_undo; rw [cif_f (not_not_intro q_1), cif_t (Or.inr (Or.inr ⟨hac0, hp.2⟩) : ((crd T (nI j) ∨ ¬ has T (nI j)) ∨ tac T = 3 ∨ (tac T = 0 ∧ (tlv T = 0 ∨ drf T (tlv T)))))] <;> rfl⟩)) hP hK hD hS9 hcell hv hcl (Nat.le_of_ble_eq_true rfl) (Nat.le_of_ble_eq_true rfl)) (fun u_36 H locs hw hP hD hS => ?_)
      have q_36 := hw
      have hP : va_P G vwCl (wC a cy T tr) H := hP
      have hD : va_D A (wC a cy T tr) := hD
      refine lv_aload_n hx hb dX3_undo_39 rfl (lv_at hl 0 rfl) ?_
      refine lv_dup hx hb dX3_undo_40 rfl ?_
      refine va_get (D := G) (ci := 3) (v := .int (nI (tlv T))) (C := RX3) (T := TX3) (N := 7) hx hb hts hin_X3 hown hK hP 0 rfl rfl 4 (by decide) (hts (.fieldLink RX3 81 "Migrationledger" "done" "I") (by decide +kernel)) (fun _ h9 => h9) rfl dX3_undo_41 ?_
      refine lv_iconst (v := 1) hx hb dX3_undo_44 (by decide) ?_
      refine lv_isub hx hb dX3_undo_45 ?_
      refine ml_eqi (nI (tlv T - 1)) (pk_sub (b := 1) (Nat.pos_of_ne_zero q_36.1)) ?_
      refine va_put (D := G) (ci := 3) (v := .int (nI (tlv T - 1))) (ty := .int) (C := RX3) (T := TX3) (N := 7) hx hb hts hin_X3 tyX3 tyX3_ok nmX3 hown hK hP hD hS 0 rfl rfl 4 (by decide) (hts (.fieldLink RX3 81 "Migrationledger" "done" "I") (by decide +kernel)) (fun _ h9 => h9) rfl (by decide +kernel) rfl rfl (Nat.le_of_ble_eq_true rfl) dX3_undo_46 (fun H locs hP hD hS => ?_)
      have hP : va_P G vwCl (wC a cy (ulv T (tlv T - 1)) tr) H := hP
      have hD : va_D A (wC a cy (ulv T (tlv T - 1)) tr) := hD
      refine lv_aload_n hx hb dX3_undo_49 rfl (lv_at hl 0 rfl) ?_
      refine lv_iconst (v := 3) hx hb dX3_undo_50 (by decide) ?_
      refine va_put (D := G) (ci := 3) (v := .int 3) (ty := .int) (C := RX3) (T := TX3) (N := 7) hx hb hts hin_X3 tyX3 tyX3_ok nmX3 hown hK hP hD hS 0 rfl rfl 5 (by decide) (hts (.fieldLink RX3 34 "Migrationledger" "phase" "I") (by decide +kernel)) (fun _ h9 => h9) rfl (by decide +kernel) rfl rfl (Nat.le_of_ble_eq_true rfl) dX3_undo_51 (fun H locs hP hD hS => ?_)
      have hP : va_P G vwCl (wC a cy (uac (ulv T (tlv T - 1)) 3) tr) H := hP
      have hD : va_D A (wC a cy (uac (ulv T (tlv T - 1)) 3) tr) := hD
      refine lv_aload_n hx hb dX3_undo_54 rfl (lv_at hl 0 rfl) ?_
      refine lv_bipush (v := 40) hx hb dX3_undo_55 (by decide) ?_
      refine ml_eqi (nI 40) (by decide) ?_
      refine va_put (D := G) (ci := 3) (v := .int (nI 40)) (ty := .int) (C := RX3) (T := TX3) (N := 7) hx hb hts hin_X3 tyX3 tyX3_ok nmX3 hown hK hP hD hS 0 rfl rfl 6 (by decide) (hts (.fieldLink RX3 184 "Migrationledger" "position" "I") (by decide +kernel)) (fun _ h9 => h9) rfl (by decide +kernel) rfl rfl (Nat.le_of_ble_eq_true rfl) dX3_undo_57 (fun H locs hP hD hS => ?_)
      have hP : va_P G vwCl (wC a cy (ucu (uac (ulv T (tlv T - 1)) 3) 40) tr) H := hP
      have hD : va_D A (wC a cy (ucu (uac (ulv T (tlv T - 1)) 3) 40) tr) := hD
      refine lv_aload_n hx hb dX3_undo_60 rfl (lv_at hl 0 rfl) ?_
      refine ml_Vi (G := G) (As := []) (rest := []) ⟨hx, hb, hml, hown, hts⟩ (c_X3_activeNumber l G cy a H.size (ucu (uac (ulv T (tlv T - 1)) 3) 40) tr) (cwV 0 hts gX3_undo_X3_activeNumber rfl rfl rfl (by decide +kernel) ⟨Nat.le_of_ble_eq_true rfl, Nat.le_of_ble_eq_true rfl⟩) (va_recv hK hP (ci := 3) (q0 := 0) rfl rfl) hP hK hD hS hN hA rfl hl.1 (Nat.le_of_ble_eq_true rfl) dX3_undo_61 ⟨Nat.le_of_ble_eq_true rfl, Nat.le_of_ble_eq_true rfl⟩ (fun r_61 u_61 H locs hw hP hD hS => ?_)
      obtain rfl : r_61 = nI (tlv T - 1 + 1) := hw
      have hP : va_P G vwCl (wC a cy (ucu (uac (ulv T (tlv T - 1)) 3) 40) tr) H := hP
      have hD : va_D A (wC a cy (ucu (uac (ulv T (tlv T - 1)) 3) 40) tr) := hD
      exact vy_ret (ml_ri tr hx hb hr hlocks hP hK hD hS (by rw [(show sp_undo T (nI j) = (0, nI (tlv T - 1 + 1), ucu (uac (ulv T (tlv T - 1)) 3) 40) from by unfold sp_undo; rw [cif_f (not_not_intro q_1), cif_f (fun q => q.elim (atw_t (by omega) q_6) (fun q => q.elim c_14 (fun z => z.2.elim q_36.1 q_36.2)) : ¬ ((crd T (nI j) ∨ ¬ has T (nI j)) ∨ tac T = 3 ∨ (tac T = 0 ∧ (tlv T = 0 ∨ drf T (tlv T))))), show lvU T = tlv T - 1 from cif_t hac0] <;> rfl)]) ⟨by rw [(show sp_undo T (nI j) = (0, nI (tlv T - 1 + 1), ucu (uac (ulv T (tlv T - 1)) 3) 40) from by unfold sp_undo; rw [cif_f (not_not_intro q_1), cif_f (fun q => q.elim (atw_t (by omega) q_6) (fun q => q.elim c_14 (fun z => z.2.elim q_36.1 q_36.2)) : ¬ ((crd T (nI j) ∨ ¬ has T (nI j)) ∨ tac T = 3 ∨ (tac T = 0 ∧ (tlv T = 0 ∨ drf T (tlv T))))), show lvU T = tlv T - 1 from cif_t hac0] <;> rfl)], by rw [(show sp_undo T (nI j) = (0, nI (tlv T - 1 + 1), ucu (uac (ulv T (tlv T - 1)) 3) 40) from by unfold sp_undo; rw [cif_f (not_not_intro q_1), cif_f (fun q => q.elim (atw_t (by omega) q_6) (fun q => q.elim c_14 (fun z => z.2.elim q_36.1 q_36.2)) : ¬ ((crd T (nI j) ∨ ¬ has T (nI j)) ∨ tac T = 3 ∨ (tac T = 0 ∧ (tlv T = 0 ∨ drf T (tlv T))))), show lvU T = tlv T - 1 from cif_t hac0] <;> rfl)]⟩ dX3_undo_64)
  · exact ml_thrE tr rfl false hx hb hlt hown rfl (by decide) (text := "a change is being undone") (by decide) (hts (.classLink RX3 46 eIS) (by decide +kernel)) (hts (.initialized eIS) (by decide +kernel)) (fun w h => hts w (List.mem_cons_of_mem _ (List.mem_append_left _ (List.mem_append_right _ h)))) th_ng50 th_gd50 hP hK hD hE hS (hl.1.trans hml.symm) dX3_undo_17 dX3_undo_20 dX3_undo_21 dX3_undo_23 dX3_undo_26 hout (Nat.le_of_ble_eq_true rfl) (Nat.le_of_ble_eq_true rfl) (Nat.le_of_ble_eq_true rfl) (Nat.le_of_ble_eq_true rfl) hlocks (Or.inr (⟨rfl, by unfold sp_undo; rw [cif_f (not_not_intro q_1), cif_t (Or.inr (Or.inl c_14) : ((crd T (nI j) ∨ ¬ has T (nI j)) ∨ tac T = 3 ∨ (tac T = 0 ∧ (tlv T = 0 ∨ drf T (tlv T)))))] <;> rfl⟩)) (Nat.le_of_ble_eq_true rfl) (Nat.le_of_ble_eq_true rfl)
set_option maxHeartbeats 4000000 in
set_option maxRecDepth 100000 in
theorem c_X3_step (l : Launch) (hlt : l.stackTraces = false) (G : va_G) (cy : Nat → ClassId) (a : Nat → Nat) (sz : Nat) (T : TS) (tr : Nat → Int32) (x : Int32) (y : Int32) (z : Int32) (hI : Inv T) : vy_Met l yX3_step wsX3_step ({ frames := 8, cells := 1, slots := 6, locals := 142 } : Room) (ml_PX G cy [.ref (a 0), .int x, .int y, .int z] (wC a cy T tr) sz) (va_Qi (fun (r : Int32) (u : Nat → Int32) => (sp_step T x y z).1 = 0 ∧ (sp_step T x y z).2.1 = r) (ml_B G cy (va_A (wC a cy T tr) sz) (fun (u : Nat → Int32) => (wC a cy ((sp_step T x y z).2.2) u))) (va_A (wC a cy T tr) sz)) (ml_XE G cy (va_A (wC a cy T tr) sz) (fun tr9 : Nat → Int32 => wC a cy T tr9) (fun E => (E = eIA ∧ sp_step T x y z = (1, 0, T)) ∨ (E = eIS ∧ sp_step T x y z = (2, 0, T)))) 1 6 (va_A (wC a cy T tr) sz) := by
  refine vy_ofW (cc := cX3_step) (maxL := 4) (ret := (some .int)) (by decide) rfl ?_
  intro p e s m args below meth c s₁ B hml hout hv
  obtain ⟨rfl, hsz, hP, hK, hD0, hN, hE⟩ := hv
  have hx := B.exec
  have hb := B.bytes
  have hr := B.returns
  have hts := atoms_spec (ws := wsX3_step) B.pre
  have hown : s.vm.findClass RX3 = some m.cls := findClass_of_methodNamed B.named
  have hlocks := B.notSynchronized
  subst hsz
  have hD := hD0.self (sz := s.heap.size)
  generalize hAe : va_A (wC a cy T tr) s.heap.size = A at hD hE ⊢
  have hA : ∀ q : Nat, s.heap.size ≤ q → A q := fun q h => by rw [← hAe]; exact Or.inr h
  have hS : va_S A s.heap s.heap [] := va_S.rf
  have hP : va_P G vwCl (wC a cy T tr) s.heap := hP
  have hl := lv_entry ([.ref (a 0), .int x, .int y, .int z]) (n := 4) (Nat.le_of_ble_eq_true rfl)
  rw [lg_entry_eq]
  generalize (lg_sl ([.ref (a 0), .int x, .int y, .int z]) ++ List.replicate (4 - (lg_sl ([.ref (a 0), .int x, .int y, .int z])).length) Slot.unset).toArray = ls at hl ⊢
  have hl : lv_has ls 4 [(0, .ref (a 0)), (1, .int x), (2, .int y), (3, .int z)] := hl
  have hn12 : tn T ≤ 12 := hI.1.1
  have hlvn : tlv T ≤ tn T := hI.1.2.1
  have hcu : tcu T ≤ 40 := hI.1.2.2
  have hW := hI.w
  refine lv_iload_n hx hb dX3_step_0 rfl (lv_at hl 1 rfl) ?_
  refine ml_xSv (G := G) (As := [.int x]) (rest := []) ⟨hx, hb, hml, hown, hts⟩ (c_X3_requireWorker l hlt G cy a s.heap.size T tr x) (va_cwS 1 hts gX3_step_X3_requireWorker rfl rfl rfl (by decide +kernel) ⟨Nat.le_of_ble_eq_true rfl, Nat.le_of_ble_eq_true rfl⟩) hP hK hD hS hN hA hE rfl hl.1 (Nat.le_of_ble_eq_true rfl) dX3_step_1 ⟨Nat.le_of_ble_eq_true rfl, Nat.le_of_ble_eq_true rfl⟩ (fun E ce q9 H1 locs1 hz9 hp hP hD hS9 hcell hv hcl => ml_outE tr rfl hout hlocks (Nat.lt_of_le_of_lt hS.1 hz9) (Or.inl (⟨hp.1, by unfold sp_step; rw [cif_t (fun q => hp.2 q.1 : ¬ (inR x 0 3 ∧ inR y 1 40 ∧ inR z 0 40))] <;> rfl⟩)) hP hK hD hS9 hcell hv hcl (Nat.le_of_ble_eq_true rfl) (Nat.le_of_ble_eq_true rfl)) (fun u_1 H locs hw hP hD hS => ?_)
  have q_1 := hw
  have hP : va_P G vwCl (wC a cy T tr) H := hP
  have hD : va_D A (wC a cy T tr) := hD
  obtain ⟨j, hj, rfl⟩ := inR_n 3 (by decide) q_1
  refine lv_iload_n hx hb dX3_step_4 rfl (lv_at hl 2 rfl) ?_
  refine lv_iconst (v := 1) hx hb dX3_step_5 (by decide) ?_
  refine lv_icmp_lt (tgt := 15) hx hb dX3_step_6 (by decide) (fun c_6 => ?_) (fun c_6 => ?_)
  · exact ml_thrE tr rfl false hx hb hlt hown rfl (by decide) (text := "a batch is 1 to 40 ids") (by decide) (hts (.classLink RX3 122 eIA) (by decide +kernel)) (hts (.initialized eIA) (by decide +kernel)) (fun w h => hts w (List.mem_cons_of_mem _ (List.mem_append_left _ (List.mem_append_right _ h)))) th_ng126 th_gd126 hP hK hD hE hS (hl.1.trans hml.symm) dX3_step_15 dX3_step_18 dX3_step_19 dX3_step_21 dX3_step_24 hout (Nat.le_of_ble_eq_true rfl) (Nat.le_of_ble_eq_true rfl) (Nat.le_of_ble_eq_true rfl) (Nat.le_of_ble_eq_true rfl) hlocks (Or.inl (⟨rfl, by unfold sp_step; rw [cif_t (fun q => nR_a c_6 q.2.1 : ¬ (inR (nI j) 0 3 ∧ inR y 1 40 ∧ inR z 0 40))] <;> rfl⟩)) (Nat.le_of_ble_eq_true rfl) (Nat.le_of_ble_eq_true rfl)
  · refine lv_iload_n hx hb dX3_step_9 rfl (lv_at hl 2 rfl) ?_
    refine lv_bipush (v := 40) hx hb dX3_step_10 (by decide) ?_
    refine lv_icmp_le (tgt := 25) hx hb dX3_step_12 (by decide) (fun c_12 => ?_) (fun c_12 => ?_)
    · have hb9 : inR y 1 40 := ⟨Int32.not_lt.mp c_6, c_12⟩
      refine lv_iload_n hx hb dX3_step_25 rfl (lv_at hl 3 rfl) ?_
      refine lv_if_lt (tgt := 35) hx hb dX3_step_26 (by decide) (fun c_26 => ?_) (fun c_26 => ?_)
      · exact ml_thrE tr rfl false hx hb hlt hown rfl (by decide) (text := "a worker crashes behind 1 to 40 rows, or 0 for not at all") (by decide) (hts (.classLink RX3 122 eIA) (by decide +kernel)) (hts (.initialized eIA) (by decide +kernel)) (fun w h => hts w (List.mem_cons_of_mem _ (List.mem_append_left _ (List.mem_append_right _ h)))) th_ng126 th_gd126 hP hK hD hE hS (hl.1.trans hml.symm) dX3_step_35 dX3_step_38 dX3_step_39 dX3_step_41 dX3_step_44 hout (Nat.le_of_ble_eq_true rfl) (Nat.le_of_ble_eq_true rfl) (Nat.le_of_ble_eq_true rfl) (Nat.le_of_ble_eq_true rfl) hlocks (Or.inl (⟨rfl, by unfold sp_step; rw [cif_t (fun q => nR_a c_26 q.2.2 : ¬ (inR (nI j) 0 3 ∧ inR y 1 40 ∧ inR z 0 40))] <;> rfl⟩)) (Nat.le_of_ble_eq_true rfl) (Nat.le_of_ble_eq_true rfl)
      · refine lv_iload_n hx hb dX3_step_29 rfl (lv_at hl 3 rfl) ?_
        refine lv_bipush (v := 40) hx hb dX3_step_30 (by decide) ?_
        refine lv_icmp_le (tgt := 45) hx hb dX3_step_32 (by decide) (fun c_32 => ?_) (fun c_32 => ?_)
        · have hz : inR z 0 40 := ⟨Int32.not_lt.mp c_26, c_32⟩
          obtain ⟨b, hb4, rfl⟩ : ∃ b, b ≤ 40 ∧ y = nI b := nI_of2 (M := 40) (n := 40) (by decide) (fun q => c_6 (Int32.lt_of_lt_of_le q (by decide))) c_12
          refine lv_aload_n hx hb dX3_step_45 rfl (lv_at hl 0 rfl) ?_
          refine lv_iload_n hx hb dX3_step_46 rfl (lv_at hl 1 rfl) ?_
          refine ml_xVv (G := G) (As := [.int (nI j)]) (rest := []) ⟨hx, hb, hml, hown, hts⟩ (c_X3_requireAtWork l hlt G cy a H.size T tr j (by omega) (hI.2.2.2.2.1 j (by omega))) (cwV 1 hts gX3_step_X3_requireAtWork rfl rfl rfl (by decide +kernel) ⟨Nat.le_of_ble_eq_true rfl, Nat.le_of_ble_eq_true rfl⟩) (va_recv hK hP (ci := 3) (q0 := 0) rfl rfl) hP hK hD hS hN hA hE rfl hl.1 (Nat.le_of_ble_eq_true rfl) dX3_step_47 ⟨Nat.le_of_ble_eq_true rfl, Nat.le_of_ble_eq_true rfl⟩ (fun E ce q9 H1 locs1 hz9 hp hP hD hS9 hcell hv hcl => ml_outE tr rfl hout hlocks (Nat.lt_of_le_of_lt hS.1 hz9) (Or.inr (⟨hp.1, by unfold sp_step; rw [cif_f (not_not_intro (⟨q_1, hb9, hz⟩ : (inR (nI j) 0 3 ∧ inR (nI b) 1 40 ∧ inR z 0 40))), cif_t (Or.inl (atw_f (by omega) hp.2))] <;> rfl⟩)) hP hK hD hS9 hcell hv hcl (Nat.le_of_ble_eq_true rfl) (Nat.le_of_ble_eq_true rfl)) (fun u_47 H locs hw hP hD hS => ?_)
          have q_47 := hw
          have hP : va_P G vwCl (wC a cy T tr) H := hP
          have hD : va_D A (wC a cy T tr) := hD
          refine lv_aload_n hx hb dX3_step_50 rfl (lv_at hl 0 rfl) ?_
          refine ml_xVv (G := G) (As := []) (rest := []) ⟨hx, hb, hml, hown, hts⟩ (c_X3_requireActive l hlt G cy a H.size T tr) (cwV 0 hts gX3_step_X3_requireActive rfl rfl rfl (by decide +kernel) ⟨Nat.le_of_ble_eq_true rfl, Nat.le_of_ble_eq_true rfl⟩) (va_recv hK hP (ci := 3) (q0 := 0) rfl rfl) hP hK hD hS hN hA hE rfl hl.1 (Nat.le_of_ble_eq_true rfl) dX3_step_51 ⟨Nat.le_of_ble_eq_true rfl, Nat.le_of_ble_eq_true rfl⟩ (fun E ce q9 H1 locs1 hz9 hp hP hD hS9 hcell hv hcl => ml_outE tr rfl hout hlocks (Nat.lt_of_le_of_lt hS.1 hz9) (Or.inr (⟨hp.1, by unfold sp_step; rw [cif_f (not_not_intro (⟨q_1, hb9, hz⟩ : (inR (nI j) 0 3 ∧ inR (nI b) 1 40 ∧ inR z 0 40))), cif_t (Or.inr hp.2)] <;> rfl⟩)) hP hK hD hS9 hcell hv hcl (Nat.le_of_ble_eq_true rfl) (Nat.le_of_ble_eq_true rfl)) (fun u_51 H locs hw hP hD hS => ?_)
          have q_51 := hw
          have hP : va_P G vwCl (wC a cy T tr) H := hP
          have hD : va_D A (wC a cy T tr) := hD
          have hu : unD T (tac T = 3) := unD_of hW q_51
          refine lv_aload_n hx hb dX3_step_54 rfl (lv_at hl 0 rfl) ?_
          refine lv_iload_n hx hb dX3_step_55 rfl (lv_at hl 2 rfl) ?_
          refine lv_aload_n hx hb dX3_step_56 rfl (lv_at hl 0 rfl) ?_
          refine ml_Vi (G := G) (As := []) (rest := [.int (nI b), .ref (a 0)]) ⟨hx, hb, hml, hown, hts⟩ (c_X3_idsLeft l G cy a H.size T tr (tac T = 3) hu hcu) (cwV 0 hts gX3_step_X3_idsLeft rfl rfl rfl (by decide +kernel) ⟨Nat.le_of_ble_eq_true rfl, Nat.le_of_ble_eq_true rfl⟩) (va_recv hK hP (ci := 3) (q0 := 0) rfl rfl) hP hK hD hS hN hA rfl hl.1 (Nat.le_of_ble_eq_true rfl) dX3_step_57 ⟨Nat.le_of_ble_eq_true rfl, Nat.le_of_ble_eq_true rfl⟩ (fun r_57 u_57 H locs hw hP hD hS => ?_)
          obtain rfl : r_57 = nI (left T (tac T = 3)) := hw
          have hP : va_P G vwCl (wC a cy T tr) H := hP
          have hD : va_D A (wC a cy T tr) := hD
          refine va_mmin hx hb (hml.trans hl.1.symm) hown (hts (.methodLink RX3 205 Lib.Math.min.name) (by decide +kernel)) (hts (.static Lib.Math.min.name) (by decide +kernel)) (hts (.initialized "java/lang/Math") (by decide +kernel)) (hts (.code Lib.Math.min.name Lib.Math.min.code 2 (some .int)) (by decide +kernel)) (Nat.le_of_ble_eq_true rfl) (Nat.le_of_ble_eq_true rfl) (Nat.zero_le _) (Nat.zero_le _) dX3_step_60 ?_
          refine ml_eqi (nI (min b (left T (tac T = 3)))) (min_nI (by omega) (Nat.lt_of_le_of_lt (left_le hcu) (by decide))) ?_
          refine lv_iload_n hx hb dX3_step_63 rfl (lv_at hl 1 rfl) ?_
          refine lv_iload_n hx hb dX3_step_64 rfl (lv_at hl 3 rfl) ?_
          refine ml_Vi (G := G) (As := [.int (nI (min b (left T (tac T = 3)))), .int (nI j), .int z]) (rest := []) ⟨hx, hb, hml, hown, hts⟩ (c_X3_goThrough l G cy a H.size T tr (min b (left T (tac T = 3))) (Nat.le_trans (Nat.min_le_left _ _) hb4) j (by omega) z (tac T = 3) hu hW (Nat.min_le_right _ _)) (cwV 3 hts gX3_step_X3_goThrough rfl rfl rfl (by decide +kernel) ⟨Nat.le_of_ble_eq_true rfl, Nat.le_of_ble_eq_true rfl⟩) (va_recv hK hP (ci := 3) (q0 := 0) rfl rfl) hP hK hD hS hN hA rfl hl.1 (Nat.le_of_ble_eq_true rfl) dX3_step_65 ⟨Nat.le_of_ble_eq_true rfl, Nat.le_of_ble_eq_true rfl⟩ (fun r_65 u_65 H locs hw hP hD hS => ?_)
          obtain rfl : r_65 = _ := hw
          have hP : va_P G vwCl (wC a cy ((stR (tac T = 3) j (sgo (tac T = 3) z (min b (left T (tac T = 3))) 0 0 T)).2) u_65) H := hP
          have hD : va_D A (wC a cy ((stR (tac T = 3) j (sgo (tac T = 3) z (min b (left T (tac T = 3))) 0 0 T)).2) u_65) := hD
          exact vy_ret (ml_ri u_65 hx hb hr hlocks hP hK hD hS (by rw [(show sp_step T (nI j) (nI b) z = (0, (stR (tac T = 3) j (sgo (tac T = 3) z (min b (left T (tac T = 3))) 0 0 T)).1, (stR (tac T = 3) j (sgo (tac T = 3) z (min b (left T (tac T = 3))) 0 0 T)).2) from by unfold sp_step; rw [cif_f (not_not_intro (⟨q_1, hb9, hz⟩ : (inR (nI j) 0 3 ∧ inR (nI b) 1 40 ∧ inR z 0 40))), cif_f (fun q => q.elim (atw_t (by omega) q_47) q_51), ix_n (j := j) (by omega), ix_n (j := b) (by omega)] <;> rfl)]) ⟨by rw [(show sp_step T (nI j) (nI b) z = (0, (stR (tac T = 3) j (sgo (tac T = 3) z (min b (left T (tac T = 3))) 0 0 T)).1, (stR (tac T = 3) j (sgo (tac T = 3) z (min b (left T (tac T = 3))) 0 0 T)).2) from by unfold sp_step; rw [cif_f (not_not_intro (⟨q_1, hb9, hz⟩ : (inR (nI j) 0 3 ∧ inR (nI b) 1 40 ∧ inR z 0 40))), cif_f (fun q => q.elim (atw_t (by omega) q_47) q_51), ix_n (j := j) (by omega), ix_n (j := b) (by omega)] <;> rfl)], by rw [(show sp_step T (nI j) (nI b) z = (0, (stR (tac T = 3) j (sgo (tac T = 3) z (min b (left T (tac T = 3))) 0 0 T)).1, (stR (tac T = 3) j (sgo (tac T = 3) z (min b (left T (tac T = 3))) 0 0 T)).2) from by unfold sp_step; rw [cif_f (not_not_intro (⟨q_1, hb9, hz⟩ : (inR (nI j) 0 3 ∧ inR (nI b) 1 40 ∧ inR z 0 40))), cif_f (fun q => q.elim (atw_t (by omega) q_47) q_51), ix_n (j := j) (by omega), ix_n (j := b) (by omega)] <;> rfl)]⟩ dX3_step_68)
        · exact ml_thrE tr rfl false hx hb hlt hown rfl (by decide) (text := "a worker crashes behind 1 to 40 rows, or 0 for not at all") (by decide) (hts (.classLink RX3 122 eIA) (by decide +kernel)) (hts (.initialized eIA) (by decide +kernel)) (fun w h => hts w (List.mem_cons_of_mem _ (List.mem_append_left _ (List.mem_append_right _ h)))) th_ng126 th_gd126 hP hK hD hE hS (hl.1.trans hml.symm) dX3_step_35 dX3_step_38 dX3_step_39 dX3_step_41 dX3_step_44 hout (Nat.le_of_ble_eq_true rfl) (Nat.le_of_ble_eq_true rfl) (Nat.le_of_ble_eq_true rfl) (Nat.le_of_ble_eq_true rfl) hlocks (Or.inl (⟨rfl, by unfold sp_step; rw [cif_t (fun q => nR_b (Int32.not_le.mp c_32) q.2.2 : ¬ (inR (nI j) 0 3 ∧ inR y 1 40 ∧ inR z 0 40))] <;> rfl⟩)) (Nat.le_of_ble_eq_true rfl) (Nat.le_of_ble_eq_true rfl)
    · exact ml_thrE tr rfl false hx hb hlt hown rfl (by decide) (text := "a batch is 1 to 40 ids") (by decide) (hts (.classLink RX3 122 eIA) (by decide +kernel)) (hts (.initialized eIA) (by decide +kernel)) (fun w h => hts w (List.mem_cons_of_mem _ (List.mem_append_left _ (List.mem_append_right _ h)))) th_ng126 th_gd126 hP hK hD hE hS (hl.1.trans hml.symm) dX3_step_15 dX3_step_18 dX3_step_19 dX3_step_21 dX3_step_24 hout (Nat.le_of_ble_eq_true rfl) (Nat.le_of_ble_eq_true rfl) (Nat.le_of_ble_eq_true rfl) (Nat.le_of_ble_eq_true rfl) hlocks (Or.inl (⟨rfl, by unfold sp_step; rw [cif_t (fun q => nR_b (Int32.not_le.mp c_12) q.2.1 : ¬ (inR (nI j) 0 3 ∧ inR y 1 40 ∧ inR z 0 40))] <;> rfl⟩)) (Nat.le_of_ble_eq_true rfl) (Nat.le_of_ble_eq_true rfl)
set_option maxHeartbeats 4000000 in
set_option maxRecDepth 100000 in
theorem c_X3_cursor (l : Launch) (hlt : l.stackTraces = false) (G : va_G) (cy : Nat → ClassId) (a : Nat → Nat) (sz : Nat) (T : TS) (tr : Nat → Int32) (hI : Inv T) : vy_Met l yX3_cursor wsX3_cursor ({ frames := 7, cells := 1, slots := 6, locals := 102 } : Room) (ml_PX G cy [.ref (a 0)] (wC a cy T tr) sz) (va_Qi (fun (r : Int32) (u : Nat → Int32) => (sp_cursor T).1 = 0 ∧ (sp_cursor T).2.1 = r) (ml_B G cy (va_A (wC a cy T tr) sz) (fun (u : Nat → Int32) => (wC a cy ((sp_cursor T).2.2) u))) (va_A (wC a cy T tr) sz)) (ml_XE G cy (va_A (wC a cy T tr) sz) (fun tr9 : Nat → Int32 => wC a cy T tr9) (fun E => (E = eIS ∧ sp_cursor T = (1, 0, T)))) 1 6 (va_A (wC a cy T tr) sz) := by
  refine vy_ofW (cc := cX3_cursor) (maxL := 1) (ret := (some .int)) (by decide) rfl ?_
  intro p e s m args below meth c s₁ B hml hout hv
  obtain ⟨rfl, hsz, hP, hK, hD0, hN, hE⟩ := hv
  have hx := B.exec
  have hb := B.bytes
  have hr := B.returns
  have hts := atoms_spec (ws := wsX3_cursor) B.pre
  have hown : s.vm.findClass RX3 = some m.cls := findClass_of_methodNamed B.named
  have hlocks := B.notSynchronized
  subst hsz
  have hD := hD0.self (sz := s.heap.size)
  generalize hAe : va_A (wC a cy T tr) s.heap.size = A at hD hE ⊢
  have hA : ∀ q : Nat, s.heap.size ≤ q → A q := fun q h => by rw [← hAe]; exact Or.inr h
  have hS : va_S A s.heap s.heap [] := va_S.rf
  have hP : va_P G vwCl (wC a cy T tr) s.heap := hP
  have hin_X3 : ∀ w ∈ wsX30, w ∈ wsX3_cursor := by decide +kernel
  have hl := lv_entry ([.ref (a 0)]) (n := 1) (Nat.le_of_ble_eq_true rfl)
  rw [lg_entry_eq]
  generalize (lg_sl ([.ref (a 0)]) ++ List.replicate (1 - (lg_sl ([.ref (a 0)])).length) Slot.unset).toArray = ls at hl ⊢
  have hl : lv_has ls 1 [(0, .ref (a 0))] := hl
  have hn12 : tn T ≤ 12 := hI.1.1
  have hlvn : tlv T ≤ tn T := hI.1.2.1
  have hcu : tcu T ≤ 40 := hI.1.2.2
  have hW := hI.w
  refine lv_aload_n hx hb dX3_cursor_0 rfl (lv_at hl 0 rfl) ?_
  refine ml_xVv (G := G) (As := []) (rest := []) ⟨hx, hb, hml, hown, hts⟩ (c_X3_requireActive l hlt G cy a s.heap.size T tr) (cwV 0 hts gX3_cursor_X3_requireActive rfl rfl rfl (by decide +kernel) ⟨Nat.le_of_ble_eq_true rfl, Nat.le_of_ble_eq_true rfl⟩) (va_recv hK hP (ci := 3) (q0 := 0) rfl rfl) hP hK hD hS hN hA hE rfl hl.1 (Nat.le_of_ble_eq_true rfl) dX3_cursor_1 ⟨Nat.le_of_ble_eq_true rfl, Nat.le_of_ble_eq_true rfl⟩ (fun E ce q9 H1 locs1 hz9 hp hP hD hS9 hcell hv hcl => ml_outE tr rfl hout hlocks (Nat.lt_of_le_of_lt hS.1 hz9) (⟨hp.1, by unfold sp_cursor; rw [cif_t hp.2] <;> rfl⟩) hP hK hD hS9 hcell hv hcl (Nat.le_of_ble_eq_true rfl) (Nat.le_of_ble_eq_true rfl)) (fun u_1 H locs hw hP hD hS => ?_)
  have q_1 := hw
  have hP : va_P G vwCl (wC a cy T tr) H := hP
  have hD : va_D A (wC a cy T tr) := hD
  refine lv_aload_n hx hb dX3_cursor_4 rfl (lv_at hl 0 rfl) ?_
  refine va_get (D := G) (ci := 3) (v := .int (nI (tcu T))) (C := RX3) (T := TX3) (N := 7) hx hb hts hin_X3 hown hK hP 0 rfl rfl 6 (by decide) (hts (.fieldLink RX3 184 "Migrationledger" "position" "I") (by decide +kernel)) (fun _ h9 => h9) rfl dX3_cursor_5 ?_
  exact vy_ret (ml_ri tr hx hb hr hlocks hP hK hD hS (by rw [(show sp_cursor T = (0, nI (tcu T), T) from by unfold sp_cursor; rw [cif_f q_1] <;> rfl)]) ⟨by rw [(show sp_cursor T = (0, nI (tcu T), T) from by unfold sp_cursor; rw [cif_f q_1] <;> rfl)], by rw [(show sp_cursor T = (0, nI (tcu T), T) from by unfold sp_cursor; rw [cif_f q_1] <;> rfl)]⟩ dX3_cursor_8)
