set_option maxHeartbeats 4000000 in
set_option maxRecDepth 100000 in
theorem c_X4_changes (l : Launch) (G : va_G) (cy : Nat → ClassId) (a : Nat → Nat) (sz : Nat) (T : TS) (rf : Int32) (sp : Nat → Int64) (hI : Inv T) : Met l yX4_changes wsX4_changes ({ frames := 1, cells := 0, slots := 0, locals := 21 } : Room) (ml_P G cy [.ref (a 0)] (wM a cy T rf sp) sz) (va_Qi (fun (r : Int32) (_ : Unit) => r = nI (tn T)) (ml_B G cy (va_A (wM a cy T rf sp) sz) (fun (_ : Unit) => (wM a cy T 0 sp))) (va_A (wM a cy T rf sp) sz)) 0 0 (va_A (wM a cy T rf sp) sz) := by
  refine Met.ofW (cc := cX4_changes) (maxL := 1) (ret := (some .int)) (by decide) rfl ?_
  intro p e s m args below meth c s₁ B hml hv
  obtain ⟨rfl, hsz, hP, hK, hD0, hN⟩ := hv
  have hx := B.exec
  have hb := B.bytes
  have hr := B.returns
  have hts := atoms_spec (ws := wsX4_changes) B.pre
  have hown : s.vm.findClass RX4 = some m.cls := findClass_of_methodNamed B.named
  have hlocks := B.notSynchronized
  subst hsz
  have hD := hD0.self (sz := s.heap.size)
  generalize hAe : va_A (wM a cy T rf sp) s.heap.size = A at hD ⊢
  have hA : ∀ q : Nat, s.heap.size ≤ q → A q := fun q h => by rw [← hAe]; exact Or.inr h
  have hS : va_S A s.heap s.heap [] := va_S.rf
  have hP : va_P G vwCl (wM a cy T rf sp) s.heap := hP
  have hin_X4 : ∀ w ∈ wsX40, w ∈ wsX4_changes := by decide +kernel
  have hl := lv_entry ([.ref (a 0)]) (n := 1) (Nat.le_of_ble_eq_true rfl)
  rw [lg_entry_eq]
  generalize (lg_sl ([.ref (a 0)]) ++ List.replicate (1 - (lg_sl ([.ref (a 0)])).length) Slot.unset).toArray = ls at hl ⊢
  have hl : lv_has ls 1 [(0, .ref (a 0))] := hl
  have hn12 : tn T ≤ 12 := hI.1.1
  have hlvn : tlv T ≤ tn T := hI.1.2.1
  refine lv_aload_n hx hb dX4_changes_0 rfl (lv_at hl 0 rfl) ?_
  refine lv_aload_n hx hb dX4_changes_1 rfl (lv_at hl 0 rfl) ?_
  refine va_get (D := G) (ci := 4) (v := .int (nI (tn T))) (C := RX4) (T := TX4) (N := 16) hx hb hts hin_X4 hown hK hP 0 rfl rfl 1 (by decide) (hts (.fieldLink RX4 55 "MigrationledgerModel" "many" "I") (by decide +kernel)) (fun _ h9 => h9) rfl dX4_changes_2 ?_
  refine ml_Vi (G := G) (As := [.int (nI (tn T))]) (rest := []) ⟨hx, hb, hml, hown, hts⟩ (c_X4_fine l G cy a s.heap.size T rf sp (nI (tn T))) (cwV 1 hts gX4_changes_X4_fine rfl rfl rfl (by decide +kernel) ⟨Nat.le_of_ble_eq_true rfl, Nat.le_of_ble_eq_true rfl⟩) (va_recv hK hP (ci := 4) (q0 := 0) rfl rfl) hP hK hD hS hN hA rfl hl.1 (Nat.le_of_ble_eq_true rfl) dX4_changes_5 ⟨Nat.le_of_ble_eq_true rfl, Nat.le_of_ble_eq_true rfl⟩ (fun r_5 u_5 H locs hw hP hD hS => ?_)
  obtain rfl : r_5 = nI (tn T) := hw
  have hP : va_P G vwCl (wM a cy T 0 sp) H := hP
  have hD : va_D A (wM a cy T 0 sp) := hD
  exact ml_ri () hx hb hr hlocks hP hK hD hS rfl rfl dX4_changes_8
set_option maxHeartbeats 4000000 in
set_option maxRecDepth 100000 in
theorem c_X4_level (l : Launch) (G : va_G) (cy : Nat → ClassId) (a : Nat → Nat) (sz : Nat) (T : TS) (rf : Int32) (sp : Nat → Int64) (hI : Inv T) : Met l yX4_level wsX4_level ({ frames := 1, cells := 0, slots := 0, locals := 21 } : Room) (ml_P G cy [.ref (a 0)] (wM a cy T rf sp) sz) (va_Qi (fun (r : Int32) (_ : Unit) => r = nI (tlv T)) (ml_B G cy (va_A (wM a cy T rf sp) sz) (fun (_ : Unit) => (wM a cy T 0 sp))) (va_A (wM a cy T rf sp) sz)) 0 0 (va_A (wM a cy T rf sp) sz) := by
  refine Met.ofW (cc := cX4_level) (maxL := 1) (ret := (some .int)) (by decide) rfl ?_
  intro p e s m args below meth c s₁ B hml hv
  obtain ⟨rfl, hsz, hP, hK, hD0, hN⟩ := hv
  have hx := B.exec
  have hb := B.bytes
  have hr := B.returns
  have hts := atoms_spec (ws := wsX4_level) B.pre
  have hown : s.vm.findClass RX4 = some m.cls := findClass_of_methodNamed B.named
  have hlocks := B.notSynchronized
  subst hsz
  have hD := hD0.self (sz := s.heap.size)
  generalize hAe : va_A (wM a cy T rf sp) s.heap.size = A at hD ⊢
  have hA : ∀ q : Nat, s.heap.size ≤ q → A q := fun q h => by rw [← hAe]; exact Or.inr h
  have hS : va_S A s.heap s.heap [] := va_S.rf
  have hP : va_P G vwCl (wM a cy T rf sp) s.heap := hP
  have hin_X4 : ∀ w ∈ wsX40, w ∈ wsX4_level := by decide +kernel
  have hl := lv_entry ([.ref (a 0)]) (n := 1) (Nat.le_of_ble_eq_true rfl)
  rw [lg_entry_eq]
  generalize (lg_sl ([.ref (a 0)]) ++ List.replicate (1 - (lg_sl ([.ref (a 0)])).length) Slot.unset).toArray = ls at hl ⊢
  have hl : lv_has ls 1 [(0, .ref (a 0))] := hl
  have hn12 : tn T ≤ 12 := hI.1.1
  have hlvn : tlv T ≤ tn T := hI.1.2.1
  refine lv_aload_n hx hb dX4_level_0 rfl (lv_at hl 0 rfl) ?_
  refine lv_aload_n hx hb dX4_level_1 rfl (lv_at hl 0 rfl) ?_
  refine va_get (D := G) (ci := 4) (v := .int (nI (tlv T))) (C := RX4) (T := TX4) (N := 16) hx hb hts hin_X4 hown hK hP 0 rfl rfl 6 (by decide) (hts (.fieldLink RX4 66 "MigrationledgerModel" "level" "I") (by decide +kernel)) (fun _ h9 => h9) rfl dX4_level_2 ?_
  refine ml_Vi (G := G) (As := [.int (nI (tlv T))]) (rest := []) ⟨hx, hb, hml, hown, hts⟩ (c_X4_fine l G cy a s.heap.size T rf sp (nI (tlv T))) (cwV 1 hts gX4_level_X4_fine rfl rfl rfl (by decide +kernel) ⟨Nat.le_of_ble_eq_true rfl, Nat.le_of_ble_eq_true rfl⟩) (va_recv hK hP (ci := 4) (q0 := 0) rfl rfl) hP hK hD hS hN hA rfl hl.1 (Nat.le_of_ble_eq_true rfl) dX4_level_5 ⟨Nat.le_of_ble_eq_true rfl, Nat.le_of_ble_eq_true rfl⟩ (fun r_5 u_5 H locs hw hP hD hS => ?_)
  obtain rfl : r_5 = nI (tlv T) := hw
  have hP : va_P G vwCl (wM a cy T 0 sp) H := hP
  have hD : va_D A (wM a cy T 0 sp) := hD
  exact ml_ri () hx hb hr hlocks hP hK hD hS rfl rfl dX4_level_8
set_option maxHeartbeats 4000000 in
set_option maxRecDepth 100000 in
theorem c_X4_drifted (l : Launch) (G : va_G) (cy : Nat → ClassId) (a : Nat → Nat) (sz : Nat) (T : TS) (rf : Int32) (sp : Nat → Int64) (hI : Inv T) : Met l yX4_drifted wsX4_drifted ({ frames := 2, cells := 0, slots := 0, locals := 43 } : Room) (ml_P G cy [.ref (a 0)] (wM a cy T rf sp) sz) (va_Qi (fun (r : Int32) (_ : Unit) => r = fdr T) (ml_B G cy (va_A (wM a cy T rf sp) sz) (fun (_ : Unit) => (wM a cy T 0 sp))) (va_A (wM a cy T rf sp) sz)) 0 0 (va_A (wM a cy T rf sp) sz) := by
  refine Met.ofW (cc := cX4_drifted) (maxL := 1) (ret := (some .int)) (by decide) rfl ?_
  intro p e s m args below meth c s₁ B hml hv
  obtain ⟨rfl, hsz, hP, hK, hD0, hN⟩ := hv
  have hx := B.exec
  have hb := B.bytes
  have hr := B.returns
  have hts := atoms_spec (ws := wsX4_drifted) B.pre
  have hown : s.vm.findClass RX4 = some m.cls := findClass_of_methodNamed B.named
  have hlocks := B.notSynchronized
  subst hsz
  have hD := hD0.self (sz := s.heap.size)
  generalize hAe : va_A (wM a cy T rf sp) s.heap.size = A at hD ⊢
  have hA : ∀ q : Nat, s.heap.size ≤ q → A q := fun q h => by rw [← hAe]; exact Or.inr h
  have hS : va_S A s.heap s.heap [] := va_S.rf
  have hP : va_P G vwCl (wM a cy T rf sp) s.heap := hP
  have hl := lv_entry ([.ref (a 0)]) (n := 1) (Nat.le_of_ble_eq_true rfl)
  rw [lg_entry_eq]
  generalize (lg_sl ([.ref (a 0)]) ++ List.replicate (1 - (lg_sl ([.ref (a 0)])).length) Slot.unset).toArray = ls at hl ⊢
  have hl : lv_has ls 1 [(0, .ref (a 0))] := hl
  have hn12 : tn T ≤ 12 := hI.1.1
  have hlvn : tlv T ≤ tn T := hI.1.2.1
  refine lv_aload_n hx hb dX4_drifted_0 rfl (lv_at hl 0 rfl) ?_
  refine lv_aload_n hx hb dX4_drifted_1 rfl (lv_at hl 0 rfl) ?_
  refine ml_Vi (G := G) (As := []) (rest := [.ref (a 0)]) ⟨hx, hb, hml, hown, hts⟩ (c_X4_firstDrift l G cy a s.heap.size T rf sp (by omega)) (cwV 0 hts gX4_drifted_X4_firstDrift rfl rfl rfl (by decide +kernel) ⟨Nat.le_of_ble_eq_true rfl, Nat.le_of_ble_eq_true rfl⟩) (va_recv hK hP (ci := 4) (q0 := 0) rfl rfl) hP hK hD hS hN hA rfl hl.1 (Nat.le_of_ble_eq_true rfl) dX4_drifted_2 ⟨Nat.le_of_ble_eq_true rfl, Nat.le_of_ble_eq_true rfl⟩ (fun r_2 u_2 H locs hw hP hD hS => ?_)
  obtain rfl : r_2 = fdr T := hw
  have hP : va_P G vwCl (wM a cy T rf sp) H := hP
  have hD : va_D A (wM a cy T rf sp) := hD
  refine ml_Vi (G := G) (As := [.int (fdr T)]) (rest := []) ⟨hx, hb, hml, hown, hts⟩ (c_X4_fine l G cy a H.size T rf sp (fdr T)) (cwV 1 hts gX4_drifted_X4_fine rfl rfl rfl (by decide +kernel) ⟨Nat.le_of_ble_eq_true rfl, Nat.le_of_ble_eq_true rfl⟩) (va_recv hK hP (ci := 4) (q0 := 0) rfl rfl) hP hK hD hS hN hA rfl hl.1 (Nat.le_of_ble_eq_true rfl) dX4_drifted_5 ⟨Nat.le_of_ble_eq_true rfl, Nat.le_of_ble_eq_true rfl⟩ (fun r_5 u_5 H locs hw hP hD hS => ?_)
  obtain rfl : r_5 = fdr T := hw
  have hP : va_P G vwCl (wM a cy T 0 sp) H := hP
  have hD : va_D A (wM a cy T 0 sp) := hD
  exact ml_ri () hx hb hr hlocks hP hK hD hS rfl rfl dX4_drifted_8
set_option maxHeartbeats 4000000 in
set_option maxRecDepth 100000 in
theorem c_X4_holder (l : Launch) (G : va_G) (cy : Nat → ClassId) (a : Nat → Nat) (sz : Nat) (T : TS) (rf : Int32) (sp : Nat → Int64) (hI : Inv T) : Met l yX4_holder wsX4_holder ({ frames := 1, cells := 0, slots := 0, locals := 21 } : Room) (ml_P G cy [.ref (a 0)] (wM a cy T rf sp) sz) (va_Qi (fun (r : Int32) (_ : Unit) => r = owner T) (ml_B G cy (va_A (wM a cy T rf sp) sz) (fun (_ : Unit) => (wM a cy T 0 sp))) (va_A (wM a cy T rf sp) sz)) 0 0 (va_A (wM a cy T rf sp) sz) := by
  refine Met.ofW (cc := cX4_holder) (maxL := 1) (ret := (some .int)) (by decide) rfl ?_
  intro p e s m args below meth c s₁ B hml hv
  obtain ⟨rfl, hsz, hP, hK, hD0, hN⟩ := hv
  have hx := B.exec
  have hb := B.bytes
  have hr := B.returns
  have hts := atoms_spec (ws := wsX4_holder) B.pre
  have hown : s.vm.findClass RX4 = some m.cls := findClass_of_methodNamed B.named
  have hlocks := B.notSynchronized
  subst hsz
  have hD := hD0.self (sz := s.heap.size)
  generalize hAe : va_A (wM a cy T rf sp) s.heap.size = A at hD ⊢
  have hA : ∀ q : Nat, s.heap.size ≤ q → A q := fun q h => by rw [← hAe]; exact Or.inr h
  have hS : va_S A s.heap s.heap [] := va_S.rf
  have hP : va_P G vwCl (wM a cy T rf sp) s.heap := hP
  have hin_X4 : ∀ w ∈ wsX40, w ∈ wsX4_holder := by decide +kernel
  have hl := lv_entry ([.ref (a 0)]) (n := 1) (Nat.le_of_ble_eq_true rfl)
  rw [lg_entry_eq]
  generalize (lg_sl ([.ref (a 0)]) ++ List.replicate (1 - (lg_sl ([.ref (a 0)])).length) Slot.unset).toArray = ls at hl ⊢
  have hl : lv_has ls 1 [(0, .ref (a 0))] := hl
  have hn12 : tn T ≤ 12 := hI.1.1
  have hlvn : tlv T ≤ tn T := hI.1.2.1
  refine lv_aload_n hx hb dX4_holder_0 rfl (lv_at hl 0 rfl) ?_
  refine lv_aload_n hx hb dX4_holder_1 rfl (lv_at hl 0 rfl) ?_
  refine ml_Vi (G := G) (As := []) (rest := [.ref (a 0)]) ⟨hx, hb, hml, hown, hts⟩ (c_X4_isHeld l G cy a s.heap.size T rf sp) (cwV 0 hts gX4_holder_X4_isHeld rfl rfl rfl (by decide +kernel) ⟨Nat.le_of_ble_eq_true rfl, Nat.le_of_ble_eq_true rfl⟩) (va_recv hK hP (ci := 4) (q0 := 0) rfl rfl) hP hK hD hS hN hA rfl hl.1 (Nat.le_of_ble_eq_true rfl) dX4_holder_2 ⟨Nat.le_of_ble_eq_true rfl, Nat.le_of_ble_eq_true rfl⟩ (fun r_2 u_2 H locs hw hP hD hS => ?_)
  obtain rfl : r_2 = b2i (isHeld T) := hw
  have hP : va_P G vwCl (wM a cy T rf sp) H := hP
  have hD : va_D A (wM a cy T rf sp) := hD
  refine ml_ifeqb (tgt := 15) hx hb dX4_holder_5 (by decide) (fun c_5 => ?_) (fun c_5 => ?_)
  · refine lv_iconst (v := (-1)) hx hb dX4_holder_15 (by decide) ?_
    refine ml_Vi (G := G) (As := [.int (-1)]) (rest := []) ⟨hx, hb, hml, hown, hts⟩ (c_X4_fine l G cy a H.size T rf sp (-1)) (cwV 1 hts gX4_holder_X4_fine rfl rfl rfl (by decide +kernel) ⟨Nat.le_of_ble_eq_true rfl, Nat.le_of_ble_eq_true rfl⟩) (va_recv hK hP (ci := 4) (q0 := 0) rfl rfl) hP hK hD hS hN hA rfl hl.1 (Nat.le_of_ble_eq_true rfl) dX4_holder_16 ⟨Nat.le_of_ble_eq_true rfl, Nat.le_of_ble_eq_true rfl⟩ (fun r_16 u_16 H locs hw hP hD hS => ?_)
    obtain rfl : r_16 = (-1) := hw
    have hP : va_P G vwCl (wM a cy T 0 sp) H := hP
    have hD : va_D A (wM a cy T 0 sp) := hD
    exact ml_ri () hx hb hr hlocks hP hK hD hS rfl ((ow_n c_5).symm) dX4_holder_19
  · refine lv_aload_n hx hb dX4_holder_8 rfl (lv_at hl 0 rfl) ?_
    refine va_get (D := G) (ci := 4) (v := .int (tho T)) (C := RX4) (T := TX4) (N := 16) hx hb hts hin_X4 hown hK hP 0 rfl rfl 13 (by decide) (hts (.fieldLink RX4 32 "MigrationledgerModel" "holder" "I") (by decide +kernel)) (fun _ h9 => h9) rfl dX4_holder_9 ?_
    refine lv_goto (tgt := 16) hx hb dX4_holder_12 (by decide) ?_
    refine ml_Vi (G := G) (As := [.int (tho T)]) (rest := []) ⟨hx, hb, hml, hown, hts⟩ (c_X4_fine l G cy a H.size T rf sp (tho T)) (cwV 1 hts gX4_holder_X4_fine rfl rfl rfl (by decide +kernel) ⟨Nat.le_of_ble_eq_true rfl, Nat.le_of_ble_eq_true rfl⟩) (va_recv hK hP (ci := 4) (q0 := 0) rfl rfl) hP hK hD hS hN hA rfl hl.1 (Nat.le_of_ble_eq_true rfl) dX4_holder_16 ⟨Nat.le_of_ble_eq_true rfl, Nat.le_of_ble_eq_true rfl⟩ (fun r_16 u_16 H locs hw hP hD hS => ?_)
    obtain rfl : r_16 = tho T := hw
    have hP : va_P G vwCl (wM a cy T 0 sp) H := hP
    have hD : va_D A (wM a cy T 0 sp) := hD
    exact ml_ri () hx hb hr hlocks hP hK hD hS rfl ((cif_t c_5.2).symm) dX4_holder_19
set_option maxHeartbeats 4000000 in
set_option maxRecDepth 100000 in
theorem c_X4_addChange (l : Launch) (G : va_G) (cy : Nat → ClassId) (a : Nat → Nat) (sz : Nat) (T : TS) (rf : Int32) (sp : Nat → Int64) (x : Int32) (y : Int32) (z : Int32) (hI : Inv T) : Met l yX4_addChange wsX4_addChange ({ frames := 2, cells := 0, slots := 0, locals := 45 } : Room) (ml_P G cy [.ref (a 0), .int x, .int y, .int z] (wM a cy T rf sp) sz) (va_Qi (fun (r : Int32) (u : Nat → Int64) => (sp_addChange T x y z).2.1 = r) (ml_B G cy (va_A (wM a cy T rf sp) sz) (fun (u : Nat → Int64) => (wM a cy ((sp_addChange T x y z).2.2) ((sp_addChange T x y z).1) u))) (va_A (wM a cy T rf sp) sz)) 0 0 (va_A (wM a cy T rf sp) sz) := by
  refine Met.ofW (cc := cX4_addChange) (maxL := 4) (ret := (some .int)) (by decide) rfl ?_
  intro p e s m args below meth c s₁ B hml hv
  obtain ⟨rfl, hsz, hP, hK, hD0, hN⟩ := hv
  have hx := B.exec
  have hb := B.bytes
  have hr := B.returns
  have hts := atoms_spec (ws := wsX4_addChange) B.pre
  have hown : s.vm.findClass RX4 = some m.cls := findClass_of_methodNamed B.named
  have hlocks := B.notSynchronized
  subst hsz
  have hD := hD0.self (sz := s.heap.size)
  generalize hAe : va_A (wM a cy T rf sp) s.heap.size = A at hD ⊢
  have hA : ∀ q : Nat, s.heap.size ≤ q → A q := fun q h => by rw [← hAe]; exact Or.inr h
  have hS : va_S A s.heap s.heap [] := va_S.rf
  have hP : va_P G vwCl (wM a cy T rf sp) s.heap := hP
  have hin_X4 : ∀ w ∈ wsX40, w ∈ wsX4_addChange := by decide +kernel
  have hl := lv_entry ([.ref (a 0), .int x, .int y, .int z]) (n := 4) (Nat.le_of_ble_eq_true rfl)
  rw [lg_entry_eq]
  generalize (lg_sl ([.ref (a 0), .int x, .int y, .int z]) ++ List.replicate (4 - (lg_sl ([.ref (a 0), .int x, .int y, .int z])).length) Slot.unset).toArray = ls at hl ⊢
  have hl : lv_has ls 4 [(0, .ref (a 0)), (1, .int x), (2, .int y), (3, .int z)] := hl
  have hn12 : tn T ≤ 12 := hI.1.1
  have hlvn : tlv T ≤ tn T := hI.1.2.1
  have hcu : tcu T ≤ 40 := hI.1.2.2
  have hW := hI.w
  refine lv_aload_n hx hb dX4_addChange_0 rfl (lv_at hl 0 rfl) ?_
  refine lv_iload_n hx hb dX4_addChange_1 rfl (lv_at hl 1 rfl) ?_
  refine lv_iload_n hx hb dX4_addChange_2 rfl (lv_at hl 2 rfl) ?_
  refine lv_iload_n hx hb dX4_addChange_3 rfl (lv_at hl 3 rfl) ?_
  refine ml_Si (G := G) (As := [.int x, .int y, .int z]) (rest := [.ref (a 0)]) ⟨hx, hb, hml, hown, hts⟩ (c_X4_isChange l G cy a s.heap.size T rf sp x y z) (va_cwS 3 hts gX4_addChange_X4_isChange rfl rfl rfl (by decide +kernel) ⟨Nat.le_of_ble_eq_true rfl, Nat.le_of_ble_eq_true rfl⟩) hP hK hD hS hN hA rfl hl.1 (Nat.le_of_ble_eq_true rfl) dX4_addChange_4 ⟨Nat.le_of_ble_eq_true rfl, Nat.le_of_ble_eq_true rfl⟩ (fun r_4 u_4 H locs hw hP hD hS => ?_)
  obtain rfl : r_4 = b2i (okCh x y z) := hw
  have hP : va_P G vwCl (wM a cy T rf sp) H := hP
  have hD : va_D A (wM a cy T rf sp) := hD
  refine ml_ifneb (tgt := 14) hx hb dX4_addChange_7 (by decide) (fun c_7 => ?_) (fun c_7 => ?_)
  · refine lv_aload_n hx hb dX4_addChange_14 rfl (lv_at hl 0 rfl) ?_
    refine va_get (D := G) (ci := 4) (v := .int (nI (tn T))) (C := RX4) (T := TX4) (N := 16) hx hb hts hin_X4 hown hK hP 0 rfl rfl 1 (by decide) (hts (.fieldLink RX4 55 "MigrationledgerModel" "many" "I") (by decide +kernel)) (fun _ h9 => h9) rfl dX4_addChange_15 ?_
    refine lv_bipush (v := 12) hx hb dX4_addChange_18 (by decide) ?_
    refine lv_icmp_ne (tgt := 27) hx hb dX4_addChange_20 (by decide) (fun c_20 => ?_) (fun c_20 => ?_)
    · have hlt : tn T ≠ 12 := fun q => c_20 ((n12 hn12).mpr q)
      refine lv_iconst (v := 0) hx hb dX4_addChange_27 (by decide) ?_
      refine ml_Vi (G := G) (As := [.int 0]) (rest := []) ⟨hx, hb, hml, hown, hts⟩ (c_X4_refused l G cy a H.size T rf sp 0) (cwV 1 hts gX4_addChange_X4_refused rfl rfl rfl (by decide +kernel) ⟨Nat.le_of_ble_eq_true rfl, Nat.le_of_ble_eq_true rfl⟩) (va_recv hK hP (ci := 4) (q0 := 0) rfl rfl) hP hK hD hS hN hA rfl hl.1 (Nat.le_of_ble_eq_true rfl) dX4_addChange_28 ⟨Nat.le_of_ble_eq_true rfl, Nat.le_of_ble_eq_true rfl⟩ (fun r_28 u_28 H locs hw hP hD hS => ?_)
      obtain rfl : r_28 = 0 := hw.trans (b2i_f (by decide))
      have hP : va_P G vwCl (wM a cy T 0 sp) H := hP
      have hD : va_D A (wM a cy T 0 sp) := hD
      refine lv_if_eq (tgt := 36) hx hb dX4_addChange_31 (by decide) (fun c_31 => ?_) (fun c_31 => False.elim (by revert c_31; decide))
      refine lv_aload_n hx hb dX4_addChange_36 rfl (lv_at hl 0 rfl) ?_
      refine lv_dup hx hb dX4_addChange_37 rfl ?_
      refine va_get (D := G) (ci := 4) (v := .int (nI (tn T))) (C := RX4) (T := TX4) (N := 16) hx hb hts hin_X4 hown hK hP 0 rfl rfl 1 (by decide) (hts (.fieldLink RX4 55 "MigrationledgerModel" "many" "I") (by decide +kernel)) (fun _ h9 => h9) rfl dX4_addChange_38 ?_
      refine lv_iconst (v := 1) hx hb dX4_addChange_41 (by decide) ?_
      refine lv_iadd hx hb dX4_addChange_42 ?_
      refine ml_eqi (nI (tn T + 1)) (nI_add (tn T) 1) ?_
      refine va_put (D := G) (ci := 4) (v := .int (nI (tn T + 1))) (ty := .int) (C := RX4) (T := TX4) (N := 16) hx hb hts hin_X4 tyX4 tyX4_ok nmX4 hown hK hP hD hS 0 rfl rfl 1 (by decide) (hts (.fieldLink RX4 55 "MigrationledgerModel" "many" "I") (by decide +kernel)) (fun _ h9 => h9) rfl (by decide +kernel) rfl rfl (Nat.le_of_ble_eq_true rfl) dX4_addChange_43 (fun H locs hP hD hS => ?_)
      have hP : va_P G vwCl (wM a cy (un T (tn T + 1)) 0 sp) H := hP
      have hD : va_D A (wM a cy (un T (tn T + 1)) 0 sp) := hD
      refine lv_aload_n hx hb dX4_addChange_46 rfl (lv_at hl 0 rfl) ?_
      refine lv_aload_n hx hb dX4_addChange_47 rfl (lv_at hl 0 rfl) ?_
      refine va_get (D := G) (ci := 4) (v := .int (nI (tn T + 1))) (C := RX4) (T := TX4) (N := 16) hx hb hts hin_X4 hown hK hP 0 rfl rfl 1 (by decide) (hts (.fieldLink RX4 55 "MigrationledgerModel" "many" "I") (by decide +kernel)) (fun _ h9 => h9) rfl dX4_addChange_48 ?_
      refine lv_iload_n hx hb dX4_addChange_51 rfl (lv_at hl 1 rfl) ?_
      refine lv_iload_n hx hb dX4_addChange_52 rfl (lv_at hl 2 rfl) ?_
      refine lv_iload_n hx hb dX4_addChange_53 rfl (lv_at hl 3 rfl) ?_
      refine ml_Vv (G := G) (As := [.int (nI (tn T + 1)), .int x, .int y, .int z]) (rest := []) ⟨hx, hb, hml, hown, hts⟩ (c_X4_put l G cy a H.size (un T (tn T + 1)) 0 sp (tn T + 1) (by omega) x y z) (cwV 4 hts gX4_addChange_X4_put rfl rfl rfl (by decide +kernel) ⟨Nat.le_of_ble_eq_true rfl, Nat.le_of_ble_eq_true rfl⟩) (va_recv hK hP (ci := 4) (q0 := 0) rfl rfl) hP hK hD hS hN hA rfl hl.1 (Nat.le_of_ble_eq_true rfl) dX4_addChange_54 ⟨Nat.le_of_ble_eq_true rfl, Nat.le_of_ble_eq_true rfl⟩ (fun u_54 H locs hw hP hD hS => ?_)
      have hP : va_P G vwCl (wM a cy (putC (un T (tn T + 1)) (tn T + 1) x y z) 0 sp) H := hP
      have hD : va_D A (wM a cy (putC (un T (tn T + 1)) (tn T + 1) x y z) 0 sp) := hD
      refine lv_aload_n hx hb dX4_addChange_57 rfl (lv_at hl 0 rfl) ?_
      refine va_get (D := G) (ci := 4) (v := .int (nI (tn (putC (un T (tn T + 1)) (tn T + 1) x y z)))) (C := RX4) (T := TX4) (N := 16) hx hb hts hin_X4 hown hK hP 0 rfl rfl 1 (by decide) (hts (.fieldLink RX4 55 "MigrationledgerModel" "many" "I") (by decide +kernel)) (fun _ h9 => h9) rfl dX4_addChange_58 ?_
      exact ml_ri sp hx hb hr hlocks hP hK hD hS (by rw [(show sp_addChange T x y z = (0, nI (tn (putC (un T (tn T + 1)) (tn T + 1) x y z)), putC (un T (tn T + 1)) (tn T + 1) x y z) from by unfold sp_addChange; rw [cif_f (not_not_intro c_7), cif_f (fun q => c_20 ((n12 hn12).mpr q) : ¬ tn T = 12)] <;> rfl)]) (by rw [(show sp_addChange T x y z = (0, nI (tn (putC (un T (tn T + 1)) (tn T + 1) x y z)), putC (un T (tn T + 1)) (tn T + 1) x y z) from by unfold sp_addChange; rw [cif_f (not_not_intro c_7), cif_f (fun q => c_20 ((n12 hn12).mpr q) : ¬ tn T = 12)] <;> rfl)]) dX4_addChange_61
    · refine lv_iconst (v := 2) hx hb dX4_addChange_23 (by decide) ?_
      refine lv_goto (tgt := 28) hx hb dX4_addChange_24 (by decide) ?_
      refine ml_Vi (G := G) (As := [.int 2]) (rest := []) ⟨hx, hb, hml, hown, hts⟩ (c_X4_refused l G cy a H.size T rf sp 2) (cwV 1 hts gX4_addChange_X4_refused rfl rfl rfl (by decide +kernel) ⟨Nat.le_of_ble_eq_true rfl, Nat.le_of_ble_eq_true rfl⟩) (va_recv hK hP (ci := 4) (q0 := 0) rfl rfl) hP hK hD hS hN hA rfl hl.1 (Nat.le_of_ble_eq_true rfl) dX4_addChange_28 ⟨Nat.le_of_ble_eq_true rfl, Nat.le_of_ble_eq_true rfl⟩ (fun r_28 u_28 H locs hw hP hD hS => ?_)
      obtain rfl : r_28 = 1 := hw.trans (b2i_t (by decide))
      have hP : va_P G vwCl (wM a cy T 2 sp) H := hP
      have hD : va_D A (wM a cy T 2 sp) := hD
      refine lv_if_eq (tgt := 36) hx hb dX4_addChange_31 (by decide) (fun c_31 => False.elim (by revert c_31; decide)) (fun c_31 => ?_)
      refine lv_iconst (v := 0) hx hb dX4_addChange_34 (by decide) ?_
      exact ml_ri sp hx hb hr hlocks hP hK hD hS (by rw [(show sp_addChange T x y z = (2, 0, T) from by unfold sp_addChange; rw [cif_f (not_not_intro c_7), cif_t ((n12 hn12).mp c_20)] <;> rfl)]) (by rw [(show sp_addChange T x y z = (2, 0, T) from by unfold sp_addChange; rw [cif_f (not_not_intro c_7), cif_t ((n12 hn12).mp c_20)] <;> rfl)]) dX4_addChange_35
  · refine lv_iconst (v := 1) hx hb dX4_addChange_10 (by decide) ?_
    refine lv_goto (tgt := 28) hx hb dX4_addChange_11 (by decide) ?_
    refine ml_Vi (G := G) (As := [.int 1]) (rest := []) ⟨hx, hb, hml, hown, hts⟩ (c_X4_refused l G cy a H.size T rf sp 1) (cwV 1 hts gX4_addChange_X4_refused rfl rfl rfl (by decide +kernel) ⟨Nat.le_of_ble_eq_true rfl, Nat.le_of_ble_eq_true rfl⟩) (va_recv hK hP (ci := 4) (q0 := 0) rfl rfl) hP hK hD hS hN hA rfl hl.1 (Nat.le_of_ble_eq_true rfl) dX4_addChange_28 ⟨Nat.le_of_ble_eq_true rfl, Nat.le_of_ble_eq_true rfl⟩ (fun r_28 u_28 H locs hw hP hD hS => ?_)
    obtain rfl : r_28 = 1 := hw.trans (b2i_t (by decide))
    have hP : va_P G vwCl (wM a cy T 1 sp) H := hP
    have hD : va_D A (wM a cy T 1 sp) := hD
    refine lv_if_eq (tgt := 36) hx hb dX4_addChange_31 (by decide) (fun c_31 => False.elim (by revert c_31; decide)) (fun c_31 => ?_)
    refine lv_iconst (v := 0) hx hb dX4_addChange_34 (by decide) ?_
    exact ml_ri sp hx hb hr hlocks hP hK hD hS (by rw [(show sp_addChange T x y z = (1, 0, T) from by unfold sp_addChange; rw [cif_t c_7] <;> rfl)]) (by rw [(show sp_addChange T x y z = (1, 0, T) from by unfold sp_addChange; rw [cif_t c_7] <;> rfl)]) dX4_addChange_35
set_option maxHeartbeats 4000000 in
set_option maxRecDepth 100000 in
theorem c_X4_edit (l : Launch) (G : va_G) (cy : Nat → ClassId) (a : Nat → Nat) (sz : Nat) (T : TS) (rf : Int32) (sp : Nat → Int64) (h : Int32) (x : Int32) (y : Int32) (z : Int32) (hI : Inv T) : Met l yX4_edit wsX4_edit ({ frames := 2, cells := 0, slots := 0, locals := 45 } : Room) (ml_P G cy [.ref (a 0), .int h, .int x, .int y, .int z] (wM a cy T rf sp) sz) (va_Qi (fun (r : Int32) (u : Nat → Int64) => (sp_edit T h x y z).2.1 = r) (ml_B G cy (va_A (wM a cy T rf sp) sz) (fun (u : Nat → Int64) => (wM a cy ((sp_edit T h x y z).2.2) ((sp_edit T h x y z).1) u))) (va_A (wM a cy T rf sp) sz)) 0 0 (va_A (wM a cy T rf sp) sz) := by
  refine Met.ofW (cc := cX4_edit) (maxL := 6) (ret := (some .int)) (by decide) rfl ?_
  intro p e s m args below meth c s₁ B hml hv
  obtain ⟨rfl, hsz, hP, hK, hD0, hN⟩ := hv
  have hx := B.exec
  have hb := B.bytes
  have hr := B.returns
  have hts := atoms_spec (ws := wsX4_edit) B.pre
  have hown : s.vm.findClass RX4 = some m.cls := findClass_of_methodNamed B.named
  have hlocks := B.notSynchronized
  subst hsz
  have hD := hD0.self (sz := s.heap.size)
  generalize hAe : va_A (wM a cy T rf sp) s.heap.size = A at hD ⊢
  have hA : ∀ q : Nat, s.heap.size ≤ q → A q := fun q h => by rw [← hAe]; exact Or.inr h
  have hS : va_S A s.heap s.heap [] := va_S.rf
  have hP : va_P G vwCl (wM a cy T rf sp) s.heap := hP
  have hin_X4 : ∀ w ∈ wsX40, w ∈ wsX4_edit := by decide +kernel
  have hl := lv_entry ([.ref (a 0), .int h, .int x, .int y, .int z]) (n := 6) (Nat.le_of_ble_eq_true rfl)
  rw [lg_entry_eq]
  generalize (lg_sl ([.ref (a 0), .int h, .int x, .int y, .int z]) ++ List.replicate (6 - (lg_sl ([.ref (a 0), .int h, .int x, .int y, .int z])).length) Slot.unset).toArray = ls at hl ⊢
  have hl : lv_has ls 6 [(0, .ref (a 0)), (1, .int h), (2, .int x), (3, .int y), (4, .int z)] := hl
  have hn12 : tn T ≤ 12 := hI.1.1
  have hlvn : tlv T ≤ tn T := hI.1.2.1
  have hcu : tcu T ≤ 40 := hI.1.2.2
  have hW := hI.w
  refine lv_iload_n hx hb dX4_edit_0 rfl (lv_at hl 2 rfl) ?_
  refine lv_iload_n hx hb dX4_edit_1 rfl (lv_at hl 3 rfl) ?_
  refine lv_iload hx hb dX4_edit_2 (lv_at hl 4 rfl) ?_
  refine ml_Si (G := G) (As := [.int x, .int y, .int z]) (rest := []) ⟨hx, hb, hml, hown, hts⟩ (c_X4_isChange l G cy a s.heap.size T rf sp x y z) (va_cwS 3 hts gX4_edit_X4_isChange rfl rfl rfl (by decide +kernel) ⟨Nat.le_of_ble_eq_true rfl, Nat.le_of_ble_eq_true rfl⟩) hP hK hD hS hN hA rfl hl.1 (Nat.le_of_ble_eq_true rfl) dX4_edit_4 ⟨Nat.le_of_ble_eq_true rfl, Nat.le_of_ble_eq_true rfl⟩ (fun r_4 u_4 H locs hw hP hD hS => ?_)
  obtain rfl : r_4 = b2i (okCh x y z) := hw
  have hP : va_P G vwCl (wM a cy T rf sp) H := hP
  have hD : va_D A (wM a cy T rf sp) := hD
  refine lv_istore (lv' := [(5, .int (b2i (okCh x y z))), (0, .ref (a 0)), (1, .int h), (2, .int x), (3, .int y), (4, .int z)]) hx hb dX4_edit_7 hl (by decide) rfl (fun ls hl => ?_)
  refine lv_aload_n hx hb dX4_edit_9 rfl (lv_at hl 1 rfl) ?_
  refine lv_iload hx hb dX4_edit_10 (lv_at hl 0 rfl) ?_
  refine ml_ifneb (tgt := 19) hx hb dX4_edit_12 (by decide) (fun c_12 => ?_) (fun c_12 => ?_)
  · refine lv_iload_n hx hb dX4_edit_19 rfl (lv_at hl 2 rfl) ?_
    refine lv_iconst (v := 1) hx hb dX4_edit_20 (by decide) ?_
    refine lv_aload_n hx hb dX4_edit_21 rfl (lv_at hl 1 rfl) ?_
    refine va_get (D := G) (ci := 4) (v := .int (nI (tn T))) (C := RX4) (T := TX4) (N := 16) hx hb hts hin_X4 hown hK hP 0 rfl rfl 1 (by decide) (hts (.fieldLink RX4 55 "MigrationledgerModel" "many" "I") (by decide +kernel)) (fun _ h9 => h9) rfl dX4_edit_22 ?_
    refine ml_Si (G := G) (As := [.int h, .int 1, .int (nI (tn T))]) (rest := [.ref (a 0)]) ⟨hx, hb, hml, hown, hts⟩ (c_X4_in l G cy a H.size T rf sp h 1 (nI (tn T))) (va_cwS 3 hts gX4_edit_X4_in rfl rfl rfl (by decide +kernel) ⟨Nat.le_of_ble_eq_true rfl, Nat.le_of_ble_eq_true rfl⟩) hP hK hD hS hN hA rfl hl.1 (Nat.le_of_ble_eq_true rfl) dX4_edit_25 ⟨Nat.le_of_ble_eq_true rfl, Nat.le_of_ble_eq_true rfl⟩ (fun r_25 u_25 H locs hw hP hD hS => ?_)
    obtain rfl : r_25 = b2i (inR h 1 (nI (tn T))) := hw
    have hP : va_P G vwCl (wM a cy T rf sp) H := hP
    have hD : va_D A (wM a cy T rf sp) := hD
    refine ml_ifneb (tgt := 35) hx hb dX4_edit_28 (by decide) (fun c_28 => ?_) (fun c_28 => ?_)
    · obtain ⟨k, hk, rfl⟩ := inR_1 (by omega) c_28
      refine lv_aload_n hx hb dX4_edit_35 rfl (lv_at hl 1 rfl) ?_
      refine lv_iload_n hx hb dX4_edit_36 rfl (lv_at hl 2 rfl) ?_
      refine ml_Vi (G := G) (As := [.int (nI (k + 1))]) (rest := [.ref (a 0)]) ⟨hx, hb, hml, hown, hts⟩ (c_X4_stateOf l G cy a H.size T rf sp (nI (k + 1))) (cwV 1 hts gX4_edit_X4_stateOf rfl rfl rfl (by decide +kernel) ⟨Nat.le_of_ble_eq_true rfl, Nat.le_of_ble_eq_true rfl⟩) (va_recv hK hP (ci := 4) (q0 := 0) rfl rfl) hP hK hD hS hN hA rfl hl.1 (Nat.le_of_ble_eq_true rfl) dX4_edit_37 ⟨Nat.le_of_ble_eq_true rfl, Nat.le_of_ble_eq_true rfl⟩ (fun r_37 u_37 H locs hw hP hD hS => ?_)
      obtain rfl : r_37 = stOf T (nI (k + 1)) := hw
      have hP : va_P G vwCl (wM a cy T rf sp) H := hP
      have hD : va_D A (wM a cy T rf sp) := hD
      refine lv_iconst (v := 2) hx hb dX4_edit_40 (by decide) ?_
      refine lv_irem hx hb dX4_edit_41 (by decide) ?_
      refine lv_iconst (v := 1) hx hb dX4_edit_42 (by decide) ?_
      refine lv_icmp_ne (tgt := 50) hx hb dX4_edit_43 (by decide) (fun c_43 => ?_) (fun c_43 => ?_)
      · refine lv_iconst (v := 0) hx hb dX4_edit_50 (by decide) ?_
        refine ml_Vi (G := G) (As := [.int 0]) (rest := []) ⟨hx, hb, hml, hown, hts⟩ (c_X4_refused l G cy a H.size T rf sp 0) (cwV 1 hts gX4_edit_X4_refused rfl rfl rfl (by decide +kernel) ⟨Nat.le_of_ble_eq_true rfl, Nat.le_of_ble_eq_true rfl⟩) (va_recv hK hP (ci := 4) (q0 := 0) rfl rfl) hP hK hD hS hN hA rfl hl.1 (Nat.le_of_ble_eq_true rfl) dX4_edit_51 ⟨Nat.le_of_ble_eq_true rfl, Nat.le_of_ble_eq_true rfl⟩ (fun r_51 u_51 H locs hw hP hD hS => ?_)
        obtain rfl : r_51 = 0 := hw.trans (b2i_f (by decide))
        have hP : va_P G vwCl (wM a cy T 0 sp) H := hP
        have hD : va_D A (wM a cy T 0 sp) := hD
        refine lv_if_eq (tgt := 59) hx hb dX4_edit_54 (by decide) (fun c_54 => ?_) (fun c_54 => False.elim (by revert c_54; decide))
        refine lv_aload_n hx hb dX4_edit_59 rfl (lv_at hl 1 rfl) ?_
        refine lv_iload_n hx hb dX4_edit_60 rfl (lv_at hl 2 rfl) ?_
        refine lv_iload_n hx hb dX4_edit_61 rfl (lv_at hl 3 rfl) ?_
        refine lv_iload_n hx hb dX4_edit_62 rfl (lv_at hl 4 rfl) ?_
        refine lv_iload hx hb dX4_edit_63 (lv_at hl 5 rfl) ?_
        refine ml_Vv (G := G) (As := [.int (nI (k + 1)), .int x, .int y, .int z]) (rest := []) ⟨hx, hb, hml, hown, hts⟩ (c_X4_put l G cy a H.size T 0 sp (k + 1) (by omega) x y z) (cwV 4 hts gX4_edit_X4_put rfl rfl rfl (by decide +kernel) ⟨Nat.le_of_ble_eq_true rfl, Nat.le_of_ble_eq_true rfl⟩) (va_recv hK hP (ci := 4) (q0 := 0) rfl rfl) hP hK hD hS hN hA rfl hl.1 (Nat.le_of_ble_eq_true rfl) dX4_edit_65 ⟨Nat.le_of_ble_eq_true rfl, Nat.le_of_ble_eq_true rfl⟩ (fun u_65 H locs hw hP hD hS => ?_)
        have hP : va_P G vwCl (wM a cy (putC T (k + 1) x y z) 0 sp) H := hP
        have hD : va_D A (wM a cy (putC T (k + 1) x y z) 0 sp) := hD
        refine lv_aload_n hx hb dX4_edit_68 rfl (lv_at hl 1 rfl) ?_
        refine lv_iload_n hx hb dX4_edit_69 rfl (lv_at hl 2 rfl) ?_
        refine ml_Vi (G := G) (As := [.int (nI (k + 1))]) (rest := []) ⟨hx, hb, hml, hown, hts⟩ (c_X4_sumOf l G cy a H.size (putC T (k + 1) x y z) 0 sp (k + 1) (by omega)) (cwV 1 hts gX4_edit_X4_sumOf rfl rfl rfl (by decide +kernel) ⟨Nat.le_of_ble_eq_true rfl, Nat.le_of_ble_eq_true rfl⟩) (va_recv hK hP (ci := 4) (q0 := 0) rfl rfl) hP hK hD hS hN hA rfl hl.1 (Nat.le_of_ble_eq_true rfl) dX4_edit_70 ⟨Nat.le_of_ble_eq_true rfl, Nat.le_of_ble_eq_true rfl⟩ (fun r_70 u_70 H locs hw hP hD hS => ?_)
        obtain rfl : r_70 = sumOf (putC T (k + 1) x y z) (k + 1) := hw
        have hP : va_P G vwCl (wM a cy (putC T (k + 1) x y z) 0 sp) H := hP
        have hD : va_D A (wM a cy (putC T (k + 1) x y z) 0 sp) := hD
        exact ml_ri sp hx hb hr hlocks hP hK hD hS (by rw [(show sp_edit T (nI (k + 1)) x y z = (0, sumOf (putC T (k + 1) x y z) (k + 1), putC T (k + 1) x y z) from by unfold sp_edit; rw [cif_f (not_not_intro c_12), cif_f (not_not_intro c_28), cif_f (fun q => c_43 ((st_odd hW).mpr q) : ¬ (tac T ≠ 0 ∧ nI (k + 1) = nI (tlv T + 1))), ix_n (j := k + 1) (by omega)] <;> rfl)]) (by rw [(show sp_edit T (nI (k + 1)) x y z = (0, sumOf (putC T (k + 1) x y z) (k + 1), putC T (k + 1) x y z) from by unfold sp_edit; rw [cif_f (not_not_intro c_12), cif_f (not_not_intro c_28), cif_f (fun q => c_43 ((st_odd hW).mpr q) : ¬ (tac T ≠ 0 ∧ nI (k + 1) = nI (tlv T + 1))), ix_n (j := k + 1) (by omega)] <;> rfl)]) dX4_edit_73
      · refine lv_iconst (v := 3) hx hb dX4_edit_46 (by decide) ?_
        refine lv_goto (tgt := 51) hx hb dX4_edit_47 (by decide) ?_
        refine ml_Vi (G := G) (As := [.int 3]) (rest := []) ⟨hx, hb, hml, hown, hts⟩ (c_X4_refused l G cy a H.size T rf sp 3) (cwV 1 hts gX4_edit_X4_refused rfl rfl rfl (by decide +kernel) ⟨Nat.le_of_ble_eq_true rfl, Nat.le_of_ble_eq_true rfl⟩) (va_recv hK hP (ci := 4) (q0 := 0) rfl rfl) hP hK hD hS hN hA rfl hl.1 (Nat.le_of_ble_eq_true rfl) dX4_edit_51 ⟨Nat.le_of_ble_eq_true rfl, Nat.le_of_ble_eq_true rfl⟩ (fun r_51 u_51 H locs hw hP hD hS => ?_)
        obtain rfl : r_51 = 1 := hw.trans (b2i_t (by decide))
        have hP : va_P G vwCl (wM a cy T 3 sp) H := hP
        have hD : va_D A (wM a cy T 3 sp) := hD
        refine lv_if_eq (tgt := 59) hx hb dX4_edit_54 (by decide) (fun c_54 => False.elim (by revert c_54; decide)) (fun c_54 => ?_)
        refine lv_iconst (v := 0) hx hb dX4_edit_57 (by decide) ?_
        exact ml_ri sp hx hb hr hlocks hP hK hD hS (by rw [(show sp_edit T (nI (k + 1)) x y z = (3, 0, T) from by unfold sp_edit; rw [cif_f (not_not_intro c_12), cif_f (not_not_intro c_28), cif_t ((st_odd hW).mp c_43)] <;> rfl)]) (by rw [(show sp_edit T (nI (k + 1)) x y z = (3, 0, T) from by unfold sp_edit; rw [cif_f (not_not_intro c_12), cif_f (not_not_intro c_28), cif_t ((st_odd hW).mp c_43)] <;> rfl)]) dX4_edit_58
    · refine lv_iconst (v := 2) hx hb dX4_edit_31 (by decide) ?_
      refine lv_goto (tgt := 51) hx hb dX4_edit_32 (by decide) ?_
      refine ml_Vi (G := G) (As := [.int 2]) (rest := []) ⟨hx, hb, hml, hown, hts⟩ (c_X4_refused l G cy a H.size T rf sp 2) (cwV 1 hts gX4_edit_X4_refused rfl rfl rfl (by decide +kernel) ⟨Nat.le_of_ble_eq_true rfl, Nat.le_of_ble_eq_true rfl⟩) (va_recv hK hP (ci := 4) (q0 := 0) rfl rfl) hP hK hD hS hN hA rfl hl.1 (Nat.le_of_ble_eq_true rfl) dX4_edit_51 ⟨Nat.le_of_ble_eq_true rfl, Nat.le_of_ble_eq_true rfl⟩ (fun r_51 u_51 H locs hw hP hD hS => ?_)
      obtain rfl : r_51 = 1 := hw.trans (b2i_t (by decide))
      have hP : va_P G vwCl (wM a cy T 2 sp) H := hP
      have hD : va_D A (wM a cy T 2 sp) := hD
      refine lv_if_eq (tgt := 59) hx hb dX4_edit_54 (by decide) (fun c_54 => False.elim (by revert c_54; decide)) (fun c_54 => ?_)
      refine lv_iconst (v := 0) hx hb dX4_edit_57 (by decide) ?_
      exact ml_ri sp hx hb hr hlocks hP hK hD hS (by rw [(show sp_edit T h x y z = (2, 0, T) from by unfold sp_edit; rw [cif_f (not_not_intro c_12), cif_t c_28] <;> rfl)]) (by rw [(show sp_edit T h x y z = (2, 0, T) from by unfold sp_edit; rw [cif_f (not_not_intro c_12), cif_t c_28] <;> rfl)]) dX4_edit_58
  · refine lv_iconst (v := 1) hx hb dX4_edit_15 (by decide) ?_
    refine lv_goto (tgt := 51) hx hb dX4_edit_16 (by decide) ?_
    refine ml_Vi (G := G) (As := [.int 1]) (rest := []) ⟨hx, hb, hml, hown, hts⟩ (c_X4_refused l G cy a H.size T rf sp 1) (cwV 1 hts gX4_edit_X4_refused rfl rfl rfl (by decide +kernel) ⟨Nat.le_of_ble_eq_true rfl, Nat.le_of_ble_eq_true rfl⟩) (va_recv hK hP (ci := 4) (q0 := 0) rfl rfl) hP hK hD hS hN hA rfl hl.1 (Nat.le_of_ble_eq_true rfl) dX4_edit_51 ⟨Nat.le_of_ble_eq_true rfl, Nat.le_of_ble_eq_true rfl⟩ (fun r_51 u_51 H locs hw hP hD hS => ?_)
    obtain rfl : r_51 = 1 := hw.trans (b2i_t (by decide))
    have hP : va_P G vwCl (wM a cy T 1 sp) H := hP
    have hD : va_D A (wM a cy T 1 sp) := hD
    refine lv_if_eq (tgt := 59) hx hb dX4_edit_54 (by decide) (fun c_54 => False.elim (by revert c_54; decide)) (fun c_54 => ?_)
    refine lv_iconst (v := 0) hx hb dX4_edit_57 (by decide) ?_
    exact ml_ri sp hx hb hr hlocks hP hK hD hS (by rw [(show sp_edit T h x y z = (1, 0, T) from by unfold sp_edit; rw [cif_t c_12] <;> rfl)]) (by rw [(show sp_edit T h x y z = (1, 0, T) from by unfold sp_edit; rw [cif_t c_12] <;> rfl)]) dX4_edit_58
set_option maxHeartbeats 4000000 in
set_option maxRecDepth 100000 in
theorem c_X4_checksum (l : Launch) (G : va_G) (cy : Nat → ClassId) (a : Nat → Nat) (sz : Nat) (T : TS) (rf : Int32) (sp : Nat → Int64) (h : Int32) (hI : Inv T) : Met l yX4_checksum wsX4_checksum ({ frames := 1, cells := 0, slots := 0, locals := 22 } : Room) (ml_P G cy [.ref (a 0), .int h] (wM a cy T rf sp) sz) (va_Qi (fun (r : Int32) (u : Nat → Int64) => (sp_checksum T h).2.1 = r) (ml_B G cy (va_A (wM a cy T rf sp) sz) (fun (u : Nat → Int64) => (wM a cy ((sp_checksum T h).2.2) ((sp_checksum T h).1) u))) (va_A (wM a cy T rf sp) sz)) 0 0 (va_A (wM a cy T rf sp) sz) := by
  refine Met.ofW (cc := cX4_checksum) (maxL := 2) (ret := (some .int)) (by decide) rfl ?_
  intro p e s m args below meth c s₁ B hml hv
  obtain ⟨rfl, hsz, hP, hK, hD0, hN⟩ := hv
  have hx := B.exec
  have hb := B.bytes
  have hr := B.returns
  have hts := atoms_spec (ws := wsX4_checksum) B.pre
  have hown : s.vm.findClass RX4 = some m.cls := findClass_of_methodNamed B.named
  have hlocks := B.notSynchronized
  subst hsz
  have hD := hD0.self (sz := s.heap.size)
  generalize hAe : va_A (wM a cy T rf sp) s.heap.size = A at hD ⊢
  have hA : ∀ q : Nat, s.heap.size ≤ q → A q := fun q h => by rw [← hAe]; exact Or.inr h
  have hS : va_S A s.heap s.heap [] := va_S.rf
  have hP : va_P G vwCl (wM a cy T rf sp) s.heap := hP
  have hin_X4 : ∀ w ∈ wsX40, w ∈ wsX4_checksum := by decide +kernel
  have hl := lv_entry ([.ref (a 0), .int h]) (n := 2) (Nat.le_of_ble_eq_true rfl)
  rw [lg_entry_eq]
  generalize (lg_sl ([.ref (a 0), .int h]) ++ List.replicate (2 - (lg_sl ([.ref (a 0), .int h])).length) Slot.unset).toArray = ls at hl ⊢
  have hl : lv_has ls 2 [(0, .ref (a 0)), (1, .int h)] := hl
  have hn12 : tn T ≤ 12 := hI.1.1
  have hlvn : tlv T ≤ tn T := hI.1.2.1
  have hcu : tcu T ≤ 40 := hI.1.2.2
  have hW := hI.w
  refine lv_aload_n hx hb dX4_checksum_0 rfl (lv_at hl 0 rfl) ?_
  refine lv_iload_n hx hb dX4_checksum_1 rfl (lv_at hl 1 rfl) ?_
  refine lv_iconst (v := 1) hx hb dX4_checksum_2 (by decide) ?_
  refine lv_aload_n hx hb dX4_checksum_3 rfl (lv_at hl 0 rfl) ?_
  refine va_get (D := G) (ci := 4) (v := .int (nI (tn T))) (C := RX4) (T := TX4) (N := 16) hx hb hts hin_X4 hown hK hP 0 rfl rfl 1 (by decide) (hts (.fieldLink RX4 55 "MigrationledgerModel" "many" "I") (by decide +kernel)) (fun _ h9 => h9) rfl dX4_checksum_4 ?_
  refine ml_Si (G := G) (As := [.int h, .int 1, .int (nI (tn T))]) (rest := [.ref (a 0)]) ⟨hx, hb, hml, hown, hts⟩ (c_X4_in l G cy a s.heap.size T rf sp h 1 (nI (tn T))) (va_cwS 3 hts gX4_checksum_X4_in rfl rfl rfl (by decide +kernel) ⟨Nat.le_of_ble_eq_true rfl, Nat.le_of_ble_eq_true rfl⟩) hP hK hD hS hN hA rfl hl.1 (Nat.le_of_ble_eq_true rfl) dX4_checksum_7 ⟨Nat.le_of_ble_eq_true rfl, Nat.le_of_ble_eq_true rfl⟩ (fun r_7 u_7 H locs hw hP hD hS => ?_)
  obtain rfl : r_7 = b2i (inR h 1 (nI (tn T))) := hw
  have hP : va_P G vwCl (wM a cy T rf sp) H := hP
  have hD : va_D A (wM a cy T rf sp) := hD
  refine ml_ifeqb (tgt := 17) hx hb dX4_checksum_10 (by decide) (fun c_10 => ?_) (fun c_10 => ?_)
  · refine lv_iconst (v := 1) hx hb dX4_checksum_17 (by decide) ?_
    refine ml_Vi (G := G) (As := [.int 1]) (rest := []) ⟨hx, hb, hml, hown, hts⟩ (c_X4_refused l G cy a H.size T rf sp 1) (cwV 1 hts gX4_checksum_X4_refused rfl rfl rfl (by decide +kernel) ⟨Nat.le_of_ble_eq_true rfl, Nat.le_of_ble_eq_true rfl⟩) (va_recv hK hP (ci := 4) (q0 := 0) rfl rfl) hP hK hD hS hN hA rfl hl.1 (Nat.le_of_ble_eq_true rfl) dX4_checksum_18 ⟨Nat.le_of_ble_eq_true rfl, Nat.le_of_ble_eq_true rfl⟩ (fun r_18 u_18 H locs hw hP hD hS => ?_)
    obtain rfl : r_18 = 1 := hw.trans (b2i_t (by decide))
    have hP : va_P G vwCl (wM a cy T 1 sp) H := hP
    have hD : va_D A (wM a cy T 1 sp) := hD
    refine lv_if_eq (tgt := 28) hx hb dX4_checksum_21 (by decide) (fun c_21 => False.elim (by revert c_21; decide)) (fun c_21 => ?_)
    refine lv_iconst (v := 0) hx hb dX4_checksum_24 (by decide) ?_
    refine lv_goto (tgt := 33) hx hb dX4_checksum_25 (by decide) ?_
    exact ml_ri sp hx hb hr hlocks hP hK hD hS (by rw [(show sp_checksum T h = (1, 0, T) from by unfold sp_checksum; rw [cif_t c_10] <;> rfl)]) (by rw [(show sp_checksum T h = (1, 0, T) from by unfold sp_checksum; rw [cif_t c_10] <;> rfl)]) dX4_checksum_33
  · obtain ⟨k, hk, rfl⟩ := inR_1 (by omega) c_10
    refine lv_iconst (v := 0) hx hb dX4_checksum_13 (by decide) ?_
    refine lv_goto (tgt := 18) hx hb dX4_checksum_14 (by decide) ?_
    refine ml_Vi (G := G) (As := [.int 0]) (rest := []) ⟨hx, hb, hml, hown, hts⟩ (c_X4_refused l G cy a H.size T rf sp 0) (cwV 1 hts gX4_checksum_X4_refused rfl rfl rfl (by decide +kernel) ⟨Nat.le_of_ble_eq_true rfl, Nat.le_of_ble_eq_true rfl⟩) (va_recv hK hP (ci := 4) (q0 := 0) rfl rfl) hP hK hD hS hN hA rfl hl.1 (Nat.le_of_ble_eq_true rfl) dX4_checksum_18 ⟨Nat.le_of_ble_eq_true rfl, Nat.le_of_ble_eq_true rfl⟩ (fun r_18 u_18 H locs hw hP hD hS => ?_)
    obtain rfl : r_18 = 0 := hw.trans (b2i_f (by decide))
    have hP : va_P G vwCl (wM a cy T 0 sp) H := hP
    have hD : va_D A (wM a cy T 0 sp) := hD
    refine lv_if_eq (tgt := 28) hx hb dX4_checksum_21 (by decide) (fun c_21 => ?_) (fun c_21 => False.elim (by revert c_21; decide))
    refine lv_aload_n hx hb dX4_checksum_28 rfl (lv_at hl 0 rfl) ?_
    refine lv_iload_n hx hb dX4_checksum_29 rfl (lv_at hl 1 rfl) ?_
    refine ml_Vi (G := G) (As := [.int (nI (k + 1))]) (rest := []) ⟨hx, hb, hml, hown, hts⟩ (c_X4_sumOf l G cy a H.size T 0 sp (k + 1) (by omega)) (cwV 1 hts gX4_checksum_X4_sumOf rfl rfl rfl (by decide +kernel) ⟨Nat.le_of_ble_eq_true rfl, Nat.le_of_ble_eq_true rfl⟩) (va_recv hK hP (ci := 4) (q0 := 0) rfl rfl) hP hK hD hS hN hA rfl hl.1 (Nat.le_of_ble_eq_true rfl) dX4_checksum_30 ⟨Nat.le_of_ble_eq_true rfl, Nat.le_of_ble_eq_true rfl⟩ (fun r_30 u_30 H locs hw hP hD hS => ?_)
    obtain rfl : r_30 = sumOf T (k + 1) := hw
    have hP : va_P G vwCl (wM a cy T 0 sp) H := hP
    have hD : va_D A (wM a cy T 0 sp) := hD
    exact ml_ri sp hx hb hr hlocks hP hK hD hS (by rw [(show sp_checksum T (nI (k + 1)) = (0, sumOf T (k + 1), T) from by unfold sp_checksum; rw [cif_f (not_not_intro c_10), ix_n (j := k + 1) (by omega)] <;> rfl)]) (by rw [(show sp_checksum T (nI (k + 1)) = (0, sumOf T (k + 1), T) from by unfold sp_checksum; rw [cif_f (not_not_intro c_10), ix_n (j := k + 1) (by omega)] <;> rfl)]) dX4_checksum_33
set_option maxHeartbeats 4000000 in
set_option maxRecDepth 100000 in
theorem c_X4_state (l : Launch) (G : va_G) (cy : Nat → ClassId) (a : Nat → Nat) (sz : Nat) (T : TS) (rf : Int32) (sp : Nat → Int64) (h : Int32) (hI : Inv T) : Met l yX4_state wsX4_state ({ frames := 1, cells := 0, slots := 0, locals := 22 } : Room) (ml_P G cy [.ref (a 0), .int h] (wM a cy T rf sp) sz) (va_Qi (fun (r : Int32) (u : Nat → Int64) => (sp_state T h).2.1 = r) (ml_B G cy (va_A (wM a cy T rf sp) sz) (fun (u : Nat → Int64) => (wM a cy ((sp_state T h).2.2) ((sp_state T h).1) u))) (va_A (wM a cy T rf sp) sz)) 0 0 (va_A (wM a cy T rf sp) sz) := by
  refine Met.ofW (cc := cX4_state) (maxL := 2) (ret := (some .int)) (by decide) rfl ?_
  intro p e s m args below meth c s₁ B hml hv
  obtain ⟨rfl, hsz, hP, hK, hD0, hN⟩ := hv
  have hx := B.exec
  have hb := B.bytes
  have hr := B.returns
  have hts := atoms_spec (ws := wsX4_state) B.pre
  have hown : s.vm.findClass RX4 = some m.cls := findClass_of_methodNamed B.named
  have hlocks := B.notSynchronized
  subst hsz
  have hD := hD0.self (sz := s.heap.size)
  generalize hAe : va_A (wM a cy T rf sp) s.heap.size = A at hD ⊢
  have hA : ∀ q : Nat, s.heap.size ≤ q → A q := fun q h => by rw [← hAe]; exact Or.inr h
  have hS : va_S A s.heap s.heap [] := va_S.rf
  have hP : va_P G vwCl (wM a cy T rf sp) s.heap := hP
  have hin_X4 : ∀ w ∈ wsX40, w ∈ wsX4_state := by decide +kernel
  have hl := lv_entry ([.ref (a 0), .int h]) (n := 2) (Nat.le_of_ble_eq_true rfl)
  rw [lg_entry_eq]
  generalize (lg_sl ([.ref (a 0), .int h]) ++ List.replicate (2 - (lg_sl ([.ref (a 0), .int h])).length) Slot.unset).toArray = ls at hl ⊢
  have hl : lv_has ls 2 [(0, .ref (a 0)), (1, .int h)] := hl
  have hn12 : tn T ≤ 12 := hI.1.1
  have hlvn : tlv T ≤ tn T := hI.1.2.1
  have hcu : tcu T ≤ 40 := hI.1.2.2
  have hW := hI.w
  refine lv_aload_n hx hb dX4_state_0 rfl (lv_at hl 0 rfl) ?_
  refine lv_iload_n hx hb dX4_state_1 rfl (lv_at hl 1 rfl) ?_
  refine lv_iconst (v := 1) hx hb dX4_state_2 (by decide) ?_
  refine lv_aload_n hx hb dX4_state_3 rfl (lv_at hl 0 rfl) ?_
  refine va_get (D := G) (ci := 4) (v := .int (nI (tn T))) (C := RX4) (T := TX4) (N := 16) hx hb hts hin_X4 hown hK hP 0 rfl rfl 1 (by decide) (hts (.fieldLink RX4 55 "MigrationledgerModel" "many" "I") (by decide +kernel)) (fun _ h9 => h9) rfl dX4_state_4 ?_
  refine ml_Si (G := G) (As := [.int h, .int 1, .int (nI (tn T))]) (rest := [.ref (a 0)]) ⟨hx, hb, hml, hown, hts⟩ (c_X4_in l G cy a s.heap.size T rf sp h 1 (nI (tn T))) (va_cwS 3 hts gX4_state_X4_in rfl rfl rfl (by decide +kernel) ⟨Nat.le_of_ble_eq_true rfl, Nat.le_of_ble_eq_true rfl⟩) hP hK hD hS hN hA rfl hl.1 (Nat.le_of_ble_eq_true rfl) dX4_state_7 ⟨Nat.le_of_ble_eq_true rfl, Nat.le_of_ble_eq_true rfl⟩ (fun r_7 u_7 H locs hw hP hD hS => ?_)
  obtain rfl : r_7 = b2i (inR h 1 (nI (tn T))) := hw
  have hP : va_P G vwCl (wM a cy T rf sp) H := hP
  have hD : va_D A (wM a cy T rf sp) := hD
  refine ml_ifeqb (tgt := 17) hx hb dX4_state_10 (by decide) (fun c_10 => ?_) (fun c_10 => ?_)
  · refine lv_iconst (v := 1) hx hb dX4_state_17 (by decide) ?_
    refine ml_Vi (G := G) (As := [.int 1]) (rest := []) ⟨hx, hb, hml, hown, hts⟩ (c_X4_refused l G cy a H.size T rf sp 1) (cwV 1 hts gX4_state_X4_refused rfl rfl rfl (by decide +kernel) ⟨Nat.le_of_ble_eq_true rfl, Nat.le_of_ble_eq_true rfl⟩) (va_recv hK hP (ci := 4) (q0 := 0) rfl rfl) hP hK hD hS hN hA rfl hl.1 (Nat.le_of_ble_eq_true rfl) dX4_state_18 ⟨Nat.le_of_ble_eq_true rfl, Nat.le_of_ble_eq_true rfl⟩ (fun r_18 u_18 H locs hw hP hD hS => ?_)
    obtain rfl : r_18 = 1 := hw.trans (b2i_t (by decide))
    have hP : va_P G vwCl (wM a cy T 1 sp) H := hP
    have hD : va_D A (wM a cy T 1 sp) := hD
    refine lv_if_eq (tgt := 28) hx hb dX4_state_21 (by decide) (fun c_21 => False.elim (by revert c_21; decide)) (fun c_21 => ?_)
    refine lv_iconst (v := 0) hx hb dX4_state_24 (by decide) ?_
    refine lv_goto (tgt := 33) hx hb dX4_state_25 (by decide) ?_
    exact ml_ri sp hx hb hr hlocks hP hK hD hS (by rw [(show sp_state T h = (1, 0, T) from by unfold sp_state; rw [cif_t c_10] <;> rfl)]) (by rw [(show sp_state T h = (1, 0, T) from by unfold sp_state; rw [cif_t c_10] <;> rfl)]) dX4_state_33
  · refine lv_iconst (v := 0) hx hb dX4_state_13 (by decide) ?_
    refine lv_goto (tgt := 18) hx hb dX4_state_14 (by decide) ?_
    refine ml_Vi (G := G) (As := [.int 0]) (rest := []) ⟨hx, hb, hml, hown, hts⟩ (c_X4_refused l G cy a H.size T rf sp 0) (cwV 1 hts gX4_state_X4_refused rfl rfl rfl (by decide +kernel) ⟨Nat.le_of_ble_eq_true rfl, Nat.le_of_ble_eq_true rfl⟩) (va_recv hK hP (ci := 4) (q0 := 0) rfl rfl) hP hK hD hS hN hA rfl hl.1 (Nat.le_of_ble_eq_true rfl) dX4_state_18 ⟨Nat.le_of_ble_eq_true rfl, Nat.le_of_ble_eq_true rfl⟩ (fun r_18 u_18 H locs hw hP hD hS => ?_)
    obtain rfl : r_18 = 0 := hw.trans (b2i_f (by decide))
    have hP : va_P G vwCl (wM a cy T 0 sp) H := hP
    have hD : va_D A (wM a cy T 0 sp) := hD
    refine lv_if_eq (tgt := 28) hx hb dX4_state_21 (by decide) (fun c_21 => ?_) (fun c_21 => False.elim (by revert c_21; decide))
    refine lv_aload_n hx hb dX4_state_28 rfl (lv_at hl 0 rfl) ?_
    refine lv_iload_n hx hb dX4_state_29 rfl (lv_at hl 1 rfl) ?_
    refine ml_Vi (G := G) (As := [.int h]) (rest := []) ⟨hx, hb, hml, hown, hts⟩ (c_X4_stateOf l G cy a H.size T 0 sp h) (cwV 1 hts gX4_state_X4_stateOf rfl rfl rfl (by decide +kernel) ⟨Nat.le_of_ble_eq_true rfl, Nat.le_of_ble_eq_true rfl⟩) (va_recv hK hP (ci := 4) (q0 := 0) rfl rfl) hP hK hD hS hN hA rfl hl.1 (Nat.le_of_ble_eq_true rfl) dX4_state_30 ⟨Nat.le_of_ble_eq_true rfl, Nat.le_of_ble_eq_true rfl⟩ (fun r_30 u_30 H locs hw hP hD hS => ?_)
    obtain rfl : r_30 = stOf T h := hw
    have hP : va_P G vwCl (wM a cy T 0 sp) H := hP
    have hD : va_D A (wM a cy T 0 sp) := hD
    exact ml_ri sp hx hb hr hlocks hP hK hD hS (by rw [(show sp_state T h = (0, stOf T h, T) from by unfold sp_state; rw [cif_f (not_not_intro c_10)] <;> rfl)]) (by rw [(show sp_state T h = (0, stOf T h, T) from by unfold sp_state; rw [cif_f (not_not_intro c_10)] <;> rfl)]) dX4_state_33
set_option maxHeartbeats 4000000 in
set_option maxRecDepth 100000 in
theorem c_X4_insert (l : Launch) (G : va_G) (cy : Nat → ClassId) (a : Nat → Nat) (sz : Nat) (T : TS) (rf : Int32) (sp : Nat → Int64) (i : Int32) (x : Int32) (y : Int32) (z : Int32) (hI : Inv T) : Met l yX4_insert wsX4_insert ({ frames := 2, cells := 0, slots := 0, locals := 42 } : Room) (ml_P G cy [.ref (a 0), .int i, .int x, .int y, .int z] (wM a cy T rf sp) sz) (va_Qi (fun (r : Int32) (u : Nat → Int64) => (sp_insert T i x y z).2.1 = r) (ml_B G cy (va_A (wM a cy T rf sp) sz) (fun (u : Nat → Int64) => (wM a cy ((sp_insert T i x y z).2.2) ((sp_insert T i x y z).1) u))) (va_A (wM a cy T rf sp) sz)) 0 0 (va_A (wM a cy T rf sp) sz) := by
  refine Met.ofW (cc := cX4_insert) (maxL := 6) (ret := (some .int)) (by decide) rfl ?_
  intro p e s m args below meth c s₁ B hml hv
  obtain ⟨rfl, hsz, hP, hK, hD0, hN⟩ := hv
  have hx := B.exec
  have hb := B.bytes
  have hr := B.returns
  have hts := atoms_spec (ws := wsX4_insert) B.pre
  have hown : s.vm.findClass RX4 = some m.cls := findClass_of_methodNamed B.named
  have hlocks := B.notSynchronized
  subst hsz
  have hD := hD0.self (sz := s.heap.size)
  generalize hAe : va_A (wM a cy T rf sp) s.heap.size = A at hD ⊢
  have hA : ∀ q : Nat, s.heap.size ≤ q → A q := fun q h => by rw [← hAe]; exact Or.inr h
  have hS : va_S A s.heap s.heap [] := va_S.rf
  have hP : va_P G vwCl (wM a cy T rf sp) s.heap := hP
  have hin_X4 : ∀ w ∈ wsX40, w ∈ wsX4_insert := by decide +kernel
  have hl := lv_entry ([.ref (a 0), .int i, .int x, .int y, .int z]) (n := 6) (Nat.le_of_ble_eq_true rfl)
  rw [lg_entry_eq]
  generalize (lg_sl ([.ref (a 0), .int i, .int x, .int y, .int z]) ++ List.replicate (6 - (lg_sl ([.ref (a 0), .int i, .int x, .int y, .int z])).length) Slot.unset).toArray = ls at hl ⊢
  have hl : lv_has ls 6 [(0, .ref (a 0)), (1, .int i), (2, .int x), (3, .int y), (4, .int z)] := hl
  have hn12 : tn T ≤ 12 := hI.1.1
  have hlvn : tlv T ≤ tn T := hI.1.2.1
  have hcu : tcu T ≤ 40 := hI.1.2.2
  have hW := hI.w
  refine lv_iload_n hx hb dX4_insert_0 rfl (lv_at hl 1 rfl) ?_
  refine ml_Si (G := G) (As := [.int i]) (rest := []) ⟨hx, hb, hml, hown, hts⟩ (c_X4_isRow l G cy a s.heap.size T rf sp i) (va_cwS 1 hts gX4_insert_X4_isRow rfl rfl rfl (by decide +kernel) ⟨Nat.le_of_ble_eq_true rfl, Nat.le_of_ble_eq_true rfl⟩) hP hK hD hS hN hA rfl hl.1 (Nat.le_of_ble_eq_true rfl) dX4_insert_1 ⟨Nat.le_of_ble_eq_true rfl, Nat.le_of_ble_eq_true rfl⟩ (fun r_1 u_1 H locs hw hP hD hS => ?_)
  obtain rfl : r_1 = b2i (inR i 0 39) := hw
  have hP : va_P G vwCl (wM a cy T rf sp) H := hP
  have hD : va_D A (wM a cy T rf sp) := hD
  refine ml_ifeqb (tgt := 36) hx hb dX4_insert_4 (by decide) (fun c_4 => ?_) (fun c_4 => ?_)
  · refine lv_iconst (v := 0) hx hb dX4_insert_36 (by decide) ?_
    refine lv_istore (lv' := [(5, .int 0), (0, .ref (a 0)), (1, .int i), (2, .int x), (3, .int y), (4, .int z)]) hx hb dX4_insert_37 hl (by decide) rfl (fun ls hl => ?_)
    refine lv_aload_n hx hb dX4_insert_39 rfl (lv_at hl 1 rfl) ?_
    refine lv_iload hx hb dX4_insert_40 (lv_at hl 0 rfl) ?_
    refine lv_if_ne (tgt := 49) hx hb dX4_insert_42 (by decide) (fun c_42 => False.elim (by revert c_42; decide)) (fun c_42 => ?_)
    refine lv_iconst (v := 1) hx hb dX4_insert_45 (by decide) ?_
    refine lv_goto (tgt := 64) hx hb dX4_insert_46 (by decide) ?_
    refine ml_Vi (G := G) (As := [.int 1]) (rest := []) ⟨hx, hb, hml, hown, hts⟩ (c_X4_refused l G cy a H.size T rf sp 1) (cwV 1 hts gX4_insert_X4_refused rfl rfl rfl (by decide +kernel) ⟨Nat.le_of_ble_eq_true rfl, Nat.le_of_ble_eq_true rfl⟩) (va_recv hK hP (ci := 4) (q0 := 0) rfl rfl) hP hK hD hS hN hA rfl hl.1 (Nat.le_of_ble_eq_true rfl) dX4_insert_64 ⟨Nat.le_of_ble_eq_true rfl, Nat.le_of_ble_eq_true rfl⟩ (fun r_64 u_64 H locs hw hP hD hS => ?_)
    obtain rfl : r_64 = 1 := hw.trans (b2i_t (by decide))
    have hP : va_P G vwCl (wM a cy T 1 sp) H := hP
    have hD : va_D A (wM a cy T 1 sp) := hD
    refine lv_if_eq (tgt := 72) hx hb dX4_insert_67 (by decide) (fun c_67 => False.elim (by revert c_67; decide)) (fun c_67 => ?_)
    refine lv_iconst (v := 0) hx hb dX4_insert_70 (by decide) ?_
    exact ml_ri sp hx hb hr hlocks hP hK hD hS (by rw [(show sp_insert T i x y z = (1, 0, T) from by unfold sp_insert; rw [cif_t (fun q => c_4 q.1 : ¬ (inR i 0 39 ∧ okV x.toInt64 ∧ okV y.toInt64 ∧ okV z.toInt64))] <;> rfl)]) (by rw [(show sp_insert T i x y z = (1, 0, T) from by unfold sp_insert; rw [cif_t (fun q => c_4 q.1 : ¬ (inR i 0 39 ∧ okV x.toInt64 ∧ okV y.toInt64 ∧ okV z.toInt64))] <;> rfl)]) dX4_insert_71
  · obtain ⟨j, hj, rfl⟩ := inR_n 39 (by decide) c_4
    refine lv_iload_n hx hb dX4_insert_7 rfl (lv_at hl 2 rfl) ?_
    refine lv_i2l (v := x.toInt64) hx hb dX4_insert_8 rfl ?_
    refine ml_Si (G := G) (As := [.long x.toInt64]) (rest := []) ⟨hx, hb, hml, hown, hts⟩ (c_X4_isValue l G cy a H.size T rf sp x.toInt64) (va_cwS 1 hts gX4_insert_X4_isValue rfl rfl rfl (by decide +kernel) ⟨Nat.le_of_ble_eq_true rfl, Nat.le_of_ble_eq_true rfl⟩) hP hK hD hS hN hA rfl hl.1 (Nat.le_of_ble_eq_true rfl) dX4_insert_9 ⟨Nat.le_of_ble_eq_true rfl, Nat.le_of_ble_eq_true rfl⟩ (fun r_9 u_9 H locs hw hP hD hS => ?_)
    obtain rfl : r_9 = b2i (okV x.toInt64) := hw
    have hP : va_P G vwCl (wM a cy T rf sp) H := hP
    have hD : va_D A (wM a cy T rf sp) := hD
    refine ml_ifeqb (tgt := 36) hx hb dX4_insert_12 (by decide) (fun c_12 => ?_) (fun c_12 => ?_)
    · refine lv_iconst (v := 0) hx hb dX4_insert_36 (by decide) ?_
      refine lv_istore (lv' := [(5, .int 0), (0, .ref (a 0)), (1, .int (nI j)), (2, .int x), (3, .int y), (4, .int z)]) hx hb dX4_insert_37 hl (by decide) rfl (fun ls hl => ?_)
      refine lv_aload_n hx hb dX4_insert_39 rfl (lv_at hl 1 rfl) ?_
      refine lv_iload hx hb dX4_insert_40 (lv_at hl 0 rfl) ?_
      refine lv_if_ne (tgt := 49) hx hb dX4_insert_42 (by decide) (fun c_42 => False.elim (by revert c_42; decide)) (fun c_42 => ?_)
      refine lv_iconst (v := 1) hx hb dX4_insert_45 (by decide) ?_
      refine lv_goto (tgt := 64) hx hb dX4_insert_46 (by decide) ?_
      refine ml_Vi (G := G) (As := [.int 1]) (rest := []) ⟨hx, hb, hml, hown, hts⟩ (c_X4_refused l G cy a H.size T rf sp 1) (cwV 1 hts gX4_insert_X4_refused rfl rfl rfl (by decide +kernel) ⟨Nat.le_of_ble_eq_true rfl, Nat.le_of_ble_eq_true rfl⟩) (va_recv hK hP (ci := 4) (q0 := 0) rfl rfl) hP hK hD hS hN hA rfl hl.1 (Nat.le_of_ble_eq_true rfl) dX4_insert_64 ⟨Nat.le_of_ble_eq_true rfl, Nat.le_of_ble_eq_true rfl⟩ (fun r_64 u_64 H locs hw hP hD hS => ?_)
      obtain rfl : r_64 = 1 := hw.trans (b2i_t (by decide))
      have hP : va_P G vwCl (wM a cy T 1 sp) H := hP
      have hD : va_D A (wM a cy T 1 sp) := hD
      refine lv_if_eq (tgt := 72) hx hb dX4_insert_67 (by decide) (fun c_67 => False.elim (by revert c_67; decide)) (fun c_67 => ?_)
      refine lv_iconst (v := 0) hx hb dX4_insert_70 (by decide) ?_
      exact ml_ri sp hx hb hr hlocks hP hK hD hS (by rw [(show sp_insert T (nI j) x y z = (1, 0, T) from by unfold sp_insert; rw [cif_t (fun q => c_12 q.2.1 : ¬ (inR (nI j) 0 39 ∧ okV x.toInt64 ∧ okV y.toInt64 ∧ okV z.toInt64))] <;> rfl)]) (by rw [(show sp_insert T (nI j) x y z = (1, 0, T) from by unfold sp_insert; rw [cif_t (fun q => c_12 q.2.1 : ¬ (inR (nI j) 0 39 ∧ okV x.toInt64 ∧ okV y.toInt64 ∧ okV z.toInt64))] <;> rfl)]) dX4_insert_71
    · refine lv_iload_n hx hb dX4_insert_15 rfl (lv_at hl 3 rfl) ?_
      refine lv_i2l (v := y.toInt64) hx hb dX4_insert_16 rfl ?_
      refine ml_Si (G := G) (As := [.long y.toInt64]) (rest := []) ⟨hx, hb, hml, hown, hts⟩ (c_X4_isValue l G cy a H.size T rf sp y.toInt64) (va_cwS 1 hts gX4_insert_X4_isValue rfl rfl rfl (by decide +kernel) ⟨Nat.le_of_ble_eq_true rfl, Nat.le_of_ble_eq_true rfl⟩) hP hK hD hS hN hA rfl hl.1 (Nat.le_of_ble_eq_true rfl) dX4_insert_17 ⟨Nat.le_of_ble_eq_true rfl, Nat.le_of_ble_eq_true rfl⟩ (fun r_17 u_17 H locs hw hP hD hS => ?_)
      obtain rfl : r_17 = b2i (okV y.toInt64) := hw
      have hP : va_P G vwCl (wM a cy T rf sp) H := hP
      have hD : va_D A (wM a cy T rf sp) := hD
      refine ml_ifeqb (tgt := 36) hx hb dX4_insert_20 (by decide) (fun c_20 => ?_) (fun c_20 => ?_)
      · refine lv_iconst (v := 0) hx hb dX4_insert_36 (by decide) ?_
        refine lv_istore (lv' := [(5, .int 0), (0, .ref (a 0)), (1, .int (nI j)), (2, .int x), (3, .int y), (4, .int z)]) hx hb dX4_insert_37 hl (by decide) rfl (fun ls hl => ?_)
        refine lv_aload_n hx hb dX4_insert_39 rfl (lv_at hl 1 rfl) ?_
        refine lv_iload hx hb dX4_insert_40 (lv_at hl 0 rfl) ?_
        refine lv_if_ne (tgt := 49) hx hb dX4_insert_42 (by decide) (fun c_42 => False.elim (by revert c_42; decide)) (fun c_42 => ?_)
        refine lv_iconst (v := 1) hx hb dX4_insert_45 (by decide) ?_
        refine lv_goto (tgt := 64) hx hb dX4_insert_46 (by decide) ?_
        refine ml_Vi (G := G) (As := [.int 1]) (rest := []) ⟨hx, hb, hml, hown, hts⟩ (c_X4_refused l G cy a H.size T rf sp 1) (cwV 1 hts gX4_insert_X4_refused rfl rfl rfl (by decide +kernel) ⟨Nat.le_of_ble_eq_true rfl, Nat.le_of_ble_eq_true rfl⟩) (va_recv hK hP (ci := 4) (q0 := 0) rfl rfl) hP hK hD hS hN hA rfl hl.1 (Nat.le_of_ble_eq_true rfl) dX4_insert_64 ⟨Nat.le_of_ble_eq_true rfl, Nat.le_of_ble_eq_true rfl⟩ (fun r_64 u_64 H locs hw hP hD hS => ?_)
        obtain rfl : r_64 = 1 := hw.trans (b2i_t (by decide))
        have hP : va_P G vwCl (wM a cy T 1 sp) H := hP
        have hD : va_D A (wM a cy T 1 sp) := hD
        refine lv_if_eq (tgt := 72) hx hb dX4_insert_67 (by decide) (fun c_67 => False.elim (by revert c_67; decide)) (fun c_67 => ?_)
        refine lv_iconst (v := 0) hx hb dX4_insert_70 (by decide) ?_
        exact ml_ri sp hx hb hr hlocks hP hK hD hS (by rw [(show sp_insert T (nI j) x y z = (1, 0, T) from by unfold sp_insert; rw [cif_t (fun q => c_20 q.2.2.1 : ¬ (inR (nI j) 0 39 ∧ okV x.toInt64 ∧ okV y.toInt64 ∧ okV z.toInt64))] <;> rfl)]) (by rw [(show sp_insert T (nI j) x y z = (1, 0, T) from by unfold sp_insert; rw [cif_t (fun q => c_20 q.2.2.1 : ¬ (inR (nI j) 0 39 ∧ okV x.toInt64 ∧ okV y.toInt64 ∧ okV z.toInt64))] <;> rfl)]) dX4_insert_71
      · refine lv_iload hx hb dX4_insert_23 (lv_at hl 4 rfl) ?_
        refine lv_i2l (v := z.toInt64) hx hb dX4_insert_25 rfl ?_
        refine ml_Si (G := G) (As := [.long z.toInt64]) (rest := []) ⟨hx, hb, hml, hown, hts⟩ (c_X4_isValue l G cy a H.size T rf sp z.toInt64) (va_cwS 1 hts gX4_insert_X4_isValue rfl rfl rfl (by decide +kernel) ⟨Nat.le_of_ble_eq_true rfl, Nat.le_of_ble_eq_true rfl⟩) hP hK hD hS hN hA rfl hl.1 (Nat.le_of_ble_eq_true rfl) dX4_insert_26 ⟨Nat.le_of_ble_eq_true rfl, Nat.le_of_ble_eq_true rfl⟩ (fun r_26 u_26 H locs hw hP hD hS => ?_)
        obtain rfl : r_26 = b2i (okV z.toInt64) := hw
        have hP : va_P G vwCl (wM a cy T rf sp) H := hP
        have hD : va_D A (wM a cy T rf sp) := hD
        refine ml_ifeqb (tgt := 36) hx hb dX4_insert_29 (by decide) (fun c_29 => ?_) (fun c_29 => ?_)
        · refine lv_iconst (v := 0) hx hb dX4_insert_36 (by decide) ?_
          refine lv_istore (lv' := [(5, .int 0), (0, .ref (a 0)), (1, .int (nI j)), (2, .int x), (3, .int y), (4, .int z)]) hx hb dX4_insert_37 hl (by decide) rfl (fun ls hl => ?_)
          refine lv_aload_n hx hb dX4_insert_39 rfl (lv_at hl 1 rfl) ?_
          refine lv_iload hx hb dX4_insert_40 (lv_at hl 0 rfl) ?_
          refine lv_if_ne (tgt := 49) hx hb dX4_insert_42 (by decide) (fun c_42 => False.elim (by revert c_42; decide)) (fun c_42 => ?_)
          refine lv_iconst (v := 1) hx hb dX4_insert_45 (by decide) ?_
          refine lv_goto (tgt := 64) hx hb dX4_insert_46 (by decide) ?_
          refine ml_Vi (G := G) (As := [.int 1]) (rest := []) ⟨hx, hb, hml, hown, hts⟩ (c_X4_refused l G cy a H.size T rf sp 1) (cwV 1 hts gX4_insert_X4_refused rfl rfl rfl (by decide +kernel) ⟨Nat.le_of_ble_eq_true rfl, Nat.le_of_ble_eq_true rfl⟩) (va_recv hK hP (ci := 4) (q0 := 0) rfl rfl) hP hK hD hS hN hA rfl hl.1 (Nat.le_of_ble_eq_true rfl) dX4_insert_64 ⟨Nat.le_of_ble_eq_true rfl, Nat.le_of_ble_eq_true rfl⟩ (fun r_64 u_64 H locs hw hP hD hS => ?_)
          obtain rfl : r_64 = 1 := hw.trans (b2i_t (by decide))
          have hP : va_P G vwCl (wM a cy T 1 sp) H := hP
          have hD : va_D A (wM a cy T 1 sp) := hD
          refine lv_if_eq (tgt := 72) hx hb dX4_insert_67 (by decide) (fun c_67 => False.elim (by revert c_67; decide)) (fun c_67 => ?_)
          refine lv_iconst (v := 0) hx hb dX4_insert_70 (by decide) ?_
          exact ml_ri sp hx hb hr hlocks hP hK hD hS (by rw [(show sp_insert T (nI j) x y z = (1, 0, T) from by unfold sp_insert; rw [cif_t (fun q => c_29 q.2.2.2 : ¬ (inR (nI j) 0 39 ∧ okV x.toInt64 ∧ okV y.toInt64 ∧ okV z.toInt64))] <;> rfl)]) (by rw [(show sp_insert T (nI j) x y z = (1, 0, T) from by unfold sp_insert; rw [cif_t (fun q => c_29 q.2.2.2 : ¬ (inR (nI j) 0 39 ∧ okV x.toInt64 ∧ okV y.toInt64 ∧ okV z.toInt64))] <;> rfl)]) dX4_insert_71
        · refine lv_iconst (v := 1) hx hb dX4_insert_32 (by decide) ?_
          refine lv_goto (tgt := 37) hx hb dX4_insert_33 (by decide) ?_
          refine lv_istore (lv' := [(5, .int 1), (0, .ref (a 0)), (1, .int (nI j)), (2, .int x), (3, .int y), (4, .int z)]) hx hb dX4_insert_37 hl (by decide) rfl (fun ls hl => ?_)
          refine lv_aload_n hx hb dX4_insert_39 rfl (lv_at hl 1 rfl) ?_
          refine lv_iload hx hb dX4_insert_40 (lv_at hl 0 rfl) ?_
          refine lv_if_ne (tgt := 49) hx hb dX4_insert_42 (by decide) (fun c_42 => ?_) (fun c_42 => False.elim (by revert c_42; decide))
          refine lv_aload_n hx hb dX4_insert_49 rfl (lv_at hl 1 rfl) ?_
          refine va_get (D := G) (ci := 4) (v := .ref (a 5)) (C := RX4) (T := TX4) (N := 16) hx hb hts hin_X4 hown hK hP 0 rfl rfl 9 (by decide) (hts (.fieldLink RX4 22 "MigrationledgerModel" "versions" "[I") (by decide +kernel)) (fun _ h9 => h9) rfl dX4_insert_50 ?_
          refine lv_iload_n hx hb dX4_insert_53 rfl (lv_at hl 2 rfl) ?_
          refine ml_iald hx hb hK hP 5 0 rfl rfl (j) rfl (by omega) (Nat.le_of_ble_eq_true rfl) ((tV T) j) rfl dX4_insert_54 ?_
          refine lv_iconst (v := (-1)) hx hb dX4_insert_55 (by decide) ?_
          refine lv_icmp_eq (tgt := 63) hx hb dX4_insert_56 (by decide) (fun c_56 => ?_) (fun c_56 => ?_)
          · refine lv_iconst (v := 0) hx hb dX4_insert_63 (by decide) ?_
            refine ml_Vi (G := G) (As := [.int 0]) (rest := []) ⟨hx, hb, hml, hown, hts⟩ (c_X4_refused l G cy a H.size T rf sp 0) (cwV 1 hts gX4_insert_X4_refused rfl rfl rfl (by decide +kernel) ⟨Nat.le_of_ble_eq_true rfl, Nat.le_of_ble_eq_true rfl⟩) (va_recv hK hP (ci := 4) (q0 := 0) rfl rfl) hP hK hD hS hN hA rfl hl.1 (Nat.le_of_ble_eq_true rfl) dX4_insert_64 ⟨Nat.le_of_ble_eq_true rfl, Nat.le_of_ble_eq_true rfl⟩ (fun r_64 u_64 H locs hw hP hD hS => ?_)
            obtain rfl : r_64 = 0 := hw.trans (b2i_f (by decide))
            have hP : va_P G vwCl (wM a cy T 0 sp) H := hP
            have hD : va_D A (wM a cy T 0 sp) := hD
            refine lv_if_eq (tgt := 72) hx hb dX4_insert_67 (by decide) (fun c_67 => ?_) (fun c_67 => False.elim (by revert c_67; decide))
            refine lv_aload_n hx hb dX4_insert_72 rfl (lv_at hl 1 rfl) ?_
            refine va_get (D := G) (ci := 4) (v := .ref (a 5)) (C := RX4) (T := TX4) (N := 16) hx hb hts hin_X4 hown hK hP 0 rfl rfl 9 (by decide) (hts (.fieldLink RX4 22 "MigrationledgerModel" "versions" "[I") (by decide +kernel)) (fun _ h9 => h9) rfl dX4_insert_73 ?_
            refine lv_iload_n hx hb dX4_insert_76 rfl (lv_at hl 2 rfl) ?_
            refine lv_aload_n hx hb dX4_insert_77 rfl (lv_at hl 1 rfl) ?_
            refine va_get (D := G) (ci := 4) (v := .int (tac T)) (C := RX4) (T := TX4) (N := 16) hx hb hts hin_X4 hown hK hP 0 rfl rfl 7 (by decide) (hts (.fieldLink RX4 69 "MigrationledgerModel" "active" "I") (by decide +kernel)) (fun _ h9 => h9) rfl dX4_insert_78 ?_
            refine lv_if_eq (tgt := 101) hx hb dX4_insert_81 (by decide) (fun c_81 => ?_) (fun c_81 => ?_)
            · refine lv_aload_n hx hb dX4_insert_101 rfl (lv_at hl 1 rfl) ?_
              refine va_get (D := G) (ci := 4) (v := .int (nI (tlv T))) (C := RX4) (T := TX4) (N := 16) hx hb hts hin_X4 hown hK hP 0 rfl rfl 6 (by decide) (hts (.fieldLink RX4 66 "MigrationledgerModel" "level" "I") (by decide +kernel)) (fun _ h9 => h9) rfl dX4_insert_102 ?_
              refine ml_eqi (vNew T j) (nw_a (fun q => q c_81)) ?_
              refine ml_iast hx hb hK hP hD hS 5 0 rfl rfl (j) rfl (by omega) (Nat.le_of_ble_eq_true rfl) dX4_insert_105 (fun H locs hP hD hS => ?_)
              have hP : va_P G vwCl (wM a cy (uV T (upd (tV T) j (vNew T j))) 0 sp) H := hP
              have hD : va_D A (wM a cy (uV T (upd (tV T) j (vNew T j))) 0 sp) := hD
              refine lv_aload_n hx hb dX4_insert_106 rfl (lv_at hl 1 rfl) ?_
              refine va_get (D := G) (ci := 4) (v := .ref (a 6)) (C := RX4) (T := TX4) (N := 16) hx hb hts hin_X4 hown hK hP 0 rfl rfl 10 (by decide) (hts (.fieldLink RX4 25 "MigrationledgerModel" "values" "[I") (by decide +kernel)) (fun _ h9 => h9) rfl dX4_insert_107 ?_
              refine lv_iconst (v := 3) hx hb dX4_insert_110 (by decide) ?_
              refine lv_iload_n hx hb dX4_insert_111 rfl (lv_at hl 2 rfl) ?_
              refine lv_imul hx hb dX4_insert_112 ?_
              refine ml_eqi (nI (3 * j)) (pk_mul 3 j) ?_
              refine lv_iload_n hx hb dX4_insert_113 rfl (lv_at hl 3 rfl) ?_
              refine ml_iast hx hb hK hP hD hS 6 0 rfl rfl (3 * j) rfl (by omega) (Nat.le_of_ble_eq_true rfl) dX4_insert_114 (fun H locs hP hD hS => ?_)
              have hP : va_P G vwCl (wM a cy (uX (uV T (upd (tV T) j (vNew T j))) (upd (tX T) (3 * j) x)) 0 sp) H := hP
              have hD : va_D A (wM a cy (uX (uV T (upd (tV T) j (vNew T j))) (upd (tX T) (3 * j) x)) 0 sp) := hD
              refine lv_aload_n hx hb dX4_insert_115 rfl (lv_at hl 1 rfl) ?_
              refine va_get (D := G) (ci := 4) (v := .ref (a 6)) (C := RX4) (T := TX4) (N := 16) hx hb hts hin_X4 hown hK hP 0 rfl rfl 10 (by decide) (hts (.fieldLink RX4 25 "MigrationledgerModel" "values" "[I") (by decide +kernel)) (fun _ h9 => h9) rfl dX4_insert_116 ?_
              refine lv_iconst (v := 3) hx hb dX4_insert_119 (by decide) ?_
              refine lv_iload_n hx hb dX4_insert_120 rfl (lv_at hl 2 rfl) ?_
              refine lv_imul hx hb dX4_insert_121 ?_
              refine ml_eqi (nI (3 * j)) (pk_mul 3 j) ?_
              refine lv_iconst (v := 1) hx hb dX4_insert_122 (by decide) ?_
              refine lv_iadd hx hb dX4_insert_123 ?_
              refine ml_eqi (nI (3 * j + 1)) (nI_add (3 * j) 1) ?_
              refine lv_iload_n hx hb dX4_insert_124 rfl (lv_at hl 4 rfl) ?_
              refine ml_iast hx hb hK hP hD hS 6 0 rfl rfl (3 * j + 1) rfl (by omega) (Nat.le_of_ble_eq_true rfl) dX4_insert_125 (fun H locs hP hD hS => ?_)
              have hP : va_P G vwCl (wM a cy (uX (uX (uV T (upd (tV T) j (vNew T j))) (upd (tX T) (3 * j) x)) (upd (upd (tX T) (3 * j) x) (3 * j + 1) y)) 0 sp) H := hP
              have hD : va_D A (wM a cy (uX (uX (uV T (upd (tV T) j (vNew T j))) (upd (tX T) (3 * j) x)) (upd (upd (tX T) (3 * j) x) (3 * j + 1) y)) 0 sp) := hD
              refine lv_aload_n hx hb dX4_insert_126 rfl (lv_at hl 1 rfl) ?_
              refine va_get (D := G) (ci := 4) (v := .ref (a 6)) (C := RX4) (T := TX4) (N := 16) hx hb hts hin_X4 hown hK hP 0 rfl rfl 10 (by decide) (hts (.fieldLink RX4 25 "MigrationledgerModel" "values" "[I") (by decide +kernel)) (fun _ h9 => h9) rfl dX4_insert_127 ?_
              refine lv_iconst (v := 3) hx hb dX4_insert_130 (by decide) ?_
              refine lv_iload_n hx hb dX4_insert_131 rfl (lv_at hl 2 rfl) ?_
              refine lv_imul hx hb dX4_insert_132 ?_
              refine ml_eqi (nI (3 * j)) (pk_mul 3 j) ?_
              refine lv_iconst (v := 2) hx hb dX4_insert_133 (by decide) ?_
              refine lv_iadd hx hb dX4_insert_134 ?_
              refine ml_eqi (nI (3 * j + 2)) (nI_add (3 * j) 2) ?_
              refine lv_iload hx hb dX4_insert_135 (lv_at hl 5 rfl) ?_
              refine ml_iast hx hb hK hP hD hS 6 0 rfl rfl (3 * j + 2) rfl (by omega) (Nat.le_of_ble_eq_true rfl) dX4_insert_137 (fun H locs hP hD hS => ?_)
              have hP : va_P G vwCl (wM a cy (uX (uX (uX (uV T (upd (tV T) j (vNew T j))) (upd (tX T) (3 * j) x)) (upd (upd (tX T) (3 * j) x) (3 * j + 1) y)) (upd (upd (upd (tX T) (3 * j) x) (3 * j + 1) y) (3 * j + 2) z)) 0 sp) H := hP
              have hD : va_D A (wM a cy (uX (uX (uX (uV T (upd (tV T) j (vNew T j))) (upd (tX T) (3 * j) x)) (upd (upd (tX T) (3 * j) x) (3 * j + 1) y)) (upd (upd (upd (tX T) (3 * j) x) (3 * j + 1) y) (3 * j + 2) z)) 0 sp) := hD
              refine lv_aload_n hx hb dX4_insert_138 rfl (lv_at hl 1 rfl) ?_
              refine va_get (D := G) (ci := 4) (v := .ref (a 5)) (C := RX4) (T := TX4) (N := 16) hx hb hts hin_X4 hown hK hP 0 rfl rfl 9 (by decide) (hts (.fieldLink RX4 22 "MigrationledgerModel" "versions" "[I") (by decide +kernel)) (fun _ h9 => h9) rfl dX4_insert_139 ?_
              refine lv_iload_n hx hb dX4_insert_142 rfl (lv_at hl 2 rfl) ?_
              refine ml_iald hx hb hK hP 5 0 rfl rfl (j) rfl (by omega) (Nat.le_of_ble_eq_true rfl) (vNew T j) pk_us dX4_insert_143 ?_
              exact ml_ri sp hx hb hr hlocks hP hK hD hS (by rw [(show sp_insert T (nI j) x y z = (0, vNew T j, uX (uX (uX (uV T (upd (tV T) j (vNew T j))) (upd (tX T) (3 * j) x)) (upd (upd (tX T) (3 * j) x) (3 * j + 1) y)) (upd (upd (upd (tX T) (3 * j) x) (3 * j + 1) y) (3 * j + 2) z)) from by unfold sp_insert; rw [cif_f (not_not_intro ⟨c_4, c_12, c_20, c_29⟩), ix_n (j := j) (by omega), cif_f (not_not_intro c_56)] <;> rfl)]) (by rw [(show sp_insert T (nI j) x y z = (0, vNew T j, uX (uX (uX (uV T (upd (tV T) j (vNew T j))) (upd (tX T) (3 * j) x)) (upd (upd (tX T) (3 * j) x) (3 * j + 1) y)) (upd (upd (upd (tX T) (3 * j) x) (3 * j + 1) y) (3 * j + 2) z)) from by unfold sp_insert; rw [cif_f (not_not_intro ⟨c_4, c_12, c_20, c_29⟩), ix_n (j := j) (by omega), cif_f (not_not_intro c_56)] <;> rfl)]) dX4_insert_144
            · refine lv_iload_n hx hb dX4_insert_84 rfl (lv_at hl 2 rfl) ?_
              refine lv_aload_n hx hb dX4_insert_85 rfl (lv_at hl 1 rfl) ?_
              refine va_get (D := G) (ci := 4) (v := .int (nI (tcu T))) (C := RX4) (T := TX4) (N := 16) hx hb hts hin_X4 hown hK hP 0 rfl rfl 8 (by decide) (hts (.fieldLink RX4 93 "MigrationledgerModel" "cursor" "I") (by decide +kernel)) (fun _ h9 => h9) rfl dX4_insert_86 ?_
              refine lv_icmp_ge (tgt := 101) hx hb dX4_insert_89 (by decide) (fun c_89 => ?_) (fun c_89 => ?_)
              · refine lv_aload_n hx hb dX4_insert_101 rfl (lv_at hl 1 rfl) ?_
                refine va_get (D := G) (ci := 4) (v := .int (nI (tlv T))) (C := RX4) (T := TX4) (N := 16) hx hb hts hin_X4 hown hK hP 0 rfl rfl 6 (by decide) (hts (.fieldLink RX4 66 "MigrationledgerModel" "level" "I") (by decide +kernel)) (fun _ h9 => h9) rfl dX4_insert_102 ?_
                refine ml_eqi (vNew T j) (nw_b c_89) ?_
                refine ml_iast hx hb hK hP hD hS 5 0 rfl rfl (j) rfl (by omega) (Nat.le_of_ble_eq_true rfl) dX4_insert_105 (fun H locs hP hD hS => ?_)
                have hP : va_P G vwCl (wM a cy (uV T (upd (tV T) j (vNew T j))) 0 sp) H := hP
                have hD : va_D A (wM a cy (uV T (upd (tV T) j (vNew T j))) 0 sp) := hD
                refine lv_aload_n hx hb dX4_insert_106 rfl (lv_at hl 1 rfl) ?_
                refine va_get (D := G) (ci := 4) (v := .ref (a 6)) (C := RX4) (T := TX4) (N := 16) hx hb hts hin_X4 hown hK hP 0 rfl rfl 10 (by decide) (hts (.fieldLink RX4 25 "MigrationledgerModel" "values" "[I") (by decide +kernel)) (fun _ h9 => h9) rfl dX4_insert_107 ?_
                refine lv_iconst (v := 3) hx hb dX4_insert_110 (by decide) ?_
                refine lv_iload_n hx hb dX4_insert_111 rfl (lv_at hl 2 rfl) ?_
                refine lv_imul hx hb dX4_insert_112 ?_
                refine ml_eqi (nI (3 * j)) (pk_mul 3 j) ?_
                refine lv_iload_n hx hb dX4_insert_113 rfl (lv_at hl 3 rfl) ?_
                refine ml_iast hx hb hK hP hD hS 6 0 rfl rfl (3 * j) rfl (by omega) (Nat.le_of_ble_eq_true rfl) dX4_insert_114 (fun H locs hP hD hS => ?_)
                have hP : va_P G vwCl (wM a cy (uX (uV T (upd (tV T) j (vNew T j))) (upd (tX T) (3 * j) x)) 0 sp) H := hP
                have hD : va_D A (wM a cy (uX (uV T (upd (tV T) j (vNew T j))) (upd (tX T) (3 * j) x)) 0 sp) := hD
                refine lv_aload_n hx hb dX4_insert_115 rfl (lv_at hl 1 rfl) ?_
                refine va_get (D := G) (ci := 4) (v := .ref (a 6)) (C := RX4) (T := TX4) (N := 16) hx hb hts hin_X4 hown hK hP 0 rfl rfl 10 (by decide) (hts (.fieldLink RX4 25 "MigrationledgerModel" "values" "[I") (by decide +kernel)) (fun _ h9 => h9) rfl dX4_insert_116 ?_
                refine lv_iconst (v := 3) hx hb dX4_insert_119 (by decide) ?_
                refine lv_iload_n hx hb dX4_insert_120 rfl (lv_at hl 2 rfl) ?_
                refine lv_imul hx hb dX4_insert_121 ?_
                refine ml_eqi (nI (3 * j)) (pk_mul 3 j) ?_
                refine lv_iconst (v := 1) hx hb dX4_insert_122 (by decide) ?_
                refine lv_iadd hx hb dX4_insert_123 ?_
                refine ml_eqi (nI (3 * j + 1)) (nI_add (3 * j) 1) ?_
                refine lv_iload_n hx hb dX4_insert_124 rfl (lv_at hl 4 rfl) ?_
                refine ml_iast hx hb hK hP hD hS 6 0 rfl rfl (3 * j + 1) rfl (by omega) (Nat.le_of_ble_eq_true rfl) dX4_insert_125 (fun H locs hP hD hS => ?_)
                have hP : va_P G vwCl (wM a cy (uX (uX (uV T (upd (tV T) j (vNew T j))) (upd (tX T) (3 * j) x)) (upd (upd (tX T) (3 * j) x) (3 * j + 1) y)) 0 sp) H := hP
                have hD : va_D A (wM a cy (uX (uX (uV T (upd (tV T) j (vNew T j))) (upd (tX T) (3 * j) x)) (upd (upd (tX T) (3 * j) x) (3 * j + 1) y)) 0 sp) := hD
                refine lv_aload_n hx hb dX4_insert_126 rfl (lv_at hl 1 rfl) ?_
                refine va_get (D := G) (ci := 4) (v := .ref (a 6)) (C := RX4) (T := TX4) (N := 16) hx hb hts hin_X4 hown hK hP 0 rfl rfl 10 (by decide) (hts (.fieldLink RX4 25 "MigrationledgerModel" "values" "[I") (by decide +kernel)) (fun _ h9 => h9) rfl dX4_insert_127 ?_
                refine lv_iconst (v := 3) hx hb dX4_insert_130 (by decide) ?_
                refine lv_iload_n hx hb dX4_insert_131 rfl (lv_at hl 2 rfl) ?_
                refine lv_imul hx hb dX4_insert_132 ?_
                refine ml_eqi (nI (3 * j)) (pk_mul 3 j) ?_
                refine lv_iconst (v := 2) hx hb dX4_insert_133 (by decide) ?_
                refine lv_iadd hx hb dX4_insert_134 ?_
                refine ml_eqi (nI (3 * j + 2)) (nI_add (3 * j) 2) ?_
                refine lv_iload hx hb dX4_insert_135 (lv_at hl 5 rfl) ?_
                refine ml_iast hx hb hK hP hD hS 6 0 rfl rfl (3 * j + 2) rfl (by omega) (Nat.le_of_ble_eq_true rfl) dX4_insert_137 (fun H locs hP hD hS => ?_)
                have hP : va_P G vwCl (wM a cy (uX (uX (uX (uV T (upd (tV T) j (vNew T j))) (upd (tX T) (3 * j) x)) (upd (upd (tX T) (3 * j) x) (3 * j + 1) y)) (upd (upd (upd (tX T) (3 * j) x) (3 * j + 1) y) (3 * j + 2) z)) 0 sp) H := hP
                have hD : va_D A (wM a cy (uX (uX (uX (uV T (upd (tV T) j (vNew T j))) (upd (tX T) (3 * j) x)) (upd (upd (tX T) (3 * j) x) (3 * j + 1) y)) (upd (upd (upd (tX T) (3 * j) x) (3 * j + 1) y) (3 * j + 2) z)) 0 sp) := hD
                refine lv_aload_n hx hb dX4_insert_138 rfl (lv_at hl 1 rfl) ?_
                refine va_get (D := G) (ci := 4) (v := .ref (a 5)) (C := RX4) (T := TX4) (N := 16) hx hb hts hin_X4 hown hK hP 0 rfl rfl 9 (by decide) (hts (.fieldLink RX4 22 "MigrationledgerModel" "versions" "[I") (by decide +kernel)) (fun _ h9 => h9) rfl dX4_insert_139 ?_
                refine lv_iload_n hx hb dX4_insert_142 rfl (lv_at hl 2 rfl) ?_
                refine ml_iald hx hb hK hP 5 0 rfl rfl (j) rfl (by omega) (Nat.le_of_ble_eq_true rfl) (vNew T j) pk_us dX4_insert_143 ?_
                exact ml_ri sp hx hb hr hlocks hP hK hD hS (by rw [(show sp_insert T (nI j) x y z = (0, vNew T j, uX (uX (uX (uV T (upd (tV T) j (vNew T j))) (upd (tX T) (3 * j) x)) (upd (upd (tX T) (3 * j) x) (3 * j + 1) y)) (upd (upd (upd (tX T) (3 * j) x) (3 * j + 1) y) (3 * j + 2) z)) from by unfold sp_insert; rw [cif_f (not_not_intro ⟨c_4, c_12, c_20, c_29⟩), ix_n (j := j) (by omega), cif_f (not_not_intro c_56)] <;> rfl)]) (by rw [(show sp_insert T (nI j) x y z = (0, vNew T j, uX (uX (uX (uV T (upd (tV T) j (vNew T j))) (upd (tX T) (3 * j) x)) (upd (upd (tX T) (3 * j) x) (3 * j + 1) y)) (upd (upd (upd (tX T) (3 * j) x) (3 * j + 1) y) (3 * j + 2) z)) from by unfold sp_insert; rw [cif_f (not_not_intro ⟨c_4, c_12, c_20, c_29⟩), ix_n (j := j) (by omega), cif_f (not_not_intro c_56)] <;> rfl)]) dX4_insert_144
              · refine lv_aload_n hx hb dX4_insert_92 rfl (lv_at hl 1 rfl) ?_
                refine va_get (D := G) (ci := 4) (v := .int (nI (tlv T))) (C := RX4) (T := TX4) (N := 16) hx hb hts hin_X4 hown hK hP 0 rfl rfl 6 (by decide) (hts (.fieldLink RX4 66 "MigrationledgerModel" "level" "I") (by decide +kernel)) (fun _ h9 => h9) rfl dX4_insert_93 ?_
                refine lv_iconst (v := 1) hx hb dX4_insert_96 (by decide) ?_
                refine lv_iadd hx hb dX4_insert_97 ?_
                refine ml_eqi (nI (tlv T + 1)) (nI_add (tlv T) 1) ?_
                refine lv_goto (tgt := 105) hx hb dX4_insert_98 (by decide) ?_
                refine ml_eqi (vNew T j) (nw_t c_81 (Int32.not_le.mp c_89)) ?_
                refine ml_iast hx hb hK hP hD hS 5 0 rfl rfl (j) rfl (by omega) (Nat.le_of_ble_eq_true rfl) dX4_insert_105 (fun H locs hP hD hS => ?_)
                have hP : va_P G vwCl (wM a cy (uV T (upd (tV T) j (vNew T j))) 0 sp) H := hP
                have hD : va_D A (wM a cy (uV T (upd (tV T) j (vNew T j))) 0 sp) := hD
                refine lv_aload_n hx hb dX4_insert_106 rfl (lv_at hl 1 rfl) ?_
                refine va_get (D := G) (ci := 4) (v := .ref (a 6)) (C := RX4) (T := TX4) (N := 16) hx hb hts hin_X4 hown hK hP 0 rfl rfl 10 (by decide) (hts (.fieldLink RX4 25 "MigrationledgerModel" "values" "[I") (by decide +kernel)) (fun _ h9 => h9) rfl dX4_insert_107 ?_
                refine lv_iconst (v := 3) hx hb dX4_insert_110 (by decide) ?_
                refine lv_iload_n hx hb dX4_insert_111 rfl (lv_at hl 2 rfl) ?_
                refine lv_imul hx hb dX4_insert_112 ?_
                refine ml_eqi (nI (3 * j)) (pk_mul 3 j) ?_
                refine lv_iload_n hx hb dX4_insert_113 rfl (lv_at hl 3 rfl) ?_
                refine ml_iast hx hb hK hP hD hS 6 0 rfl rfl (3 * j) rfl (by omega) (Nat.le_of_ble_eq_true rfl) dX4_insert_114 (fun H locs hP hD hS => ?_)
                have hP : va_P G vwCl (wM a cy (uX (uV T (upd (tV T) j (vNew T j))) (upd (tX T) (3 * j) x)) 0 sp) H := hP
                have hD : va_D A (wM a cy (uX (uV T (upd (tV T) j (vNew T j))) (upd (tX T) (3 * j) x)) 0 sp) := hD
                refine lv_aload_n hx hb dX4_insert_115 rfl (lv_at hl 1 rfl) ?_
                refine va_get (D := G) (ci := 4) (v := .ref (a 6)) (C := RX4) (T := TX4) (N := 16) hx hb hts hin_X4 hown hK hP 0 rfl rfl 10 (by decide) (hts (.fieldLink RX4 25 "MigrationledgerModel" "values" "[I") (by decide +kernel)) (fun _ h9 => h9) rfl dX4_insert_116 ?_
                refine lv_iconst (v := 3) hx hb dX4_insert_119 (by decide) ?_
                refine lv_iload_n hx hb dX4_insert_120 rfl (lv_at hl 2 rfl) ?_
                refine lv_imul hx hb dX4_insert_121 ?_
                refine ml_eqi (nI (3 * j)) (pk_mul 3 j) ?_
                refine lv_iconst (v := 1) hx hb dX4_insert_122 (by decide) ?_
                refine lv_iadd hx hb dX4_insert_123 ?_
                refine ml_eqi (nI (3 * j + 1)) (nI_add (3 * j) 1) ?_
                refine lv_iload_n hx hb dX4_insert_124 rfl (lv_at hl 4 rfl) ?_
                refine ml_iast hx hb hK hP hD hS 6 0 rfl rfl (3 * j + 1) rfl (by omega) (Nat.le_of_ble_eq_true rfl) dX4_insert_125 (fun H locs hP hD hS => ?_)
                have hP : va_P G vwCl (wM a cy (uX (uX (uV T (upd (tV T) j (vNew T j))) (upd (tX T) (3 * j) x)) (upd (upd (tX T) (3 * j) x) (3 * j + 1) y)) 0 sp) H := hP
                have hD : va_D A (wM a cy (uX (uX (uV T (upd (tV T) j (vNew T j))) (upd (tX T) (3 * j) x)) (upd (upd (tX T) (3 * j) x) (3 * j + 1) y)) 0 sp) := hD
                refine lv_aload_n hx hb dX4_insert_126 rfl (lv_at hl 1 rfl) ?_
                refine va_get (D := G) (ci := 4) (v := .ref (a 6)) (C := RX4) (T := TX4) (N := 16) hx hb hts hin_X4 hown hK hP 0 rfl rfl 10 (by decide) (hts (.fieldLink RX4 25 "MigrationledgerModel" "values" "[I") (by decide +kernel)) (fun _ h9 => h9) rfl dX4_insert_127 ?_
                refine lv_iconst (v := 3) hx hb dX4_insert_130 (by decide) ?_
                refine lv_iload_n hx hb dX4_insert_131 rfl (lv_at hl 2 rfl) ?_
                refine lv_imul hx hb dX4_insert_132 ?_
                refine ml_eqi (nI (3 * j)) (pk_mul 3 j) ?_
                refine lv_iconst (v := 2) hx hb dX4_insert_133 (by decide) ?_
                refine lv_iadd hx hb dX4_insert_134 ?_
                refine ml_eqi (nI (3 * j + 2)) (nI_add (3 * j) 2) ?_
                refine lv_iload hx hb dX4_insert_135 (lv_at hl 5 rfl) ?_
                refine ml_iast hx hb hK hP hD hS 6 0 rfl rfl (3 * j + 2) rfl (by omega) (Nat.le_of_ble_eq_true rfl) dX4_insert_137 (fun H locs hP hD hS => ?_)
                have hP : va_P G vwCl (wM a cy (uX (uX (uX (uV T (upd (tV T) j (vNew T j))) (upd (tX T) (3 * j) x)) (upd (upd (tX T) (3 * j) x) (3 * j + 1) y)) (upd (upd (upd (tX T) (3 * j) x) (3 * j + 1) y) (3 * j + 2) z)) 0 sp) H := hP
                have hD : va_D A (wM a cy (uX (uX (uX (uV T (upd (tV T) j (vNew T j))) (upd (tX T) (3 * j) x)) (upd (upd (tX T) (3 * j) x) (3 * j + 1) y)) (upd (upd (upd (tX T) (3 * j) x) (3 * j + 1) y) (3 * j + 2) z)) 0 sp) := hD
                refine lv_aload_n hx hb dX4_insert_138 rfl (lv_at hl 1 rfl) ?_
                refine va_get (D := G) (ci := 4) (v := .ref (a 5)) (C := RX4) (T := TX4) (N := 16) hx hb hts hin_X4 hown hK hP 0 rfl rfl 9 (by decide) (hts (.fieldLink RX4 22 "MigrationledgerModel" "versions" "[I") (by decide +kernel)) (fun _ h9 => h9) rfl dX4_insert_139 ?_
                refine lv_iload_n hx hb dX4_insert_142 rfl (lv_at hl 2 rfl) ?_
                refine ml_iald hx hb hK hP 5 0 rfl rfl (j) rfl (by omega) (Nat.le_of_ble_eq_true rfl) (vNew T j) pk_us dX4_insert_143 ?_
                exact ml_ri sp hx hb hr hlocks hP hK hD hS (by rw [(show sp_insert T (nI j) x y z = (0, vNew T j, uX (uX (uX (uV T (upd (tV T) j (vNew T j))) (upd (tX T) (3 * j) x)) (upd (upd (tX T) (3 * j) x) (3 * j + 1) y)) (upd (upd (upd (tX T) (3 * j) x) (3 * j + 1) y) (3 * j + 2) z)) from by unfold sp_insert; rw [cif_f (not_not_intro ⟨c_4, c_12, c_20, c_29⟩), ix_n (j := j) (by omega), cif_f (not_not_intro c_56)] <;> rfl)]) (by rw [(show sp_insert T (nI j) x y z = (0, vNew T j, uX (uX (uX (uV T (upd (tV T) j (vNew T j))) (upd (tX T) (3 * j) x)) (upd (upd (tX T) (3 * j) x) (3 * j + 1) y)) (upd (upd (upd (tX T) (3 * j) x) (3 * j + 1) y) (3 * j + 2) z)) from by unfold sp_insert; rw [cif_f (not_not_intro ⟨c_4, c_12, c_20, c_29⟩), ix_n (j := j) (by omega), cif_f (not_not_intro c_56)] <;> rfl)]) dX4_insert_144
          · refine lv_iconst (v := 2) hx hb dX4_insert_59 (by decide) ?_
            refine lv_goto (tgt := 64) hx hb dX4_insert_60 (by decide) ?_
            refine ml_Vi (G := G) (As := [.int 2]) (rest := []) ⟨hx, hb, hml, hown, hts⟩ (c_X4_refused l G cy a H.size T rf sp 2) (cwV 1 hts gX4_insert_X4_refused rfl rfl rfl (by decide +kernel) ⟨Nat.le_of_ble_eq_true rfl, Nat.le_of_ble_eq_true rfl⟩) (va_recv hK hP (ci := 4) (q0 := 0) rfl rfl) hP hK hD hS hN hA rfl hl.1 (Nat.le_of_ble_eq_true rfl) dX4_insert_64 ⟨Nat.le_of_ble_eq_true rfl, Nat.le_of_ble_eq_true rfl⟩ (fun r_64 u_64 H locs hw hP hD hS => ?_)
            obtain rfl : r_64 = 1 := hw.trans (b2i_t (by decide))
            have hP : va_P G vwCl (wM a cy T 2 sp) H := hP
            have hD : va_D A (wM a cy T 2 sp) := hD
            refine lv_if_eq (tgt := 72) hx hb dX4_insert_67 (by decide) (fun c_67 => False.elim (by revert c_67; decide)) (fun c_67 => ?_)
            refine lv_iconst (v := 0) hx hb dX4_insert_70 (by decide) ?_
            exact ml_ri sp hx hb hr hlocks hP hK hD hS (by rw [(show sp_insert T (nI j) x y z = (2, 0, T) from by unfold sp_insert; rw [cif_f (not_not_intro ⟨c_4, c_12, c_20, c_29⟩), ix_n (j := j) (by omega), cif_t c_56] <;> rfl)]) (by rw [(show sp_insert T (nI j) x y z = (2, 0, T) from by unfold sp_insert; rw [cif_f (not_not_intro ⟨c_4, c_12, c_20, c_29⟩), ix_n (j := j) (by omega), cif_t c_56] <;> rfl)]) dX4_insert_71
set_option maxHeartbeats 4000000 in
set_option maxRecDepth 100000 in
theorem c_X4_write (l : Launch) (G : va_G) (cy : Nat → ClassId) (a : Nat → Nat) (sz : Nat) (T : TS) (rf : Int32) (sp : Nat → Int64) (i : Int32) (x : Int32) (y : Int32) (hI : Inv T) : Met l yX4_write wsX4_write ({ frames := 3, cells := 0, slots := 0, locals := 64 } : Room) (ml_P G cy [.ref (a 0), .int i, .int x, .int y] (wM a cy T rf sp) sz) (va_Qi (fun (r : Int32) (u : Nat → Int64) => (sp_write T i x y).2.1 = r) (ml_B G cy (va_A (wM a cy T rf sp) sz) (fun (u : Nat → Int64) => (wM a cy ((sp_write T i x y).2.2) ((sp_write T i x y).1) u))) (va_A (wM a cy T rf sp) sz)) 0 0 (va_A (wM a cy T rf sp) sz) := by
  refine Met.ofW (cc := cX4_write) (maxL := 5) (ret := (some .int)) (by decide) rfl ?_
  intro p e s m args below meth c s₁ B hml hv
  obtain ⟨rfl, hsz, hP, hK, hD0, hN⟩ := hv
  have hx := B.exec
  have hb := B.bytes
  have hr := B.returns
  have hts := atoms_spec (ws := wsX4_write) B.pre
  have hown : s.vm.findClass RX4 = some m.cls := findClass_of_methodNamed B.named
  have hlocks := B.notSynchronized
  subst hsz
  have hD := hD0.self (sz := s.heap.size)
  generalize hAe : va_A (wM a cy T rf sp) s.heap.size = A at hD ⊢
  have hA : ∀ q : Nat, s.heap.size ≤ q → A q := fun q h => by rw [← hAe]; exact Or.inr h
  have hS : va_S A s.heap s.heap [] := va_S.rf
  have hP : va_P G vwCl (wM a cy T rf sp) s.heap := hP
  have hin_X4 : ∀ w ∈ wsX40, w ∈ wsX4_write := by decide +kernel
  have hl := lv_entry ([.ref (a 0), .int i, .int x, .int y]) (n := 5) (Nat.le_of_ble_eq_true rfl)
  rw [lg_entry_eq]
  generalize (lg_sl ([.ref (a 0), .int i, .int x, .int y]) ++ List.replicate (5 - (lg_sl ([.ref (a 0), .int i, .int x, .int y])).length) Slot.unset).toArray = ls at hl ⊢
  have hl : lv_has ls 5 [(0, .ref (a 0)), (1, .int i), (2, .int x), (3, .int y)] := hl
  have hn12 : tn T ≤ 12 := hI.1.1
  have hlvn : tlv T ≤ tn T := hI.1.2.1
  have hcu : tcu T ≤ 40 := hI.1.2.2
  have hW := hI.w
  refine lv_aload_n hx hb dX4_write_0 rfl (lv_at hl 0 rfl) ?_
  refine lv_iload_n hx hb dX4_write_1 rfl (lv_at hl 2 rfl) ?_
  refine lv_iconst (v := 0) hx hb dX4_write_2 (by decide) ?_
  refine lv_iconst (v := 2) hx hb dX4_write_3 (by decide) ?_
  refine ml_Si (G := G) (As := [.int x, .int 0, .int 2]) (rest := [.ref (a 0)]) ⟨hx, hb, hml, hown, hts⟩ (c_X4_in l G cy a s.heap.size T rf sp x 0 2) (va_cwS 3 hts gX4_write_X4_in rfl rfl rfl (by decide +kernel) ⟨Nat.le_of_ble_eq_true rfl, Nat.le_of_ble_eq_true rfl⟩) hP hK hD hS hN hA rfl hl.1 (Nat.le_of_ble_eq_true rfl) dX4_write_4 ⟨Nat.le_of_ble_eq_true rfl, Nat.le_of_ble_eq_true rfl⟩ (fun r_4 u_4 H locs hw hP hD hS => ?_)
  obtain rfl : r_4 = b2i (inR x 0 2) := hw
  have hP : va_P G vwCl (wM a cy T rf sp) H := hP
  have hD : va_D A (wM a cy T rf sp) := hD
  refine ml_ifeqb (tgt := 22) hx hb dX4_write_7 (by decide) (fun c_7 => ?_) (fun c_7 => ?_)
  · refine lv_iconst (v := 0) hx hb dX4_write_22 (by decide) ?_
    refine lv_iload_n hx hb dX4_write_23 rfl (lv_at hl 1 rfl) ?_
    refine ml_Vi (G := G) (As := [.int 0, .int i]) (rest := []) ⟨hx, hb, hml, hown, hts⟩ (c_X4_noRow l G cy a H.size T rf sp 0 False (Or.inr ⟨rfl, id⟩) i) (cwV 2 hts gX4_write_X4_noRow rfl rfl rfl (by decide +kernel) ⟨Nat.le_of_ble_eq_true rfl, Nat.le_of_ble_eq_true rfl⟩) (va_recv hK hP (ci := 4) (q0 := 0) rfl rfl) hP hK hD hS hN hA rfl hl.1 (Nat.le_of_ble_eq_true rfl) dX4_write_24 ⟨Nat.le_of_ble_eq_true rfl, Nat.le_of_ble_eq_true rfl⟩ (fun r_24 u_24 H locs hw hP hD hS => ?_)
    obtain rfl : r_24 = b2i (cdN T False i ≠ 0) := hw
    have hP : va_P G vwCl (wM a cy T (cdN T False i) sp) H := hP
    have hD : va_D A (wM a cy T (cdN T False i) sp) := hD
    refine ml_ifeqb (tgt := 32) hx hb dX4_write_27 (by decide) (fun c_27 => False.elim ((cdN_0 c_27).1)) (fun c_27 => ?_)
    refine lv_iconst (v := 0) hx hb dX4_write_30 (by decide) ?_
    exact ml_ri sp hx hb hr hlocks hP hK hD hS (by rw [(show sp_write T i x y = (cdN T False i, 0, T) from nr_lem ⟨fun _ q => q.1, fun _ q => c_7 q.2.1⟩ c_27)]) (by rw [(show sp_write T i x y = (cdN T False i, 0, T) from nr_lem ⟨fun _ q => q.1, fun _ q => c_7 q.2.1⟩ c_27)]) dX4_write_31
  · refine lv_iload_n hx hb dX4_write_10 rfl (lv_at hl 3 rfl) ?_
    refine lv_i2l (v := y.toInt64) hx hb dX4_write_11 rfl ?_
    refine ml_Si (G := G) (As := [.long y.toInt64]) (rest := [.ref (a 0)]) ⟨hx, hb, hml, hown, hts⟩ (c_X4_isValue l G cy a H.size T rf sp y.toInt64) (va_cwS 1 hts gX4_write_X4_isValue rfl rfl rfl (by decide +kernel) ⟨Nat.le_of_ble_eq_true rfl, Nat.le_of_ble_eq_true rfl⟩) hP hK hD hS hN hA rfl hl.1 (Nat.le_of_ble_eq_true rfl) dX4_write_12 ⟨Nat.le_of_ble_eq_true rfl, Nat.le_of_ble_eq_true rfl⟩ (fun r_12 u_12 H locs hw hP hD hS => ?_)
    obtain rfl : r_12 = b2i (okV y.toInt64) := hw
    have hP : va_P G vwCl (wM a cy T rf sp) H := hP
    have hD : va_D A (wM a cy T rf sp) := hD
    refine ml_ifeqb (tgt := 22) hx hb dX4_write_15 (by decide) (fun c_15 => ?_) (fun c_15 => ?_)
    · refine lv_iconst (v := 0) hx hb dX4_write_22 (by decide) ?_
      refine lv_iload_n hx hb dX4_write_23 rfl (lv_at hl 1 rfl) ?_
      refine ml_Vi (G := G) (As := [.int 0, .int i]) (rest := []) ⟨hx, hb, hml, hown, hts⟩ (c_X4_noRow l G cy a H.size T rf sp 0 False (Or.inr ⟨rfl, id⟩) i) (cwV 2 hts gX4_write_X4_noRow rfl rfl rfl (by decide +kernel) ⟨Nat.le_of_ble_eq_true rfl, Nat.le_of_ble_eq_true rfl⟩) (va_recv hK hP (ci := 4) (q0 := 0) rfl rfl) hP hK hD hS hN hA rfl hl.1 (Nat.le_of_ble_eq_true rfl) dX4_write_24 ⟨Nat.le_of_ble_eq_true rfl, Nat.le_of_ble_eq_true rfl⟩ (fun r_24 u_24 H locs hw hP hD hS => ?_)
      obtain rfl : r_24 = b2i (cdN T False i ≠ 0) := hw
      have hP : va_P G vwCl (wM a cy T (cdN T False i) sp) H := hP
      have hD : va_D A (wM a cy T (cdN T False i) sp) := hD
      refine ml_ifeqb (tgt := 32) hx hb dX4_write_27 (by decide) (fun c_27 => False.elim ((cdN_0 c_27).1)) (fun c_27 => ?_)
      refine lv_iconst (v := 0) hx hb dX4_write_30 (by decide) ?_
      exact ml_ri sp hx hb hr hlocks hP hK hD hS (by rw [(show sp_write T i x y = (cdN T False i, 0, T) from nr_lem ⟨fun _ q => q.1, fun _ q => c_15 q.2.2⟩ c_27)]) (by rw [(show sp_write T i x y = (cdN T False i, 0, T) from nr_lem ⟨fun _ q => q.1, fun _ q => c_15 q.2.2⟩ c_27)]) dX4_write_31
    · refine lv_iconst (v := 1) hx hb dX4_write_18 (by decide) ?_
      refine lv_goto (tgt := 23) hx hb dX4_write_19 (by decide) ?_
      refine lv_iload_n hx hb dX4_write_23 rfl (lv_at hl 1 rfl) ?_
      refine ml_Vi (G := G) (As := [.int 1, .int i]) (rest := []) ⟨hx, hb, hml, hown, hts⟩ (c_X4_noRow l G cy a H.size T rf sp 1 True (Or.inl ⟨rfl, trivial⟩) i) (cwV 2 hts gX4_write_X4_noRow rfl rfl rfl (by decide +kernel) ⟨Nat.le_of_ble_eq_true rfl, Nat.le_of_ble_eq_true rfl⟩) (va_recv hK hP (ci := 4) (q0 := 0) rfl rfl) hP hK hD hS hN hA rfl hl.1 (Nat.le_of_ble_eq_true rfl) dX4_write_24 ⟨Nat.le_of_ble_eq_true rfl, Nat.le_of_ble_eq_true rfl⟩ (fun r_24 u_24 H locs hw hP hD hS => ?_)
      obtain rfl : r_24 = b2i (cdN T True i ≠ 0) := hw
      have hP : va_P G vwCl (wM a cy T (cdN T True i) sp) H := hP
      have hD : va_D A (wM a cy T (cdN T True i) sp) := hD
      refine ml_ifeqb (tgt := 32) hx hb dX4_write_27 (by decide) (fun c_27 => ?_) (fun c_27 => ?_)
      · have h27 := cdN_0 c_27
        obtain ⟨j, hj, rfl⟩ := inR_n 39 (by decide) h27.2.1
        have v27 : tV T j ≠ -1 := by have q := h27.2.2; rw [ix_n (by omega)] at q; exact q
        obtain ⟨k, hk, rfl⟩ := inR_n 2 (by decide) c_7
        have hP : va_P G vwCl (wM a cy T 0 sp) H := by
          rw [show cdN T True (nI j) = 0 from Classical.not_not.mp c_27] at hP
          exact hP
        have hD : va_D A (wM a cy T 0 sp) := by
          rw [show cdN T True (nI j) = 0 from Classical.not_not.mp c_27] at hD
          exact hD
        refine lv_aload_n hx hb dX4_write_32 rfl (lv_at hl 0 rfl) ?_
        refine va_get (D := G) (ci := 4) (v := .ref (a 6)) (C := RX4) (T := TX4) (N := 16) hx hb hts hin_X4 hown hK hP 0 rfl rfl 10 (by decide) (hts (.fieldLink RX4 25 "MigrationledgerModel" "values" "[I") (by decide +kernel)) (fun _ h9 => h9) rfl dX4_write_33 ?_
        refine lv_iconst (v := 3) hx hb dX4_write_36 (by decide) ?_
        refine lv_iload_n hx hb dX4_write_37 rfl (lv_at hl 1 rfl) ?_
        refine lv_imul hx hb dX4_write_38 ?_
        refine ml_eqi (nI (3 * j)) (pk_mul 3 j) ?_
        refine lv_iload_n hx hb dX4_write_39 rfl (lv_at hl 2 rfl) ?_
        refine lv_iadd hx hb dX4_write_40 ?_
        refine ml_eqi (nI (3 * j + k)) (nI_add (3 * j) k) ?_
        refine ml_iald hx hb hK hP 6 0 rfl rfl (3 * j + k) rfl (by omega) (Nat.le_of_ble_eq_true rfl) ((tX T) (3 * j + k)) rfl dX4_write_41 ?_
        refine lv_istore (lv' := [(4, .int ((tX T) (3 * j + k))), (0, .ref (a 0)), (1, .int (nI j)), (2, .int (nI k)), (3, .int y)]) hx hb dX4_write_42 hl (by decide) rfl (fun ls hl => ?_)
        refine lv_aload_n hx hb dX4_write_44 rfl (lv_at hl 1 rfl) ?_
        refine va_get (D := G) (ci := 4) (v := .ref (a 6)) (C := RX4) (T := TX4) (N := 16) hx hb hts hin_X4 hown hK hP 0 rfl rfl 10 (by decide) (hts (.fieldLink RX4 25 "MigrationledgerModel" "values" "[I") (by decide +kernel)) (fun _ h9 => h9) rfl dX4_write_45 ?_
        refine lv_iconst (v := 3) hx hb dX4_write_48 (by decide) ?_
        refine lv_iload_n hx hb dX4_write_49 rfl (lv_at hl 2 rfl) ?_
        refine lv_imul hx hb dX4_write_50 ?_
        refine ml_eqi (nI (3 * j)) (pk_mul 3 j) ?_
        refine lv_iload_n hx hb dX4_write_51 rfl (lv_at hl 3 rfl) ?_
        refine lv_iadd hx hb dX4_write_52 ?_
        refine ml_eqi (nI (3 * j + k)) (nI_add (3 * j) k) ?_
        refine lv_iload_n hx hb dX4_write_53 rfl (lv_at hl 4 rfl) ?_
        refine ml_iast hx hb hK hP hD hS 6 0 rfl rfl (3 * j + k) rfl (by omega) (Nat.le_of_ble_eq_true rfl) dX4_write_54 (fun H locs hP hD hS => ?_)
        have hP : va_P G vwCl (wM a cy (uX T (upd (tX T) (3 * j + k) y)) 0 sp) H := hP
        have hD : va_D A (wM a cy (uX T (upd (tX T) (3 * j + k) y)) 0 sp) := hD
        refine lv_iload hx hb dX4_write_55 (lv_at hl 0 rfl) ?_
        exact ml_ri sp hx hb hr hlocks hP hK hD hS (by rw [(show sp_write T (nI j) (nI k) y = (0, (tX T) (3 * j + k), uX T (upd (tX T) (3 * j + k) y)) from by unfold sp_write; rw [cif_f (not_not_intro ⟨h27.2.1, c_7, c_15⟩), ix_n (j := j) (by omega), cif_f v27, ix_n (j := k) (by omega)] <;> rfl)]) (by rw [(show sp_write T (nI j) (nI k) y = (0, (tX T) (3 * j + k), uX T (upd (tX T) (3 * j + k) y)) from by unfold sp_write; rw [cif_f (not_not_intro ⟨h27.2.1, c_7, c_15⟩), ix_n (j := j) (by omega), cif_f v27, ix_n (j := k) (by omega)] <;> rfl)]) dX4_write_57
      · refine lv_iconst (v := 0) hx hb dX4_write_30 (by decide) ?_
        exact ml_ri sp hx hb hr hlocks hP hK hD hS (by rw [(show sp_write T i x y = (cdN T True i, 0, T) from nr_lem ⟨fun n q => n ⟨q.2, c_7, c_15⟩, fun n q => n ⟨trivial, q.1⟩⟩ c_27)]) (by rw [(show sp_write T i x y = (cdN T True i, 0, T) from nr_lem ⟨fun n q => n ⟨q.2, c_7, c_15⟩, fun n q => n ⟨trivial, q.1⟩⟩ c_27)]) dX4_write_31
set_option maxHeartbeats 4000000 in
set_option maxRecDepth 100000 in
theorem c_X4_delete (l : Launch) (G : va_G) (cy : Nat → ClassId) (a : Nat → Nat) (sz : Nat) (T : TS) (rf : Int32) (sp : Nat → Int64) (i : Int32) (hI : Inv T) : Met l yX4_delete wsX4_delete ({ frames := 3, cells := 0, slots := 0, locals := 64 } : Room) (ml_P G cy [.ref (a 0), .int i] (wM a cy T rf sp) sz) (va_Qi (fun (r : Int32) (u : Nat → Int64) => (sp_delete T i).2.1 = r) (ml_B G cy (va_A (wM a cy T rf sp) sz) (fun (u : Nat → Int64) => (wM a cy ((sp_delete T i).2.2) ((sp_delete T i).1) u))) (va_A (wM a cy T rf sp) sz)) 0 0 (va_A (wM a cy T rf sp) sz) := by
  refine Met.ofW (cc := cX4_delete) (maxL := 3) (ret := (some .int)) (by decide) rfl ?_
  intro p e s m args below meth c s₁ B hml hv
  obtain ⟨rfl, hsz, hP, hK, hD0, hN⟩ := hv
  have hx := B.exec
  have hb := B.bytes
  have hr := B.returns
  have hts := atoms_spec (ws := wsX4_delete) B.pre
  have hown : s.vm.findClass RX4 = some m.cls := findClass_of_methodNamed B.named
  have hlocks := B.notSynchronized
  subst hsz
  have hD := hD0.self (sz := s.heap.size)
  generalize hAe : va_A (wM a cy T rf sp) s.heap.size = A at hD ⊢
  have hA : ∀ q : Nat, s.heap.size ≤ q → A q := fun q h => by rw [← hAe]; exact Or.inr h
  have hS : va_S A s.heap s.heap [] := va_S.rf
  have hP : va_P G vwCl (wM a cy T rf sp) s.heap := hP
  have hin_X4 : ∀ w ∈ wsX40, w ∈ wsX4_delete := by decide +kernel
  have hl := lv_entry ([.ref (a 0), .int i]) (n := 3) (Nat.le_of_ble_eq_true rfl)
  rw [lg_entry_eq]
  generalize (lg_sl ([.ref (a 0), .int i]) ++ List.replicate (3 - (lg_sl ([.ref (a 0), .int i])).length) Slot.unset).toArray = ls at hl ⊢
  have hl : lv_has ls 3 [(0, .ref (a 0)), (1, .int i)] := hl
  have hn12 : tn T ≤ 12 := hI.1.1
  have hlvn : tlv T ≤ tn T := hI.1.2.1
  have hcu : tcu T ≤ 40 := hI.1.2.2
  have hW := hI.w
  refine lv_aload_n hx hb dX4_delete_0 rfl (lv_at hl 0 rfl) ?_
  refine lv_iconst (v := 1) hx hb dX4_delete_1 (by decide) ?_
  refine lv_iload_n hx hb dX4_delete_2 rfl (lv_at hl 1 rfl) ?_
  refine ml_Vi (G := G) (As := [.int 1, .int i]) (rest := []) ⟨hx, hb, hml, hown, hts⟩ (c_X4_noRow l G cy a s.heap.size T rf sp 1 True (Or.inl ⟨rfl, trivial⟩) i) (cwV 2 hts gX4_delete_X4_noRow rfl rfl rfl (by decide +kernel) ⟨Nat.le_of_ble_eq_true rfl, Nat.le_of_ble_eq_true rfl⟩) (va_recv hK hP (ci := 4) (q0 := 0) rfl rfl) hP hK hD hS hN hA rfl hl.1 (Nat.le_of_ble_eq_true rfl) dX4_delete_3 ⟨Nat.le_of_ble_eq_true rfl, Nat.le_of_ble_eq_true rfl⟩ (fun r_3 u_3 H locs hw hP hD hS => ?_)
  obtain rfl : r_3 = b2i (cdN T True i ≠ 0) := hw
  have hP : va_P G vwCl (wM a cy T (cdN T True i) sp) H := hP
  have hD : va_D A (wM a cy T (cdN T True i) sp) := hD
  refine ml_ifeqb (tgt := 11) hx hb dX4_delete_6 (by decide) (fun c_6 => ?_) (fun c_6 => ?_)
  · have h6 := cdN_0 c_6
    obtain ⟨j, hj, rfl⟩ := inR_n 39 (by decide) h6.2.1
    have v6 : tV T j ≠ -1 := by have q := h6.2.2; rw [ix_n (by omega)] at q; exact q
    have hP : va_P G vwCl (wM a cy T 0 sp) H := by
      rw [show cdN T True (nI j) = 0 from Classical.not_not.mp c_6] at hP
      exact hP
    have hD : va_D A (wM a cy T 0 sp) := by
      rw [show cdN T True (nI j) = 0 from Classical.not_not.mp c_6] at hD
      exact hD
    refine lv_aload_n hx hb dX4_delete_11 rfl (lv_at hl 0 rfl) ?_
    refine va_get (D := G) (ci := 4) (v := .ref (a 5)) (C := RX4) (T := TX4) (N := 16) hx hb hts hin_X4 hown hK hP 0 rfl rfl 9 (by decide) (hts (.fieldLink RX4 22 "MigrationledgerModel" "versions" "[I") (by decide +kernel)) (fun _ h9 => h9) rfl dX4_delete_12 ?_
    refine lv_iload_n hx hb dX4_delete_15 rfl (lv_at hl 1 rfl) ?_
    refine ml_iald hx hb hK hP 5 0 rfl rfl (j) rfl (by omega) (Nat.le_of_ble_eq_true rfl) ((tV T) j) rfl dX4_delete_16 ?_
    refine lv_istore_n (lv' := [(2, .int ((tV T) j)), (0, .ref (a 0)), (1, .int (nI j))]) hx hb dX4_delete_17 rfl hl (by decide) rfl (fun ls hl => ?_)
    refine lv_aload_n hx hb dX4_delete_18 rfl (lv_at hl 1 rfl) ?_
    refine va_get (D := G) (ci := 4) (v := .ref (a 5)) (C := RX4) (T := TX4) (N := 16) hx hb hts hin_X4 hown hK hP 0 rfl rfl 9 (by decide) (hts (.fieldLink RX4 22 "MigrationledgerModel" "versions" "[I") (by decide +kernel)) (fun _ h9 => h9) rfl dX4_delete_19 ?_
    refine lv_iload_n hx hb dX4_delete_22 rfl (lv_at hl 2 rfl) ?_
    refine lv_iconst (v := (-1)) hx hb dX4_delete_23 (by decide) ?_
    refine ml_iast hx hb hK hP hD hS 5 0 rfl rfl (j) rfl (by omega) (Nat.le_of_ble_eq_true rfl) dX4_delete_24 (fun H locs hP hD hS => ?_)
    have hP : va_P G vwCl (wM a cy (uV T (upd (tV T) j (-1))) 0 sp) H := hP
    have hD : va_D A (wM a cy (uV T (upd (tV T) j (-1))) 0 sp) := hD
    refine lv_iload_n hx hb dX4_delete_25 rfl (lv_at hl 0 rfl) ?_
    exact ml_ri sp hx hb hr hlocks hP hK hD hS (by rw [(show sp_delete T (nI j) = (0, (tV T) j, uV T (upd (tV T) j (-1))) from by unfold sp_delete; rw [cif_f (not_not_intro h6.2.1), ix_n (j := j) (by omega), cif_f v6] <;> rfl)]) (by rw [(show sp_delete T (nI j) = (0, (tV T) j, uV T (upd (tV T) j (-1))) from by unfold sp_delete; rw [cif_f (not_not_intro h6.2.1), ix_n (j := j) (by omega), cif_f v6] <;> rfl)]) dX4_delete_26
  · refine lv_iconst (v := 0) hx hb dX4_delete_9 (by decide) ?_
    exact ml_ri sp hx hb hr hlocks hP hK hD hS (by rw [(show sp_delete T i = (cdN T True i, 0, T) from nr_lem ⟨fun n q => n q.2, fun n q => n ⟨trivial, q⟩⟩ c_6)]) (by rw [(show sp_delete T i = (cdN T True i, 0, T) from nr_lem ⟨fun n q => n q.2, fun n q => n ⟨trivial, q⟩⟩ c_6)]) dX4_delete_10
set_option maxHeartbeats 4000000 in
set_option maxRecDepth 100000 in
theorem c_X4_value (l : Launch) (G : va_G) (cy : Nat → ClassId) (a : Nat → Nat) (sz : Nat) (T : TS) (rf : Int32) (sp : Nat → Int64) (i : Int32) (x : Int32) (hI : Inv T) : Met l yX4_value wsX4_value ({ frames := 3, cells := 0, slots := 0, locals := 64 } : Room) (ml_P G cy [.ref (a 0), .int i, .int x] (wM a cy T rf sp) sz) (va_Qi (fun (r : Int32) (u : Nat → Int64) => (sp_value T i x).2.1 = r) (ml_B G cy (va_A (wM a cy T rf sp) sz) (fun (u : Nat → Int64) => (wM a cy ((sp_value T i x).2.2) ((sp_value T i x).1) u))) (va_A (wM a cy T rf sp) sz)) 0 0 (va_A (wM a cy T rf sp) sz) := by
  refine Met.ofW (cc := cX4_value) (maxL := 3) (ret := (some .int)) (by decide) rfl ?_
  intro p e s m args below meth c s₁ B hml hv
  obtain ⟨rfl, hsz, hP, hK, hD0, hN⟩ := hv
  have hx := B.exec
  have hb := B.bytes
  have hr := B.returns
  have hts := atoms_spec (ws := wsX4_value) B.pre
  have hown : s.vm.findClass RX4 = some m.cls := findClass_of_methodNamed B.named
  have hlocks := B.notSynchronized
  subst hsz
  have hD := hD0.self (sz := s.heap.size)
  generalize hAe : va_A (wM a cy T rf sp) s.heap.size = A at hD ⊢
  have hA : ∀ q : Nat, s.heap.size ≤ q → A q := fun q h => by rw [← hAe]; exact Or.inr h
  have hS : va_S A s.heap s.heap [] := va_S.rf
  have hP : va_P G vwCl (wM a cy T rf sp) s.heap := hP
  have hin_X4 : ∀ w ∈ wsX40, w ∈ wsX4_value := by decide +kernel
  have hl := lv_entry ([.ref (a 0), .int i, .int x]) (n := 3) (Nat.le_of_ble_eq_true rfl)
  rw [lg_entry_eq]
  generalize (lg_sl ([.ref (a 0), .int i, .int x]) ++ List.replicate (3 - (lg_sl ([.ref (a 0), .int i, .int x])).length) Slot.unset).toArray = ls at hl ⊢
  have hl : lv_has ls 3 [(0, .ref (a 0)), (1, .int i), (2, .int x)] := hl
  have hn12 : tn T ≤ 12 := hI.1.1
  have hlvn : tlv T ≤ tn T := hI.1.2.1
  have hcu : tcu T ≤ 40 := hI.1.2.2
  have hW := hI.w
  refine lv_aload_n hx hb dX4_value_0 rfl (lv_at hl 0 rfl) ?_
  refine lv_iload_n hx hb dX4_value_1 rfl (lv_at hl 2 rfl) ?_
  refine lv_iconst (v := 0) hx hb dX4_value_2 (by decide) ?_
  refine lv_iconst (v := 2) hx hb dX4_value_3 (by decide) ?_
  refine ml_Si (G := G) (As := [.int x, .int 0, .int 2]) (rest := [.ref (a 0)]) ⟨hx, hb, hml, hown, hts⟩ (c_X4_in l G cy a s.heap.size T rf sp x 0 2) (va_cwS 3 hts gX4_value_X4_in rfl rfl rfl (by decide +kernel) ⟨Nat.le_of_ble_eq_true rfl, Nat.le_of_ble_eq_true rfl⟩) hP hK hD hS hN hA rfl hl.1 (Nat.le_of_ble_eq_true rfl) dX4_value_4 ⟨Nat.le_of_ble_eq_true rfl, Nat.le_of_ble_eq_true rfl⟩ (fun r_4 u_4 H locs hw hP hD hS => ?_)
  obtain rfl : r_4 = b2i (inR x 0 2) := hw
  have hP : va_P G vwCl (wM a cy T rf sp) H := hP
  have hD : va_D A (wM a cy T rf sp) := hD
  refine lv_iload_n hx hb dX4_value_7 rfl (lv_at hl 1 rfl) ?_
  refine ml_Vi (G := G) (As := [.int (b2i (inR x 0 2)), .int i]) (rest := []) ⟨hx, hb, hml, hown, hts⟩ (c_X4_noRow l G cy a H.size T rf sp (b2i (inR x 0 2)) (inR x 0 2) b2i_c i) (cwV 2 hts gX4_value_X4_noRow rfl rfl rfl (by decide +kernel) ⟨Nat.le_of_ble_eq_true rfl, Nat.le_of_ble_eq_true rfl⟩) (va_recv hK hP (ci := 4) (q0 := 0) rfl rfl) hP hK hD hS hN hA rfl hl.1 (Nat.le_of_ble_eq_true rfl) dX4_value_8 ⟨Nat.le_of_ble_eq_true rfl, Nat.le_of_ble_eq_true rfl⟩ (fun r_8 u_8 H locs hw hP hD hS => ?_)
  obtain rfl : r_8 = b2i (cdN T (inR x 0 2) i ≠ 0) := hw
  have hP : va_P G vwCl (wM a cy T (cdN T (inR x 0 2) i) sp) H := hP
  have hD : va_D A (wM a cy T (cdN T (inR x 0 2) i) sp) := hD
  refine ml_ifeqb (tgt := 18) hx hb dX4_value_11 (by decide) (fun c_11 => ?_) (fun c_11 => ?_)
  · have h11 := cdN_0 c_11
    obtain ⟨j, hj, rfl⟩ := inR_n 39 (by decide) h11.2.1
    have v11 : tV T j ≠ -1 := by have q := h11.2.2; rw [ix_n (by omega)] at q; exact q
    obtain ⟨k, hk, rfl⟩ := inR_n 2 (by decide) h11.1
    have hP : va_P G vwCl (wM a cy T 0 sp) H := by
      rw [show cdN T (inR (nI k) 0 2) (nI j) = 0 from Classical.not_not.mp c_11] at hP
      exact hP
    have hD : va_D A (wM a cy T 0 sp) := by
      rw [show cdN T (inR (nI k) 0 2) (nI j) = 0 from Classical.not_not.mp c_11] at hD
      exact hD
    refine lv_aload_n hx hb dX4_value_18 rfl (lv_at hl 0 rfl) ?_
    refine va_get (D := G) (ci := 4) (v := .ref (a 6)) (C := RX4) (T := TX4) (N := 16) hx hb hts hin_X4 hown hK hP 0 rfl rfl 10 (by decide) (hts (.fieldLink RX4 25 "MigrationledgerModel" "values" "[I") (by decide +kernel)) (fun _ h9 => h9) rfl dX4_value_19 ?_
    refine lv_iconst (v := 3) hx hb dX4_value_22 (by decide) ?_
    refine lv_iload_n hx hb dX4_value_23 rfl (lv_at hl 1 rfl) ?_
    refine lv_imul hx hb dX4_value_24 ?_
    refine ml_eqi (nI (3 * j)) (pk_mul 3 j) ?_
    refine lv_iload_n hx hb dX4_value_25 rfl (lv_at hl 2 rfl) ?_
    refine lv_iadd hx hb dX4_value_26 ?_
    refine ml_eqi (nI (3 * j + k)) (nI_add (3 * j) k) ?_
    refine ml_iald hx hb hK hP 6 0 rfl rfl (3 * j + k) rfl (by omega) (Nat.le_of_ble_eq_true rfl) ((tX T) (3 * j + k)) rfl dX4_value_27 ?_
    exact ml_ri sp hx hb hr hlocks hP hK hD hS (by rw [(show sp_value T (nI j) (nI k) = (0, (tX T) (3 * j + k), T) from by unfold sp_value; rw [cif_f (not_not_intro ⟨h11.2.1, h11.1⟩), ix_n (j := j) (by omega), cif_f v11, ix_n (j := k) (by omega)] <;> rfl)]) (by rw [(show sp_value T (nI j) (nI k) = (0, (tX T) (3 * j + k), T) from by unfold sp_value; rw [cif_f (not_not_intro ⟨h11.2.1, h11.1⟩), ix_n (j := j) (by omega), cif_f v11, ix_n (j := k) (by omega)] <;> rfl)]) dX4_value_28
  · refine lv_iconst (v := 0) hx hb dX4_value_14 (by decide) ?_
    refine lv_goto (tgt := 28) hx hb dX4_value_15 (by decide) ?_
    exact ml_ri sp hx hb hr hlocks hP hK hD hS (by rw [(show sp_value T i x = (cdN T (inR x 0 2) i, 0, T) from nr_lem ⟨fun n q => n ⟨q.2, q.1⟩, fun n q => n ⟨q.2, q.1⟩⟩ c_11)]) (by rw [(show sp_value T i x = (cdN T (inR x 0 2) i, 0, T) from nr_lem ⟨fun n q => n ⟨q.2, q.1⟩, fun n q => n ⟨q.2, q.1⟩⟩ c_11)]) dX4_value_28
set_option maxHeartbeats 4000000 in
set_option maxRecDepth 100000 in
theorem c_X4_version (l : Launch) (G : va_G) (cy : Nat → ClassId) (a : Nat → Nat) (sz : Nat) (T : TS) (rf : Int32) (sp : Nat → Int64) (i : Int32) (hI : Inv T) : Met l yX4_version wsX4_version ({ frames := 2, cells := 0, slots := 0, locals := 42 } : Room) (ml_P G cy [.ref (a 0), .int i] (wM a cy T rf sp) sz) (va_Qi (fun (r : Int32) (u : Nat → Int64) => (sp_version T i).2.1 = r) (ml_B G cy (va_A (wM a cy T rf sp) sz) (fun (u : Nat → Int64) => (wM a cy ((sp_version T i).2.2) ((sp_version T i).1) u))) (va_A (wM a cy T rf sp) sz)) 0 0 (va_A (wM a cy T rf sp) sz) := by
  refine Met.ofW (cc := cX4_version) (maxL := 2) (ret := (some .int)) (by decide) rfl ?_
  intro p e s m args below meth c s₁ B hml hv
  obtain ⟨rfl, hsz, hP, hK, hD0, hN⟩ := hv
  have hx := B.exec
  have hb := B.bytes
  have hr := B.returns
  have hts := atoms_spec (ws := wsX4_version) B.pre
  have hown : s.vm.findClass RX4 = some m.cls := findClass_of_methodNamed B.named
  have hlocks := B.notSynchronized
  subst hsz
  have hD := hD0.self (sz := s.heap.size)
  generalize hAe : va_A (wM a cy T rf sp) s.heap.size = A at hD ⊢
  have hA : ∀ q : Nat, s.heap.size ≤ q → A q := fun q h => by rw [← hAe]; exact Or.inr h
  have hS : va_S A s.heap s.heap [] := va_S.rf
  have hP : va_P G vwCl (wM a cy T rf sp) s.heap := hP
  have hin_X4 : ∀ w ∈ wsX40, w ∈ wsX4_version := by decide +kernel
  have hl := lv_entry ([.ref (a 0), .int i]) (n := 2) (Nat.le_of_ble_eq_true rfl)
  rw [lg_entry_eq]
  generalize (lg_sl ([.ref (a 0), .int i]) ++ List.replicate (2 - (lg_sl ([.ref (a 0), .int i])).length) Slot.unset).toArray = ls at hl ⊢
  have hl : lv_has ls 2 [(0, .ref (a 0)), (1, .int i)] := hl
  have hn12 : tn T ≤ 12 := hI.1.1
  have hlvn : tlv T ≤ tn T := hI.1.2.1
  have hcu : tcu T ≤ 40 := hI.1.2.2
  have hW := hI.w
  refine lv_aload_n hx hb dX4_version_0 rfl (lv_at hl 0 rfl) ?_
  refine lv_iload_n hx hb dX4_version_1 rfl (lv_at hl 1 rfl) ?_
  refine ml_Si (G := G) (As := [.int i]) (rest := [.ref (a 0)]) ⟨hx, hb, hml, hown, hts⟩ (c_X4_isRow l G cy a s.heap.size T rf sp i) (va_cwS 1 hts gX4_version_X4_isRow rfl rfl rfl (by decide +kernel) ⟨Nat.le_of_ble_eq_true rfl, Nat.le_of_ble_eq_true rfl⟩) hP hK hD hS hN hA rfl hl.1 (Nat.le_of_ble_eq_true rfl) dX4_version_2 ⟨Nat.le_of_ble_eq_true rfl, Nat.le_of_ble_eq_true rfl⟩ (fun r_2 u_2 H locs hw hP hD hS => ?_)
  obtain rfl : r_2 = b2i (inR i 0 39) := hw
  have hP : va_P G vwCl (wM a cy T rf sp) H := hP
  have hD : va_D A (wM a cy T rf sp) := hD
  refine ml_ifeqb (tgt := 12) hx hb dX4_version_5 (by decide) (fun c_5 => ?_) (fun c_5 => ?_)
  · refine lv_iconst (v := 1) hx hb dX4_version_12 (by decide) ?_
    refine ml_Vi (G := G) (As := [.int 1]) (rest := []) ⟨hx, hb, hml, hown, hts⟩ (c_X4_refused l G cy a H.size T rf sp 1) (cwV 1 hts gX4_version_X4_refused rfl rfl rfl (by decide +kernel) ⟨Nat.le_of_ble_eq_true rfl, Nat.le_of_ble_eq_true rfl⟩) (va_recv hK hP (ci := 4) (q0 := 0) rfl rfl) hP hK hD hS hN hA rfl hl.1 (Nat.le_of_ble_eq_true rfl) dX4_version_13 ⟨Nat.le_of_ble_eq_true rfl, Nat.le_of_ble_eq_true rfl⟩ (fun r_13 u_13 H locs hw hP hD hS => ?_)
    obtain rfl : r_13 = 1 := hw.trans (b2i_t (by decide))
    have hP : va_P G vwCl (wM a cy T 1 sp) H := hP
    have hD : va_D A (wM a cy T 1 sp) := hD
    refine lv_if_eq (tgt := 23) hx hb dX4_version_16 (by decide) (fun c_16 => False.elim (by revert c_16; decide)) (fun c_16 => ?_)
    refine lv_iconst (v := 0) hx hb dX4_version_19 (by decide) ?_
    refine lv_goto (tgt := 29) hx hb dX4_version_20 (by decide) ?_
    exact ml_ri sp hx hb hr hlocks hP hK hD hS (by rw [(show sp_version T i = (1, 0, T) from by unfold sp_version; rw [cif_t c_5] <;> rfl)]) (by rw [(show sp_version T i = (1, 0, T) from by unfold sp_version; rw [cif_t c_5] <;> rfl)]) dX4_version_29
  · obtain ⟨j, hj, rfl⟩ := inR_n 39 (by decide) c_5
    refine lv_iconst (v := 0) hx hb dX4_version_8 (by decide) ?_
    refine lv_goto (tgt := 13) hx hb dX4_version_9 (by decide) ?_
    refine ml_Vi (G := G) (As := [.int 0]) (rest := []) ⟨hx, hb, hml, hown, hts⟩ (c_X4_refused l G cy a H.size T rf sp 0) (cwV 1 hts gX4_version_X4_refused rfl rfl rfl (by decide +kernel) ⟨Nat.le_of_ble_eq_true rfl, Nat.le_of_ble_eq_true rfl⟩) (va_recv hK hP (ci := 4) (q0 := 0) rfl rfl) hP hK hD hS hN hA rfl hl.1 (Nat.le_of_ble_eq_true rfl) dX4_version_13 ⟨Nat.le_of_ble_eq_true rfl, Nat.le_of_ble_eq_true rfl⟩ (fun r_13 u_13 H locs hw hP hD hS => ?_)
    obtain rfl : r_13 = 0 := hw.trans (b2i_f (by decide))
    have hP : va_P G vwCl (wM a cy T 0 sp) H := hP
    have hD : va_D A (wM a cy T 0 sp) := hD
    refine lv_if_eq (tgt := 23) hx hb dX4_version_16 (by decide) (fun c_16 => ?_) (fun c_16 => False.elim (by revert c_16; decide))
    refine lv_aload_n hx hb dX4_version_23 rfl (lv_at hl 0 rfl) ?_
    refine va_get (D := G) (ci := 4) (v := .ref (a 5)) (C := RX4) (T := TX4) (N := 16) hx hb hts hin_X4 hown hK hP 0 rfl rfl 9 (by decide) (hts (.fieldLink RX4 22 "MigrationledgerModel" "versions" "[I") (by decide +kernel)) (fun _ h9 => h9) rfl dX4_version_24 ?_
    refine lv_iload_n hx hb dX4_version_27 rfl (lv_at hl 1 rfl) ?_
    refine ml_iald hx hb hK hP 5 0 rfl rfl (j) rfl (by omega) (Nat.le_of_ble_eq_true rfl) ((tV T) j) rfl dX4_version_28 ?_
    exact ml_ri sp hx hb hr hlocks hP hK hD hS (by rw [(show sp_version T (nI j) = (0, (tV T) j, T) from by unfold sp_version; rw [cif_f (not_not_intro c_5), ix_n (j := j) (by omega)] <;> rfl)]) (by rw [(show sp_version T (nI j) = (0, (tV T) j, T) from by unfold sp_version; rw [cif_f (not_not_intro c_5), ix_n (j := j) (by omega)] <;> rfl)]) dX4_version_29
set_option maxHeartbeats 4000000 in
set_option maxRecDepth 100000 in
theorem c_X4_rowsAt (l : Launch) (G : va_G) (cy : Nat → ClassId) (a : Nat → Nat) (sz : Nat) (T : TS) (rf : Int32) (sp : Nat → Int64) (x : Int32) (hI : Inv T) : Met l yX4_rowsAt wsX4_rowsAt ({ frames := 1, cells := 0, slots := 0, locals := 22 } : Room) (ml_P G cy [.ref (a 0), .int x] (wM a cy T rf sp) sz) (va_Qi (fun (r : Int32) (u : Nat → Int64) => (sp_rowsAt T x).2.1 = r) (ml_B G cy (va_A (wM a cy T rf sp) sz) (fun (u : Nat → Int64) => (wM a cy ((sp_rowsAt T x).2.2) ((sp_rowsAt T x).1) u))) (va_A (wM a cy T rf sp) sz)) 0 0 (va_A (wM a cy T rf sp) sz) := by
  refine Met.ofW (cc := cX4_rowsAt) (maxL := 4) (ret := (some .int)) (by decide) rfl ?_
  intro p e s m args below meth c s₁ B hml hv
  obtain ⟨rfl, hsz, hP, hK, hD0, hN⟩ := hv
  have hx := B.exec
  have hb := B.bytes
  have hr := B.returns
  have hts := atoms_spec (ws := wsX4_rowsAt) B.pre
  have hown : s.vm.findClass RX4 = some m.cls := findClass_of_methodNamed B.named
  have hlocks := B.notSynchronized
  subst hsz
  have hD := hD0.self (sz := s.heap.size)
  generalize hAe : va_A (wM a cy T rf sp) s.heap.size = A at hD ⊢
  have hA : ∀ q : Nat, s.heap.size ≤ q → A q := fun q h => by rw [← hAe]; exact Or.inr h
  have hS : va_S A s.heap s.heap [] := va_S.rf
  have hP : va_P G vwCl (wM a cy T rf sp) s.heap := hP
  have hin_X4 : ∀ w ∈ wsX40, w ∈ wsX4_rowsAt := by decide +kernel
  have hl := lv_entry ([.ref (a 0), .int x]) (n := 4) (Nat.le_of_ble_eq_true rfl)
  rw [lg_entry_eq]
  generalize (lg_sl ([.ref (a 0), .int x]) ++ List.replicate (4 - (lg_sl ([.ref (a 0), .int x])).length) Slot.unset).toArray = ls at hl ⊢
  have hl : lv_has ls 4 [(0, .ref (a 0)), (1, .int x)] := hl
  have hn12 : tn T ≤ 12 := hI.1.1
  have hlvn : tlv T ≤ tn T := hI.1.2.1
  have hcu : tcu T ≤ 40 := hI.1.2.2
  have hW := hI.w
  refine lv_iconst (v := 0) hx hb dX4_rowsAt_0 (by decide) ?_
  refine lv_istore_n (lv' := [(2, .int 0), (0, .ref (a 0)), (1, .int x)]) hx hb dX4_rowsAt_1 rfl hl (by decide) rfl (fun ls hl => ?_)
  refine lv_iconst (v := 0) hx hb dX4_rowsAt_2 (by decide) ?_
  refine lv_istore_n (lv' := [(3, .int 0), (2, .int 0), (0, .ref (a 0)), (1, .int x)]) hx hb dX4_rowsAt_3 rfl hl (by decide) rfl (fun ls hl => ?_)
  have LOOP : ∀ (r : Nat) (i w : Nat) (hi : i + r = 40) (hw9 : w = cntV (tV T) (fun y => y = x) i) (H : Heap) (locs : List Loc) (ls : Array Slot), va_P G vwCl (wM a cy T rf sp) H → va_D A (wM a cy T rf sp) → va_S A s.heap H locs → lv_has ls 4 [(0, .ref (a 0)), (1, .int x), (2, .int (nI w)), (3, .int (nI i))] → W p l e (headSpec wsX4_rowsAt ({ frames := 1, cells := 0, slots := 0, locals := 22 } : Room)).room s m (#[.ref (a 0), .int x] : Array Value) below meth c H locs 0 0 (MQ below (va_Qi (fun (r : Int32) (u : Nat → Int64) => (sp_rowsAt T x).2.1 = r) (ml_B G cy A (fun (u : Nat → Int64) => (wM a cy ((sp_rowsAt T x).2.2) ((sp_rowsAt T x).1) u))) A) (#[.ref (a 0), .int x] : Array Value) s 0 0 A) (F0 m 4 ls []) := by
    intro r
    induction r with
    | zero =>
      intro i w hi hw9 H locs ls hP hD hS hl
      refine lv_iload_n hx hb dX4_rowsAt_4 rfl (lv_at hl 3 rfl) ?_
      refine lv_bipush (v := 40) hx hb dX4_rowsAt_5 (by decide) ?_
      refine lv_icmp_ge (tgt := 34) hx hb dX4_rowsAt_7 (by decide) (fun c_7 => ?_) (fun c_7 => False.elim (c_7 (nI_leI (a := 40) (by decide) (by omega) |>.mpr (by omega))))
      rw [show w = cntV (tV T) (fun y => y = x) 40 from by rw [hw9, show i = 40 by omega]] at hl
      refine lv_aload_n hx hb dX4_rowsAt_34 rfl (lv_at hl 0 rfl) ?_
      refine lv_iload_n hx hb dX4_rowsAt_35 rfl (lv_at hl 1 rfl) ?_
      refine lv_iconst (v := 0) hx hb dX4_rowsAt_36 (by decide) ?_
      refine lv_bipush (v := 12) hx hb dX4_rowsAt_37 (by decide) ?_
      refine ml_Si (G := G) (As := [.int x, .int 0, .int 12]) (rest := [.ref (a 0)]) ⟨hx, hb, hml, hown, hts⟩ (c_X4_in l G cy a H.size T rf sp x 0 12) (va_cwS 3 hts gX4_rowsAt_X4_in rfl rfl rfl (by decide +kernel) ⟨Nat.le_of_ble_eq_true rfl, Nat.le_of_ble_eq_true rfl⟩) hP hK hD hS hN hA rfl hl.1 (Nat.le_of_ble_eq_true rfl) dX4_rowsAt_39 ⟨Nat.le_of_ble_eq_true rfl, Nat.le_of_ble_eq_true rfl⟩ (fun r_39 u_39 H locs hw hP hD hS => ?_)
      obtain rfl : r_39 = b2i (inR x 0 12) := hw
      have hP : va_P G vwCl (wM a cy T rf sp) H := hP
      have hD : va_D A (wM a cy T rf sp) := hD
      refine ml_ifeqb (tgt := 49) hx hb dX4_rowsAt_42 (by decide) (fun c_42 => ?_) (fun c_42 => ?_)
      · refine lv_iconst (v := 1) hx hb dX4_rowsAt_49 (by decide) ?_
        refine ml_Vi (G := G) (As := [.int 1]) (rest := []) ⟨hx, hb, hml, hown, hts⟩ (c_X4_refused l G cy a H.size T rf sp 1) (cwV 1 hts gX4_rowsAt_X4_refused rfl rfl rfl (by decide +kernel) ⟨Nat.le_of_ble_eq_true rfl, Nat.le_of_ble_eq_true rfl⟩) (va_recv hK hP (ci := 4) (q0 := 0) rfl rfl) hP hK hD hS hN hA rfl hl.1 (Nat.le_of_ble_eq_true rfl) dX4_rowsAt_50 ⟨Nat.le_of_ble_eq_true rfl, Nat.le_of_ble_eq_true rfl⟩ (fun r_50 u_50 H locs hw hP hD hS => ?_)
        obtain rfl : r_50 = 1 := hw.trans (b2i_t (by decide))
        have hP : va_P G vwCl (wM a cy T 1 sp) H := hP
        have hD : va_D A (wM a cy T 1 sp) := hD
        refine lv_if_eq (tgt := 60) hx hb dX4_rowsAt_53 (by decide) (fun c_53 => False.elim (by revert c_53; decide)) (fun c_53 => ?_)
        refine lv_iconst (v := 0) hx hb dX4_rowsAt_56 (by decide) ?_
        refine lv_goto (tgt := 61) hx hb dX4_rowsAt_57 (by decide) ?_
        exact ml_ri sp hx hb hr hlocks hP hK hD hS (by rw [(show sp_rowsAt T x = (1, 0, T) from by unfold sp_rowsAt; rw [cif_t c_42] <;> rfl)]) (by rw [(show sp_rowsAt T x = (1, 0, T) from by unfold sp_rowsAt; rw [cif_t c_42] <;> rfl)]) dX4_rowsAt_61
      · refine lv_iconst (v := 0) hx hb dX4_rowsAt_45 (by decide) ?_
        refine lv_goto (tgt := 50) hx hb dX4_rowsAt_46 (by decide) ?_
        refine ml_Vi (G := G) (As := [.int 0]) (rest := []) ⟨hx, hb, hml, hown, hts⟩ (c_X4_refused l G cy a H.size T rf sp 0) (cwV 1 hts gX4_rowsAt_X4_refused rfl rfl rfl (by decide +kernel) ⟨Nat.le_of_ble_eq_true rfl, Nat.le_of_ble_eq_true rfl⟩) (va_recv hK hP (ci := 4) (q0 := 0) rfl rfl) hP hK hD hS hN hA rfl hl.1 (Nat.le_of_ble_eq_true rfl) dX4_rowsAt_50 ⟨Nat.le_of_ble_eq_true rfl, Nat.le_of_ble_eq_true rfl⟩ (fun r_50 u_50 H locs hw hP hD hS => ?_)
        obtain rfl : r_50 = 0 := hw.trans (b2i_f (by decide))
        have hP : va_P G vwCl (wM a cy T 0 sp) H := hP
        have hD : va_D A (wM a cy T 0 sp) := hD
        refine lv_if_eq (tgt := 60) hx hb dX4_rowsAt_53 (by decide) (fun c_53 => ?_) (fun c_53 => False.elim (by revert c_53; decide))
        refine lv_iload_n hx hb dX4_rowsAt_60 rfl (lv_at hl 2 rfl) ?_
        exact ml_ri sp hx hb hr hlocks hP hK hD hS (by rw [(show sp_rowsAt T x = (0, nI (cntV (tV T) (fun y => y = x) 40), T) from by unfold sp_rowsAt; rw [cif_f (not_not_intro c_42)] <;> rfl)]) (by rw [(show sp_rowsAt T x = (0, nI (cntV (tV T) (fun y => y = x) 40), T) from by unfold sp_rowsAt; rw [cif_f (not_not_intro c_42)] <;> rfl)]) dX4_rowsAt_61
    | succ r ih =>
      intro i w hi hw9 H locs ls hP hD hS hl
      refine lv_iload_n hx hb dX4_rowsAt_4 rfl (lv_at hl 3 rfl) ?_
      refine lv_bipush (v := 40) hx hb dX4_rowsAt_5 (by decide) ?_
      refine lv_icmp_ge (tgt := 34) hx hb dX4_rowsAt_7 (by decide) (fun c_7 => False.elim (absurd ((nI_leI (a := 40) (by decide) (by omega)).mp c_7) (by omega))) (fun c_7 => ?_)
      refine lv_iload_n hx hb dX4_rowsAt_10 rfl (lv_at hl 2 rfl) ?_
      refine lv_aload_n hx hb dX4_rowsAt_11 rfl (lv_at hl 0 rfl) ?_
      refine va_get (D := G) (ci := 4) (v := .ref (a 5)) (C := RX4) (T := TX4) (N := 16) hx hb hts hin_X4 hown hK hP 0 rfl rfl 9 (by decide) (hts (.fieldLink RX4 22 "MigrationledgerModel" "versions" "[I") (by decide +kernel)) (fun _ h9 => h9) rfl dX4_rowsAt_12 ?_
      refine lv_iload_n hx hb dX4_rowsAt_15 rfl (lv_at hl 3 rfl) ?_
      refine ml_iald hx hb hK hP 5 0 rfl rfl (i) rfl (by omega) (Nat.le_of_ble_eq_true rfl) ((tV T) i) rfl dX4_rowsAt_16 ?_
      refine lv_iload_n hx hb dX4_rowsAt_17 rfl (lv_at hl 1 rfl) ?_
      refine lv_icmp_ne (tgt := 25) hx hb dX4_rowsAt_18 (by decide) (fun c_18 => ?_) (fun c_18 => ?_)
      · refine lv_iconst (v := 0) hx hb dX4_rowsAt_25 (by decide) ?_
        refine lv_iadd hx hb dX4_rowsAt_26 ?_
        refine ml_eqi (nI w) (nI_add w 0) ?_
        refine lv_istore_n (lv' := [(2, .int (nI w)), (0, .ref (a 0)), (1, .int x), (3, .int (nI i))]) hx hb dX4_rowsAt_27 rfl hl (by decide) rfl (fun ls hl => ?_)
        refine lv_iinc (v := nI (i + 1)) (lv' := [(3, .int (nI (i + 1))), (2, .int (nI w)), (0, .ref (a 0)), (1, .int x)]) hx hb dX4_rowsAt_28 hl (k := 3) rfl (nI_1 _) (by decide) rfl (fun ls hl => ?_)
        refine lv_goto (tgt := 4) hx hb dX4_rowsAt_31 (by decide) ?_
        exact ih (i + 1) w (by omega) (by rw [hw9]; exact (cntV_f c_18).symm) _ _ _ hP hD hS (lv_sub hl [2, 3, 1, 0] rfl)
      · refine lv_iconst (v := 1) hx hb dX4_rowsAt_21 (by decide) ?_
        refine lv_goto (tgt := 26) hx hb dX4_rowsAt_22 (by decide) ?_
        refine lv_iadd hx hb dX4_rowsAt_26 ?_
        refine ml_eqi (nI (w + 1)) (nI_add w 1) ?_
        refine lv_istore_n (lv' := [(2, .int (nI (w + 1))), (0, .ref (a 0)), (1, .int x), (3, .int (nI i))]) hx hb dX4_rowsAt_27 rfl hl (by decide) rfl (fun ls hl => ?_)
        refine lv_iinc (v := nI (i + 1)) (lv' := [(3, .int (nI (i + 1))), (2, .int (nI (w + 1))), (0, .ref (a 0)), (1, .int x)]) hx hb dX4_rowsAt_28 hl (k := 3) rfl (nI_1 _) (by decide) rfl (fun ls hl => ?_)
        refine lv_goto (tgt := 4) hx hb dX4_rowsAt_31 (by decide) ?_
        exact ih (i + 1) (w + 1) (by omega) (by rw [hw9]; exact (cntV_t c_18).symm) _ _ _ hP hD hS (lv_sub hl [2, 3, 1, 0] rfl)
  exact LOOP 40 0 0 (by omega) rfl _ _ _ hP hD hS (lv_sub hl [2, 3, 1, 0] rfl)
set_option maxHeartbeats 4000000 in
set_option maxRecDepth 100000 in
theorem c_X4_take (l : Launch) (G : va_G) (cy : Nat → ClassId) (a : Nat → Nat) (sz : Nat) (T : TS) (rf : Int32) (sp : Nat → Int64) (x : Int32) (y : Int32) (hI : Inv T) : Met l yX4_take wsX4_take ({ frames := 2, cells := 0, slots := 0, locals := 42 } : Room) (ml_P G cy [.ref (a 0), .int x, .int y] (wM a cy T rf sp) sz) (va_Qi (fun (r : Int32) (u : Nat → Int64) => (sp_take T x y).2.1 = r) (ml_B G cy (va_A (wM a cy T rf sp) sz) (fun (u : Nat → Int64) => (wM a cy ((sp_take T x y).2.2) ((sp_take T x y).1) u))) (va_A (wM a cy T rf sp) sz)) 0 0 (va_A (wM a cy T rf sp) sz) := by
  refine Met.ofW (cc := cX4_take) (maxL := 4) (ret := (some .int)) (by decide) rfl ?_
  intro p e s m args below meth c s₁ B hml hv
  obtain ⟨rfl, hsz, hP, hK, hD0, hN⟩ := hv
  have hx := B.exec
  have hb := B.bytes
  have hr := B.returns
  have hts := atoms_spec (ws := wsX4_take) B.pre
  have hown : s.vm.findClass RX4 = some m.cls := findClass_of_methodNamed B.named
  have hlocks := B.notSynchronized
  subst hsz
  have hD := hD0.self (sz := s.heap.size)
  generalize hAe : va_A (wM a cy T rf sp) s.heap.size = A at hD ⊢
  have hA : ∀ q : Nat, s.heap.size ≤ q → A q := fun q h => by rw [← hAe]; exact Or.inr h
  have hS : va_S A s.heap s.heap [] := va_S.rf
  have hP : va_P G vwCl (wM a cy T rf sp) s.heap := hP
  have hin_X4 : ∀ w ∈ wsX40, w ∈ wsX4_take := by decide +kernel
  have hl := lv_entry ([.ref (a 0), .int x, .int y]) (n := 4) (Nat.le_of_ble_eq_true rfl)
  rw [lg_entry_eq]
  generalize (lg_sl ([.ref (a 0), .int x, .int y]) ++ List.replicate (4 - (lg_sl ([.ref (a 0), .int x, .int y])).length) Slot.unset).toArray = ls at hl ⊢
  have hl : lv_has ls 4 [(0, .ref (a 0)), (1, .int x), (2, .int y)] := hl
  have hn12 : tn T ≤ 12 := hI.1.1
  have hlvn : tlv T ≤ tn T := hI.1.2.1
  have hcu : tcu T ≤ 40 := hI.1.2.2
  have hW := hI.w
  refine lv_iload_n hx hb dX4_take_0 rfl (lv_at hl 1 rfl) ?_
  refine ml_Si (G := G) (As := [.int x]) (rest := []) ⟨hx, hb, hml, hown, hts⟩ (c_X4_isWorker l G cy a s.heap.size T rf sp x) (va_cwS 1 hts gX4_take_X4_isWorker rfl rfl rfl (by decide +kernel) ⟨Nat.le_of_ble_eq_true rfl, Nat.le_of_ble_eq_true rfl⟩) hP hK hD hS hN hA rfl hl.1 (Nat.le_of_ble_eq_true rfl) dX4_take_1 ⟨Nat.le_of_ble_eq_true rfl, Nat.le_of_ble_eq_true rfl⟩ (fun r_1 u_1 H locs hw hP hD hS => ?_)
  obtain rfl : r_1 = b2i (inR x 0 3) := hw
  have hP : va_P G vwCl (wM a cy T rf sp) H := hP
  have hD : va_D A (wM a cy T rf sp) := hD
  refine ml_ifeqb (tgt := 21) hx hb dX4_take_4 (by decide) (fun c_4 => ?_) (fun c_4 => ?_)
  · refine lv_iconst (v := 0) hx hb dX4_take_21 (by decide) ?_
    refine lv_istore_n (lv' := [(3, .int 0), (0, .ref (a 0)), (1, .int x), (2, .int y)]) hx hb dX4_take_22 rfl hl (by decide) rfl (fun ls hl => ?_)
    refine lv_aload_n hx hb dX4_take_23 rfl (lv_at hl 1 rfl) ?_
    refine lv_iload_n hx hb dX4_take_24 rfl (lv_at hl 0 rfl) ?_
    refine lv_if_ne (tgt := 32) hx hb dX4_take_25 (by decide) (fun c_25 => False.elim (by revert c_25; decide)) (fun c_25 => ?_)
    refine lv_iconst (v := 1) hx hb dX4_take_28 (by decide) ?_
    refine lv_goto (tgt := 61) hx hb dX4_take_29 (by decide) ?_
    refine ml_Vi (G := G) (As := [.int 1]) (rest := []) ⟨hx, hb, hml, hown, hts⟩ (c_X4_refused l G cy a H.size T rf sp 1) (cwV 1 hts gX4_take_X4_refused rfl rfl rfl (by decide +kernel) ⟨Nat.le_of_ble_eq_true rfl, Nat.le_of_ble_eq_true rfl⟩) (va_recv hK hP (ci := 4) (q0 := 0) rfl rfl) hP hK hD hS hN hA rfl hl.1 (Nat.le_of_ble_eq_true rfl) dX4_take_61 ⟨Nat.le_of_ble_eq_true rfl, Nat.le_of_ble_eq_true rfl⟩ (fun r_61 u_61 H locs hw hP hD hS => ?_)
    obtain rfl : r_61 = 1 := hw.trans (b2i_t (by decide))
    have hP : va_P G vwCl (wM a cy T 1 sp) H := hP
    have hD : va_D A (wM a cy T 1 sp) := hD
    refine lv_if_eq (tgt := 69) hx hb dX4_take_64 (by decide) (fun c_64 => False.elim (by revert c_64; decide)) (fun c_64 => ?_)
    refine lv_iconst (v := 0) hx hb dX4_take_67 (by decide) ?_
    exact ml_ri sp hx hb hr hlocks hP hK hD hS (by rw [(show sp_take T x y = (1, 0, T) from by unfold sp_take; rw [cif_t (fun q => c_4 q.1 : ¬ (inR x 0 3 ∧ inR y 1 100))] <;> rfl)]) (by rw [(show sp_take T x y = (1, 0, T) from by unfold sp_take; rw [cif_t (fun q => c_4 q.1 : ¬ (inR x 0 3 ∧ inR y 1 100))] <;> rfl)]) dX4_take_68
  · obtain ⟨j, hj, rfl⟩ := inR_n 3 (by decide) c_4
    refine lv_iload_n hx hb dX4_take_7 rfl (lv_at hl 2 rfl) ?_
    refine lv_iconst (v := 1) hx hb dX4_take_8 (by decide) ?_
    refine lv_bipush (v := 100) hx hb dX4_take_9 (by decide) ?_
    refine ml_Si (G := G) (As := [.int y, .int 1, .int 100]) (rest := []) ⟨hx, hb, hml, hown, hts⟩ (c_X4_in l G cy a H.size T rf sp y 1 100) (va_cwS 3 hts gX4_take_X4_in rfl rfl rfl (by decide +kernel) ⟨Nat.le_of_ble_eq_true rfl, Nat.le_of_ble_eq_true rfl⟩) hP hK hD hS hN hA rfl hl.1 (Nat.le_of_ble_eq_true rfl) dX4_take_11 ⟨Nat.le_of_ble_eq_true rfl, Nat.le_of_ble_eq_true rfl⟩ (fun r_11 u_11 H locs hw hP hD hS => ?_)
    obtain rfl : r_11 = b2i (inR y 1 100) := hw
    have hP : va_P G vwCl (wM a cy T rf sp) H := hP
    have hD : va_D A (wM a cy T rf sp) := hD
    refine ml_ifeqb (tgt := 21) hx hb dX4_take_14 (by decide) (fun c_14 => ?_) (fun c_14 => ?_)
    · refine lv_iconst (v := 0) hx hb dX4_take_21 (by decide) ?_
      refine lv_istore_n (lv' := [(3, .int 0), (0, .ref (a 0)), (1, .int (nI j)), (2, .int y)]) hx hb dX4_take_22 rfl hl (by decide) rfl (fun ls hl => ?_)
      refine lv_aload_n hx hb dX4_take_23 rfl (lv_at hl 1 rfl) ?_
      refine lv_iload_n hx hb dX4_take_24 rfl (lv_at hl 0 rfl) ?_
      refine lv_if_ne (tgt := 32) hx hb dX4_take_25 (by decide) (fun c_25 => False.elim (by revert c_25; decide)) (fun c_25 => ?_)
      refine lv_iconst (v := 1) hx hb dX4_take_28 (by decide) ?_
      refine lv_goto (tgt := 61) hx hb dX4_take_29 (by decide) ?_
      refine ml_Vi (G := G) (As := [.int 1]) (rest := []) ⟨hx, hb, hml, hown, hts⟩ (c_X4_refused l G cy a H.size T rf sp 1) (cwV 1 hts gX4_take_X4_refused rfl rfl rfl (by decide +kernel) ⟨Nat.le_of_ble_eq_true rfl, Nat.le_of_ble_eq_true rfl⟩) (va_recv hK hP (ci := 4) (q0 := 0) rfl rfl) hP hK hD hS hN hA rfl hl.1 (Nat.le_of_ble_eq_true rfl) dX4_take_61 ⟨Nat.le_of_ble_eq_true rfl, Nat.le_of_ble_eq_true rfl⟩ (fun r_61 u_61 H locs hw hP hD hS => ?_)
      obtain rfl : r_61 = 1 := hw.trans (b2i_t (by decide))
      have hP : va_P G vwCl (wM a cy T 1 sp) H := hP
      have hD : va_D A (wM a cy T 1 sp) := hD
      refine lv_if_eq (tgt := 69) hx hb dX4_take_64 (by decide) (fun c_64 => False.elim (by revert c_64; decide)) (fun c_64 => ?_)
      refine lv_iconst (v := 0) hx hb dX4_take_67 (by decide) ?_
      exact ml_ri sp hx hb hr hlocks hP hK hD hS (by rw [(show sp_take T (nI j) y = (1, 0, T) from by unfold sp_take; rw [cif_t (fun q => c_14 q.2 : ¬ (inR (nI j) 0 3 ∧ inR y 1 100))] <;> rfl)]) (by rw [(show sp_take T (nI j) y = (1, 0, T) from by unfold sp_take; rw [cif_t (fun q => c_14 q.2 : ¬ (inR (nI j) 0 3 ∧ inR y 1 100))] <;> rfl)]) dX4_take_68
    · refine lv_iconst (v := 1) hx hb dX4_take_17 (by decide) ?_
      refine lv_goto (tgt := 22) hx hb dX4_take_18 (by decide) ?_
      refine lv_istore_n (lv' := [(3, .int 1), (0, .ref (a 0)), (1, .int (nI j)), (2, .int y)]) hx hb dX4_take_22 rfl hl (by decide) rfl (fun ls hl => ?_)
      refine lv_aload_n hx hb dX4_take_23 rfl (lv_at hl 1 rfl) ?_
      refine lv_iload_n hx hb dX4_take_24 rfl (lv_at hl 0 rfl) ?_
      refine lv_if_ne (tgt := 32) hx hb dX4_take_25 (by decide) (fun c_25 => ?_) (fun c_25 => False.elim (by revert c_25; decide))
      refine lv_aload_n hx hb dX4_take_32 rfl (lv_at hl 1 rfl) ?_
      refine va_get (D := G) (ci := 4) (v := .ref (a 8)) (C := RX4) (T := TX4) (N := 16) hx hb hts hin_X4 hown hK hP 0 rfl rfl 15 (by decide) (hts (.fieldLink RX4 36 "MigrationledgerModel" "hasCrashed" "[Z") (by decide +kernel)) (fun _ h9 => h9) rfl dX4_take_33 ?_
      refine lv_iload_n hx hb dX4_take_36 rfl (lv_at hl 2 rfl) ?_
      refine ml_zald hx hb hK hP 8 2 rfl rfl (j) rfl (by omega) (Nat.le_of_ble_eq_true rfl) (b2i (tcr T j ≠ 0)) (b01 (hI.2.2.2.2.1 j (by omega))) dX4_take_37 ?_
      refine ml_ifneb (tgt := 56) hx hb dX4_take_38 (by decide) (fun c_38 => ?_) (fun c_38 => ?_)
      · refine lv_iconst (v := 2) hx hb dX4_take_56 (by decide) ?_
        refine lv_goto (tgt := 61) hx hb dX4_take_57 (by decide) ?_
        refine ml_Vi (G := G) (As := [.int 2]) (rest := []) ⟨hx, hb, hml, hown, hts⟩ (c_X4_refused l G cy a H.size T rf sp 2) (cwV 1 hts gX4_take_X4_refused rfl rfl rfl (by decide +kernel) ⟨Nat.le_of_ble_eq_true rfl, Nat.le_of_ble_eq_true rfl⟩) (va_recv hK hP (ci := 4) (q0 := 0) rfl rfl) hP hK hD hS hN hA rfl hl.1 (Nat.le_of_ble_eq_true rfl) dX4_take_61 ⟨Nat.le_of_ble_eq_true rfl, Nat.le_of_ble_eq_true rfl⟩ (fun r_61 u_61 H locs hw hP hD hS => ?_)
        obtain rfl : r_61 = 1 := hw.trans (b2i_t (by decide))
        have hP : va_P G vwCl (wM a cy T 2 sp) H := hP
        have hD : va_D A (wM a cy T 2 sp) := hD
        refine lv_if_eq (tgt := 69) hx hb dX4_take_64 (by decide) (fun c_64 => False.elim (by revert c_64; decide)) (fun c_64 => ?_)
        refine lv_iconst (v := 0) hx hb dX4_take_67 (by decide) ?_
        exact ml_ri sp hx hb hr hlocks hP hK hD hS (by rw [(show sp_take T (nI j) y = (2, 0, T) from by unfold sp_take; rw [cif_f (not_not_intro ⟨c_4, c_14⟩), cif_t (Or.inl ((crd_n (by omega)).mpr c_38) : crd T (nI j) ∨ (isHeld T ∧ tho T ≠ nI j))] <;> rfl)]) (by rw [(show sp_take T (nI j) y = (2, 0, T) from by unfold sp_take; rw [cif_f (not_not_intro ⟨c_4, c_14⟩), cif_t (Or.inl ((crd_n (by omega)).mpr c_38) : crd T (nI j) ∨ (isHeld T ∧ tho T ≠ nI j))] <;> rfl)]) dX4_take_68
      · refine lv_aload_n hx hb dX4_take_41 rfl (lv_at hl 1 rfl) ?_
        refine ml_Vi (G := G) (As := []) (rest := [.ref (a 0)]) ⟨hx, hb, hml, hown, hts⟩ (c_X4_isHeld l G cy a H.size T rf sp) (cwV 0 hts gX4_take_X4_isHeld rfl rfl rfl (by decide +kernel) ⟨Nat.le_of_ble_eq_true rfl, Nat.le_of_ble_eq_true rfl⟩) (va_recv hK hP (ci := 4) (q0 := 0) rfl rfl) hP hK hD hS hN hA rfl hl.1 (Nat.le_of_ble_eq_true rfl) dX4_take_42 ⟨Nat.le_of_ble_eq_true rfl, Nat.le_of_ble_eq_true rfl⟩ (fun r_42 u_42 H locs hw hP hD hS => ?_)
        obtain rfl : r_42 = b2i (isHeld T) := hw
        have hP : va_P G vwCl (wM a cy T rf sp) H := hP
        have hD : va_D A (wM a cy T rf sp) := hD
        refine ml_ifeqb (tgt := 60) hx hb dX4_take_45 (by decide) (fun c_45 => ?_) (fun c_45 => ?_)
        · refine lv_iconst (v := 0) hx hb dX4_take_60 (by decide) ?_
          refine ml_Vi (G := G) (As := [.int 0]) (rest := []) ⟨hx, hb, hml, hown, hts⟩ (c_X4_refused l G cy a H.size T rf sp 0) (cwV 1 hts gX4_take_X4_refused rfl rfl rfl (by decide +kernel) ⟨Nat.le_of_ble_eq_true rfl, Nat.le_of_ble_eq_true rfl⟩) (va_recv hK hP (ci := 4) (q0 := 0) rfl rfl) hP hK hD hS hN hA rfl hl.1 (Nat.le_of_ble_eq_true rfl) dX4_take_61 ⟨Nat.le_of_ble_eq_true rfl, Nat.le_of_ble_eq_true rfl⟩ (fun r_61 u_61 H locs hw hP hD hS => ?_)
          obtain rfl : r_61 = 0 := hw.trans (b2i_f (by decide))
          have hP : va_P G vwCl (wM a cy T 0 sp) H := hP
          have hD : va_D A (wM a cy T 0 sp) := hD
          refine lv_if_eq (tgt := 69) hx hb dX4_take_64 (by decide) (fun c_64 => ?_) (fun c_64 => False.elim (by revert c_64; decide))
          refine lv_aload_n hx hb dX4_take_69 rfl (lv_at hl 1 rfl) ?_
          refine lv_iload_n hx hb dX4_take_70 rfl (lv_at hl 2 rfl) ?_
          refine va_put (D := G) (ci := 4) (v := .int (nI j)) (ty := .int) (C := RX4) (T := TX4) (N := 16) hx hb hts hin_X4 tyX4 tyX4_ok nmX4 hown hK hP hD hS 0 rfl rfl 13 (by decide) (hts (.fieldLink RX4 32 "MigrationledgerModel" "holder" "I") (by decide +kernel)) (fun _ h9 => h9) rfl (by decide +kernel) rfl rfl (Nat.le_of_ble_eq_true rfl) dX4_take_71 (fun H locs hP hD hS => ?_)
          have hP : va_P G vwCl (wM a cy (uho T (nI j)) 0 sp) H := hP
          have hD : va_D A (wM a cy (uho T (nI j)) 0 sp) := hD
          refine lv_aload_n hx hb dX4_take_74 rfl (lv_at hl 1 rfl) ?_
          refine lv_aload_n hx hb dX4_take_75 rfl (lv_at hl 1 rfl) ?_
          refine va_get (D := G) (ci := 4) (v := .int (ttm T)) (C := RX4) (T := TX4) (N := 16) hx hb hts hin_X4 hown hK hP 0 rfl rfl 12 (by decide) (hts (.fieldLink RX4 108 "MigrationledgerModel" "time" "I") (by decide +kernel)) (fun _ h9 => h9) rfl dX4_take_76 ?_
          refine lv_iload_n hx hb dX4_take_79 rfl (lv_at hl 3 rfl) ?_
          refine lv_iadd hx hb dX4_take_80 ?_
          refine va_put (D := G) (ci := 4) (v := .int ((ttm T) + y)) (ty := .int) (C := RX4) (T := TX4) (N := 16) hx hb hts hin_X4 tyX4 tyX4_ok nmX4 hown hK hP hD hS 0 rfl rfl 14 (by decide) (hts (.fieldLink RX4 111 "MigrationledgerModel" "leaseEnd" "I") (by decide +kernel)) (fun _ h9 => h9) rfl (by decide +kernel) rfl rfl (Nat.le_of_ble_eq_true rfl) dX4_take_81 (fun H locs hP hD hS => ?_)
          have hP : va_P G vwCl (wM a cy (ule (uho T (nI j)) ((ttm T) + y)) 0 sp) H := hP
          have hD : va_D A (wM a cy (ule (uho T (nI j)) ((ttm T) + y)) 0 sp) := hD
          refine lv_aload_n hx hb dX4_take_84 rfl (lv_at hl 1 rfl) ?_
          refine va_get (D := G) (ci := 4) (v := .int ((ttm T) + y)) (C := RX4) (T := TX4) (N := 16) hx hb hts hin_X4 hown hK hP 0 rfl rfl 14 (by decide) (hts (.fieldLink RX4 111 "MigrationledgerModel" "leaseEnd" "I") (by decide +kernel)) (fun _ h9 => h9) rfl dX4_take_85 ?_
          exact ml_ri sp hx hb hr hlocks hP hK hD hS (by rw [(show sp_take T (nI j) y = (0, (ttm T) + y, ule (uho T (nI j)) ((ttm T) + y)) from by unfold sp_take; rw [cif_f (not_not_intro ⟨c_4, c_14⟩), cif_f (fun q => q.elim (fun z => c_38 ((crd_n (by omega)).mp z)) (fun z => c_45 z.1) : ¬ (crd T (nI j) ∨ (isHeld T ∧ tho T ≠ nI j)))] <;> rfl)]) (by rw [(show sp_take T (nI j) y = (0, (ttm T) + y, ule (uho T (nI j)) ((ttm T) + y)) from by unfold sp_take; rw [cif_f (not_not_intro ⟨c_4, c_14⟩), cif_f (fun q => q.elim (fun z => c_38 ((crd_n (by omega)).mp z)) (fun z => c_45 z.1) : ¬ (crd T (nI j) ∨ (isHeld T ∧ tho T ≠ nI j)))] <;> rfl)]) dX4_take_88
        · refine lv_aload_n hx hb dX4_take_48 rfl (lv_at hl 1 rfl) ?_
          refine va_get (D := G) (ci := 4) (v := .int (tho T)) (C := RX4) (T := TX4) (N := 16) hx hb hts hin_X4 hown hK hP 0 rfl rfl 13 (by decide) (hts (.fieldLink RX4 32 "MigrationledgerModel" "holder" "I") (by decide +kernel)) (fun _ h9 => h9) rfl dX4_take_49 ?_
          refine lv_iload_n hx hb dX4_take_52 rfl (lv_at hl 2 rfl) ?_
          refine lv_icmp_eq (tgt := 60) hx hb dX4_take_53 (by decide) (fun c_53 => ?_) (fun c_53 => ?_)
          · refine lv_iconst (v := 0) hx hb dX4_take_60 (by decide) ?_
            refine ml_Vi (G := G) (As := [.int 0]) (rest := []) ⟨hx, hb, hml, hown, hts⟩ (c_X4_refused l G cy a H.size T rf sp 0) (cwV 1 hts gX4_take_X4_refused rfl rfl rfl (by decide +kernel) ⟨Nat.le_of_ble_eq_true rfl, Nat.le_of_ble_eq_true rfl⟩) (va_recv hK hP (ci := 4) (q0 := 0) rfl rfl) hP hK hD hS hN hA rfl hl.1 (Nat.le_of_ble_eq_true rfl) dX4_take_61 ⟨Nat.le_of_ble_eq_true rfl, Nat.le_of_ble_eq_true rfl⟩ (fun r_61 u_61 H locs hw hP hD hS => ?_)
            obtain rfl : r_61 = 0 := hw.trans (b2i_f (by decide))
            have hP : va_P G vwCl (wM a cy T 0 sp) H := hP
            have hD : va_D A (wM a cy T 0 sp) := hD
            refine lv_if_eq (tgt := 69) hx hb dX4_take_64 (by decide) (fun c_64 => ?_) (fun c_64 => False.elim (by revert c_64; decide))
            refine lv_aload_n hx hb dX4_take_69 rfl (lv_at hl 1 rfl) ?_
            refine lv_iload_n hx hb dX4_take_70 rfl (lv_at hl 2 rfl) ?_
            refine va_put (D := G) (ci := 4) (v := .int (nI j)) (ty := .int) (C := RX4) (T := TX4) (N := 16) hx hb hts hin_X4 tyX4 tyX4_ok nmX4 hown hK hP hD hS 0 rfl rfl 13 (by decide) (hts (.fieldLink RX4 32 "MigrationledgerModel" "holder" "I") (by decide +kernel)) (fun _ h9 => h9) rfl (by decide +kernel) rfl rfl (Nat.le_of_ble_eq_true rfl) dX4_take_71 (fun H locs hP hD hS => ?_)
            have hP : va_P G vwCl (wM a cy (uho T (nI j)) 0 sp) H := hP
            have hD : va_D A (wM a cy (uho T (nI j)) 0 sp) := hD
            refine lv_aload_n hx hb dX4_take_74 rfl (lv_at hl 1 rfl) ?_
            refine lv_aload_n hx hb dX4_take_75 rfl (lv_at hl 1 rfl) ?_
            refine va_get (D := G) (ci := 4) (v := .int (ttm T)) (C := RX4) (T := TX4) (N := 16) hx hb hts hin_X4 hown hK hP 0 rfl rfl 12 (by decide) (hts (.fieldLink RX4 108 "MigrationledgerModel" "time" "I") (by decide +kernel)) (fun _ h9 => h9) rfl dX4_take_76 ?_
            refine lv_iload_n hx hb dX4_take_79 rfl (lv_at hl 3 rfl) ?_
            refine lv_iadd hx hb dX4_take_80 ?_
            refine va_put (D := G) (ci := 4) (v := .int ((ttm T) + y)) (ty := .int) (C := RX4) (T := TX4) (N := 16) hx hb hts hin_X4 tyX4 tyX4_ok nmX4 hown hK hP hD hS 0 rfl rfl 14 (by decide) (hts (.fieldLink RX4 111 "MigrationledgerModel" "leaseEnd" "I") (by decide +kernel)) (fun _ h9 => h9) rfl (by decide +kernel) rfl rfl (Nat.le_of_ble_eq_true rfl) dX4_take_81 (fun H locs hP hD hS => ?_)
            have hP : va_P G vwCl (wM a cy (ule (uho T (nI j)) ((ttm T) + y)) 0 sp) H := hP
            have hD : va_D A (wM a cy (ule (uho T (nI j)) ((ttm T) + y)) 0 sp) := hD
            refine lv_aload_n hx hb dX4_take_84 rfl (lv_at hl 1 rfl) ?_
            refine va_get (D := G) (ci := 4) (v := .int ((ttm T) + y)) (C := RX4) (T := TX4) (N := 16) hx hb hts hin_X4 hown hK hP 0 rfl rfl 14 (by decide) (hts (.fieldLink RX4 111 "MigrationledgerModel" "leaseEnd" "I") (by decide +kernel)) (fun _ h9 => h9) rfl dX4_take_85 ?_
            exact ml_ri sp hx hb hr hlocks hP hK hD hS (by rw [(show sp_take T (nI j) y = (0, (ttm T) + y, ule (uho T (nI j)) ((ttm T) + y)) from by unfold sp_take; rw [cif_f (not_not_intro ⟨c_4, c_14⟩), cif_f (fun q => q.elim (fun z => c_38 ((crd_n (by omega)).mp z)) (fun z => z.2 c_53) : ¬ (crd T (nI j) ∨ (isHeld T ∧ tho T ≠ nI j)))] <;> rfl)]) (by rw [(show sp_take T (nI j) y = (0, (ttm T) + y, ule (uho T (nI j)) ((ttm T) + y)) from by unfold sp_take; rw [cif_f (not_not_intro ⟨c_4, c_14⟩), cif_f (fun q => q.elim (fun z => c_38 ((crd_n (by omega)).mp z)) (fun z => z.2 c_53) : ¬ (crd T (nI j) ∨ (isHeld T ∧ tho T ≠ nI j)))] <;> rfl)]) dX4_take_88
          · refine lv_iconst (v := 2) hx hb dX4_take_56 (by decide) ?_
            refine lv_goto (tgt := 61) hx hb dX4_take_57 (by decide) ?_
            refine ml_Vi (G := G) (As := [.int 2]) (rest := []) ⟨hx, hb, hml, hown, hts⟩ (c_X4_refused l G cy a H.size T rf sp 2) (cwV 1 hts gX4_take_X4_refused rfl rfl rfl (by decide +kernel) ⟨Nat.le_of_ble_eq_true rfl, Nat.le_of_ble_eq_true rfl⟩) (va_recv hK hP (ci := 4) (q0 := 0) rfl rfl) hP hK hD hS hN hA rfl hl.1 (Nat.le_of_ble_eq_true rfl) dX4_take_61 ⟨Nat.le_of_ble_eq_true rfl, Nat.le_of_ble_eq_true rfl⟩ (fun r_61 u_61 H locs hw hP hD hS => ?_)
            obtain rfl : r_61 = 1 := hw.trans (b2i_t (by decide))
            have hP : va_P G vwCl (wM a cy T 2 sp) H := hP
            have hD : va_D A (wM a cy T 2 sp) := hD
            refine lv_if_eq (tgt := 69) hx hb dX4_take_64 (by decide) (fun c_64 => False.elim (by revert c_64; decide)) (fun c_64 => ?_)
            refine lv_iconst (v := 0) hx hb dX4_take_67 (by decide) ?_
            exact ml_ri sp hx hb hr hlocks hP hK hD hS (by rw [(show sp_take T (nI j) y = (2, 0, T) from by unfold sp_take; rw [cif_f (not_not_intro ⟨c_4, c_14⟩), cif_t (Or.inr ⟨c_45, c_53⟩ : crd T (nI j) ∨ (isHeld T ∧ tho T ≠ nI j))] <;> rfl)]) (by rw [(show sp_take T (nI j) y = (2, 0, T) from by unfold sp_take; rw [cif_f (not_not_intro ⟨c_4, c_14⟩), cif_t (Or.inr ⟨c_45, c_53⟩ : crd T (nI j) ∨ (isHeld T ∧ tho T ≠ nI j))] <;> rfl)]) dX4_take_68
set_option maxHeartbeats 4000000 in
set_option maxRecDepth 100000 in
theorem c_X4_giveBack (l : Launch) (G : va_G) (cy : Nat → ClassId) (a : Nat → Nat) (sz : Nat) (T : TS) (rf : Int32) (sp : Nat → Int64) (x : Int32) (hI : Inv T) : Met l yX4_giveBack wsX4_giveBack ({ frames := 3, cells := 0, slots := 0, locals := 62 } : Room) (ml_P G cy [.ref (a 0), .int x] (wM a cy T rf sp) sz) (va_Qv (fun (u : Nat → Int64) => True) (ml_B G cy (va_A (wM a cy T rf sp) sz) (fun (u : Nat → Int64) => (wM a cy ((sp_giveBack T x).2.2) ((sp_giveBack T x).1) u))) (va_A (wM a cy T rf sp) sz)) 0 0 (va_A (wM a cy T rf sp) sz) := by
  refine Met.ofW (cc := cX4_giveBack) (maxL := 2) (ret := none) (by decide) rfl ?_
  intro p e s m args below meth c s₁ B hml hv
  obtain ⟨rfl, hsz, hP, hK, hD0, hN⟩ := hv
  have hx := B.exec
  have hb := B.bytes
  have hr := B.returns
  have hts := atoms_spec (ws := wsX4_giveBack) B.pre
  have hown : s.vm.findClass RX4 = some m.cls := findClass_of_methodNamed B.named
  have hlocks := B.notSynchronized
  subst hsz
  have hD := hD0.self (sz := s.heap.size)
  generalize hAe : va_A (wM a cy T rf sp) s.heap.size = A at hD ⊢
  have hA : ∀ q : Nat, s.heap.size ≤ q → A q := fun q h => by rw [← hAe]; exact Or.inr h
  have hS : va_S A s.heap s.heap [] := va_S.rf
  have hP : va_P G vwCl (wM a cy T rf sp) s.heap := hP
  have hin_X4 : ∀ w ∈ wsX40, w ∈ wsX4_giveBack := by decide +kernel
  have hl := lv_entry ([.ref (a 0), .int x]) (n := 2) (Nat.le_of_ble_eq_true rfl)
  rw [lg_entry_eq]
  generalize (lg_sl ([.ref (a 0), .int x]) ++ List.replicate (2 - (lg_sl ([.ref (a 0), .int x])).length) Slot.unset).toArray = ls at hl ⊢
  have hl : lv_has ls 2 [(0, .ref (a 0)), (1, .int x)] := hl
  have hn12 : tn T ≤ 12 := hI.1.1
  have hlvn : tlv T ≤ tn T := hI.1.2.1
  have hcu : tcu T ≤ 40 := hI.1.2.2
  have hW := hI.w
  refine lv_aload_n hx hb dX4_giveBack_0 rfl (lv_at hl 0 rfl) ?_
  refine lv_iload_n hx hb dX4_giveBack_1 rfl (lv_at hl 1 rfl) ?_
  refine ml_Si (G := G) (As := [.int x]) (rest := [.ref (a 0)]) ⟨hx, hb, hml, hown, hts⟩ (c_X4_isWorker l G cy a s.heap.size T rf sp x) (va_cwS 1 hts gX4_giveBack_X4_isWorker rfl rfl rfl (by decide +kernel) ⟨Nat.le_of_ble_eq_true rfl, Nat.le_of_ble_eq_true rfl⟩) hP hK hD hS hN hA rfl hl.1 (Nat.le_of_ble_eq_true rfl) dX4_giveBack_2 ⟨Nat.le_of_ble_eq_true rfl, Nat.le_of_ble_eq_true rfl⟩ (fun r_2 u_2 H locs hw hP hD hS => ?_)
  obtain rfl : r_2 = b2i (inR x 0 3) := hw
  have hP : va_P G vwCl (wM a cy T rf sp) H := hP
  have hD : va_D A (wM a cy T rf sp) := hD
  refine ml_ifneb (tgt := 12) hx hb dX4_giveBack_5 (by decide) (fun c_5 => ?_) (fun c_5 => ?_)
  · obtain ⟨j, hj, rfl⟩ := inR_n 3 (by decide) c_5
    refine lv_aload_n hx hb dX4_giveBack_12 rfl (lv_at hl 0 rfl) ?_
    refine lv_iload_n hx hb dX4_giveBack_13 rfl (lv_at hl 1 rfl) ?_
    refine ml_Vi (G := G) (As := [.int (nI j)]) (rest := [.ref (a 0)]) ⟨hx, hb, hml, hown, hts⟩ (c_X4_cannot l G cy a H.size T rf sp j (by omega) (hI.2.2.2.2.1 j (by omega))) (cwV 1 hts gX4_giveBack_X4_cannot rfl rfl rfl (by decide +kernel) ⟨Nat.le_of_ble_eq_true rfl, Nat.le_of_ble_eq_true rfl⟩) (va_recv hK hP (ci := 4) (q0 := 0) rfl rfl) hP hK hD hS hN hA rfl hl.1 (Nat.le_of_ble_eq_true rfl) dX4_giveBack_14 ⟨Nat.le_of_ble_eq_true rfl, Nat.le_of_ble_eq_true rfl⟩ (fun r_14 u_14 H locs hw hP hD hS => ?_)
    obtain rfl : r_14 = b2i (crd T (nI j) ∨ ¬ has T (nI j)) := hw
    have hP : va_P G vwCl (wM a cy T rf sp) H := hP
    have hD : va_D A (wM a cy T rf sp) := hD
    refine ml_ifeqb (tgt := 24) hx hb dX4_giveBack_17 (by decide) (fun c_17 => ?_) (fun c_17 => ?_)
    · refine lv_iconst (v := 0) hx hb dX4_giveBack_24 (by decide) ?_
      refine ml_Vi (G := G) (As := [.int 0]) (rest := []) ⟨hx, hb, hml, hown, hts⟩ (c_X4_refused l G cy a H.size T rf sp 0) (cwV 1 hts gX4_giveBack_X4_refused rfl rfl rfl (by decide +kernel) ⟨Nat.le_of_ble_eq_true rfl, Nat.le_of_ble_eq_true rfl⟩) (va_recv hK hP (ci := 4) (q0 := 0) rfl rfl) hP hK hD hS hN hA rfl hl.1 (Nat.le_of_ble_eq_true rfl) dX4_giveBack_25 ⟨Nat.le_of_ble_eq_true rfl, Nat.le_of_ble_eq_true rfl⟩ (fun r_25 u_25 H locs hw hP hD hS => ?_)
      obtain rfl : r_25 = 0 := hw.trans (b2i_f (by decide))
      have hP : va_P G vwCl (wM a cy T 0 sp) H := hP
      have hD : va_D A (wM a cy T 0 sp) := hD
      refine lv_if_ne (tgt := 36) hx hb dX4_giveBack_28 (by decide) (fun c_28 => False.elim (by revert c_28; decide)) (fun c_28 => ?_)
      refine lv_aload_n hx hb dX4_giveBack_31 rfl (lv_at hl 0 rfl) ?_
      refine lv_iconst (v := (-1)) hx hb dX4_giveBack_32 (by decide) ?_
      refine va_put (D := G) (ci := 4) (v := .int (-1)) (ty := .int) (C := RX4) (T := TX4) (N := 16) hx hb hts hin_X4 tyX4 tyX4_ok nmX4 hown hK hP hD hS 0 rfl rfl 13 (by decide) (hts (.fieldLink RX4 32 "MigrationledgerModel" "holder" "I") (by decide +kernel)) (fun _ h9 => h9) rfl (by decide +kernel) rfl rfl (Nat.le_of_ble_eq_true rfl) dX4_giveBack_33 (fun H locs hP hD hS => ?_)
      have hP : va_P G vwCl (wM a cy (uho T (-1)) 0 sp) H := hP
      have hD : va_D A (wM a cy (uho T (-1)) 0 sp) := hD
      exact ml_rv sp hx hb hr hlocks hP hK hD hS (by rw [(show sp_giveBack T (nI j) = (0, 0, uho T (-1)) from by unfold sp_giveBack; rw [cif_f (not_not_intro c_5), cif_f c_17] <;> rfl)]) trivial dX4_giveBack_36
    · refine lv_iconst (v := 2) hx hb dX4_giveBack_20 (by decide) ?_
      refine lv_goto (tgt := 25) hx hb dX4_giveBack_21 (by decide) ?_
      refine ml_Vi (G := G) (As := [.int 2]) (rest := []) ⟨hx, hb, hml, hown, hts⟩ (c_X4_refused l G cy a H.size T rf sp 2) (cwV 1 hts gX4_giveBack_X4_refused rfl rfl rfl (by decide +kernel) ⟨Nat.le_of_ble_eq_true rfl, Nat.le_of_ble_eq_true rfl⟩) (va_recv hK hP (ci := 4) (q0 := 0) rfl rfl) hP hK hD hS hN hA rfl hl.1 (Nat.le_of_ble_eq_true rfl) dX4_giveBack_25 ⟨Nat.le_of_ble_eq_true rfl, Nat.le_of_ble_eq_true rfl⟩ (fun r_25 u_25 H locs hw hP hD hS => ?_)
      obtain rfl : r_25 = 1 := hw.trans (b2i_t (by decide))
      have hP : va_P G vwCl (wM a cy T 2 sp) H := hP
      have hD : va_D A (wM a cy T 2 sp) := hD
      refine lv_if_ne (tgt := 36) hx hb dX4_giveBack_28 (by decide) (fun c_28 => ?_) (fun c_28 => False.elim (by revert c_28; decide))
      exact ml_rv sp hx hb hr hlocks hP hK hD hS (by rw [(show sp_giveBack T (nI j) = (2, 0, T) from by unfold sp_giveBack; rw [cif_f (not_not_intro c_5), cif_t c_17] <;> rfl)]) trivial dX4_giveBack_36
  · refine lv_iconst (v := 1) hx hb dX4_giveBack_8 (by decide) ?_
    refine lv_goto (tgt := 25) hx hb dX4_giveBack_9 (by decide) ?_
    refine ml_Vi (G := G) (As := [.int 1]) (rest := []) ⟨hx, hb, hml, hown, hts⟩ (c_X4_refused l G cy a H.size T rf sp 1) (cwV 1 hts gX4_giveBack_X4_refused rfl rfl rfl (by decide +kernel) ⟨Nat.le_of_ble_eq_true rfl, Nat.le_of_ble_eq_true rfl⟩) (va_recv hK hP (ci := 4) (q0 := 0) rfl rfl) hP hK hD hS hN hA rfl hl.1 (Nat.le_of_ble_eq_true rfl) dX4_giveBack_25 ⟨Nat.le_of_ble_eq_true rfl, Nat.le_of_ble_eq_true rfl⟩ (fun r_25 u_25 H locs hw hP hD hS => ?_)
    obtain rfl : r_25 = 1 := hw.trans (b2i_t (by decide))
    have hP : va_P G vwCl (wM a cy T 1 sp) H := hP
    have hD : va_D A (wM a cy T 1 sp) := hD
    refine lv_if_ne (tgt := 36) hx hb dX4_giveBack_28 (by decide) (fun c_28 => ?_) (fun c_28 => False.elim (by revert c_28; decide))
    exact ml_rv sp hx hb hr hlocks hP hK hD hS (by rw [(show sp_giveBack T x = (1, 0, T) from by unfold sp_giveBack; rw [cif_t c_5] <;> rfl)]) trivial dX4_giveBack_36
set_option maxHeartbeats 4000000 in
set_option maxRecDepth 100000 in
theorem c_X4_restart (l : Launch) (G : va_G) (cy : Nat → ClassId) (a : Nat → Nat) (sz : Nat) (T : TS) (rf : Int32) (sp : Nat → Int64) (x : Int32) (hI : Inv T) : Met l yX4_restart wsX4_restart ({ frames := 2, cells := 0, slots := 0, locals := 42 } : Room) (ml_P G cy [.ref (a 0), .int x] (wM a cy T rf sp) sz) (va_Qi (fun (r : Int32) (u : Nat → Int64) => (sp_restart T x).2.1 = r) (ml_B G cy (va_A (wM a cy T rf sp) sz) (fun (u : Nat → Int64) => (wM a cy ((sp_restart T x).2.2) ((sp_restart T x).1) u))) (va_A (wM a cy T rf sp) sz)) 0 0 (va_A (wM a cy T rf sp) sz) := by
  refine Met.ofW (cc := cX4_restart) (maxL := 2) (ret := (some .boolean)) (by decide) rfl ?_
  intro p e s m args below meth c s₁ B hml hv
  obtain ⟨rfl, hsz, hP, hK, hD0, hN⟩ := hv
  have hx := B.exec
  have hb := B.bytes
  have hr := B.returns
  have hts := atoms_spec (ws := wsX4_restart) B.pre
  have hown : s.vm.findClass RX4 = some m.cls := findClass_of_methodNamed B.named
  have hlocks := B.notSynchronized
  subst hsz
  have hD := hD0.self (sz := s.heap.size)
  generalize hAe : va_A (wM a cy T rf sp) s.heap.size = A at hD ⊢
  have hA : ∀ q : Nat, s.heap.size ≤ q → A q := fun q h => by rw [← hAe]; exact Or.inr h
  have hS : va_S A s.heap s.heap [] := va_S.rf
  have hP : va_P G vwCl (wM a cy T rf sp) s.heap := hP
  have hin_X4 : ∀ w ∈ wsX40, w ∈ wsX4_restart := by decide +kernel
  have hl := lv_entry ([.ref (a 0), .int x]) (n := 2) (Nat.le_of_ble_eq_true rfl)
  rw [lg_entry_eq]
  generalize (lg_sl ([.ref (a 0), .int x]) ++ List.replicate (2 - (lg_sl ([.ref (a 0), .int x])).length) Slot.unset).toArray = ls at hl ⊢
  have hl : lv_has ls 2 [(0, .ref (a 0)), (1, .int x)] := hl
  have hn12 : tn T ≤ 12 := hI.1.1
  have hlvn : tlv T ≤ tn T := hI.1.2.1
  have hcu : tcu T ≤ 40 := hI.1.2.2
  have hW := hI.w
  refine lv_aload_n hx hb dX4_restart_0 rfl (lv_at hl 0 rfl) ?_
  refine lv_iload_n hx hb dX4_restart_1 rfl (lv_at hl 1 rfl) ?_
  refine ml_Si (G := G) (As := [.int x]) (rest := [.ref (a 0)]) ⟨hx, hb, hml, hown, hts⟩ (c_X4_isWorker l G cy a s.heap.size T rf sp x) (va_cwS 1 hts gX4_restart_X4_isWorker rfl rfl rfl (by decide +kernel) ⟨Nat.le_of_ble_eq_true rfl, Nat.le_of_ble_eq_true rfl⟩) hP hK hD hS hN hA rfl hl.1 (Nat.le_of_ble_eq_true rfl) dX4_restart_2 ⟨Nat.le_of_ble_eq_true rfl, Nat.le_of_ble_eq_true rfl⟩ (fun r_2 u_2 H locs hw hP hD hS => ?_)
  obtain rfl : r_2 = b2i (inR x 0 3) := hw
  have hP : va_P G vwCl (wM a cy T rf sp) H := hP
  have hD : va_D A (wM a cy T rf sp) := hD
  refine ml_ifneb (tgt := 12) hx hb dX4_restart_5 (by decide) (fun c_5 => ?_) (fun c_5 => ?_)
  · obtain ⟨j, hj, rfl⟩ := inR_n 3 (by decide) c_5
    refine lv_aload_n hx hb dX4_restart_12 rfl (lv_at hl 0 rfl) ?_
    refine va_get (D := G) (ci := 4) (v := .ref (a 8)) (C := RX4) (T := TX4) (N := 16) hx hb hts hin_X4 hown hK hP 0 rfl rfl 15 (by decide) (hts (.fieldLink RX4 36 "MigrationledgerModel" "hasCrashed" "[Z") (by decide +kernel)) (fun _ h9 => h9) rfl dX4_restart_13 ?_
    refine lv_iload_n hx hb dX4_restart_16 rfl (lv_at hl 1 rfl) ?_
    refine ml_zald hx hb hK hP 8 2 rfl rfl (j) rfl (by omega) (Nat.le_of_ble_eq_true rfl) (b2i (tcr T j ≠ 0)) (b01 (hI.2.2.2.2.1 j (by omega))) dX4_restart_17 ?_
    refine ml_ifeqb (tgt := 25) hx hb dX4_restart_18 (by decide) (fun c_18 => ?_) (fun c_18 => ?_)
    · refine lv_iconst (v := 2) hx hb dX4_restart_25 (by decide) ?_
      refine ml_Vi (G := G) (As := [.int 2]) (rest := []) ⟨hx, hb, hml, hown, hts⟩ (c_X4_refused l G cy a H.size T rf sp 2) (cwV 1 hts gX4_restart_X4_refused rfl rfl rfl (by decide +kernel) ⟨Nat.le_of_ble_eq_true rfl, Nat.le_of_ble_eq_true rfl⟩) (va_recv hK hP (ci := 4) (q0 := 0) rfl rfl) hP hK hD hS hN hA rfl hl.1 (Nat.le_of_ble_eq_true rfl) dX4_restart_26 ⟨Nat.le_of_ble_eq_true rfl, Nat.le_of_ble_eq_true rfl⟩ (fun r_26 u_26 H locs hw hP hD hS => ?_)
      obtain rfl : r_26 = 1 := hw.trans (b2i_t (by decide))
      have hP : va_P G vwCl (wM a cy T 2 sp) H := hP
      have hD : va_D A (wM a cy T 2 sp) := hD
      refine lv_if_eq (tgt := 34) hx hb dX4_restart_29 (by decide) (fun c_29 => False.elim (by revert c_29; decide)) (fun c_29 => ?_)
      refine lv_iconst (v := 0) hx hb dX4_restart_32 (by decide) ?_
      exact ml_rz sp hx hb hr hlocks hP hK hD hS rfl (by rw [(show sp_restart T (nI j) = (2, 0, T) from by unfold sp_restart; rw [cif_f (not_not_intro c_5), cif_t (fun q => c_18 ((crd_n (by omega)).mp q))] <;> rfl)]) (by rw [(show sp_restart T (nI j) = (2, 0, T) from by unfold sp_restart; rw [cif_f (not_not_intro c_5), cif_t (fun q => c_18 ((crd_n (by omega)).mp q))] <;> rfl)]) dX4_restart_33
    · refine lv_iconst (v := 0) hx hb dX4_restart_21 (by decide) ?_
      refine lv_goto (tgt := 26) hx hb dX4_restart_22 (by decide) ?_
      refine ml_Vi (G := G) (As := [.int 0]) (rest := []) ⟨hx, hb, hml, hown, hts⟩ (c_X4_refused l G cy a H.size T rf sp 0) (cwV 1 hts gX4_restart_X4_refused rfl rfl rfl (by decide +kernel) ⟨Nat.le_of_ble_eq_true rfl, Nat.le_of_ble_eq_true rfl⟩) (va_recv hK hP (ci := 4) (q0 := 0) rfl rfl) hP hK hD hS hN hA rfl hl.1 (Nat.le_of_ble_eq_true rfl) dX4_restart_26 ⟨Nat.le_of_ble_eq_true rfl, Nat.le_of_ble_eq_true rfl⟩ (fun r_26 u_26 H locs hw hP hD hS => ?_)
      obtain rfl : r_26 = 0 := hw.trans (b2i_f (by decide))
      have hP : va_P G vwCl (wM a cy T 0 sp) H := hP
      have hD : va_D A (wM a cy T 0 sp) := hD
      refine lv_if_eq (tgt := 34) hx hb dX4_restart_29 (by decide) (fun c_29 => ?_) (fun c_29 => False.elim (by revert c_29; decide))
      refine lv_aload_n hx hb dX4_restart_34 rfl (lv_at hl 0 rfl) ?_
      refine va_get (D := G) (ci := 4) (v := .ref (a 8)) (C := RX4) (T := TX4) (N := 16) hx hb hts hin_X4 hown hK hP 0 rfl rfl 15 (by decide) (hts (.fieldLink RX4 36 "MigrationledgerModel" "hasCrashed" "[Z") (by decide +kernel)) (fun _ h9 => h9) rfl dX4_restart_35 ?_
      refine lv_iload_n hx hb dX4_restart_38 rfl (lv_at hl 1 rfl) ?_
      refine lv_iconst (v := 0) hx hb dX4_restart_39 (by decide) ?_
      refine ml_zast hx hb hK hP hD hS 8 2 rfl rfl (j) rfl (by omega) (Nat.le_of_ble_eq_true rfl) rfl dX4_restart_40 (fun H locs hP hD hS => ?_)
      have hP : va_P G vwCl (wM a cy (ucr T (upd (tcr T) j 0)) 0 sp) H := hP
      have hD : va_D A (wM a cy (ucr T (upd (tcr T) j 0)) 0 sp) := hD
      refine lv_aload_n hx hb dX4_restart_41 rfl (lv_at hl 0 rfl) ?_
      refine lv_iload_n hx hb dX4_restart_42 rfl (lv_at hl 1 rfl) ?_
      refine ml_Vi (G := G) (As := [.int (nI j)]) (rest := []) ⟨hx, hb, hml, hown, hts⟩ (c_X4_has l G cy a H.size (ucr T (upd (tcr T) j 0)) 0 sp (nI j)) (cwV 1 hts gX4_restart_X4_has rfl rfl rfl (by decide +kernel) ⟨Nat.le_of_ble_eq_true rfl, Nat.le_of_ble_eq_true rfl⟩) (va_recv hK hP (ci := 4) (q0 := 0) rfl rfl) hP hK hD hS hN hA rfl hl.1 (Nat.le_of_ble_eq_true rfl) dX4_restart_43 ⟨Nat.le_of_ble_eq_true rfl, Nat.le_of_ble_eq_true rfl⟩ (fun r_43 u_43 H locs hw hP hD hS => ?_)
      obtain rfl : r_43 = b2i (has (ucr T (upd (tcr T) j 0)) (nI j)) := hw
      have hP : va_P G vwCl (wM a cy (ucr T (upd (tcr T) j 0)) 0 sp) H := hP
      have hD : va_D A (wM a cy (ucr T (upd (tcr T) j 0)) 0 sp) := hD
      exact ml_rz sp hx hb hr hlocks hP hK hD hS (b2i_nar _) (by rw [(show sp_restart T (nI j) = (0, b2i (has (ucr T (upd (tcr T) j 0)) (nI j)), ucr T (upd (tcr T) j 0)) from by unfold sp_restart; rw [cif_f (not_not_intro c_5), cif_f (not_not_intro ((crd_n (by omega)).mpr c_18)), ix_n (j := j) (by omega)] <;> rfl)]) (by rw [(show sp_restart T (nI j) = (0, b2i (has (ucr T (upd (tcr T) j 0)) (nI j)), ucr T (upd (tcr T) j 0)) from by unfold sp_restart; rw [cif_f (not_not_intro c_5), cif_f (not_not_intro ((crd_n (by omega)).mpr c_18)), ix_n (j := j) (by omega)] <;> rfl)]) dX4_restart_46
  · refine lv_iconst (v := 1) hx hb dX4_restart_8 (by decide) ?_
    refine lv_goto (tgt := 26) hx hb dX4_restart_9 (by decide) ?_
    refine ml_Vi (G := G) (As := [.int 1]) (rest := []) ⟨hx, hb, hml, hown, hts⟩ (c_X4_refused l G cy a H.size T rf sp 1) (cwV 1 hts gX4_restart_X4_refused rfl rfl rfl (by decide +kernel) ⟨Nat.le_of_ble_eq_true rfl, Nat.le_of_ble_eq_true rfl⟩) (va_recv hK hP (ci := 4) (q0 := 0) rfl rfl) hP hK hD hS hN hA rfl hl.1 (Nat.le_of_ble_eq_true rfl) dX4_restart_26 ⟨Nat.le_of_ble_eq_true rfl, Nat.le_of_ble_eq_true rfl⟩ (fun r_26 u_26 H locs hw hP hD hS => ?_)
    obtain rfl : r_26 = 1 := hw.trans (b2i_t (by decide))
    have hP : va_P G vwCl (wM a cy T 1 sp) H := hP
    have hD : va_D A (wM a cy T 1 sp) := hD
    refine lv_if_eq (tgt := 34) hx hb dX4_restart_29 (by decide) (fun c_29 => False.elim (by revert c_29; decide)) (fun c_29 => ?_)
    refine lv_iconst (v := 0) hx hb dX4_restart_32 (by decide) ?_
    exact ml_rz sp hx hb hr hlocks hP hK hD hS rfl (by rw [(show sp_restart T x = (1, 0, T) from by unfold sp_restart; rw [cif_t c_5] <;> rfl)]) (by rw [(show sp_restart T x = (1, 0, T) from by unfold sp_restart; rw [cif_t c_5] <;> rfl)]) dX4_restart_33
set_option maxHeartbeats 4000000 in
set_option maxRecDepth 100000 in
theorem c_X4_pass (l : Launch) (G : va_G) (cy : Nat → ClassId) (a : Nat → Nat) (sz : Nat) (T : TS) (rf : Int32) (sp : Nat → Int64) (x : Int32) (hI : Inv T) : Met l yX4_pass wsX4_pass ({ frames := 1, cells := 0, slots := 0, locals := 22 } : Room) (ml_P G cy [.ref (a 0), .int x] (wM a cy T rf sp) sz) (va_Qi (fun (r : Int32) (u : Nat → Int64) => (sp_pass T x).2.1 = r) (ml_B G cy (va_A (wM a cy T rf sp) sz) (fun (u : Nat → Int64) => (wM a cy ((sp_pass T x).2.2) ((sp_pass T x).1) u))) (va_A (wM a cy T rf sp) sz)) 0 0 (va_A (wM a cy T rf sp) sz) := by
  refine Met.ofW (cc := cX4_pass) (maxL := 2) (ret := (some .int)) (by decide) rfl ?_
  intro p e s m args below meth c s₁ B hml hv
  obtain ⟨rfl, hsz, hP, hK, hD0, hN⟩ := hv
  have hx := B.exec
  have hb := B.bytes
  have hr := B.returns
  have hts := atoms_spec (ws := wsX4_pass) B.pre
  have hown : s.vm.findClass RX4 = some m.cls := findClass_of_methodNamed B.named
  have hlocks := B.notSynchronized
  subst hsz
  have hD := hD0.self (sz := s.heap.size)
  generalize hAe : va_A (wM a cy T rf sp) s.heap.size = A at hD ⊢
  have hA : ∀ q : Nat, s.heap.size ≤ q → A q := fun q h => by rw [← hAe]; exact Or.inr h
  have hS : va_S A s.heap s.heap [] := va_S.rf
  have hP : va_P G vwCl (wM a cy T rf sp) s.heap := hP
  have hin_X4 : ∀ w ∈ wsX40, w ∈ wsX4_pass := by decide +kernel
  have hl := lv_entry ([.ref (a 0), .int x]) (n := 2) (Nat.le_of_ble_eq_true rfl)
  rw [lg_entry_eq]
  generalize (lg_sl ([.ref (a 0), .int x]) ++ List.replicate (2 - (lg_sl ([.ref (a 0), .int x])).length) Slot.unset).toArray = ls at hl ⊢
  have hl : lv_has ls 2 [(0, .ref (a 0)), (1, .int x)] := hl
  have hn12 : tn T ≤ 12 := hI.1.1
  have hlvn : tlv T ≤ tn T := hI.1.2.1
  have hcu : tcu T ≤ 40 := hI.1.2.2
  have hW := hI.w
  refine lv_aload_n hx hb dX4_pass_0 rfl (lv_at hl 0 rfl) ?_
  refine lv_iload_n hx hb dX4_pass_1 rfl (lv_at hl 1 rfl) ?_
  refine lv_iconst (v := 1) hx hb dX4_pass_2 (by decide) ?_
  refine lv_sipush (v := 1000) hx hb dX4_pass_3 (by decide) ?_
  refine ml_Si (G := G) (As := [.int x, .int 1, .int 1000]) (rest := [.ref (a 0)]) ⟨hx, hb, hml, hown, hts⟩ (c_X4_in l G cy a s.heap.size T rf sp x 1 1000) (va_cwS 3 hts gX4_pass_X4_in rfl rfl rfl (by decide +kernel) ⟨Nat.le_of_ble_eq_true rfl, Nat.le_of_ble_eq_true rfl⟩) hP hK hD hS hN hA rfl hl.1 (Nat.le_of_ble_eq_true rfl) dX4_pass_6 ⟨Nat.le_of_ble_eq_true rfl, Nat.le_of_ble_eq_true rfl⟩ (fun r_6 u_6 H locs hw hP hD hS => ?_)
  obtain rfl : r_6 = b2i (inR x 1 1000) := hw
  have hP : va_P G vwCl (wM a cy T rf sp) H := hP
  have hD : va_D A (wM a cy T rf sp) := hD
  refine ml_ifeqb (tgt := 16) hx hb dX4_pass_9 (by decide) (fun c_9 => ?_) (fun c_9 => ?_)
  · refine lv_iconst (v := 1) hx hb dX4_pass_16 (by decide) ?_
    refine ml_Vi (G := G) (As := [.int 1]) (rest := []) ⟨hx, hb, hml, hown, hts⟩ (c_X4_refused l G cy a H.size T rf sp 1) (cwV 1 hts gX4_pass_X4_refused rfl rfl rfl (by decide +kernel) ⟨Nat.le_of_ble_eq_true rfl, Nat.le_of_ble_eq_true rfl⟩) (va_recv hK hP (ci := 4) (q0 := 0) rfl rfl) hP hK hD hS hN hA rfl hl.1 (Nat.le_of_ble_eq_true rfl) dX4_pass_17 ⟨Nat.le_of_ble_eq_true rfl, Nat.le_of_ble_eq_true rfl⟩ (fun r_17 u_17 H locs hw hP hD hS => ?_)
    obtain rfl : r_17 = 1 := hw.trans (b2i_t (by decide))
    have hP : va_P G vwCl (wM a cy T 1 sp) H := hP
    have hD : va_D A (wM a cy T 1 sp) := hD
    refine lv_if_eq (tgt := 25) hx hb dX4_pass_20 (by decide) (fun c_20 => False.elim (by revert c_20; decide)) (fun c_20 => ?_)
    refine lv_iconst (v := 0) hx hb dX4_pass_23 (by decide) ?_
    exact ml_ri sp hx hb hr hlocks hP hK hD hS (by rw [(show sp_pass T x = (1, 0, T) from by unfold sp_pass; rw [cif_t c_9] <;> rfl)]) (by rw [(show sp_pass T x = (1, 0, T) from by unfold sp_pass; rw [cif_t c_9] <;> rfl)]) dX4_pass_24
  · refine lv_iconst (v := 0) hx hb dX4_pass_12 (by decide) ?_
    refine lv_goto (tgt := 17) hx hb dX4_pass_13 (by decide) ?_
    refine ml_Vi (G := G) (As := [.int 0]) (rest := []) ⟨hx, hb, hml, hown, hts⟩ (c_X4_refused l G cy a H.size T rf sp 0) (cwV 1 hts gX4_pass_X4_refused rfl rfl rfl (by decide +kernel) ⟨Nat.le_of_ble_eq_true rfl, Nat.le_of_ble_eq_true rfl⟩) (va_recv hK hP (ci := 4) (q0 := 0) rfl rfl) hP hK hD hS hN hA rfl hl.1 (Nat.le_of_ble_eq_true rfl) dX4_pass_17 ⟨Nat.le_of_ble_eq_true rfl, Nat.le_of_ble_eq_true rfl⟩ (fun r_17 u_17 H locs hw hP hD hS => ?_)
    obtain rfl : r_17 = 0 := hw.trans (b2i_f (by decide))
    have hP : va_P G vwCl (wM a cy T 0 sp) H := hP
    have hD : va_D A (wM a cy T 0 sp) := hD
    refine lv_if_eq (tgt := 25) hx hb dX4_pass_20 (by decide) (fun c_20 => ?_) (fun c_20 => False.elim (by revert c_20; decide))
    refine lv_aload_n hx hb dX4_pass_25 rfl (lv_at hl 0 rfl) ?_
    refine lv_dup hx hb dX4_pass_26 rfl ?_
    refine va_get (D := G) (ci := 4) (v := .int (ttm T)) (C := RX4) (T := TX4) (N := 16) hx hb hts hin_X4 hown hK hP 0 rfl rfl 12 (by decide) (hts (.fieldLink RX4 108 "MigrationledgerModel" "time" "I") (by decide +kernel)) (fun _ h9 => h9) rfl dX4_pass_27 ?_
    refine lv_iload_n hx hb dX4_pass_30 rfl (lv_at hl 1 rfl) ?_
    refine lv_iadd hx hb dX4_pass_31 ?_
    refine va_put (D := G) (ci := 4) (v := .int ((ttm T) + x)) (ty := .int) (C := RX4) (T := TX4) (N := 16) hx hb hts hin_X4 tyX4 tyX4_ok nmX4 hown hK hP hD hS 0 rfl rfl 12 (by decide) (hts (.fieldLink RX4 108 "MigrationledgerModel" "time" "I") (by decide +kernel)) (fun _ h9 => h9) rfl (by decide +kernel) rfl rfl (Nat.le_of_ble_eq_true rfl) dX4_pass_32 (fun H locs hP hD hS => ?_)
    have hP : va_P G vwCl (wM a cy (utm T ((ttm T) + x)) 0 sp) H := hP
    have hD : va_D A (wM a cy (utm T ((ttm T) + x)) 0 sp) := hD
    refine lv_aload_n hx hb dX4_pass_35 rfl (lv_at hl 0 rfl) ?_
    refine va_get (D := G) (ci := 4) (v := .int ((ttm T) + x)) (C := RX4) (T := TX4) (N := 16) hx hb hts hin_X4 hown hK hP 0 rfl rfl 12 (by decide) (hts (.fieldLink RX4 108 "MigrationledgerModel" "time" "I") (by decide +kernel)) (fun _ h9 => h9) rfl dX4_pass_36 ?_
    exact ml_ri sp hx hb hr hlocks hP hK hD hS (by rw [(show sp_pass T x = (0, (ttm T) + x, utm T ((ttm T) + x)) from by unfold sp_pass; rw [cif_f (not_not_intro c_9)] <;> rfl)]) (by rw [(show sp_pass T x = (0, (ttm T) + x, utm T ((ttm T) + x)) from by unfold sp_pass; rw [cif_f (not_not_intro c_9)] <;> rfl)]) dX4_pass_39
set_option maxHeartbeats 4000000 in
set_option maxRecDepth 100000 in
theorem c_X4_begin (l : Launch) (G : va_G) (cy : Nat → ClassId) (a : Nat → Nat) (sz : Nat) (T : TS) (rf : Int32) (sp : Nat → Int64) (x : Int32) (hI : Inv T) : Met l yX4_begin wsX4_begin ({ frames := 3, cells := 0, slots := 0, locals := 62 } : Room) (ml_P G cy [.ref (a 0), .int x] (wM a cy T rf sp) sz) (va_Qi (fun (r : Int32) (u : Nat → Int64) => (sp_begin T x).2.1 = r) (ml_B G cy (va_A (wM a cy T rf sp) sz) (fun (u : Nat → Int64) => (wM a cy ((sp_begin T x).2.2) ((sp_begin T x).1) u))) (va_A (wM a cy T rf sp) sz)) 0 0 (va_A (wM a cy T rf sp) sz) := by
  refine Met.ofW (cc := cX4_begin) (maxL := 2) (ret := (some .int)) (by decide) rfl ?_
  intro p e s m args below meth c s₁ B hml hv
  obtain ⟨rfl, hsz, hP, hK, hD0, hN⟩ := hv
  have hx := B.exec
  have hb := B.bytes
  have hr := B.returns
  have hts := atoms_spec (ws := wsX4_begin) B.pre
  have hown : s.vm.findClass RX4 = some m.cls := findClass_of_methodNamed B.named
  have hlocks := B.notSynchronized
  subst hsz
  have hD := hD0.self (sz := s.heap.size)
  generalize hAe : va_A (wM a cy T rf sp) s.heap.size = A at hD ⊢
  have hA : ∀ q : Nat, s.heap.size ≤ q → A q := fun q h => by rw [← hAe]; exact Or.inr h
  have hS : va_S A s.heap s.heap [] := va_S.rf
  have hP : va_P G vwCl (wM a cy T rf sp) s.heap := hP
  have hin_X4 : ∀ w ∈ wsX40, w ∈ wsX4_begin := by decide +kernel
  have hl := lv_entry ([.ref (a 0), .int x]) (n := 2) (Nat.le_of_ble_eq_true rfl)
  rw [lg_entry_eq]
  generalize (lg_sl ([.ref (a 0), .int x]) ++ List.replicate (2 - (lg_sl ([.ref (a 0), .int x])).length) Slot.unset).toArray = ls at hl ⊢
  have hl : lv_has ls 2 [(0, .ref (a 0)), (1, .int x)] := hl
  have hn12 : tn T ≤ 12 := hI.1.1
  have hlvn : tlv T ≤ tn T := hI.1.2.1
  have hcu : tcu T ≤ 40 := hI.1.2.2
  have hW := hI.w
  refine lv_aload_n hx hb dX4_begin_0 rfl (lv_at hl 0 rfl) ?_
  refine lv_iload_n hx hb dX4_begin_1 rfl (lv_at hl 1 rfl) ?_
  refine ml_Si (G := G) (As := [.int x]) (rest := [.ref (a 0)]) ⟨hx, hb, hml, hown, hts⟩ (c_X4_isWorker l G cy a s.heap.size T rf sp x) (va_cwS 1 hts gX4_begin_X4_isWorker rfl rfl rfl (by decide +kernel) ⟨Nat.le_of_ble_eq_true rfl, Nat.le_of_ble_eq_true rfl⟩) hP hK hD hS hN hA rfl hl.1 (Nat.le_of_ble_eq_true rfl) dX4_begin_2 ⟨Nat.le_of_ble_eq_true rfl, Nat.le_of_ble_eq_true rfl⟩ (fun r_2 u_2 H locs hw hP hD hS => ?_)
  obtain rfl : r_2 = b2i (inR x 0 3) := hw
  have hP : va_P G vwCl (wM a cy T rf sp) H := hP
  have hD : va_D A (wM a cy T rf sp) := hD
  refine ml_ifneb (tgt := 12) hx hb dX4_begin_5 (by decide) (fun c_5 => ?_) (fun c_5 => ?_)
  · obtain ⟨j, hj, rfl⟩ := inR_n 3 (by decide) c_5
    refine lv_aload_n hx hb dX4_begin_12 rfl (lv_at hl 0 rfl) ?_
    refine lv_iload_n hx hb dX4_begin_13 rfl (lv_at hl 1 rfl) ?_
    refine ml_Vi (G := G) (As := [.int (nI j)]) (rest := [.ref (a 0)]) ⟨hx, hb, hml, hown, hts⟩ (c_X4_cannot l G cy a H.size T rf sp j (by omega) (hI.2.2.2.2.1 j (by omega))) (cwV 1 hts gX4_begin_X4_cannot rfl rfl rfl (by decide +kernel) ⟨Nat.le_of_ble_eq_true rfl, Nat.le_of_ble_eq_true rfl⟩) (va_recv hK hP (ci := 4) (q0 := 0) rfl rfl) hP hK hD hS hN hA rfl hl.1 (Nat.le_of_ble_eq_true rfl) dX4_begin_14 ⟨Nat.le_of_ble_eq_true rfl, Nat.le_of_ble_eq_true rfl⟩ (fun r_14 u_14 H locs hw hP hD hS => ?_)
    obtain rfl : r_14 = b2i (crd T (nI j) ∨ ¬ has T (nI j)) := hw
    have hP : va_P G vwCl (wM a cy T rf sp) H := hP
    have hD : va_D A (wM a cy T rf sp) := hD
    refine ml_ifneb (tgt := 45) hx hb dX4_begin_17 (by decide) (fun c_17 => ?_) (fun c_17 => ?_)
    · refine lv_iconst (v := 2) hx hb dX4_begin_45 (by decide) ?_
      refine lv_goto (tgt := 50) hx hb dX4_begin_46 (by decide) ?_
      refine ml_Vi (G := G) (As := [.int 2]) (rest := []) ⟨hx, hb, hml, hown, hts⟩ (c_X4_refused l G cy a H.size T rf sp 2) (cwV 1 hts gX4_begin_X4_refused rfl rfl rfl (by decide +kernel) ⟨Nat.le_of_ble_eq_true rfl, Nat.le_of_ble_eq_true rfl⟩) (va_recv hK hP (ci := 4) (q0 := 0) rfl rfl) hP hK hD hS hN hA rfl hl.1 (Nat.le_of_ble_eq_true rfl) dX4_begin_50 ⟨Nat.le_of_ble_eq_true rfl, Nat.le_of_ble_eq_true rfl⟩ (fun r_50 u_50 H locs hw hP hD hS => ?_)
      obtain rfl : r_50 = 1 := hw.trans (b2i_t (by decide))
      have hP : va_P G vwCl (wM a cy T 2 sp) H := hP
      have hD : va_D A (wM a cy T 2 sp) := hD
      refine lv_if_eq (tgt := 58) hx hb dX4_begin_53 (by decide) (fun c_53 => False.elim (by revert c_53; decide)) (fun c_53 => ?_)
      refine lv_iconst (v := 0) hx hb dX4_begin_56 (by decide) ?_
      exact ml_ri sp hx hb hr hlocks hP hK hD hS (by rw [(show sp_begin T (nI j) = (2, 0, T) from by unfold sp_begin; rw [cif_f (not_not_intro c_5), cif_t (Or.inl c_17 : ((crd T (nI j) ∨ ¬ has T (nI j)) ∨ tac T ≠ 0 ∨ fdr T ≠ 0 ∨ tlv T = tn T))] <;> rfl)]) (by rw [(show sp_begin T (nI j) = (2, 0, T) from by unfold sp_begin; rw [cif_f (not_not_intro c_5), cif_t (Or.inl c_17 : ((crd T (nI j) ∨ ¬ has T (nI j)) ∨ tac T ≠ 0 ∨ fdr T ≠ 0 ∨ tlv T = tn T))] <;> rfl)]) dX4_begin_57
    · refine lv_aload_n hx hb dX4_begin_20 rfl (lv_at hl 0 rfl) ?_
      refine va_get (D := G) (ci := 4) (v := .int (tac T)) (C := RX4) (T := TX4) (N := 16) hx hb hts hin_X4 hown hK hP 0 rfl rfl 7 (by decide) (hts (.fieldLink RX4 69 "MigrationledgerModel" "active" "I") (by decide +kernel)) (fun _ h9 => h9) rfl dX4_begin_21 ?_
      refine lv_if_ne (tgt := 45) hx hb dX4_begin_24 (by decide) (fun c_24 => ?_) (fun c_24 => ?_)
      · refine lv_iconst (v := 2) hx hb dX4_begin_45 (by decide) ?_
        refine lv_goto (tgt := 50) hx hb dX4_begin_46 (by decide) ?_
        refine ml_Vi (G := G) (As := [.int 2]) (rest := []) ⟨hx, hb, hml, hown, hts⟩ (c_X4_refused l G cy a H.size T rf sp 2) (cwV 1 hts gX4_begin_X4_refused rfl rfl rfl (by decide +kernel) ⟨Nat.le_of_ble_eq_true rfl, Nat.le_of_ble_eq_true rfl⟩) (va_recv hK hP (ci := 4) (q0 := 0) rfl rfl) hP hK hD hS hN hA rfl hl.1 (Nat.le_of_ble_eq_true rfl) dX4_begin_50 ⟨Nat.le_of_ble_eq_true rfl, Nat.le_of_ble_eq_true rfl⟩ (fun r_50 u_50 H locs hw hP hD hS => ?_)
        obtain rfl : r_50 = 1 := hw.trans (b2i_t (by decide))
        have hP : va_P G vwCl (wM a cy T 2 sp) H := hP
        have hD : va_D A (wM a cy T 2 sp) := hD
        refine lv_if_eq (tgt := 58) hx hb dX4_begin_53 (by decide) (fun c_53 => False.elim (by revert c_53; decide)) (fun c_53 => ?_)
        refine lv_iconst (v := 0) hx hb dX4_begin_56 (by decide) ?_
        exact ml_ri sp hx hb hr hlocks hP hK hD hS (by rw [(show sp_begin T (nI j) = (2, 0, T) from by unfold sp_begin; rw [cif_f (not_not_intro c_5), cif_t (Or.inr (Or.inl c_24) : ((crd T (nI j) ∨ ¬ has T (nI j)) ∨ tac T ≠ 0 ∨ fdr T ≠ 0 ∨ tlv T = tn T))] <;> rfl)]) (by rw [(show sp_begin T (nI j) = (2, 0, T) from by unfold sp_begin; rw [cif_f (not_not_intro c_5), cif_t (Or.inr (Or.inl c_24) : ((crd T (nI j) ∨ ¬ has T (nI j)) ∨ tac T ≠ 0 ∨ fdr T ≠ 0 ∨ tlv T = tn T))] <;> rfl)]) dX4_begin_57
      · refine lv_aload_n hx hb dX4_begin_27 rfl (lv_at hl 0 rfl) ?_
        refine ml_Vi (G := G) (As := []) (rest := [.ref (a 0)]) ⟨hx, hb, hml, hown, hts⟩ (c_X4_firstDrift l G cy a H.size T rf sp (by omega)) (cwV 0 hts gX4_begin_X4_firstDrift rfl rfl rfl (by decide +kernel) ⟨Nat.le_of_ble_eq_true rfl, Nat.le_of_ble_eq_true rfl⟩) (va_recv hK hP (ci := 4) (q0 := 0) rfl rfl) hP hK hD hS hN hA rfl hl.1 (Nat.le_of_ble_eq_true rfl) dX4_begin_28 ⟨Nat.le_of_ble_eq_true rfl, Nat.le_of_ble_eq_true rfl⟩ (fun r_28 u_28 H locs hw hP hD hS => ?_)
        obtain rfl : r_28 = fdr T := hw
        have hP : va_P G vwCl (wM a cy T rf sp) H := hP
        have hD : va_D A (wM a cy T rf sp) := hD
        refine lv_if_ne (tgt := 45) hx hb dX4_begin_31 (by decide) (fun c_31 => ?_) (fun c_31 => ?_)
        · refine lv_iconst (v := 2) hx hb dX4_begin_45 (by decide) ?_
          refine lv_goto (tgt := 50) hx hb dX4_begin_46 (by decide) ?_
          refine ml_Vi (G := G) (As := [.int 2]) (rest := []) ⟨hx, hb, hml, hown, hts⟩ (c_X4_refused l G cy a H.size T rf sp 2) (cwV 1 hts gX4_begin_X4_refused rfl rfl rfl (by decide +kernel) ⟨Nat.le_of_ble_eq_true rfl, Nat.le_of_ble_eq_true rfl⟩) (va_recv hK hP (ci := 4) (q0 := 0) rfl rfl) hP hK hD hS hN hA rfl hl.1 (Nat.le_of_ble_eq_true rfl) dX4_begin_50 ⟨Nat.le_of_ble_eq_true rfl, Nat.le_of_ble_eq_true rfl⟩ (fun r_50 u_50 H locs hw hP hD hS => ?_)
          obtain rfl : r_50 = 1 := hw.trans (b2i_t (by decide))
          have hP : va_P G vwCl (wM a cy T 2 sp) H := hP
          have hD : va_D A (wM a cy T 2 sp) := hD
          refine lv_if_eq (tgt := 58) hx hb dX4_begin_53 (by decide) (fun c_53 => False.elim (by revert c_53; decide)) (fun c_53 => ?_)
          refine lv_iconst (v := 0) hx hb dX4_begin_56 (by decide) ?_
          exact ml_ri sp hx hb hr hlocks hP hK hD hS (by rw [(show sp_begin T (nI j) = (2, 0, T) from by unfold sp_begin; rw [cif_f (not_not_intro c_5), cif_t (Or.inr (Or.inr (Or.inl c_31)) : ((crd T (nI j) ∨ ¬ has T (nI j)) ∨ tac T ≠ 0 ∨ fdr T ≠ 0 ∨ tlv T = tn T))] <;> rfl)]) (by rw [(show sp_begin T (nI j) = (2, 0, T) from by unfold sp_begin; rw [cif_f (not_not_intro c_5), cif_t (Or.inr (Or.inr (Or.inl c_31)) : ((crd T (nI j) ∨ ¬ has T (nI j)) ∨ tac T ≠ 0 ∨ fdr T ≠ 0 ∨ tlv T = tn T))] <;> rfl)]) dX4_begin_57
        · refine lv_aload_n hx hb dX4_begin_34 rfl (lv_at hl 0 rfl) ?_
          refine va_get (D := G) (ci := 4) (v := .int (nI (tlv T))) (C := RX4) (T := TX4) (N := 16) hx hb hts hin_X4 hown hK hP 0 rfl rfl 6 (by decide) (hts (.fieldLink RX4 66 "MigrationledgerModel" "level" "I") (by decide +kernel)) (fun _ h9 => h9) rfl dX4_begin_35 ?_
          refine lv_aload_n hx hb dX4_begin_38 rfl (lv_at hl 0 rfl) ?_
          refine va_get (D := G) (ci := 4) (v := .int (nI (tn T))) (C := RX4) (T := TX4) (N := 16) hx hb hts hin_X4 hown hK hP 0 rfl rfl 1 (by decide) (hts (.fieldLink RX4 55 "MigrationledgerModel" "many" "I") (by decide +kernel)) (fun _ h9 => h9) rfl dX4_begin_39 ?_
          refine lv_icmp_ne (tgt := 49) hx hb dX4_begin_42 (by decide) (fun c_42 => ?_) (fun c_42 => ?_)
          · have hlt : tlv T < tn T := Nat.lt_of_le_of_ne hlvn (fun z => c_42 (by rw [z]))
            refine lv_iconst (v := 0) hx hb dX4_begin_49 (by decide) ?_
            refine ml_Vi (G := G) (As := [.int 0]) (rest := []) ⟨hx, hb, hml, hown, hts⟩ (c_X4_refused l G cy a H.size T rf sp 0) (cwV 1 hts gX4_begin_X4_refused rfl rfl rfl (by decide +kernel) ⟨Nat.le_of_ble_eq_true rfl, Nat.le_of_ble_eq_true rfl⟩) (va_recv hK hP (ci := 4) (q0 := 0) rfl rfl) hP hK hD hS hN hA rfl hl.1 (Nat.le_of_ble_eq_true rfl) dX4_begin_50 ⟨Nat.le_of_ble_eq_true rfl, Nat.le_of_ble_eq_true rfl⟩ (fun r_50 u_50 H locs hw hP hD hS => ?_)
            obtain rfl : r_50 = 0 := hw.trans (b2i_f (by decide))
            have hP : va_P G vwCl (wM a cy T 0 sp) H := hP
            have hD : va_D A (wM a cy T 0 sp) := hD
            refine lv_if_eq (tgt := 58) hx hb dX4_begin_53 (by decide) (fun c_53 => ?_) (fun c_53 => False.elim (by revert c_53; decide))
            refine lv_aload_n hx hb dX4_begin_58 rfl (lv_at hl 0 rfl) ?_
            refine lv_iconst (v := 1) hx hb dX4_begin_59 (by decide) ?_
            refine va_put (D := G) (ci := 4) (v := .int 1) (ty := .int) (C := RX4) (T := TX4) (N := 16) hx hb hts hin_X4 tyX4 tyX4_ok nmX4 hown hK hP hD hS 0 rfl rfl 7 (by decide) (hts (.fieldLink RX4 69 "MigrationledgerModel" "active" "I") (by decide +kernel)) (fun _ h9 => h9) rfl (by decide +kernel) rfl rfl (Nat.le_of_ble_eq_true rfl) dX4_begin_60 (fun H locs hP hD hS => ?_)
            have hP : va_P G vwCl (wM a cy (uac T 1) 0 sp) H := hP
            have hD : va_D A (wM a cy (uac T 1) 0 sp) := hD
            refine lv_aload_n hx hb dX4_begin_63 rfl (lv_at hl 0 rfl) ?_
            refine lv_iconst (v := 0) hx hb dX4_begin_64 (by decide) ?_
            refine ml_eqi (nI 0) (by decide) ?_
            refine va_put (D := G) (ci := 4) (v := .int (nI 0)) (ty := .int) (C := RX4) (T := TX4) (N := 16) hx hb hts hin_X4 tyX4 tyX4_ok nmX4 hown hK hP hD hS 0 rfl rfl 8 (by decide) (hts (.fieldLink RX4 93 "MigrationledgerModel" "cursor" "I") (by decide +kernel)) (fun _ h9 => h9) rfl (by decide +kernel) rfl rfl (Nat.le_of_ble_eq_true rfl) dX4_begin_65 (fun H locs hP hD hS => ?_)
            have hP : va_P G vwCl (wM a cy (ucu (uac T 1) 0) 0 sp) H := hP
            have hD : va_D A (wM a cy (ucu (uac T 1) 0) 0 sp) := hD
            refine lv_aload_n hx hb dX4_begin_68 rfl (lv_at hl 0 rfl) ?_
            refine va_get (D := G) (ci := 4) (v := .ref (a 4)) (C := RX4) (T := TX4) (N := 16) hx hb hts hin_X4 hown hK hP 0 rfl rfl 5 (by decide) (hts (.fieldLink RX4 19 "MigrationledgerModel" "recorded" "[I") (by decide +kernel)) (fun _ h9 => h9) rfl dX4_begin_69 ?_
            refine lv_aload_n hx hb dX4_begin_72 rfl (lv_at hl 0 rfl) ?_
            refine va_get (D := G) (ci := 4) (v := .int (nI (tlv T))) (C := RX4) (T := TX4) (N := 16) hx hb hts hin_X4 hown hK hP 0 rfl rfl 6 (by decide) (hts (.fieldLink RX4 66 "MigrationledgerModel" "level" "I") (by decide +kernel)) (fun _ h9 => h9) rfl dX4_begin_73 ?_
            refine lv_iconst (v := 1) hx hb dX4_begin_76 (by decide) ?_
            refine lv_iadd hx hb dX4_begin_77 ?_
            refine ml_eqi (nI (tlv T + 1)) (nI_add (tlv T) 1) ?_
            refine lv_aload_n hx hb dX4_begin_78 rfl (lv_at hl 0 rfl) ?_
            refine lv_aload_n hx hb dX4_begin_79 rfl (lv_at hl 0 rfl) ?_
            refine va_get (D := G) (ci := 4) (v := .int (nI (tlv T))) (C := RX4) (T := TX4) (N := 16) hx hb hts hin_X4 hown hK hP 0 rfl rfl 6 (by decide) (hts (.fieldLink RX4 66 "MigrationledgerModel" "level" "I") (by decide +kernel)) (fun _ h9 => h9) rfl dX4_begin_80 ?_
            refine lv_iconst (v := 1) hx hb dX4_begin_83 (by decide) ?_
            refine lv_iadd hx hb dX4_begin_84 ?_
            refine ml_eqi (nI (tlv T + 1)) (nI_add (tlv T) 1) ?_
            refine ml_Vi (G := G) (As := [.int (nI (tlv T + 1))]) (rest := [.int (nI (tlv T + 1)), .ref (a 4)]) ⟨hx, hb, hml, hown, hts⟩ (c_X4_sumOf l G cy a H.size (ucu (uac T 1) 0) 0 sp (tlv T + 1) (by omega)) (cwV 1 hts gX4_begin_X4_sumOf rfl rfl rfl (by decide +kernel) ⟨Nat.le_of_ble_eq_true rfl, Nat.le_of_ble_eq_true rfl⟩) (va_recv hK hP (ci := 4) (q0 := 0) rfl rfl) hP hK hD hS hN hA rfl hl.1 (Nat.le_of_ble_eq_true rfl) dX4_begin_85 ⟨Nat.le_of_ble_eq_true rfl, Nat.le_of_ble_eq_true rfl⟩ (fun r_85 u_85 H locs hw hP hD hS => ?_)
            obtain rfl : r_85 = sumOf (ucu (uac T 1) 0) (tlv T + 1) := hw
            have hP : va_P G vwCl (wM a cy (ucu (uac T 1) 0) 0 sp) H := hP
            have hD : va_D A (wM a cy (ucu (uac T 1) 0) 0 sp) := hD
            refine ml_iast hx hb hK hP hD hS 4 0 rfl rfl (tlv T + 1) rfl (by omega) (Nat.le_of_ble_eq_true rfl) dX4_begin_88 (fun H locs hP hD hS => ?_)
            have hP : va_P G vwCl (wM a cy (uR (ucu (uac T 1) 0) (upd (tR T) (tlv T + 1) (sumOf (ucu (uac T 1) 0) (tlv T + 1)))) 0 sp) H := hP
            have hD : va_D A (wM a cy (uR (ucu (uac T 1) 0) (upd (tR T) (tlv T + 1) (sumOf (ucu (uac T 1) 0) (tlv T + 1)))) 0 sp) := hD
            refine lv_aload_n hx hb dX4_begin_89 rfl (lv_at hl 0 rfl) ?_
            refine va_get (D := G) (ci := 4) (v := .int (nI (tlv T))) (C := RX4) (T := TX4) (N := 16) hx hb hts hin_X4 hown hK hP 0 rfl rfl 6 (by decide) (hts (.fieldLink RX4 66 "MigrationledgerModel" "level" "I") (by decide +kernel)) (fun _ h9 => h9) rfl dX4_begin_90 ?_
            refine lv_iconst (v := 1) hx hb dX4_begin_93 (by decide) ?_
            refine lv_iadd hx hb dX4_begin_94 ?_
            refine ml_eqi (nI (tlv T + 1)) (nI_add (tlv T) 1) ?_
            exact ml_ri sp hx hb hr hlocks hP hK hD hS (by rw [(show sp_begin T (nI j) = (0, nI (tlv T + 1), uR (ucu (uac T 1) 0) (upd (tR T) (tlv T + 1) (sumOf (ucu (uac T 1) 0) (tlv T + 1)))) from by unfold sp_begin; rw [cif_f (not_not_intro c_5), cif_f (fun q => q.elim c_17 (fun q => q.elim (fun z => z c_24) (fun q => q.elim (fun z => z c_31) (fun z => c_42 (by rw [z])))) : ¬ ((crd T (nI j) ∨ ¬ has T (nI j)) ∨ tac T ≠ 0 ∨ fdr T ≠ 0 ∨ tlv T = tn T))] <;> rfl)]) (by rw [(show sp_begin T (nI j) = (0, nI (tlv T + 1), uR (ucu (uac T 1) 0) (upd (tR T) (tlv T + 1) (sumOf (ucu (uac T 1) 0) (tlv T + 1)))) from by unfold sp_begin; rw [cif_f (not_not_intro c_5), cif_f (fun q => q.elim c_17 (fun q => q.elim (fun z => z c_24) (fun q => q.elim (fun z => z c_31) (fun z => c_42 (by rw [z])))) : ¬ ((crd T (nI j) ∨ ¬ has T (nI j)) ∨ tac T ≠ 0 ∨ fdr T ≠ 0 ∨ tlv T = tn T))] <;> rfl)]) dX4_begin_95
          · refine lv_iconst (v := 2) hx hb dX4_begin_45 (by decide) ?_
            refine lv_goto (tgt := 50) hx hb dX4_begin_46 (by decide) ?_
            refine ml_Vi (G := G) (As := [.int 2]) (rest := []) ⟨hx, hb, hml, hown, hts⟩ (c_X4_refused l G cy a H.size T rf sp 2) (cwV 1 hts gX4_begin_X4_refused rfl rfl rfl (by decide +kernel) ⟨Nat.le_of_ble_eq_true rfl, Nat.le_of_ble_eq_true rfl⟩) (va_recv hK hP (ci := 4) (q0 := 0) rfl rfl) hP hK hD hS hN hA rfl hl.1 (Nat.le_of_ble_eq_true rfl) dX4_begin_50 ⟨Nat.le_of_ble_eq_true rfl, Nat.le_of_ble_eq_true rfl⟩ (fun r_50 u_50 H locs hw hP hD hS => ?_)
            obtain rfl : r_50 = 1 := hw.trans (b2i_t (by decide))
            have hP : va_P G vwCl (wM a cy T 2 sp) H := hP
            have hD : va_D A (wM a cy T 2 sp) := hD
            refine lv_if_eq (tgt := 58) hx hb dX4_begin_53 (by decide) (fun c_53 => False.elim (by revert c_53; decide)) (fun c_53 => ?_)
            refine lv_iconst (v := 0) hx hb dX4_begin_56 (by decide) ?_
            exact ml_ri sp hx hb hr hlocks hP hK hD hS (by rw [(show sp_begin T (nI j) = (2, 0, T) from by unfold sp_begin; rw [cif_f (not_not_intro c_5), cif_t (Or.inr (Or.inr (Or.inr ((nI_eq (by omega) (by omega)).mp c_42))) : ((crd T (nI j) ∨ ¬ has T (nI j)) ∨ tac T ≠ 0 ∨ fdr T ≠ 0 ∨ tlv T = tn T))] <;> rfl)]) (by rw [(show sp_begin T (nI j) = (2, 0, T) from by unfold sp_begin; rw [cif_f (not_not_intro c_5), cif_t (Or.inr (Or.inr (Or.inr ((nI_eq (by omega) (by omega)).mp c_42))) : ((crd T (nI j) ∨ ¬ has T (nI j)) ∨ tac T ≠ 0 ∨ fdr T ≠ 0 ∨ tlv T = tn T))] <;> rfl)]) dX4_begin_57
  · refine lv_iconst (v := 1) hx hb dX4_begin_8 (by decide) ?_
    refine lv_goto (tgt := 50) hx hb dX4_begin_9 (by decide) ?_
    refine ml_Vi (G := G) (As := [.int 1]) (rest := []) ⟨hx, hb, hml, hown, hts⟩ (c_X4_refused l G cy a H.size T rf sp 1) (cwV 1 hts gX4_begin_X4_refused rfl rfl rfl (by decide +kernel) ⟨Nat.le_of_ble_eq_true rfl, Nat.le_of_ble_eq_true rfl⟩) (va_recv hK hP (ci := 4) (q0 := 0) rfl rfl) hP hK hD hS hN hA rfl hl.1 (Nat.le_of_ble_eq_true rfl) dX4_begin_50 ⟨Nat.le_of_ble_eq_true rfl, Nat.le_of_ble_eq_true rfl⟩ (fun r_50 u_50 H locs hw hP hD hS => ?_)
    obtain rfl : r_50 = 1 := hw.trans (b2i_t (by decide))
    have hP : va_P G vwCl (wM a cy T 1 sp) H := hP
    have hD : va_D A (wM a cy T 1 sp) := hD
    refine lv_if_eq (tgt := 58) hx hb dX4_begin_53 (by decide) (fun c_53 => False.elim (by revert c_53; decide)) (fun c_53 => ?_)
    refine lv_iconst (v := 0) hx hb dX4_begin_56 (by decide) ?_
    exact ml_ri sp hx hb hr hlocks hP hK hD hS (by rw [(show sp_begin T x = (1, 0, T) from by unfold sp_begin; rw [cif_t c_5] <;> rfl)]) (by rw [(show sp_begin T x = (1, 0, T) from by unfold sp_begin; rw [cif_t c_5] <;> rfl)]) dX4_begin_57
set_option maxHeartbeats 4000000 in
set_option maxRecDepth 100000 in
theorem c_X4_undo (l : Launch) (G : va_G) (cy : Nat → ClassId) (a : Nat → Nat) (sz : Nat) (T : TS) (rf : Int32) (sp : Nat → Int64) (x : Int32) (hI : Inv T) : Met l yX4_undo wsX4_undo ({ frames := 3, cells := 0, slots := 0, locals := 62 } : Room) (ml_P G cy [.ref (a 0), .int x] (wM a cy T rf sp) sz) (va_Qi (fun (r : Int32) (u : Nat → Int64) => (sp_undo T x).2.1 = r) (ml_B G cy (va_A (wM a cy T rf sp) sz) (fun (u : Nat → Int64) => (wM a cy ((sp_undo T x).2.2) ((sp_undo T x).1) u))) (va_A (wM a cy T rf sp) sz)) 0 0 (va_A (wM a cy T rf sp) sz) := by
  refine Met.ofW (cc := cX4_undo) (maxL := 3) (ret := (some .int)) (by decide) rfl ?_
  intro p e s m args below meth c s₁ B hml hv
  obtain ⟨rfl, hsz, hP, hK, hD0, hN⟩ := hv
  have hx := B.exec
  have hb := B.bytes
  have hr := B.returns
  have hts := atoms_spec (ws := wsX4_undo) B.pre
  have hown : s.vm.findClass RX4 = some m.cls := findClass_of_methodNamed B.named
  have hlocks := B.notSynchronized
  subst hsz
  have hD := hD0.self (sz := s.heap.size)
  generalize hAe : va_A (wM a cy T rf sp) s.heap.size = A at hD ⊢
  have hA : ∀ q : Nat, s.heap.size ≤ q → A q := fun q h => by rw [← hAe]; exact Or.inr h
  have hS : va_S A s.heap s.heap [] := va_S.rf
  have hP : va_P G vwCl (wM a cy T rf sp) s.heap := hP
  have hin_X4 : ∀ w ∈ wsX40, w ∈ wsX4_undo := by decide +kernel
  have hl := lv_entry ([.ref (a 0), .int x]) (n := 3) (Nat.le_of_ble_eq_true rfl)
  rw [lg_entry_eq]
  generalize (lg_sl ([.ref (a 0), .int x]) ++ List.replicate (3 - (lg_sl ([.ref (a 0), .int x])).length) Slot.unset).toArray = ls at hl ⊢
  have hl : lv_has ls 3 [(0, .ref (a 0)), (1, .int x)] := hl
  have hn12 : tn T ≤ 12 := hI.1.1
  have hlvn : tlv T ≤ tn T := hI.1.2.1
  have hcu : tcu T ≤ 40 := hI.1.2.2
  have hW := hI.w
  refine lv_aload_n hx hb dX4_undo_0 rfl (lv_at hl 0 rfl) ?_
  refine va_get (D := G) (ci := 4) (v := .int (tac T)) (C := RX4) (T := TX4) (N := 16) hx hb hts hin_X4 hown hK hP 0 rfl rfl 7 (by decide) (hts (.fieldLink RX4 69 "MigrationledgerModel" "active" "I") (by decide +kernel)) (fun _ h9 => h9) rfl dX4_undo_1 ?_
  refine lv_iconst (v := 3) hx hb dX4_undo_4 (by decide) ?_
  refine lv_icmp_eq (tgt := 42) hx hb dX4_undo_5 (by decide) (fun c_5 => ?_) (fun c_5 => ?_)
  · refine lv_iconst (v := 1) hx hb dX4_undo_42 (by decide) ?_
    refine lv_goto (tgt := 47) hx hb dX4_undo_43 (by decide) ?_
    refine lv_istore_n (lv' := [(2, .int 1), (0, .ref (a 0)), (1, .int x)]) hx hb dX4_undo_47 rfl hl (by decide) rfl (fun ls hl => ?_)
    refine lv_aload_n hx hb dX4_undo_48 rfl (lv_at hl 1 rfl) ?_
    refine lv_iload_n hx hb dX4_undo_49 rfl (lv_at hl 2 rfl) ?_
    refine ml_Si (G := G) (As := [.int x]) (rest := [.ref (a 0)]) ⟨hx, hb, hml, hown, hts⟩ (c_X4_isWorker l G cy a s.heap.size T rf sp x) (va_cwS 1 hts gX4_undo_X4_isWorker rfl rfl rfl (by decide +kernel) ⟨Nat.le_of_ble_eq_true rfl, Nat.le_of_ble_eq_true rfl⟩) hP hK hD hS hN hA rfl hl.1 (Nat.le_of_ble_eq_true rfl) dX4_undo_50 ⟨Nat.le_of_ble_eq_true rfl, Nat.le_of_ble_eq_true rfl⟩ (fun r_50 u_50 H locs hw hP hD hS => ?_)
    obtain rfl : r_50 = b2i (inR x 0 3) := hw
    have hP : va_P G vwCl (wM a cy T rf sp) H := hP
    have hD : va_D A (wM a cy T rf sp) := hD
    refine ml_ifneb (tgt := 60) hx hb dX4_undo_53 (by decide) (fun c_53 => ?_) (fun c_53 => ?_)
    · obtain ⟨j, hj, rfl⟩ := inR_n 3 (by decide) c_53
      refine lv_aload_n hx hb dX4_undo_60 rfl (lv_at hl 1 rfl) ?_
      refine lv_iload_n hx hb dX4_undo_61 rfl (lv_at hl 2 rfl) ?_
      refine ml_Vi (G := G) (As := [.int (nI j)]) (rest := [.ref (a 0)]) ⟨hx, hb, hml, hown, hts⟩ (c_X4_cannot l G cy a H.size T rf sp j (by omega) (hI.2.2.2.2.1 j (by omega))) (cwV 1 hts gX4_undo_X4_cannot rfl rfl rfl (by decide +kernel) ⟨Nat.le_of_ble_eq_true rfl, Nat.le_of_ble_eq_true rfl⟩) (va_recv hK hP (ci := 4) (q0 := 0) rfl rfl) hP hK hD hS hN hA rfl hl.1 (Nat.le_of_ble_eq_true rfl) dX4_undo_62 ⟨Nat.le_of_ble_eq_true rfl, Nat.le_of_ble_eq_true rfl⟩ (fun r_62 u_62 H locs hw hP hD hS => ?_)
      obtain rfl : r_62 = b2i (crd T (nI j) ∨ ¬ has T (nI j)) := hw
      have hP : va_P G vwCl (wM a cy T rf sp) H := hP
      have hD : va_D A (wM a cy T rf sp) := hD
      refine ml_ifneb (tgt := 72) hx hb dX4_undo_65 (by decide) (fun c_65 => ?_) (fun c_65 => ?_)
      · refine lv_iconst (v := 2) hx hb dX4_undo_72 (by decide) ?_
        refine lv_goto (tgt := 77) hx hb dX4_undo_73 (by decide) ?_
        refine ml_Vi (G := G) (As := [.int 2]) (rest := []) ⟨hx, hb, hml, hown, hts⟩ (c_X4_refused l G cy a H.size T rf sp 2) (cwV 1 hts gX4_undo_X4_refused rfl rfl rfl (by decide +kernel) ⟨Nat.le_of_ble_eq_true rfl, Nat.le_of_ble_eq_true rfl⟩) (va_recv hK hP (ci := 4) (q0 := 0) rfl rfl) hP hK hD hS hN hA rfl hl.1 (Nat.le_of_ble_eq_true rfl) dX4_undo_77 ⟨Nat.le_of_ble_eq_true rfl, Nat.le_of_ble_eq_true rfl⟩ (fun r_77 u_77 H locs hw hP hD hS => ?_)
        obtain rfl : r_77 = 1 := hw.trans (b2i_t (by decide))
        have hP : va_P G vwCl (wM a cy T 2 sp) H := hP
        have hD : va_D A (wM a cy T 2 sp) := hD
        refine lv_if_eq (tgt := 85) hx hb dX4_undo_80 (by decide) (fun c_80 => False.elim (by revert c_80; decide)) (fun c_80 => ?_)
        refine lv_iconst (v := 0) hx hb dX4_undo_83 (by decide) ?_
        exact ml_ri sp hx hb hr hlocks hP hK hD hS (by rw [(show sp_undo T (nI j) = (2, 0, T) from by unfold sp_undo; rw [cif_f (not_not_intro c_53), cif_t (Or.inl c_65 : ((crd T (nI j) ∨ ¬ has T (nI j)) ∨ tac T = 3 ∨ (tac T = 0 ∧ (tlv T = 0 ∨ drf T (tlv T)))))] <;> rfl)]) (by rw [(show sp_undo T (nI j) = (2, 0, T) from by unfold sp_undo; rw [cif_f (not_not_intro c_53), cif_t (Or.inl c_65 : ((crd T (nI j) ∨ ¬ has T (nI j)) ∨ tac T = 3 ∨ (tac T = 0 ∧ (tlv T = 0 ∨ drf T (tlv T)))))] <;> rfl)]) dX4_undo_84
      · refine lv_iload_n hx hb dX4_undo_68 rfl (lv_at hl 0 rfl) ?_
        refine lv_if_eq (tgt := 76) hx hb dX4_undo_69 (by decide) (fun c_69 => False.elim (by revert c_69; decide)) (fun c_69 => ?_)
        refine lv_iconst (v := 2) hx hb dX4_undo_72 (by decide) ?_
        refine lv_goto (tgt := 77) hx hb dX4_undo_73 (by decide) ?_
        refine ml_Vi (G := G) (As := [.int 2]) (rest := []) ⟨hx, hb, hml, hown, hts⟩ (c_X4_refused l G cy a H.size T rf sp 2) (cwV 1 hts gX4_undo_X4_refused rfl rfl rfl (by decide +kernel) ⟨Nat.le_of_ble_eq_true rfl, Nat.le_of_ble_eq_true rfl⟩) (va_recv hK hP (ci := 4) (q0 := 0) rfl rfl) hP hK hD hS hN hA rfl hl.1 (Nat.le_of_ble_eq_true rfl) dX4_undo_77 ⟨Nat.le_of_ble_eq_true rfl, Nat.le_of_ble_eq_true rfl⟩ (fun r_77 u_77 H locs hw hP hD hS => ?_)
        obtain rfl : r_77 = 1 := hw.trans (b2i_t (by decide))
        have hP : va_P G vwCl (wM a cy T 2 sp) H := hP
        have hD : va_D A (wM a cy T 2 sp) := hD
        refine lv_if_eq (tgt := 85) hx hb dX4_undo_80 (by decide) (fun c_80 => False.elim (by revert c_80; decide)) (fun c_80 => ?_)
        refine lv_iconst (v := 0) hx hb dX4_undo_83 (by decide) ?_
        exact ml_ri sp hx hb hr hlocks hP hK hD hS (by rw [(show sp_undo T (nI j) = (2, 0, T) from by unfold sp_undo; rw [cif_f (not_not_intro c_53), cif_t (Or.inr (Or.inl c_5) : ((crd T (nI j) ∨ ¬ has T (nI j)) ∨ tac T = 3 ∨ (tac T = 0 ∧ (tlv T = 0 ∨ drf T (tlv T)))))] <;> rfl)]) (by rw [(show sp_undo T (nI j) = (2, 0, T) from by unfold sp_undo; rw [cif_f (not_not_intro c_53), cif_t (Or.inr (Or.inl c_5) : ((crd T (nI j) ∨ ¬ has T (nI j)) ∨ tac T = 3 ∨ (tac T = 0 ∧ (tlv T = 0 ∨ drf T (tlv T)))))] <;> rfl)]) dX4_undo_84
    · refine lv_iconst (v := 1) hx hb dX4_undo_56 (by decide) ?_
      refine lv_goto (tgt := 77) hx hb dX4_undo_57 (by decide) ?_
      refine ml_Vi (G := G) (As := [.int 1]) (rest := []) ⟨hx, hb, hml, hown, hts⟩ (c_X4_refused l G cy a H.size T rf sp 1) (cwV 1 hts gX4_undo_X4_refused rfl rfl rfl (by decide +kernel) ⟨Nat.le_of_ble_eq_true rfl, Nat.le_of_ble_eq_true rfl⟩) (va_recv hK hP (ci := 4) (q0 := 0) rfl rfl) hP hK hD hS hN hA rfl hl.1 (Nat.le_of_ble_eq_true rfl) dX4_undo_77 ⟨Nat.le_of_ble_eq_true rfl, Nat.le_of_ble_eq_true rfl⟩ (fun r_77 u_77 H locs hw hP hD hS => ?_)
      obtain rfl : r_77 = 1 := hw.trans (b2i_t (by decide))
      have hP : va_P G vwCl (wM a cy T 1 sp) H := hP
      have hD : va_D A (wM a cy T 1 sp) := hD
      refine lv_if_eq (tgt := 85) hx hb dX4_undo_80 (by decide) (fun c_80 => False.elim (by revert c_80; decide)) (fun c_80 => ?_)
      refine lv_iconst (v := 0) hx hb dX4_undo_83 (by decide) ?_
      exact ml_ri sp hx hb hr hlocks hP hK hD hS (by rw [(show sp_undo T x = (1, 0, T) from by unfold sp_undo; rw [cif_t c_53] <;> rfl)]) (by rw [(show sp_undo T x = (1, 0, T) from by unfold sp_undo; rw [cif_t c_53] <;> rfl)]) dX4_undo_84
  · refine lv_aload_n hx hb dX4_undo_8 rfl (lv_at hl 0 rfl) ?_
    refine va_get (D := G) (ci := 4) (v := .int (tac T)) (C := RX4) (T := TX4) (N := 16) hx hb hts hin_X4 hown hK hP 0 rfl rfl 7 (by decide) (hts (.fieldLink RX4 69 "MigrationledgerModel" "active" "I") (by decide +kernel)) (fun _ h9 => h9) rfl dX4_undo_9 ?_
    refine lv_if_ne (tgt := 46) hx hb dX4_undo_12 (by decide) (fun c_12 => ?_) (fun c_12 => ?_)
    · refine lv_iconst (v := 0) hx hb dX4_undo_46 (by decide) ?_
      refine lv_istore_n (lv' := [(2, .int 0), (0, .ref (a 0)), (1, .int x)]) hx hb dX4_undo_47 rfl hl (by decide) rfl (fun ls hl => ?_)
      refine lv_aload_n hx hb dX4_undo_48 rfl (lv_at hl 1 rfl) ?_
      refine lv_iload_n hx hb dX4_undo_49 rfl (lv_at hl 2 rfl) ?_
      refine ml_Si (G := G) (As := [.int x]) (rest := [.ref (a 0)]) ⟨hx, hb, hml, hown, hts⟩ (c_X4_isWorker l G cy a s.heap.size T rf sp x) (va_cwS 1 hts gX4_undo_X4_isWorker rfl rfl rfl (by decide +kernel) ⟨Nat.le_of_ble_eq_true rfl, Nat.le_of_ble_eq_true rfl⟩) hP hK hD hS hN hA rfl hl.1 (Nat.le_of_ble_eq_true rfl) dX4_undo_50 ⟨Nat.le_of_ble_eq_true rfl, Nat.le_of_ble_eq_true rfl⟩ (fun r_50 u_50 H locs hw hP hD hS => ?_)
      obtain rfl : r_50 = b2i (inR x 0 3) := hw
      have hP : va_P G vwCl (wM a cy T rf sp) H := hP
      have hD : va_D A (wM a cy T rf sp) := hD
      refine ml_ifneb (tgt := 60) hx hb dX4_undo_53 (by decide) (fun c_53 => ?_) (fun c_53 => ?_)
      · obtain ⟨j, hj, rfl⟩ := inR_n 3 (by decide) c_53
        refine lv_aload_n hx hb dX4_undo_60 rfl (lv_at hl 1 rfl) ?_
        refine lv_iload_n hx hb dX4_undo_61 rfl (lv_at hl 2 rfl) ?_
        refine ml_Vi (G := G) (As := [.int (nI j)]) (rest := [.ref (a 0)]) ⟨hx, hb, hml, hown, hts⟩ (c_X4_cannot l G cy a H.size T rf sp j (by omega) (hI.2.2.2.2.1 j (by omega))) (cwV 1 hts gX4_undo_X4_cannot rfl rfl rfl (by decide +kernel) ⟨Nat.le_of_ble_eq_true rfl, Nat.le_of_ble_eq_true rfl⟩) (va_recv hK hP (ci := 4) (q0 := 0) rfl rfl) hP hK hD hS hN hA rfl hl.1 (Nat.le_of_ble_eq_true rfl) dX4_undo_62 ⟨Nat.le_of_ble_eq_true rfl, Nat.le_of_ble_eq_true rfl⟩ (fun r_62 u_62 H locs hw hP hD hS => ?_)
        obtain rfl : r_62 = b2i (crd T (nI j) ∨ ¬ has T (nI j)) := hw
        have hP : va_P G vwCl (wM a cy T rf sp) H := hP
        have hD : va_D A (wM a cy T rf sp) := hD
        refine ml_ifneb (tgt := 72) hx hb dX4_undo_65 (by decide) (fun c_65 => ?_) (fun c_65 => ?_)
        · refine lv_iconst (v := 2) hx hb dX4_undo_72 (by decide) ?_
          refine lv_goto (tgt := 77) hx hb dX4_undo_73 (by decide) ?_
          refine ml_Vi (G := G) (As := [.int 2]) (rest := []) ⟨hx, hb, hml, hown, hts⟩ (c_X4_refused l G cy a H.size T rf sp 2) (cwV 1 hts gX4_undo_X4_refused rfl rfl rfl (by decide +kernel) ⟨Nat.le_of_ble_eq_true rfl, Nat.le_of_ble_eq_true rfl⟩) (va_recv hK hP (ci := 4) (q0 := 0) rfl rfl) hP hK hD hS hN hA rfl hl.1 (Nat.le_of_ble_eq_true rfl) dX4_undo_77 ⟨Nat.le_of_ble_eq_true rfl, Nat.le_of_ble_eq_true rfl⟩ (fun r_77 u_77 H locs hw hP hD hS => ?_)
          obtain rfl : r_77 = 1 := hw.trans (b2i_t (by decide))
          have hP : va_P G vwCl (wM a cy T 2 sp) H := hP
          have hD : va_D A (wM a cy T 2 sp) := hD
          refine lv_if_eq (tgt := 85) hx hb dX4_undo_80 (by decide) (fun c_80 => False.elim (by revert c_80; decide)) (fun c_80 => ?_)
          refine lv_iconst (v := 0) hx hb dX4_undo_83 (by decide) ?_
          exact ml_ri sp hx hb hr hlocks hP hK hD hS (by rw [(show sp_undo T (nI j) = (2, 0, T) from by unfold sp_undo; rw [cif_f (not_not_intro c_53), cif_t (Or.inl c_65 : ((crd T (nI j) ∨ ¬ has T (nI j)) ∨ tac T = 3 ∨ (tac T = 0 ∧ (tlv T = 0 ∨ drf T (tlv T)))))] <;> rfl)]) (by rw [(show sp_undo T (nI j) = (2, 0, T) from by unfold sp_undo; rw [cif_f (not_not_intro c_53), cif_t (Or.inl c_65 : ((crd T (nI j) ∨ ¬ has T (nI j)) ∨ tac T = 3 ∨ (tac T = 0 ∧ (tlv T = 0 ∨ drf T (tlv T)))))] <;> rfl)]) dX4_undo_84
        · refine lv_iload_n hx hb dX4_undo_68 rfl (lv_at hl 0 rfl) ?_
          refine lv_if_eq (tgt := 76) hx hb dX4_undo_69 (by decide) (fun c_69 => ?_) (fun c_69 => False.elim (by revert c_69; decide))
          refine lv_iconst (v := 0) hx hb dX4_undo_76 (by decide) ?_
          refine ml_Vi (G := G) (As := [.int 0]) (rest := []) ⟨hx, hb, hml, hown, hts⟩ (c_X4_refused l G cy a H.size T rf sp 0) (cwV 1 hts gX4_undo_X4_refused rfl rfl rfl (by decide +kernel) ⟨Nat.le_of_ble_eq_true rfl, Nat.le_of_ble_eq_true rfl⟩) (va_recv hK hP (ci := 4) (q0 := 0) rfl rfl) hP hK hD hS hN hA rfl hl.1 (Nat.le_of_ble_eq_true rfl) dX4_undo_77 ⟨Nat.le_of_ble_eq_true rfl, Nat.le_of_ble_eq_true rfl⟩ (fun r_77 u_77 H locs hw hP hD hS => ?_)
          obtain rfl : r_77 = 0 := hw.trans (b2i_f (by decide))
          have hP : va_P G vwCl (wM a cy T 0 sp) H := hP
          have hD : va_D A (wM a cy T 0 sp) := hD
          refine lv_if_eq (tgt := 85) hx hb dX4_undo_80 (by decide) (fun c_80 => ?_) (fun c_80 => False.elim (by revert c_80; decide))
          refine lv_aload_n hx hb dX4_undo_85 rfl (lv_at hl 1 rfl) ?_
          refine lv_dup hx hb dX4_undo_86 rfl ?_
          refine va_get (D := G) (ci := 4) (v := .int (nI (tlv T))) (C := RX4) (T := TX4) (N := 16) hx hb hts hin_X4 hown hK hP 0 rfl rfl 6 (by decide) (hts (.fieldLink RX4 66 "MigrationledgerModel" "level" "I") (by decide +kernel)) (fun _ h9 => h9) rfl dX4_undo_87 ?_
          refine lv_aload_n hx hb dX4_undo_90 rfl (lv_at hl 1 rfl) ?_
          refine va_get (D := G) (ci := 4) (v := .int (tac T)) (C := RX4) (T := TX4) (N := 16) hx hb hts hin_X4 hown hK hP 0 rfl rfl 7 (by decide) (hts (.fieldLink RX4 69 "MigrationledgerModel" "active" "I") (by decide +kernel)) (fun _ h9 => h9) rfl dX4_undo_91 ?_
          refine lv_if_ne (tgt := 101) hx hb dX4_undo_94 (by decide) (fun c_94 => ?_) (fun c_94 => False.elim (c_12 c_94))
          refine lv_iconst (v := 0) hx hb dX4_undo_101 (by decide) ?_
          refine lv_isub hx hb dX4_undo_102 ?_
          refine ml_eqi (nI (tlv T)) (pk_sub (b := 0) (Nat.zero_le _)) ?_
          refine va_put (D := G) (ci := 4) (v := .int (nI (tlv T))) (ty := .int) (C := RX4) (T := TX4) (N := 16) hx hb hts hin_X4 tyX4 tyX4_ok nmX4 hown hK hP hD hS 0 rfl rfl 6 (by decide) (hts (.fieldLink RX4 66 "MigrationledgerModel" "level" "I") (by decide +kernel)) (fun _ h9 => h9) rfl (by decide +kernel) rfl rfl (Nat.le_of_ble_eq_true rfl) dX4_undo_103 (fun H locs hP hD hS => ?_)
          have hP : va_P G vwCl (wM a cy (ulv T (tlv T)) 0 sp) H := hP
          have hD : va_D A (wM a cy (ulv T (tlv T)) 0 sp) := hD
          refine lv_aload_n hx hb dX4_undo_106 rfl (lv_at hl 1 rfl) ?_
          refine lv_iconst (v := 3) hx hb dX4_undo_107 (by decide) ?_
          refine va_put (D := G) (ci := 4) (v := .int 3) (ty := .int) (C := RX4) (T := TX4) (N := 16) hx hb hts hin_X4 tyX4 tyX4_ok nmX4 hown hK hP hD hS 0 rfl rfl 7 (by decide) (hts (.fieldLink RX4 69 "MigrationledgerModel" "active" "I") (by decide +kernel)) (fun _ h9 => h9) rfl (by decide +kernel) rfl rfl (Nat.le_of_ble_eq_true rfl) dX4_undo_108 (fun H locs hP hD hS => ?_)
          have hP : va_P G vwCl (wM a cy (uac (ulv T (tlv T)) 3) 0 sp) H := hP
          have hD : va_D A (wM a cy (uac (ulv T (tlv T)) 3) 0 sp) := hD
          refine lv_aload_n hx hb dX4_undo_111 rfl (lv_at hl 1 rfl) ?_
          refine lv_bipush (v := 40) hx hb dX4_undo_112 (by decide) ?_
          refine ml_eqi (nI 40) (by decide) ?_
          refine va_put (D := G) (ci := 4) (v := .int (nI 40)) (ty := .int) (C := RX4) (T := TX4) (N := 16) hx hb hts hin_X4 tyX4 tyX4_ok nmX4 hown hK hP hD hS 0 rfl rfl 8 (by decide) (hts (.fieldLink RX4 93 "MigrationledgerModel" "cursor" "I") (by decide +kernel)) (fun _ h9 => h9) rfl (by decide +kernel) rfl rfl (Nat.le_of_ble_eq_true rfl) dX4_undo_114 (fun H locs hP hD hS => ?_)
          have hP : va_P G vwCl (wM a cy (ucu (uac (ulv T (tlv T)) 3) 40) 0 sp) H := hP
          have hD : va_D A (wM a cy (ucu (uac (ulv T (tlv T)) 3) 40) 0 sp) := hD
          refine lv_aload_n hx hb dX4_undo_117 rfl (lv_at hl 1 rfl) ?_
          refine va_get (D := G) (ci := 4) (v := .int (nI (tlv T))) (C := RX4) (T := TX4) (N := 16) hx hb hts hin_X4 hown hK hP 0 rfl rfl 6 (by decide) (hts (.fieldLink RX4 66 "MigrationledgerModel" "level" "I") (by decide +kernel)) (fun _ h9 => h9) rfl dX4_undo_118 ?_
          refine lv_iconst (v := 1) hx hb dX4_undo_121 (by decide) ?_
          refine lv_iadd hx hb dX4_undo_122 ?_
          refine ml_eqi (nI (tlv T + 1)) (nI_add (tlv T) 1) ?_
          exact ml_ri sp hx hb hr hlocks hP hK hD hS (by rw [(show sp_undo T (nI j) = (0, nI (tlv T + 1), ucu (uac (ulv T (tlv T)) 3) 40) from by unfold sp_undo; rw [cif_f (not_not_intro c_53), cif_f (fun q => q.elim c_65 (fun q => q.elim c_5 (fun z => c_12 z.1)) : ¬ ((crd T (nI j) ∨ ¬ has T (nI j)) ∨ tac T = 3 ∨ (tac T = 0 ∧ (tlv T = 0 ∨ drf T (tlv T))))), show lvU T = tlv T from cif_f c_12] <;> rfl)]) (by rw [(show sp_undo T (nI j) = (0, nI (tlv T + 1), ucu (uac (ulv T (tlv T)) 3) 40) from by unfold sp_undo; rw [cif_f (not_not_intro c_53), cif_f (fun q => q.elim c_65 (fun q => q.elim c_5 (fun z => c_12 z.1)) : ¬ ((crd T (nI j) ∨ ¬ has T (nI j)) ∨ tac T = 3 ∨ (tac T = 0 ∧ (tlv T = 0 ∨ drf T (tlv T))))), show lvU T = tlv T from cif_f c_12] <;> rfl)]) dX4_undo_123
      · refine lv_iconst (v := 1) hx hb dX4_undo_56 (by decide) ?_
        refine lv_goto (tgt := 77) hx hb dX4_undo_57 (by decide) ?_
        refine ml_Vi (G := G) (As := [.int 1]) (rest := []) ⟨hx, hb, hml, hown, hts⟩ (c_X4_refused l G cy a H.size T rf sp 1) (cwV 1 hts gX4_undo_X4_refused rfl rfl rfl (by decide +kernel) ⟨Nat.le_of_ble_eq_true rfl, Nat.le_of_ble_eq_true rfl⟩) (va_recv hK hP (ci := 4) (q0 := 0) rfl rfl) hP hK hD hS hN hA rfl hl.1 (Nat.le_of_ble_eq_true rfl) dX4_undo_77 ⟨Nat.le_of_ble_eq_true rfl, Nat.le_of_ble_eq_true rfl⟩ (fun r_77 u_77 H locs hw hP hD hS => ?_)
        obtain rfl : r_77 = 1 := hw.trans (b2i_t (by decide))
        have hP : va_P G vwCl (wM a cy T 1 sp) H := hP
        have hD : va_D A (wM a cy T 1 sp) := hD
        refine lv_if_eq (tgt := 85) hx hb dX4_undo_80 (by decide) (fun c_80 => False.elim (by revert c_80; decide)) (fun c_80 => ?_)
        refine lv_iconst (v := 0) hx hb dX4_undo_83 (by decide) ?_
        exact ml_ri sp hx hb hr hlocks hP hK hD hS (by rw [(show sp_undo T x = (1, 0, T) from by unfold sp_undo; rw [cif_t c_53] <;> rfl)]) (by rw [(show sp_undo T x = (1, 0, T) from by unfold sp_undo; rw [cif_t c_53] <;> rfl)]) dX4_undo_84
    · refine lv_aload_n hx hb dX4_undo_15 rfl (lv_at hl 0 rfl) ?_
      refine va_get (D := G) (ci := 4) (v := .int (nI (tlv T))) (C := RX4) (T := TX4) (N := 16) hx hb hts hin_X4 hown hK hP 0 rfl rfl 6 (by decide) (hts (.fieldLink RX4 66 "MigrationledgerModel" "level" "I") (by decide +kernel)) (fun _ h9 => h9) rfl dX4_undo_16 ?_
      refine lv_if_eq (tgt := 42) hx hb dX4_undo_19 (by decide) (fun c_19 => ?_) (fun c_19 => ?_)
      · refine lv_iconst (v := 1) hx hb dX4_undo_42 (by decide) ?_
        refine lv_goto (tgt := 47) hx hb dX4_undo_43 (by decide) ?_
        refine lv_istore_n (lv' := [(2, .int 1), (0, .ref (a 0)), (1, .int x)]) hx hb dX4_undo_47 rfl hl (by decide) rfl (fun ls hl => ?_)
        refine lv_aload_n hx hb dX4_undo_48 rfl (lv_at hl 1 rfl) ?_
        refine lv_iload_n hx hb dX4_undo_49 rfl (lv_at hl 2 rfl) ?_
        refine ml_Si (G := G) (As := [.int x]) (rest := [.ref (a 0)]) ⟨hx, hb, hml, hown, hts⟩ (c_X4_isWorker l G cy a s.heap.size T rf sp x) (va_cwS 1 hts gX4_undo_X4_isWorker rfl rfl rfl (by decide +kernel) ⟨Nat.le_of_ble_eq_true rfl, Nat.le_of_ble_eq_true rfl⟩) hP hK hD hS hN hA rfl hl.1 (Nat.le_of_ble_eq_true rfl) dX4_undo_50 ⟨Nat.le_of_ble_eq_true rfl, Nat.le_of_ble_eq_true rfl⟩ (fun r_50 u_50 H locs hw hP hD hS => ?_)
        obtain rfl : r_50 = b2i (inR x 0 3) := hw
        have hP : va_P G vwCl (wM a cy T rf sp) H := hP
        have hD : va_D A (wM a cy T rf sp) := hD
        refine ml_ifneb (tgt := 60) hx hb dX4_undo_53 (by decide) (fun c_53 => ?_) (fun c_53 => ?_)
        · obtain ⟨j, hj, rfl⟩ := inR_n 3 (by decide) c_53
          refine lv_aload_n hx hb dX4_undo_60 rfl (lv_at hl 1 rfl) ?_
          refine lv_iload_n hx hb dX4_undo_61 rfl (lv_at hl 2 rfl) ?_
          refine ml_Vi (G := G) (As := [.int (nI j)]) (rest := [.ref (a 0)]) ⟨hx, hb, hml, hown, hts⟩ (c_X4_cannot l G cy a H.size T rf sp j (by omega) (hI.2.2.2.2.1 j (by omega))) (cwV 1 hts gX4_undo_X4_cannot rfl rfl rfl (by decide +kernel) ⟨Nat.le_of_ble_eq_true rfl, Nat.le_of_ble_eq_true rfl⟩) (va_recv hK hP (ci := 4) (q0 := 0) rfl rfl) hP hK hD hS hN hA rfl hl.1 (Nat.le_of_ble_eq_true rfl) dX4_undo_62 ⟨Nat.le_of_ble_eq_true rfl, Nat.le_of_ble_eq_true rfl⟩ (fun r_62 u_62 H locs hw hP hD hS => ?_)
          obtain rfl : r_62 = b2i (crd T (nI j) ∨ ¬ has T (nI j)) := hw
          have hP : va_P G vwCl (wM a cy T rf sp) H := hP
          have hD : va_D A (wM a cy T rf sp) := hD
          refine ml_ifneb (tgt := 72) hx hb dX4_undo_65 (by decide) (fun c_65 => ?_) (fun c_65 => ?_)
          · refine lv_iconst (v := 2) hx hb dX4_undo_72 (by decide) ?_
            refine lv_goto (tgt := 77) hx hb dX4_undo_73 (by decide) ?_
            refine ml_Vi (G := G) (As := [.int 2]) (rest := []) ⟨hx, hb, hml, hown, hts⟩ (c_X4_refused l G cy a H.size T rf sp 2) (cwV 1 hts gX4_undo_X4_refused rfl rfl rfl (by decide +kernel) ⟨Nat.le_of_ble_eq_true rfl, Nat.le_of_ble_eq_true rfl⟩) (va_recv hK hP (ci := 4) (q0 := 0) rfl rfl) hP hK hD hS hN hA rfl hl.1 (Nat.le_of_ble_eq_true rfl) dX4_undo_77 ⟨Nat.le_of_ble_eq_true rfl, Nat.le_of_ble_eq_true rfl⟩ (fun r_77 u_77 H locs hw hP hD hS => ?_)
            obtain rfl : r_77 = 1 := hw.trans (b2i_t (by decide))
            have hP : va_P G vwCl (wM a cy T 2 sp) H := hP
            have hD : va_D A (wM a cy T 2 sp) := hD
            refine lv_if_eq (tgt := 85) hx hb dX4_undo_80 (by decide) (fun c_80 => False.elim (by revert c_80; decide)) (fun c_80 => ?_)
            refine lv_iconst (v := 0) hx hb dX4_undo_83 (by decide) ?_
            exact ml_ri sp hx hb hr hlocks hP hK hD hS (by rw [(show sp_undo T (nI j) = (2, 0, T) from by unfold sp_undo; rw [cif_f (not_not_intro c_53), cif_t (Or.inl c_65 : ((crd T (nI j) ∨ ¬ has T (nI j)) ∨ tac T = 3 ∨ (tac T = 0 ∧ (tlv T = 0 ∨ drf T (tlv T)))))] <;> rfl)]) (by rw [(show sp_undo T (nI j) = (2, 0, T) from by unfold sp_undo; rw [cif_f (not_not_intro c_53), cif_t (Or.inl c_65 : ((crd T (nI j) ∨ ¬ has T (nI j)) ∨ tac T = 3 ∨ (tac T = 0 ∧ (tlv T = 0 ∨ drf T (tlv T)))))] <;> rfl)]) dX4_undo_84
          · refine lv_iload_n hx hb dX4_undo_68 rfl (lv_at hl 0 rfl) ?_
            refine lv_if_eq (tgt := 76) hx hb dX4_undo_69 (by decide) (fun c_69 => False.elim (by revert c_69; decide)) (fun c_69 => ?_)
            refine lv_iconst (v := 2) hx hb dX4_undo_72 (by decide) ?_
            refine lv_goto (tgt := 77) hx hb dX4_undo_73 (by decide) ?_
            refine ml_Vi (G := G) (As := [.int 2]) (rest := []) ⟨hx, hb, hml, hown, hts⟩ (c_X4_refused l G cy a H.size T rf sp 2) (cwV 1 hts gX4_undo_X4_refused rfl rfl rfl (by decide +kernel) ⟨Nat.le_of_ble_eq_true rfl, Nat.le_of_ble_eq_true rfl⟩) (va_recv hK hP (ci := 4) (q0 := 0) rfl rfl) hP hK hD hS hN hA rfl hl.1 (Nat.le_of_ble_eq_true rfl) dX4_undo_77 ⟨Nat.le_of_ble_eq_true rfl, Nat.le_of_ble_eq_true rfl⟩ (fun r_77 u_77 H locs hw hP hD hS => ?_)
            obtain rfl : r_77 = 1 := hw.trans (b2i_t (by decide))
            have hP : va_P G vwCl (wM a cy T 2 sp) H := hP
            have hD : va_D A (wM a cy T 2 sp) := hD
            refine lv_if_eq (tgt := 85) hx hb dX4_undo_80 (by decide) (fun c_80 => False.elim (by revert c_80; decide)) (fun c_80 => ?_)
            refine lv_iconst (v := 0) hx hb dX4_undo_83 (by decide) ?_
            exact ml_ri sp hx hb hr hlocks hP hK hD hS (by rw [(show sp_undo T (nI j) = (2, 0, T) from by unfold sp_undo; rw [cif_f (not_not_intro c_53), cif_t (Or.inr (Or.inr ⟨c_12, Or.inl (l0_of (by omega) c_19)⟩) : ((crd T (nI j) ∨ ¬ has T (nI j)) ∨ tac T = 3 ∨ (tac T = 0 ∧ (tlv T = 0 ∨ drf T (tlv T)))))] <;> rfl)]) (by rw [(show sp_undo T (nI j) = (2, 0, T) from by unfold sp_undo; rw [cif_f (not_not_intro c_53), cif_t (Or.inr (Or.inr ⟨c_12, Or.inl (l0_of (by omega) c_19)⟩) : ((crd T (nI j) ∨ ¬ has T (nI j)) ∨ tac T = 3 ∨ (tac T = 0 ∧ (tlv T = 0 ∨ drf T (tlv T)))))] <;> rfl)]) dX4_undo_84
        · refine lv_iconst (v := 1) hx hb dX4_undo_56 (by decide) ?_
          refine lv_goto (tgt := 77) hx hb dX4_undo_57 (by decide) ?_
          refine ml_Vi (G := G) (As := [.int 1]) (rest := []) ⟨hx, hb, hml, hown, hts⟩ (c_X4_refused l G cy a H.size T rf sp 1) (cwV 1 hts gX4_undo_X4_refused rfl rfl rfl (by decide +kernel) ⟨Nat.le_of_ble_eq_true rfl, Nat.le_of_ble_eq_true rfl⟩) (va_recv hK hP (ci := 4) (q0 := 0) rfl rfl) hP hK hD hS hN hA rfl hl.1 (Nat.le_of_ble_eq_true rfl) dX4_undo_77 ⟨Nat.le_of_ble_eq_true rfl, Nat.le_of_ble_eq_true rfl⟩ (fun r_77 u_77 H locs hw hP hD hS => ?_)
          obtain rfl : r_77 = 1 := hw.trans (b2i_t (by decide))
          have hP : va_P G vwCl (wM a cy T 1 sp) H := hP
          have hD : va_D A (wM a cy T 1 sp) := hD
          refine lv_if_eq (tgt := 85) hx hb dX4_undo_80 (by decide) (fun c_80 => False.elim (by revert c_80; decide)) (fun c_80 => ?_)
          refine lv_iconst (v := 0) hx hb dX4_undo_83 (by decide) ?_
          exact ml_ri sp hx hb hr hlocks hP hK hD hS (by rw [(show sp_undo T x = (1, 0, T) from by unfold sp_undo; rw [cif_t c_53] <;> rfl)]) (by rw [(show sp_undo T x = (1, 0, T) from by unfold sp_undo; rw [cif_t c_53] <;> rfl)]) dX4_undo_84
      · refine lv_aload_n hx hb dX4_undo_22 rfl (lv_at hl 0 rfl) ?_
        refine lv_aload_n hx hb dX4_undo_23 rfl (lv_at hl 0 rfl) ?_
        refine va_get (D := G) (ci := 4) (v := .int (nI (tlv T))) (C := RX4) (T := TX4) (N := 16) hx hb hts hin_X4 hown hK hP 0 rfl rfl 6 (by decide) (hts (.fieldLink RX4 66 "MigrationledgerModel" "level" "I") (by decide +kernel)) (fun _ h9 => h9) rfl dX4_undo_24 ?_
        refine ml_Vi (G := G) (As := [.int (nI (tlv T))]) (rest := []) ⟨hx, hb, hml, hown, hts⟩ (c_X4_sumOf l G cy a s.heap.size T rf sp (tlv T) (by omega)) (cwV 1 hts gX4_undo_X4_sumOf rfl rfl rfl (by decide +kernel) ⟨Nat.le_of_ble_eq_true rfl, Nat.le_of_ble_eq_true rfl⟩) (va_recv hK hP (ci := 4) (q0 := 0) rfl rfl) hP hK hD hS hN hA rfl hl.1 (Nat.le_of_ble_eq_true rfl) dX4_undo_27 ⟨Nat.le_of_ble_eq_true rfl, Nat.le_of_ble_eq_true rfl⟩ (fun r_27 u_27 H locs hw hP hD hS => ?_)
        obtain rfl : r_27 = sumOf T (tlv T) := hw
        have hP : va_P G vwCl (wM a cy T rf sp) H := hP
        have hD : va_D A (wM a cy T rf sp) := hD
        refine lv_aload_n hx hb dX4_undo_30 rfl (lv_at hl 0 rfl) ?_
        refine va_get (D := G) (ci := 4) (v := .ref (a 4)) (C := RX4) (T := TX4) (N := 16) hx hb hts hin_X4 hown hK hP 0 rfl rfl 5 (by decide) (hts (.fieldLink RX4 19 "MigrationledgerModel" "recorded" "[I") (by decide +kernel)) (fun _ h9 => h9) rfl dX4_undo_31 ?_
        refine lv_aload_n hx hb dX4_undo_34 rfl (lv_at hl 0 rfl) ?_
        refine va_get (D := G) (ci := 4) (v := .int (nI (tlv T))) (C := RX4) (T := TX4) (N := 16) hx hb hts hin_X4 hown hK hP 0 rfl rfl 6 (by decide) (hts (.fieldLink RX4 66 "MigrationledgerModel" "level" "I") (by decide +kernel)) (fun _ h9 => h9) rfl dX4_undo_35 ?_
        refine ml_iald hx hb hK hP 4 0 rfl rfl (tlv T) rfl (by omega) (Nat.le_of_ble_eq_true rfl) ((tR T) (tlv T)) rfl dX4_undo_38 ?_
        refine lv_icmp_eq (tgt := 46) hx hb dX4_undo_39 (by decide) (fun c_39 => ?_) (fun c_39 => ?_)
        · refine lv_iconst (v := 0) hx hb dX4_undo_46 (by decide) ?_
          refine lv_istore_n (lv' := [(2, .int 0), (0, .ref (a 0)), (1, .int x)]) hx hb dX4_undo_47 rfl hl (by decide) rfl (fun ls hl => ?_)
          refine lv_aload_n hx hb dX4_undo_48 rfl (lv_at hl 1 rfl) ?_
          refine lv_iload_n hx hb dX4_undo_49 rfl (lv_at hl 2 rfl) ?_
          refine ml_Si (G := G) (As := [.int x]) (rest := [.ref (a 0)]) ⟨hx, hb, hml, hown, hts⟩ (c_X4_isWorker l G cy a H.size T rf sp x) (va_cwS 1 hts gX4_undo_X4_isWorker rfl rfl rfl (by decide +kernel) ⟨Nat.le_of_ble_eq_true rfl, Nat.le_of_ble_eq_true rfl⟩) hP hK hD hS hN hA rfl hl.1 (Nat.le_of_ble_eq_true rfl) dX4_undo_50 ⟨Nat.le_of_ble_eq_true rfl, Nat.le_of_ble_eq_true rfl⟩ (fun r_50 u_50 H locs hw hP hD hS => ?_)
          obtain rfl : r_50 = b2i (inR x 0 3) := hw
          have hP : va_P G vwCl (wM a cy T rf sp) H := hP
          have hD : va_D A (wM a cy T rf sp) := hD
          refine ml_ifneb (tgt := 60) hx hb dX4_undo_53 (by decide) (fun c_53 => ?_) (fun c_53 => ?_)
          · obtain ⟨j, hj, rfl⟩ := inR_n 3 (by decide) c_53
            refine lv_aload_n hx hb dX4_undo_60 rfl (lv_at hl 1 rfl) ?_
            refine lv_iload_n hx hb dX4_undo_61 rfl (lv_at hl 2 rfl) ?_
            refine ml_Vi (G := G) (As := [.int (nI j)]) (rest := [.ref (a 0)]) ⟨hx, hb, hml, hown, hts⟩ (c_X4_cannot l G cy a H.size T rf sp j (by omega) (hI.2.2.2.2.1 j (by omega))) (cwV 1 hts gX4_undo_X4_cannot rfl rfl rfl (by decide +kernel) ⟨Nat.le_of_ble_eq_true rfl, Nat.le_of_ble_eq_true rfl⟩) (va_recv hK hP (ci := 4) (q0 := 0) rfl rfl) hP hK hD hS hN hA rfl hl.1 (Nat.le_of_ble_eq_true rfl) dX4_undo_62 ⟨Nat.le_of_ble_eq_true rfl, Nat.le_of_ble_eq_true rfl⟩ (fun r_62 u_62 H locs hw hP hD hS => ?_)
            obtain rfl : r_62 = b2i (crd T (nI j) ∨ ¬ has T (nI j)) := hw
            have hP : va_P G vwCl (wM a cy T rf sp) H := hP
            have hD : va_D A (wM a cy T rf sp) := hD
            refine ml_ifneb (tgt := 72) hx hb dX4_undo_65 (by decide) (fun c_65 => ?_) (fun c_65 => ?_)
            · refine lv_iconst (v := 2) hx hb dX4_undo_72 (by decide) ?_
              refine lv_goto (tgt := 77) hx hb dX4_undo_73 (by decide) ?_
              refine ml_Vi (G := G) (As := [.int 2]) (rest := []) ⟨hx, hb, hml, hown, hts⟩ (c_X4_refused l G cy a H.size T rf sp 2) (cwV 1 hts gX4_undo_X4_refused rfl rfl rfl (by decide +kernel) ⟨Nat.le_of_ble_eq_true rfl, Nat.le_of_ble_eq_true rfl⟩) (va_recv hK hP (ci := 4) (q0 := 0) rfl rfl) hP hK hD hS hN hA rfl hl.1 (Nat.le_of_ble_eq_true rfl) dX4_undo_77 ⟨Nat.le_of_ble_eq_true rfl, Nat.le_of_ble_eq_true rfl⟩ (fun r_77 u_77 H locs hw hP hD hS => ?_)
              obtain rfl : r_77 = 1 := hw.trans (b2i_t (by decide))
              have hP : va_P G vwCl (wM a cy T 2 sp) H := hP
              have hD : va_D A (wM a cy T 2 sp) := hD
              refine lv_if_eq (tgt := 85) hx hb dX4_undo_80 (by decide) (fun c_80 => False.elim (by revert c_80; decide)) (fun c_80 => ?_)
              refine lv_iconst (v := 0) hx hb dX4_undo_83 (by decide) ?_
              exact ml_ri sp hx hb hr hlocks hP hK hD hS (by rw [(show sp_undo T (nI j) = (2, 0, T) from by unfold sp_undo; rw [cif_f (not_not_intro c_53), cif_t (Or.inl c_65 : ((crd T (nI j) ∨ ¬ has T (nI j)) ∨ tac T = 3 ∨ (tac T = 0 ∧ (tlv T = 0 ∨ drf T (tlv T)))))] <;> rfl)]) (by rw [(show sp_undo T (nI j) = (2, 0, T) from by unfold sp_undo; rw [cif_f (not_not_intro c_53), cif_t (Or.inl c_65 : ((crd T (nI j) ∨ ¬ has T (nI j)) ∨ tac T = 3 ∨ (tac T = 0 ∧ (tlv T = 0 ∨ drf T (tlv T)))))] <;> rfl)]) dX4_undo_84
            · refine lv_iload_n hx hb dX4_undo_68 rfl (lv_at hl 0 rfl) ?_
              refine lv_if_eq (tgt := 76) hx hb dX4_undo_69 (by decide) (fun c_69 => ?_) (fun c_69 => False.elim (by revert c_69; decide))
              refine lv_iconst (v := 0) hx hb dX4_undo_76 (by decide) ?_
              refine ml_Vi (G := G) (As := [.int 0]) (rest := []) ⟨hx, hb, hml, hown, hts⟩ (c_X4_refused l G cy a H.size T rf sp 0) (cwV 1 hts gX4_undo_X4_refused rfl rfl rfl (by decide +kernel) ⟨Nat.le_of_ble_eq_true rfl, Nat.le_of_ble_eq_true rfl⟩) (va_recv hK hP (ci := 4) (q0 := 0) rfl rfl) hP hK hD hS hN hA rfl hl.1 (Nat.le_of_ble_eq_true rfl) dX4_undo_77 ⟨Nat.le_of_ble_eq_true rfl, Nat.le_of_ble_eq_true rfl⟩ (fun r_77 u_77 H locs hw hP hD hS => ?_)
              obtain rfl : r_77 = 0 := hw.trans (b2i_f (by decide))
              have hP : va_P G vwCl (wM a cy T 0 sp) H := hP
              have hD : va_D A (wM a cy T 0 sp) := hD
              refine lv_if_eq (tgt := 85) hx hb dX4_undo_80 (by decide) (fun c_80 => ?_) (fun c_80 => False.elim (by revert c_80; decide))
              refine lv_aload_n hx hb dX4_undo_85 rfl (lv_at hl 1 rfl) ?_
              refine lv_dup hx hb dX4_undo_86 rfl ?_
              refine va_get (D := G) (ci := 4) (v := .int (nI (tlv T))) (C := RX4) (T := TX4) (N := 16) hx hb hts hin_X4 hown hK hP 0 rfl rfl 6 (by decide) (hts (.fieldLink RX4 66 "MigrationledgerModel" "level" "I") (by decide +kernel)) (fun _ h9 => h9) rfl dX4_undo_87 ?_
              refine lv_aload_n hx hb dX4_undo_90 rfl (lv_at hl 1 rfl) ?_
              refine va_get (D := G) (ci := 4) (v := .int (tac T)) (C := RX4) (T := TX4) (N := 16) hx hb hts hin_X4 hown hK hP 0 rfl rfl 7 (by decide) (hts (.fieldLink RX4 69 "MigrationledgerModel" "active" "I") (by decide +kernel)) (fun _ h9 => h9) rfl dX4_undo_91 ?_
              refine lv_if_ne (tgt := 101) hx hb dX4_undo_94 (by decide) (fun c_94 => False.elim (c_94 c_12)) (fun c_94 => ?_)
              refine lv_iconst (v := 1) hx hb dX4_undo_97 (by decide) ?_
              refine lv_goto (tgt := 102) hx hb dX4_undo_98 (by decide) ?_
              refine lv_isub hx hb dX4_undo_102 ?_
              refine ml_eqi (nI (tlv T - 1)) (pk_sub (b := 1) (Nat.pos_of_ne_zero (fun w => c_19 (by rw [w]; rfl)))) ?_
              refine va_put (D := G) (ci := 4) (v := .int (nI (tlv T - 1))) (ty := .int) (C := RX4) (T := TX4) (N := 16) hx hb hts hin_X4 tyX4 tyX4_ok nmX4 hown hK hP hD hS 0 rfl rfl 6 (by decide) (hts (.fieldLink RX4 66 "MigrationledgerModel" "level" "I") (by decide +kernel)) (fun _ h9 => h9) rfl (by decide +kernel) rfl rfl (Nat.le_of_ble_eq_true rfl) dX4_undo_103 (fun H locs hP hD hS => ?_)
              have hP : va_P G vwCl (wM a cy (ulv T (tlv T - 1)) 0 sp) H := hP
              have hD : va_D A (wM a cy (ulv T (tlv T - 1)) 0 sp) := hD
              refine lv_aload_n hx hb dX4_undo_106 rfl (lv_at hl 1 rfl) ?_
              refine lv_iconst (v := 3) hx hb dX4_undo_107 (by decide) ?_
              refine va_put (D := G) (ci := 4) (v := .int 3) (ty := .int) (C := RX4) (T := TX4) (N := 16) hx hb hts hin_X4 tyX4 tyX4_ok nmX4 hown hK hP hD hS 0 rfl rfl 7 (by decide) (hts (.fieldLink RX4 69 "MigrationledgerModel" "active" "I") (by decide +kernel)) (fun _ h9 => h9) rfl (by decide +kernel) rfl rfl (Nat.le_of_ble_eq_true rfl) dX4_undo_108 (fun H locs hP hD hS => ?_)
              have hP : va_P G vwCl (wM a cy (uac (ulv T (tlv T - 1)) 3) 0 sp) H := hP
              have hD : va_D A (wM a cy (uac (ulv T (tlv T - 1)) 3) 0 sp) := hD
              refine lv_aload_n hx hb dX4_undo_111 rfl (lv_at hl 1 rfl) ?_
              refine lv_bipush (v := 40) hx hb dX4_undo_112 (by decide) ?_
              refine ml_eqi (nI 40) (by decide) ?_
              refine va_put (D := G) (ci := 4) (v := .int (nI 40)) (ty := .int) (C := RX4) (T := TX4) (N := 16) hx hb hts hin_X4 tyX4 tyX4_ok nmX4 hown hK hP hD hS 0 rfl rfl 8 (by decide) (hts (.fieldLink RX4 93 "MigrationledgerModel" "cursor" "I") (by decide +kernel)) (fun _ h9 => h9) rfl (by decide +kernel) rfl rfl (Nat.le_of_ble_eq_true rfl) dX4_undo_114 (fun H locs hP hD hS => ?_)
              have hP : va_P G vwCl (wM a cy (ucu (uac (ulv T (tlv T - 1)) 3) 40) 0 sp) H := hP
              have hD : va_D A (wM a cy (ucu (uac (ulv T (tlv T - 1)) 3) 40) 0 sp) := hD
              refine lv_aload_n hx hb dX4_undo_117 rfl (lv_at hl 1 rfl) ?_
              refine va_get (D := G) (ci := 4) (v := .int (nI (tlv T - 1))) (C := RX4) (T := TX4) (N := 16) hx hb hts hin_X4 hown hK hP 0 rfl rfl 6 (by decide) (hts (.fieldLink RX4 66 "MigrationledgerModel" "level" "I") (by decide +kernel)) (fun _ h9 => h9) rfl dX4_undo_118 ?_
              refine lv_iconst (v := 1) hx hb dX4_undo_121 (by decide) ?_
              refine lv_iadd hx hb dX4_undo_122 ?_
              refine ml_eqi (nI (tlv T - 1 + 1)) (nI_add (tlv T - 1) 1) ?_
              exact ml_ri sp hx hb hr hlocks hP hK hD hS (by rw [(show sp_undo T (nI j) = (0, nI (tlv T - 1 + 1), ucu (uac (ulv T (tlv T - 1)) 3) 40) from by unfold sp_undo; rw [cif_f (not_not_intro c_53), cif_f (fun q => q.elim c_65 (fun q => q.elim c_5 (fun z => z.2.elim (fun w => c_19 (by rw [w]; rfl)) (fun w => w c_39))) : ¬ ((crd T (nI j) ∨ ¬ has T (nI j)) ∨ tac T = 3 ∨ (tac T = 0 ∧ (tlv T = 0 ∨ drf T (tlv T))))), show lvU T = tlv T - 1 from cif_t c_12] <;> rfl)]) (by rw [(show sp_undo T (nI j) = (0, nI (tlv T - 1 + 1), ucu (uac (ulv T (tlv T - 1)) 3) 40) from by unfold sp_undo; rw [cif_f (not_not_intro c_53), cif_f (fun q => q.elim c_65 (fun q => q.elim c_5 (fun z => z.2.elim (fun w => c_19 (by rw [w]; rfl)) (fun w => w c_39))) : ¬ ((crd T (nI j) ∨ ¬ has T (nI j)) ∨ tac T = 3 ∨ (tac T = 0 ∧ (tlv T = 0 ∨ drf T (tlv T))))), show lvU T = tlv T - 1 from cif_t c_12] <;> rfl)]) dX4_undo_123
          · refine lv_iconst (v := 1) hx hb dX4_undo_56 (by decide) ?_
            refine lv_goto (tgt := 77) hx hb dX4_undo_57 (by decide) ?_
            refine ml_Vi (G := G) (As := [.int 1]) (rest := []) ⟨hx, hb, hml, hown, hts⟩ (c_X4_refused l G cy a H.size T rf sp 1) (cwV 1 hts gX4_undo_X4_refused rfl rfl rfl (by decide +kernel) ⟨Nat.le_of_ble_eq_true rfl, Nat.le_of_ble_eq_true rfl⟩) (va_recv hK hP (ci := 4) (q0 := 0) rfl rfl) hP hK hD hS hN hA rfl hl.1 (Nat.le_of_ble_eq_true rfl) dX4_undo_77 ⟨Nat.le_of_ble_eq_true rfl, Nat.le_of_ble_eq_true rfl⟩ (fun r_77 u_77 H locs hw hP hD hS => ?_)
            obtain rfl : r_77 = 1 := hw.trans (b2i_t (by decide))
            have hP : va_P G vwCl (wM a cy T 1 sp) H := hP
            have hD : va_D A (wM a cy T 1 sp) := hD
            refine lv_if_eq (tgt := 85) hx hb dX4_undo_80 (by decide) (fun c_80 => False.elim (by revert c_80; decide)) (fun c_80 => ?_)
            refine lv_iconst (v := 0) hx hb dX4_undo_83 (by decide) ?_
            exact ml_ri sp hx hb hr hlocks hP hK hD hS (by rw [(show sp_undo T x = (1, 0, T) from by unfold sp_undo; rw [cif_t c_53] <;> rfl)]) (by rw [(show sp_undo T x = (1, 0, T) from by unfold sp_undo; rw [cif_t c_53] <;> rfl)]) dX4_undo_84
        · refine lv_iconst (v := 1) hx hb dX4_undo_42 (by decide) ?_
          refine lv_goto (tgt := 47) hx hb dX4_undo_43 (by decide) ?_
          refine lv_istore_n (lv' := [(2, .int 1), (0, .ref (a 0)), (1, .int x)]) hx hb dX4_undo_47 rfl hl (by decide) rfl (fun ls hl => ?_)
          refine lv_aload_n hx hb dX4_undo_48 rfl (lv_at hl 1 rfl) ?_
          refine lv_iload_n hx hb dX4_undo_49 rfl (lv_at hl 2 rfl) ?_
          refine ml_Si (G := G) (As := [.int x]) (rest := [.ref (a 0)]) ⟨hx, hb, hml, hown, hts⟩ (c_X4_isWorker l G cy a H.size T rf sp x) (va_cwS 1 hts gX4_undo_X4_isWorker rfl rfl rfl (by decide +kernel) ⟨Nat.le_of_ble_eq_true rfl, Nat.le_of_ble_eq_true rfl⟩) hP hK hD hS hN hA rfl hl.1 (Nat.le_of_ble_eq_true rfl) dX4_undo_50 ⟨Nat.le_of_ble_eq_true rfl, Nat.le_of_ble_eq_true rfl⟩ (fun r_50 u_50 H locs hw hP hD hS => ?_)
          obtain rfl : r_50 = b2i (inR x 0 3) := hw
          have hP : va_P G vwCl (wM a cy T rf sp) H := hP
          have hD : va_D A (wM a cy T rf sp) := hD
          refine ml_ifneb (tgt := 60) hx hb dX4_undo_53 (by decide) (fun c_53 => ?_) (fun c_53 => ?_)
          · obtain ⟨j, hj, rfl⟩ := inR_n 3 (by decide) c_53
            refine lv_aload_n hx hb dX4_undo_60 rfl (lv_at hl 1 rfl) ?_
            refine lv_iload_n hx hb dX4_undo_61 rfl (lv_at hl 2 rfl) ?_
            refine ml_Vi (G := G) (As := [.int (nI j)]) (rest := [.ref (a 0)]) ⟨hx, hb, hml, hown, hts⟩ (c_X4_cannot l G cy a H.size T rf sp j (by omega) (hI.2.2.2.2.1 j (by omega))) (cwV 1 hts gX4_undo_X4_cannot rfl rfl rfl (by decide +kernel) ⟨Nat.le_of_ble_eq_true rfl, Nat.le_of_ble_eq_true rfl⟩) (va_recv hK hP (ci := 4) (q0 := 0) rfl rfl) hP hK hD hS hN hA rfl hl.1 (Nat.le_of_ble_eq_true rfl) dX4_undo_62 ⟨Nat.le_of_ble_eq_true rfl, Nat.le_of_ble_eq_true rfl⟩ (fun r_62 u_62 H locs hw hP hD hS => ?_)
            obtain rfl : r_62 = b2i (crd T (nI j) ∨ ¬ has T (nI j)) := hw
            have hP : va_P G vwCl (wM a cy T rf sp) H := hP
            have hD : va_D A (wM a cy T rf sp) := hD
            refine ml_ifneb (tgt := 72) hx hb dX4_undo_65 (by decide) (fun c_65 => ?_) (fun c_65 => ?_)
            · refine lv_iconst (v := 2) hx hb dX4_undo_72 (by decide) ?_
              refine lv_goto (tgt := 77) hx hb dX4_undo_73 (by decide) ?_
              refine ml_Vi (G := G) (As := [.int 2]) (rest := []) ⟨hx, hb, hml, hown, hts⟩ (c_X4_refused l G cy a H.size T rf sp 2) (cwV 1 hts gX4_undo_X4_refused rfl rfl rfl (by decide +kernel) ⟨Nat.le_of_ble_eq_true rfl, Nat.le_of_ble_eq_true rfl⟩) (va_recv hK hP (ci := 4) (q0 := 0) rfl rfl) hP hK hD hS hN hA rfl hl.1 (Nat.le_of_ble_eq_true rfl) dX4_undo_77 ⟨Nat.le_of_ble_eq_true rfl, Nat.le_of_ble_eq_true rfl⟩ (fun r_77 u_77 H locs hw hP hD hS => ?_)
              obtain rfl : r_77 = 1 := hw.trans (b2i_t (by decide))
              have hP : va_P G vwCl (wM a cy T 2 sp) H := hP
              have hD : va_D A (wM a cy T 2 sp) := hD
              refine lv_if_eq (tgt := 85) hx hb dX4_undo_80 (by decide) (fun c_80 => False.elim (by revert c_80; decide)) (fun c_80 => ?_)
              refine lv_iconst (v := 0) hx hb dX4_undo_83 (by decide) ?_
              exact ml_ri sp hx hb hr hlocks hP hK hD hS (by rw [(show sp_undo T (nI j) = (2, 0, T) from by unfold sp_undo; rw [cif_f (not_not_intro c_53), cif_t (Or.inl c_65 : ((crd T (nI j) ∨ ¬ has T (nI j)) ∨ tac T = 3 ∨ (tac T = 0 ∧ (tlv T = 0 ∨ drf T (tlv T)))))] <;> rfl)]) (by rw [(show sp_undo T (nI j) = (2, 0, T) from by unfold sp_undo; rw [cif_f (not_not_intro c_53), cif_t (Or.inl c_65 : ((crd T (nI j) ∨ ¬ has T (nI j)) ∨ tac T = 3 ∨ (tac T = 0 ∧ (tlv T = 0 ∨ drf T (tlv T)))))] <;> rfl)]) dX4_undo_84
            · refine lv_iload_n hx hb dX4_undo_68 rfl (lv_at hl 0 rfl) ?_
              refine lv_if_eq (tgt := 76) hx hb dX4_undo_69 (by decide) (fun c_69 => False.elim (by revert c_69; decide)) (fun c_69 => ?_)
              refine lv_iconst (v := 2) hx hb dX4_undo_72 (by decide) ?_
              refine lv_goto (tgt := 77) hx hb dX4_undo_73 (by decide) ?_
              refine ml_Vi (G := G) (As := [.int 2]) (rest := []) ⟨hx, hb, hml, hown, hts⟩ (c_X4_refused l G cy a H.size T rf sp 2) (cwV 1 hts gX4_undo_X4_refused rfl rfl rfl (by decide +kernel) ⟨Nat.le_of_ble_eq_true rfl, Nat.le_of_ble_eq_true rfl⟩) (va_recv hK hP (ci := 4) (q0 := 0) rfl rfl) hP hK hD hS hN hA rfl hl.1 (Nat.le_of_ble_eq_true rfl) dX4_undo_77 ⟨Nat.le_of_ble_eq_true rfl, Nat.le_of_ble_eq_true rfl⟩ (fun r_77 u_77 H locs hw hP hD hS => ?_)
              obtain rfl : r_77 = 1 := hw.trans (b2i_t (by decide))
              have hP : va_P G vwCl (wM a cy T 2 sp) H := hP
              have hD : va_D A (wM a cy T 2 sp) := hD
              refine lv_if_eq (tgt := 85) hx hb dX4_undo_80 (by decide) (fun c_80 => False.elim (by revert c_80; decide)) (fun c_80 => ?_)
              refine lv_iconst (v := 0) hx hb dX4_undo_83 (by decide) ?_
              exact ml_ri sp hx hb hr hlocks hP hK hD hS (by rw [(show sp_undo T (nI j) = (2, 0, T) from by unfold sp_undo; rw [cif_f (not_not_intro c_53), cif_t (Or.inr (Or.inr ⟨c_12, Or.inr c_39⟩) : ((crd T (nI j) ∨ ¬ has T (nI j)) ∨ tac T = 3 ∨ (tac T = 0 ∧ (tlv T = 0 ∨ drf T (tlv T)))))] <;> rfl)]) (by rw [(show sp_undo T (nI j) = (2, 0, T) from by unfold sp_undo; rw [cif_f (not_not_intro c_53), cif_t (Or.inr (Or.inr ⟨c_12, Or.inr c_39⟩) : ((crd T (nI j) ∨ ¬ has T (nI j)) ∨ tac T = 3 ∨ (tac T = 0 ∧ (tlv T = 0 ∨ drf T (tlv T)))))] <;> rfl)]) dX4_undo_84
          · refine lv_iconst (v := 1) hx hb dX4_undo_56 (by decide) ?_
            refine lv_goto (tgt := 77) hx hb dX4_undo_57 (by decide) ?_
            refine ml_Vi (G := G) (As := [.int 1]) (rest := []) ⟨hx, hb, hml, hown, hts⟩ (c_X4_refused l G cy a H.size T rf sp 1) (cwV 1 hts gX4_undo_X4_refused rfl rfl rfl (by decide +kernel) ⟨Nat.le_of_ble_eq_true rfl, Nat.le_of_ble_eq_true rfl⟩) (va_recv hK hP (ci := 4) (q0 := 0) rfl rfl) hP hK hD hS hN hA rfl hl.1 (Nat.le_of_ble_eq_true rfl) dX4_undo_77 ⟨Nat.le_of_ble_eq_true rfl, Nat.le_of_ble_eq_true rfl⟩ (fun r_77 u_77 H locs hw hP hD hS => ?_)
            obtain rfl : r_77 = 1 := hw.trans (b2i_t (by decide))
            have hP : va_P G vwCl (wM a cy T 1 sp) H := hP
            have hD : va_D A (wM a cy T 1 sp) := hD
            refine lv_if_eq (tgt := 85) hx hb dX4_undo_80 (by decide) (fun c_80 => False.elim (by revert c_80; decide)) (fun c_80 => ?_)
            refine lv_iconst (v := 0) hx hb dX4_undo_83 (by decide) ?_
            exact ml_ri sp hx hb hr hlocks hP hK hD hS (by rw [(show sp_undo T x = (1, 0, T) from by unfold sp_undo; rw [cif_t c_53] <;> rfl)]) (by rw [(show sp_undo T x = (1, 0, T) from by unfold sp_undo; rw [cif_t c_53] <;> rfl)]) dX4_undo_84
set_option maxHeartbeats 4000000 in
set_option maxRecDepth 100000 in
theorem c_X4_cursor (l : Launch) (G : va_G) (cy : Nat → ClassId) (a : Nat → Nat) (sz : Nat) (T : TS) (rf : Int32) (sp : Nat → Int64) (hI : Inv T) : Met l yX4_cursor wsX4_cursor ({ frames := 1, cells := 0, slots := 0, locals := 21 } : Room) (ml_P G cy [.ref (a 0)] (wM a cy T rf sp) sz) (va_Qi (fun (r : Int32) (u : Nat → Int64) => (sp_cursor T).2.1 = r) (ml_B G cy (va_A (wM a cy T rf sp) sz) (fun (u : Nat → Int64) => (wM a cy ((sp_cursor T).2.2) ((sp_cursor T).1) u))) (va_A (wM a cy T rf sp) sz)) 0 0 (va_A (wM a cy T rf sp) sz) := by
  refine Met.ofW (cc := cX4_cursor) (maxL := 1) (ret := (some .int)) (by decide) rfl ?_
  intro p e s m args below meth c s₁ B hml hv
  obtain ⟨rfl, hsz, hP, hK, hD0, hN⟩ := hv
  have hx := B.exec
  have hb := B.bytes
  have hr := B.returns
  have hts := atoms_spec (ws := wsX4_cursor) B.pre
  have hown : s.vm.findClass RX4 = some m.cls := findClass_of_methodNamed B.named
  have hlocks := B.notSynchronized
  subst hsz
  have hD := hD0.self (sz := s.heap.size)
  generalize hAe : va_A (wM a cy T rf sp) s.heap.size = A at hD ⊢
  have hA : ∀ q : Nat, s.heap.size ≤ q → A q := fun q h => by rw [← hAe]; exact Or.inr h
  have hS : va_S A s.heap s.heap [] := va_S.rf
  have hP : va_P G vwCl (wM a cy T rf sp) s.heap := hP
  have hin_X4 : ∀ w ∈ wsX40, w ∈ wsX4_cursor := by decide +kernel
  have hl := lv_entry ([.ref (a 0)]) (n := 1) (Nat.le_of_ble_eq_true rfl)
  rw [lg_entry_eq]
  generalize (lg_sl ([.ref (a 0)]) ++ List.replicate (1 - (lg_sl ([.ref (a 0)])).length) Slot.unset).toArray = ls at hl ⊢
  have hl : lv_has ls 1 [(0, .ref (a 0))] := hl
  have hn12 : tn T ≤ 12 := hI.1.1
  have hlvn : tlv T ≤ tn T := hI.1.2.1
  have hcu : tcu T ≤ 40 := hI.1.2.2
  have hW := hI.w
  refine lv_aload_n hx hb dX4_cursor_0 rfl (lv_at hl 0 rfl) ?_
  refine lv_aload_n hx hb dX4_cursor_1 rfl (lv_at hl 0 rfl) ?_
  refine va_get (D := G) (ci := 4) (v := .int (tac T)) (C := RX4) (T := TX4) (N := 16) hx hb hts hin_X4 hown hK hP 0 rfl rfl 7 (by decide) (hts (.fieldLink RX4 69 "MigrationledgerModel" "active" "I") (by decide +kernel)) (fun _ h9 => h9) rfl dX4_cursor_2 ?_
  refine lv_if_ne (tgt := 12) hx hb dX4_cursor_5 (by decide) (fun c_5 => ?_) (fun c_5 => ?_)
  · refine lv_iconst (v := 0) hx hb dX4_cursor_12 (by decide) ?_
    refine ml_Vi (G := G) (As := [.int 0]) (rest := []) ⟨hx, hb, hml, hown, hts⟩ (c_X4_refused l G cy a s.heap.size T rf sp 0) (cwV 1 hts gX4_cursor_X4_refused rfl rfl rfl (by decide +kernel) ⟨Nat.le_of_ble_eq_true rfl, Nat.le_of_ble_eq_true rfl⟩) (va_recv hK hP (ci := 4) (q0 := 0) rfl rfl) hP hK hD hS hN hA rfl hl.1 (Nat.le_of_ble_eq_true rfl) dX4_cursor_13 ⟨Nat.le_of_ble_eq_true rfl, Nat.le_of_ble_eq_true rfl⟩ (fun r_13 u_13 H locs hw hP hD hS => ?_)
    obtain rfl : r_13 = 0 := hw.trans (b2i_f (by decide))
    have hP : va_P G vwCl (wM a cy T 0 sp) H := hP
    have hD : va_D A (wM a cy T 0 sp) := hD
    refine lv_if_eq (tgt := 23) hx hb dX4_cursor_16 (by decide) (fun c_16 => ?_) (fun c_16 => False.elim (by revert c_16; decide))
    refine lv_aload_n hx hb dX4_cursor_23 rfl (lv_at hl 0 rfl) ?_
    refine va_get (D := G) (ci := 4) (v := .int (nI (tcu T))) (C := RX4) (T := TX4) (N := 16) hx hb hts hin_X4 hown hK hP 0 rfl rfl 8 (by decide) (hts (.fieldLink RX4 93 "MigrationledgerModel" "cursor" "I") (by decide +kernel)) (fun _ h9 => h9) rfl dX4_cursor_24 ?_
    exact ml_ri sp hx hb hr hlocks hP hK hD hS (by rw [(show sp_cursor T = (0, nI (tcu T), T) from by unfold sp_cursor; rw [cif_f c_5] <;> rfl)]) (by rw [(show sp_cursor T = (0, nI (tcu T), T) from by unfold sp_cursor; rw [cif_f c_5] <;> rfl)]) dX4_cursor_27
  · refine lv_iconst (v := 1) hx hb dX4_cursor_8 (by decide) ?_
    refine lv_goto (tgt := 13) hx hb dX4_cursor_9 (by decide) ?_
    refine ml_Vi (G := G) (As := [.int 1]) (rest := []) ⟨hx, hb, hml, hown, hts⟩ (c_X4_refused l G cy a s.heap.size T rf sp 1) (cwV 1 hts gX4_cursor_X4_refused rfl rfl rfl (by decide +kernel) ⟨Nat.le_of_ble_eq_true rfl, Nat.le_of_ble_eq_true rfl⟩) (va_recv hK hP (ci := 4) (q0 := 0) rfl rfl) hP hK hD hS hN hA rfl hl.1 (Nat.le_of_ble_eq_true rfl) dX4_cursor_13 ⟨Nat.le_of_ble_eq_true rfl, Nat.le_of_ble_eq_true rfl⟩ (fun r_13 u_13 H locs hw hP hD hS => ?_)
    obtain rfl : r_13 = 1 := hw.trans (b2i_t (by decide))
    have hP : va_P G vwCl (wM a cy T 1 sp) H := hP
    have hD : va_D A (wM a cy T 1 sp) := hD
    refine lv_if_eq (tgt := 23) hx hb dX4_cursor_16 (by decide) (fun c_16 => False.elim (by revert c_16; decide)) (fun c_16 => ?_)
    refine lv_iconst (v := 0) hx hb dX4_cursor_19 (by decide) ?_
    refine lv_goto (tgt := 27) hx hb dX4_cursor_20 (by decide) ?_
    exact ml_ri sp hx hb hr hlocks hP hK hD hS (by rw [(show sp_cursor T = (1, 0, T) from by unfold sp_cursor; rw [cif_t c_5] <;> rfl)]) (by rw [(show sp_cursor T = (1, 0, T) from by unfold sp_cursor; rw [cif_t c_5] <;> rfl)]) dX4_cursor_27
