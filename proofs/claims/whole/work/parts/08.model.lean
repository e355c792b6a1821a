set_option maxHeartbeats 4000000 in
set_option maxRecDepth 100000 in
theorem c_X3_share (l : Launch) (hlt : l.stackTraces = false) (G : va_G) (cy : Nat → ClassId) (a : Nat → Nat) (sz : Nat) (T : TS) (tr : Nat → Int32) (hI : Inv T) : vy_Met l yX3_share wsX3_share ({ frames := 7, cells := 1, slots := 6, locals := 102 } : Room) (ml_PX G cy [.ref (a 0)] (wC a cy T tr) sz) (va_Qf (fun (r : UInt32) (u : Nat → Int32) => (sp_share T).1 = 0 ∧ (sp_share T).2 = r) (ml_B G cy (va_A (wC a cy T tr) sz) (fun (u : Nat → Int32) => (wC a cy T u))) (va_A (wC a cy T tr) sz)) (ml_XE G cy (va_A (wC a cy T tr) sz) (fun tr9 : Nat → Int32 => wC a cy T tr9) (fun E => E = eIS ∧ sp_share T = (1, 0))) 1 6 (va_A (wC a cy T tr) sz) := by
  refine vy_ofW (cc := cX3_share) (maxL := 2) (ret := (some .float)) (by decide) rfl ?_
  intro p e s m args below meth c s₁ B hml hout hv
  obtain ⟨rfl, hsz, hP, hK, hD0, hN, hE⟩ := hv
  have hx := B.exec
  have hb := B.bytes
  have hr := B.returns
  have hts := atoms_spec (ws := wsX3_share) B.pre
  have hown : s.vm.findClass RX3 = some m.cls := findClass_of_methodNamed B.named
  have hlocks := B.notSynchronized
  subst hsz
  have hD := hD0.self (sz := s.heap.size)
  generalize hAe : va_A (wC a cy T tr) s.heap.size = A at hD hE ⊢
  have hA : ∀ q : Nat, s.heap.size ≤ q → A q := fun q h => by rw [← hAe]; exact Or.inr h
  have hS : va_S A s.heap s.heap [] := va_S.rf
  have hP : va_P G vwCl (wC a cy T tr) s.heap := hP
  have hin_X3 : ∀ w ∈ wsX30, w ∈ wsX3_share := by decide +kernel
  have hl := lv_entry ([.ref (a 0)]) (n := 2) (Nat.le_of_ble_eq_true rfl)
  rw [lg_entry_eq]
  generalize (lg_sl ([.ref (a 0)]) ++ List.replicate (2 - (lg_sl ([.ref (a 0)])).length) Slot.unset).toArray = ls at hl ⊢
  have hl : lv_has ls 2 [(0, .ref (a 0))] := hl
  have hW := hI.w
  refine lv_aload_n hx hb dX3_share_0 rfl (lv_at hl 0 rfl) ?_
  refine ml_xVv (G := G) (As := []) (rest := []) ⟨hx, hb, hml, hown, hts⟩ (c_X3_requireActive l hlt G cy a s.heap.size T tr) (cwV 0 hts gX3_share_X3_requireActive rfl rfl rfl (by decide +kernel) ⟨Nat.le_of_ble_eq_true rfl, Nat.le_of_ble_eq_true rfl⟩) (va_recv hK hP (ci := 3) (q0 := 0) rfl rfl) hP hK hD hS hN hA hE rfl hl.1 (Nat.le_of_ble_eq_true rfl) dX3_share_1 ⟨Nat.le_of_ble_eq_true rfl, Nat.le_of_ble_eq_true rfl⟩ (fun E ce q9 H1 locs1 hp hP hD hS hcell hv hcl => ml_outE tr rfl hout hlocks (⟨hp.1, by unfold sp_share; rw [cif_t (Or.inl hp.2)]⟩) hP hK hD hS hcell hv hcl (Nat.le_of_ble_eq_true rfl) (Nat.le_of_ble_eq_true rfl)) (fun u_1 H locs hw hP hD hS => ?_)
  have q_1 := hw
  have hP : va_P G vwCl (wC a cy T tr) H := hP
  have hD : va_D A (wC a cy T tr) := hD
  refine lv_aload_n hx hb dX3_share_4 rfl (lv_at hl 0 rfl) ?_
  refine va_get (D := G) (ci := 3) (v := .ref (a 2)) (C := RX3) (T := TX3) (N := 7) hx hb hts hin_X3 hown hK hP 0 rfl rfl 1 (by decide) (hts (.fieldLink RX3 19 "Migrationledger" "table" "LMigrationledger$Table;") (by decide +kernel)) (fun _ h9 => h9) rfl dX3_share_5 ?_
  refine ml_Vi (G := G) (As := []) (rest := []) ⟨hx, hb, hml, hown, hts⟩ (c_X2_countPresent l G cy a H.size T tr) (cwV 0 hts gX3_share_X2_countPresent rfl rfl rfl (by decide +kernel) ⟨Nat.le_of_ble_eq_true rfl, Nat.le_of_ble_eq_true rfl⟩) (va_recv hK hP (ci := 2) (q0 := 2) rfl rfl) hP hK hD hS hN hA rfl hl.1 (Nat.le_of_ble_eq_true rfl) dX3_share_8 ⟨Nat.le_of_ble_eq_true rfl, Nat.le_of_ble_eq_true rfl⟩ (fun r_8 u_8 H locs hw hP hD hS => ?_)
  obtain rfl : r_8 = nI (cntV (tV T) (fun y => 0 ≤ y) 40) := hw
  have hP : va_P G vwCl (wC a cy T tr) H := hP
  have hD : va_D A (wC a cy T tr) := hD
  refine ml_eqi (nI (pres T)) (by rw [pres_eq hW]) ?_
  refine lv_istore_n (lv' := [(1, .int (nI (pres T))), (0, .ref (a 0))]) hx hb dX3_share_11 rfl hl (by decide) rfl (fun ls hl => ?_)
  refine lv_iload_n hx hb dX3_share_12 rfl (lv_at hl 0 rfl) ?_
  refine lv_if_ne (tgt := 26) hx hb dX3_share_13 (by decide) (fun c_13 => ?_) (fun c_13 => ?_)
  · have c_13b : ¬ pres T = 0 := fun q => c_13 (by rw [q]; rfl)
    refine lv_aload_n hx hb dX3_share_26 rfl (lv_at hl 1 rfl) ?_
    refine va_get (D := G) (ci := 3) (v := .ref (a 2)) (C := RX3) (T := TX3) (N := 7) hx hb hts hin_X3 hown hK hP 0 rfl rfl 1 (by decide) (hts (.fieldLink RX3 19 "Migrationledger" "table" "LMigrationledger$Table;") (by decide +kernel)) (fun _ h9 => h9) rfl dX3_share_27 ?_
    refine lv_aload_n hx hb dX3_share_30 rfl (lv_at hl 1 rfl) ?_
    refine ml_Vi (G := G) (As := []) (rest := [.ref (a 2)]) ⟨hx, hb, hml, hown, hts⟩ (c_X3_activeNumber l G cy a H.size T tr) (cwV 0 hts gX3_share_X3_activeNumber rfl rfl rfl (by decide +kernel) ⟨Nat.le_of_ble_eq_true rfl, Nat.le_of_ble_eq_true rfl⟩) (va_recv hK hP (ci := 3) (q0 := 0) rfl rfl) hP hK hD hS hN hA rfl hl.1 (Nat.le_of_ble_eq_true rfl) dX3_share_31 ⟨Nat.le_of_ble_eq_true rfl, Nat.le_of_ble_eq_true rfl⟩ (fun r_31 u_31 H locs hw hP hD hS => ?_)
    obtain rfl : r_31 = nI (tlv T + 1) := hw
    have hP : va_P G vwCl (wC a cy T tr) H := hP
    have hD : va_D A (wC a cy T tr) := hD
    refine ml_Vi (G := G) (As := [.int (nI (tlv T + 1))]) (rest := []) ⟨hx, hb, hml, hown, hts⟩ (c_X2_countFromVersion l G cy a H.size T tr (nI (tlv T + 1))) (cwV 1 hts gX3_share_X2_countFromVersion rfl rfl rfl (by decide +kernel) ⟨Nat.le_of_ble_eq_true rfl, Nat.le_of_ble_eq_true rfl⟩) (va_recv hK hP (ci := 2) (q0 := 2) rfl rfl) hP hK hD hS hN hA rfl hl.1 (Nat.le_of_ble_eq_true rfl) dX3_share_34 ⟨Nat.le_of_ble_eq_true rfl, Nat.le_of_ble_eq_true rfl⟩ (fun r_34 u_34 H locs hw hP hD hS => ?_)
    obtain rfl : r_34 = nI (cntV (tV T) (fun y => (nI (tlv T + 1)) ≤ y) 40) := hw
    have hP : va_P G vwCl (wC a cy T tr) H := hP
    have hD : va_D A (wC a cy T tr) := hD
    refine ml_eqi (nI (hav T)) (by rw [hav_eq hW]) ?_
    refine lv_i2f hx hb dX3_share_37 ?_
    refine lv_iload_n hx hb dX3_share_38 rfl (lv_at hl 0 rfl) ?_
    refine lv_i2f hx hb dX3_share_39 ?_
    refine lv_fdiv hx hb dX3_share_40 (sh_nn (cnt_le 40) (cnt_le 40) (Nat.pos_of_ne_zero c_13b)) ?_
    exact vy_ret (ml_rf tr hx hb hr hlocks hP hK hD hS rfl ⟨by rw [(show sp_share T = (0, FP.fdiv (FP.i2f (nI (hav T))) (FP.i2f (nI (pres T)))) from by unfold sp_share; rw [cif_f (fun q => q.elim q_1 c_13b : ¬ (tac T = 0 ∨ pres T = 0))])], by rw [(show sp_share T = (0, FP.fdiv (FP.i2f (nI (hav T))) (FP.i2f (nI (pres T)))) from by unfold sp_share; rw [cif_f (fun q => q.elim q_1 c_13b : ¬ (tac T = 0 ∨ pres T = 0))])]⟩ dX3_share_41)
  · exact ml_thrE tr rfl false hx hb hlt hown rfl (by decide) (text := "no row is present") (by decide) (hts (.classLink RX3 46 eIS) (by decide +kernel)) (hts (.initialized eIS) (by decide +kernel)) (fun w h => hts w (List.mem_cons_of_mem _ (List.mem_append_right _ h))) th_ng50 th_gd50 hP hK hD hE hS (hl.1.trans hml.symm) dX3_share_16 dX3_share_19 dX3_share_20 dX3_share_22 dX3_share_25 hout (Nat.le_of_ble_eq_true rfl) (Nat.le_of_ble_eq_true rfl) (Nat.le_of_ble_eq_true rfl) (Nat.le_of_ble_eq_true rfl) hlocks (⟨rfl, by unfold sp_share; rw [cif_t (Or.inr (Nat.eq_zero_of_not_pos fun q => nI_ne0 q (Nat.lt_of_le_of_lt (cnt_le 40) (by decide)) c_13))]⟩) (Nat.le_of_ble_eq_true rfl) (Nat.le_of_ble_eq_true rfl)
set_option maxHeartbeats 4000000 in
set_option maxRecDepth 100000 in
theorem c_X4_thrown (l : Launch) (G : va_G) (cy : Nat → ClassId) (a : Nat → Nat) (sz : Nat) (T : TS) (rf : Int32) (sp : Nat → Int64) : Met l yX4_thrown wsX4_thrown ({ frames := 0, cells := 0, slots := 0, locals := 0 } : Room) (ml_P G cy [.ref (a 0)] (wM a cy T rf sp) sz) (va_Qi (fun (r : Int32) (_ : Unit) => r = rf) (ml_B G cy (va_A (wM a cy T rf sp) sz) (fun (_ : Unit) => (wM a cy T rf sp))) (va_A (wM a cy T rf sp) sz)) 0 0 (va_A (wM a cy T rf sp) sz) := by
  refine Met.ofW (cc := cX4_thrown) (maxL := 1) (ret := (some .int)) (by decide) rfl ?_
  intro p e s m args below meth c s₁ B hml hv
  obtain ⟨rfl, hsz, hP, hK, hD0, hN⟩ := hv
  have hx := B.exec
  have hb := B.bytes
  have hr := B.returns
  have hts := atoms_spec (ws := wsX4_thrown) B.pre
  have hown : s.vm.findClass RX4 = some m.cls := findClass_of_methodNamed B.named
  have hlocks := B.notSynchronized
  subst hsz
  have hD := hD0.self (sz := s.heap.size)
  generalize hAe : va_A (wM a cy T rf sp) s.heap.size = A at hD ⊢
  have hA : ∀ q : Nat, s.heap.size ≤ q → A q := fun q h => by rw [← hAe]; exact Or.inr h
  have hS : va_S A s.heap s.heap [] := va_S.rf
  have hP : va_P G vwCl (wM a cy T rf sp) s.heap := hP
  have hin_X4 : ∀ w ∈ wsX40, w ∈ wsX4_thrown := by decide +kernel
  have hl := lv_entry ([.ref (a 0)]) (n := 1) (Nat.le_of_ble_eq_true rfl)
  rw [lg_entry_eq]
  generalize (lg_sl ([.ref (a 0)]) ++ List.replicate (1 - (lg_sl ([.ref (a 0)])).length) Slot.unset).toArray = ls at hl ⊢
  have hl : lv_has ls 1 [(0, .ref (a 0))] := hl
  refine lv_aload_n hx hb dX4_thrown_0 rfl (lv_at hl 0 rfl) ?_
  refine va_get (D := G) (ci := 4) (v := .int rf) (C := RX4) (T := TX4) (N := 16) hx hb hts hin_X4 hown hK hP 0 rfl rfl 0 (by decide) (hts (.fieldLink RX4 40 "MigrationledgerModel" "refusal" "I") (by decide +kernel)) (fun _ h9 => h9) rfl dX4_thrown_1 ?_
  exact ml_ri () hx hb hr hlocks hP hK hD hS rfl rfl dX4_thrown_4
set_option maxHeartbeats 4000000 in
set_option maxRecDepth 100000 in
theorem c_X4_refused (l : Launch) (G : va_G) (cy : Nat → ClassId) (a : Nat → Nat) (sz : Nat) (T : TS) (rf : Int32) (sp : Nat → Int64) (x : Int32) : Met l yX4_refused wsX4_refused ({ frames := 0, cells := 0, slots := 0, locals := 0 } : Room) (ml_P G cy [.ref (a 0), .int x] (wM a cy T rf sp) sz) (va_Qi (fun (r : Int32) (_ : Unit) => r = b2i (x ≠ 0)) (ml_B G cy (va_A (wM a cy T rf sp) sz) (fun (_ : Unit) => (wM a cy T x sp))) (va_A (wM a cy T rf sp) sz)) 0 0 (va_A (wM a cy T rf sp) sz) := by
  refine Met.ofW (cc := cX4_refused) (maxL := 2) (ret := (some .boolean)) (by decide) rfl ?_
  intro p e s m args below meth c s₁ B hml hv
  obtain ⟨rfl, hsz, hP, hK, hD0, hN⟩ := hv
  have hx := B.exec
  have hb := B.bytes
  have hr := B.returns
  have hts := atoms_spec (ws := wsX4_refused) B.pre
  have hown : s.vm.findClass RX4 = some m.cls := findClass_of_methodNamed B.named
  have hlocks := B.notSynchronized
  subst hsz
  have hD := hD0.self (sz := s.heap.size)
  generalize hAe : va_A (wM a cy T rf sp) s.heap.size = A at hD ⊢
  have hA : ∀ q : Nat, s.heap.size ≤ q → A q := fun q h => by rw [← hAe]; exact Or.inr h
  have hS : va_S A s.heap s.heap [] := va_S.rf
  have hP : va_P G vwCl (wM a cy T rf sp) s.heap := hP
  have hin_X4 : ∀ w ∈ wsX40, w ∈ wsX4_refused := by decide +kernel
  have hl := lv_entry ([.ref (a 0), .int x]) (n := 2) (Nat.le_of_ble_eq_true rfl)
  rw [lg_entry_eq]
  generalize (lg_sl ([.ref (a 0), .int x]) ++ List.replicate (2 - (lg_sl ([.ref (a 0), .int x])).length) Slot.unset).toArray = ls at hl ⊢
  have hl : lv_has ls 2 [(0, .ref (a 0)), (1, .int x)] := hl
  refine lv_aload_n hx hb dX4_refused_0 rfl (lv_at hl 0 rfl) ?_
  refine lv_iload_n hx hb dX4_refused_1 rfl (lv_at hl 1 rfl) ?_
  refine va_put (D := G) (ci := 4) (v := .int x) (ty := .int) (C := RX4) (T := TX4) (N := 16) hx hb hts hin_X4 tyX4 tyX4_ok nmX4 hown hK hP hD hS 0 rfl rfl 0 (by decide) (hts (.fieldLink RX4 40 "MigrationledgerModel" "refusal" "I") (by decide +kernel)) (fun _ h9 => h9) rfl (by decide +kernel) rfl rfl (Nat.le_of_ble_eq_true rfl) dX4_refused_2 (fun H locs hP hD hS => ?_)
  have hP : va_P G vwCl (wM a cy T x sp) H := hP
  have hD : va_D A (wM a cy T x sp) := hD
  refine lv_iload_n hx hb dX4_refused_5 rfl (lv_at hl 1 rfl) ?_
  refine lv_if_eq (tgt := 13) hx hb dX4_refused_6 (by decide) (fun c_6 => ?_) (fun c_6 => ?_)
  · refine lv_iconst (v := 0) hx hb dX4_refused_13 (by decide) ?_
    exact ml_rz () hx hb hr hlocks hP hK hD hS rfl rfl (b2i_f' (fun h => h c_6)) dX4_refused_14
  · refine lv_iconst (v := 1) hx hb dX4_refused_9 (by decide) ?_
    refine lv_goto (tgt := 14) hx hb dX4_refused_10 (by decide) ?_
    exact ml_rz () hx hb hr hlocks hP hK hD hS rfl rfl (b2i_t' c_6) dX4_refused_14
set_option maxHeartbeats 4000000 in
set_option maxRecDepth 100000 in
theorem c_X4_fine (l : Launch) (G : va_G) (cy : Nat → ClassId) (a : Nat → Nat) (sz : Nat) (T : TS) (rf : Int32) (sp : Nat → Int64) (x : Int32) : Met l yX4_fine wsX4_fine ({ frames := 0, cells := 0, slots := 0, locals := 0 } : Room) (ml_P G cy [.ref (a 0), .int x] (wM a cy T rf sp) sz) (va_Qi (fun (r : Int32) (_ : Unit) => r = x) (ml_B G cy (va_A (wM a cy T rf sp) sz) (fun (_ : Unit) => (wM a cy T 0 sp))) (va_A (wM a cy T rf sp) sz)) 0 0 (va_A (wM a cy T rf sp) sz) := by
  refine Met.ofW (cc := cX4_fine) (maxL := 2) (ret := (some .int)) (by decide) rfl ?_
  intro p e s m args below meth c s₁ B hml hv
  obtain ⟨rfl, hsz, hP, hK, hD0, hN⟩ := hv
  have hx := B.exec
  have hb := B.bytes
  have hr := B.returns
  have hts := atoms_spec (ws := wsX4_fine) B.pre
  have hown : s.vm.findClass RX4 = some m.cls := findClass_of_methodNamed B.named
  have hlocks := B.notSynchronized
  subst hsz
  have hD := hD0.self (sz := s.heap.size)
  generalize hAe : va_A (wM a cy T rf sp) s.heap.size = A at hD ⊢
  have hA : ∀ q : Nat, s.heap.size ≤ q → A q := fun q h => by rw [← hAe]; exact Or.inr h
  have hS : va_S A s.heap s.heap [] := va_S.rf
  have hP : va_P G vwCl (wM a cy T rf sp) s.heap := hP
  have hin_X4 : ∀ w ∈ wsX40, w ∈ wsX4_fine := by decide +kernel
  have hl := lv_entry ([.ref (a 0), .int x]) (n := 2) (Nat.le_of_ble_eq_true rfl)
  rw [lg_entry_eq]
  generalize (lg_sl ([.ref (a 0), .int x]) ++ List.replicate (2 - (lg_sl ([.ref (a 0), .int x])).length) Slot.unset).toArray = ls at hl ⊢
  have hl : lv_has ls 2 [(0, .ref (a 0)), (1, .int x)] := hl
  refine lv_aload_n hx hb dX4_fine_0 rfl (lv_at hl 0 rfl) ?_
  refine lv_iconst (v := 0) hx hb dX4_fine_1 (by decide) ?_
  refine va_put (D := G) (ci := 4) (v := .int 0) (ty := .int) (C := RX4) (T := TX4) (N := 16) hx hb hts hin_X4 tyX4 tyX4_ok nmX4 hown hK hP hD hS 0 rfl rfl 0 (by decide) (hts (.fieldLink RX4 40 "MigrationledgerModel" "refusal" "I") (by decide +kernel)) (fun _ h9 => h9) rfl (by decide +kernel) rfl rfl (Nat.le_of_ble_eq_true rfl) dX4_fine_2 (fun H locs hP hD hS => ?_)
  have hP : va_P G vwCl (wM a cy T 0 sp) H := hP
  have hD : va_D A (wM a cy T 0 sp) := hD
  refine lv_iload_n hx hb dX4_fine_5 rfl (lv_at hl 1 rfl) ?_
  exact ml_ri () hx hb hr hlocks hP hK hD hS rfl rfl dX4_fine_6
set_option maxHeartbeats 4000000 in
set_option maxRecDepth 100000 in
theorem c_X4_in (l : Launch) (G : va_G) (cy : Nat → ClassId) (a : Nat → Nat) (sz : Nat) (T : TS) (rf : Int32) (sp : Nat → Int64) (x : Int32) (y : Int32) (z : Int32) : Met l yX4_in wsX4_in ({ frames := 0, cells := 0, slots := 0, locals := 0 } : Room) (ml_P G cy [.int x, .int y, .int z] (wM a cy T rf sp) sz) (va_Qi (fun (r : Int32) (_ : Unit) => r = b2i (inR x y z)) (ml_B G cy (va_A (wM a cy T rf sp) sz) (fun (_ : Unit) => (wM a cy T rf sp))) (va_A (wM a cy T rf sp) sz)) 0 0 (va_A (wM a cy T rf sp) sz) := by
  refine Met.ofW (cc := cX4_in) (maxL := 3) (ret := (some .boolean)) (by decide) rfl ?_
  intro p e s m args below meth c s₁ B hml hv
  obtain ⟨rfl, hsz, hP, hK, hD0, hN⟩ := hv
  have hx := B.exec
  have hb := B.bytes
  have hr := B.returns
  have hts := atoms_spec (ws := wsX4_in) B.pre
  have hown : s.vm.findClass RX4 = some m.cls := findClass_of_methodNamed B.named
  have hlocks := B.notSynchronized
  subst hsz
  have hD := hD0.self (sz := s.heap.size)
  generalize hAe : va_A (wM a cy T rf sp) s.heap.size = A at hD ⊢
  have hA : ∀ q : Nat, s.heap.size ≤ q → A q := fun q h => by rw [← hAe]; exact Or.inr h
  have hS : va_S A s.heap s.heap [] := va_S.rf
  have hP : va_P G vwCl (wM a cy T rf sp) s.heap := hP
  have hl := lv_entry ([.int x, .int y, .int z]) (n := 3) (Nat.le_of_ble_eq_true rfl)
  rw [lg_entry_eq]
  generalize (lg_sl ([.int x, .int y, .int z]) ++ List.replicate (3 - (lg_sl ([.int x, .int y, .int z])).length) Slot.unset).toArray = ls at hl ⊢
  have hl : lv_has ls 3 [(0, .int x), (1, .int y), (2, .int z)] := hl
  refine lv_iload_n hx hb dX4_in_0 rfl (lv_at hl 0 rfl) ?_
  refine lv_iload_n hx hb dX4_in_1 rfl (lv_at hl 1 rfl) ?_
  refine lv_icmp_lt (tgt := 14) hx hb dX4_in_2 (by decide) (fun c_2 => ?_) (fun c_2 => ?_)
  · refine lv_iconst (v := 0) hx hb dX4_in_14 (by decide) ?_
    exact ml_rz () hx hb hr hlocks hP hK hD hS rfl rfl (b2i_f' (nR_a c_2)) dX4_in_15
  · refine lv_iload_n hx hb dX4_in_5 rfl (lv_at hl 0 rfl) ?_
    refine lv_iload_n hx hb dX4_in_6 rfl (lv_at hl 2 rfl) ?_
    refine lv_icmp_gt (tgt := 14) hx hb dX4_in_7 (by decide) (fun c_7 => ?_) (fun c_7 => ?_)
    · refine lv_iconst (v := 0) hx hb dX4_in_14 (by decide) ?_
      exact ml_rz () hx hb hr hlocks hP hK hD hS rfl rfl (b2i_f' (nR_b c_7)) dX4_in_15
    · refine lv_iconst (v := 1) hx hb dX4_in_10 (by decide) ?_
      refine lv_goto (tgt := 15) hx hb dX4_in_11 (by decide) ?_
      exact ml_rz () hx hb hr hlocks hP hK hD hS rfl rfl (b2i_t' (inR_b c_2 c_7)) dX4_in_15
set_option maxHeartbeats 4000000 in
set_option maxRecDepth 100000 in
theorem c_X4_isValue (l : Launch) (G : va_G) (cy : Nat → ClassId) (a : Nat → Nat) (sz : Nat) (T : TS) (rf : Int32) (sp : Nat → Int64) (v : Int64) : Met l yX4_isValue wsX4_isValue ({ frames := 0, cells := 0, slots := 0, locals := 0 } : Room) (ml_P G cy [.long v] (wM a cy T rf sp) sz) (va_Qi (fun (r : Int32) (_ : Unit) => r = b2i (okV v)) (ml_B G cy (va_A (wM a cy T rf sp) sz) (fun (_ : Unit) => (wM a cy T rf sp))) (va_A (wM a cy T rf sp) sz)) 0 0 (va_A (wM a cy T rf sp) sz) := by
  refine Met.ofW (cc := cX4_isValue) (maxL := 2) (ret := (some .boolean)) (by decide) rfl ?_
  intro p e s m args below meth c s₁ B hml hv
  obtain ⟨rfl, hsz, hP, hK, hD0, hN⟩ := hv
  have hx := B.exec
  have hb := B.bytes
  have hr := B.returns
  have hts := atoms_spec (ws := wsX4_isValue) B.pre
  have hown : s.vm.findClass RX4 = some m.cls := findClass_of_methodNamed B.named
  have hlocks := B.notSynchronized
  subst hsz
  have hD := hD0.self (sz := s.heap.size)
  generalize hAe : va_A (wM a cy T rf sp) s.heap.size = A at hD ⊢
  have hA : ∀ q : Nat, s.heap.size ≤ q → A q := fun q h => by rw [← hAe]; exact Or.inr h
  have hS : va_S A s.heap s.heap [] := va_S.rf
  have hP : va_P G vwCl (wM a cy T rf sp) s.heap := hP
  have hl := lv_entry ([.long v]) (n := 2) (Nat.le_of_ble_eq_true rfl)
  rw [lg_entry_eq]
  generalize (lg_sl ([.long v]) ++ List.replicate (2 - (lg_sl ([.long v])).length) Slot.unset).toArray = ls at hl ⊢
  have hl : lv_has ls 2 [(0, .long v)] := hl
  refine lv_lload_n hx hb dX4_isValue_0 rfl (lv_at hl 0 rfl) ?_
  refine lv_ldc2 hx hb hown (hts (.constantLong RX4 43 (-1000000000)) (by decide +kernel)) dX4_isValue_1 ?_
  refine W.lcmp hx hb dX4_isValue_4 ?_
  refine lv_if_lt (tgt := 20) hx hb dX4_isValue_5 (by decide) (fun c_5 => ?_) (fun c_5 => ?_)
  · have c_5 := (lg_cmp_lt _ _).mp c_5
    refine lv_iconst (v := 0) hx hb dX4_isValue_20 (by decide) ?_
    exact ml_rz () hx hb hr hlocks hP hK hD hS rfl rfl (b2i_f' (okV_a c_5)) dX4_isValue_21
  · have c_5 := fun h => c_5 ((lg_cmp_lt _ _).mpr h)
    refine lv_lload_n hx hb dX4_isValue_8 rfl (lv_at hl 0 rfl) ?_
    refine lv_ldc2 hx hb hown (hts (.constantLong RX4 45 1000000000) (by decide +kernel)) dX4_isValue_9 ?_
    refine W.lcmp hx hb dX4_isValue_12 ?_
    refine lv_if_gt (tgt := 20) hx hb dX4_isValue_13 (by decide) (fun c_13 => ?_) (fun c_13 => ?_)
    · have c_13 := (lg_cmp_gt _ _).mp c_13
      refine lv_iconst (v := 0) hx hb dX4_isValue_20 (by decide) ?_
      exact ml_rz () hx hb hr hlocks hP hK hD hS rfl rfl (b2i_f' (okV_b c_13)) dX4_isValue_21
    · have c_13 := fun h => c_13 ((lg_cmp_gt _ _).mpr h)
      refine lv_iconst (v := 1) hx hb dX4_isValue_16 (by decide) ?_
      refine lv_goto (tgt := 21) hx hb dX4_isValue_17 (by decide) ?_
      exact ml_rz () hx hb hr hlocks hP hK hD hS rfl rfl (b2i_t' (okV_t c_5 c_13)) dX4_isValue_21
set_option maxHeartbeats 4000000 in
set_option maxRecDepth 100000 in
theorem c_X4_isChange (l : Launch) (G : va_G) (cy : Nat → ClassId) (a : Nat → Nat) (sz : Nat) (T : TS) (rf : Int32) (sp : Nat → Int64) (x : Int32) (y : Int32) (z : Int32) : Met l yX4_isChange wsX4_isChange ({ frames := 1, cells := 0, slots := 0, locals := 22 } : Room) (ml_P G cy [.int x, .int y, .int z] (wM a cy T rf sp) sz) (va_Qi (fun (r : Int32) (_ : Unit) => r = b2i (okCh x y z)) (ml_B G cy (va_A (wM a cy T rf sp) sz) (fun (_ : Unit) => (wM a cy T rf sp))) (va_A (wM a cy T rf sp) sz)) 0 0 (va_A (wM a cy T rf sp) sz) := by
  refine Met.ofW (cc := cX4_isChange) (maxL := 4) (ret := (some .boolean)) (by decide) rfl ?_
  intro p e s m args below meth c s₁ B hml hv
  obtain ⟨rfl, hsz, hP, hK, hD0, hN⟩ := hv
  have hx := B.exec
  have hb := B.bytes
  have hr := B.returns
  have hts := atoms_spec (ws := wsX4_isChange) B.pre
  have hown : s.vm.findClass RX4 = some m.cls := findClass_of_methodNamed B.named
  have hlocks := B.notSynchronized
  subst hsz
  have hD := hD0.self (sz := s.heap.size)
  generalize hAe : va_A (wM a cy T rf sp) s.heap.size = A at hD ⊢
  have hA : ∀ q : Nat, s.heap.size ≤ q → A q := fun q h => by rw [← hAe]; exact Or.inr h
  have hS : va_S A s.heap s.heap [] := va_S.rf
  have hP : va_P G vwCl (wM a cy T rf sp) s.heap := hP
  have hl := lv_entry ([.int x, .int y, .int z]) (n := 4) (Nat.le_of_ble_eq_true rfl)
  rw [lg_entry_eq]
  generalize (lg_sl ([.int x, .int y, .int z]) ++ List.replicate (4 - (lg_sl ([.int x, .int y, .int z])).length) Slot.unset).toArray = ls at hl ⊢
  have hl : lv_has ls 4 [(0, .int x), (1, .int y), (2, .int z)] := hl
  refine lv_iload_n hx hb dX4_isChange_0 rfl (lv_at hl 0 rfl) ?_
  refine lv_iconst (v := 0) hx hb dX4_isChange_1 (by decide) ?_
  refine lv_iconst (v := 2) hx hb dX4_isChange_2 (by decide) ?_
  refine ml_Si (G := G) (As := [.int x, .int 0, .int 2]) (rest := []) ⟨hx, hb, hml, hown, hts⟩ (c_X4_in l G cy a s.heap.size T rf sp x 0 2) (va_cwS 3 hts gX4_isChange_X4_in rfl rfl rfl (by decide +kernel) ⟨Nat.le_of_ble_eq_true rfl, Nat.le_of_ble_eq_true rfl⟩) hP hK hD hS hN hA rfl hl.1 (Nat.le_of_ble_eq_true rfl) dX4_isChange_3 ⟨Nat.le_of_ble_eq_true rfl, Nat.le_of_ble_eq_true rfl⟩ (fun r_3 u_3 H locs hw hP hD hS => ?_)
  obtain rfl : r_3 = b2i (inR x 0 2) := hw
  have hP : va_P G vwCl (wM a cy T rf sp) H := hP
  have hD : va_D A (wM a cy T rf sp) := hD
  refine ml_ifeqb (tgt := 22) hx hb dX4_isChange_6 (by decide) (fun c_6 => ?_) (fun c_6 => ?_)
  · refine lv_iconst (v := 0) hx hb dX4_isChange_22 (by decide) ?_
    refine lv_istore_n (lv' := [(3, .int 0), (0, .int x), (1, .int y), (2, .int z)]) hx hb dX4_isChange_23 rfl hl (by decide) rfl (fun ls hl => ?_)
    refine lv_iload_n hx hb dX4_isChange_24 rfl (lv_at hl 0 rfl) ?_
    refine lv_if_eq (tgt := 89) hx hb dX4_isChange_25 (by decide) (fun c_25 => ?_) (fun c_25 => False.elim (by revert c_25; decide))
    refine lv_iconst (v := 0) hx hb dX4_isChange_89 (by decide) ?_
    exact ml_rz () hx hb hr hlocks hP hK hD hS rfl rfl (b2i_f' (fun h => c_6 h.1)) dX4_isChange_90
  · refine lv_iload_n hx hb dX4_isChange_9 rfl (lv_at hl 1 rfl) ?_
    refine lv_iconst (v := 0) hx hb dX4_isChange_10 (by decide) ?_
    refine lv_iconst (v := 2) hx hb dX4_isChange_11 (by decide) ?_
    refine ml_Si (G := G) (As := [.int y, .int 0, .int 2]) (rest := []) ⟨hx, hb, hml, hown, hts⟩ (c_X4_in l G cy a H.size T rf sp y 0 2) (va_cwS 3 hts gX4_isChange_X4_in rfl rfl rfl (by decide +kernel) ⟨Nat.le_of_ble_eq_true rfl, Nat.le_of_ble_eq_true rfl⟩) hP hK hD hS hN hA rfl hl.1 (Nat.le_of_ble_eq_true rfl) dX4_isChange_12 ⟨Nat.le_of_ble_eq_true rfl, Nat.le_of_ble_eq_true rfl⟩ (fun r_12 u_12 H locs hw hP hD hS => ?_)
    obtain rfl : r_12 = b2i (inR y 0 2) := hw
    have hP : va_P G vwCl (wM a cy T rf sp) H := hP
    have hD : va_D A (wM a cy T rf sp) := hD
    refine ml_ifeqb (tgt := 22) hx hb dX4_isChange_15 (by decide) (fun c_15 => ?_) (fun c_15 => ?_)
    · refine lv_iconst (v := 0) hx hb dX4_isChange_22 (by decide) ?_
      refine lv_istore_n (lv' := [(3, .int 0), (0, .int x), (1, .int y), (2, .int z)]) hx hb dX4_isChange_23 rfl hl (by decide) rfl (fun ls hl => ?_)
      refine lv_iload_n hx hb dX4_isChange_24 rfl (lv_at hl 0 rfl) ?_
      refine lv_if_eq (tgt := 89) hx hb dX4_isChange_25 (by decide) (fun c_25 => ?_) (fun c_25 => False.elim (by revert c_25; decide))
      refine lv_iconst (v := 0) hx hb dX4_isChange_89 (by decide) ?_
      exact ml_rz () hx hb hr hlocks hP hK hD hS rfl rfl (b2i_f' (fun h => c_15 h.2.1)) dX4_isChange_90
    · refine lv_iconst (v := 1) hx hb dX4_isChange_18 (by decide) ?_
      refine lv_goto (tgt := 23) hx hb dX4_isChange_19 (by decide) ?_
      refine lv_istore_n (lv' := [(3, .int 1), (0, .int x), (1, .int y), (2, .int z)]) hx hb dX4_isChange_23 rfl hl (by decide) rfl (fun ls hl => ?_)
      refine lv_iload_n hx hb dX4_isChange_24 rfl (lv_at hl 0 rfl) ?_
      refine lv_if_eq (tgt := 89) hx hb dX4_isChange_25 (by decide) (fun c_25 => False.elim (by revert c_25; decide)) (fun c_25 => ?_)
      refine lv_iload_n hx hb dX4_isChange_28 rfl (lv_at hl 1 rfl) ?_
      refine lv_if_ne (tgt := 48) hx hb dX4_isChange_29 (by decide) (fun c_29 => ?_) (fun c_29 => ?_)
      · refine lv_iload_n hx hb dX4_isChange_48 rfl (lv_at hl 1 rfl) ?_
        refine lv_iconst (v := 1) hx hb dX4_isChange_49 (by decide) ?_
        refine lv_icmp_ne (tgt := 71) hx hb dX4_isChange_50 (by decide) (fun c_50 => ?_) (fun c_50 => ?_)
        · refine lv_iload_n hx hb dX4_isChange_71 rfl (lv_at hl 3 rfl) ?_
          refine lv_iconst (v := 0) hx hb dX4_isChange_72 (by decide) ?_
          refine lv_iconst (v := 2) hx hb dX4_isChange_73 (by decide) ?_
          refine ml_Si (G := G) (As := [.int z, .int 0, .int 2]) (rest := []) ⟨hx, hb, hml, hown, hts⟩ (c_X4_in l G cy a H.size T rf sp z 0 2) (va_cwS 3 hts gX4_isChange_X4_in rfl rfl rfl (by decide +kernel) ⟨Nat.le_of_ble_eq_true rfl, Nat.le_of_ble_eq_true rfl⟩) hP hK hD hS hN hA rfl hl.1 (Nat.le_of_ble_eq_true rfl) dX4_isChange_74 ⟨Nat.le_of_ble_eq_true rfl, Nat.le_of_ble_eq_true rfl⟩ (fun r_74 u_74 H locs hw hP hD hS => ?_)
          obtain rfl : r_74 = b2i (inR z 0 2) := hw
          have hP : va_P G vwCl (wM a cy T rf sp) H := hP
          have hD : va_D A (wM a cy T rf sp) := hD
          refine ml_ifeqb (tgt := 89) hx hb dX4_isChange_77 (by decide) (fun c_77 => ?_) (fun c_77 => ?_)
          · refine lv_iconst (v := 0) hx hb dX4_isChange_89 (by decide) ?_
            exact ml_rz () hx hb hr hlocks hP hK hD hS rfl rfl (b2i_f' (fun h => c_77 ((okO_2 c_29 c_50).mp h.2.2).1)) dX4_isChange_90
          · refine lv_iload_n hx hb dX4_isChange_80 rfl (lv_at hl 3 rfl) ?_
            refine lv_iload_n hx hb dX4_isChange_81 rfl (lv_at hl 2 rfl) ?_
            refine lv_icmp_eq (tgt := 89) hx hb dX4_isChange_82 (by decide) (fun c_82 => ?_) (fun c_82 => ?_)
            · refine lv_iconst (v := 0) hx hb dX4_isChange_89 (by decide) ?_
              exact ml_rz () hx hb hr hlocks hP hK hD hS rfl rfl (b2i_f' (fun h => ((okO_2 c_29 c_50).mp h.2.2).2 c_82)) dX4_isChange_90
            · refine lv_iconst (v := 1) hx hb dX4_isChange_85 (by decide) ?_
              refine lv_goto (tgt := 90) hx hb dX4_isChange_86 (by decide) ?_
              exact ml_rz () hx hb hr hlocks hP hK hD hS rfl rfl (b2i_t' (⟨c_6, c_15, (okO_2 c_29 c_50).mpr ⟨c_77, c_82⟩⟩)) dX4_isChange_90
        · refine lv_iload_n hx hb dX4_isChange_53 rfl (lv_at hl 3 rfl) ?_
          refine lv_bipush (v := (-9)) hx hb dX4_isChange_54 (by decide) ?_
          refine lv_bipush (v := 9) hx hb dX4_isChange_56 (by decide) ?_
          refine ml_Si (G := G) (As := [.int z, .int (-9), .int 9]) (rest := []) ⟨hx, hb, hml, hown, hts⟩ (c_X4_in l G cy a H.size T rf sp z (-9) 9) (va_cwS 3 hts gX4_isChange_X4_in rfl rfl rfl (by decide +kernel) ⟨Nat.le_of_ble_eq_true rfl, Nat.le_of_ble_eq_true rfl⟩) hP hK hD hS hN hA rfl hl.1 (Nat.le_of_ble_eq_true rfl) dX4_isChange_58 ⟨Nat.le_of_ble_eq_true rfl, Nat.le_of_ble_eq_true rfl⟩ (fun r_58 u_58 H locs hw hP hD hS => ?_)
          obtain rfl : r_58 = b2i (inR z (-9) 9) := hw
          have hP : va_P G vwCl (wM a cy T rf sp) H := hP
          have hD : va_D A (wM a cy T rf sp) := hD
          refine ml_ifeqb (tgt := 89) hx hb dX4_isChange_61 (by decide) (fun c_61 => ?_) (fun c_61 => ?_)
          · refine lv_iconst (v := 0) hx hb dX4_isChange_89 (by decide) ?_
            exact ml_rz () hx hb hr hlocks hP hK hD hS rfl rfl (b2i_f' (fun h => c_61 ((okO_1 c_50).mp h.2.2).1)) dX4_isChange_90
          · refine lv_iload_n hx hb dX4_isChange_64 rfl (lv_at hl 3 rfl) ?_
            refine lv_if_eq (tgt := 89) hx hb dX4_isChange_65 (by decide) (fun c_65 => ?_) (fun c_65 => ?_)
            · refine lv_iconst (v := 0) hx hb dX4_isChange_89 (by decide) ?_
              exact ml_rz () hx hb hr hlocks hP hK hD hS rfl rfl (b2i_f' (fun h => ((okO_1 c_50).mp h.2.2).2 c_65)) dX4_isChange_90
            · refine lv_goto (tgt := 85) hx hb dX4_isChange_68 (by decide) ?_
              refine lv_iconst (v := 1) hx hb dX4_isChange_85 (by decide) ?_
              refine lv_goto (tgt := 90) hx hb dX4_isChange_86 (by decide) ?_
              exact ml_rz () hx hb hr hlocks hP hK hD hS rfl rfl (b2i_t' (⟨c_6, c_15, (okO_1 c_50).mpr ⟨c_61, c_65⟩⟩)) dX4_isChange_90
      · refine lv_iload_n hx hb dX4_isChange_32 rfl (lv_at hl 3 rfl) ?_
        refine lv_sipush (v := (-1000)) hx hb dX4_isChange_33 (by decide) ?_
        refine lv_sipush (v := 1000) hx hb dX4_isChange_36 (by decide) ?_
        refine ml_Si (G := G) (As := [.int z, .int (-1000), .int 1000]) (rest := []) ⟨hx, hb, hml, hown, hts⟩ (c_X4_in l G cy a H.size T rf sp z (-1000) 1000) (va_cwS 3 hts gX4_isChange_X4_in rfl rfl rfl (by decide +kernel) ⟨Nat.le_of_ble_eq_true rfl, Nat.le_of_ble_eq_true rfl⟩) hP hK hD hS hN hA rfl hl.1 (Nat.le_of_ble_eq_true rfl) dX4_isChange_39 ⟨Nat.le_of_ble_eq_true rfl, Nat.le_of_ble_eq_true rfl⟩ (fun r_39 u_39 H locs hw hP hD hS => ?_)
        obtain rfl : r_39 = b2i (inR z (-1000) 1000) := hw
        have hP : va_P G vwCl (wM a cy T rf sp) H := hP
        have hD : va_D A (wM a cy T rf sp) := hD
        refine ml_ifeqb (tgt := 89) hx hb dX4_isChange_42 (by decide) (fun c_42 => ?_) (fun c_42 => ?_)
        · refine lv_iconst (v := 0) hx hb dX4_isChange_89 (by decide) ?_
          exact ml_rz () hx hb hr hlocks hP hK hD hS rfl rfl (b2i_f' (fun h => c_42 ((okO_0 c_29).mp h.2.2))) dX4_isChange_90
        · refine lv_goto (tgt := 85) hx hb dX4_isChange_45 (by decide) ?_
          refine lv_iconst (v := 1) hx hb dX4_isChange_85 (by decide) ?_
          refine lv_goto (tgt := 90) hx hb dX4_isChange_86 (by decide) ?_
          exact ml_rz () hx hb hr hlocks hP hK hD hS rfl rfl (b2i_t' (⟨c_6, c_15, (okO_0 c_29).mpr c_42⟩)) dX4_isChange_90
set_option maxHeartbeats 4000000 in
set_option maxRecDepth 100000 in
theorem c_X4_sumOf (l : Launch) (G : va_G) (cy : Nat → ClassId) (a : Nat → Nat) (sz : Nat) (T : TS) (rf : Int32) (sp : Nat → Int64) (j : Nat) (hj : j ≤ 12) : Met l yX4_sumOf wsX4_sumOf ({ frames := 0, cells := 0, slots := 0, locals := 0 } : Room) (ml_P G cy [.ref (a 0), .int (nI j)] (wM a cy T rf sp) sz) (va_Qi (fun (r : Int32) (_ : Unit) => r = sumOf T j) (ml_B G cy (va_A (wM a cy T rf sp) sz) (fun (_ : Unit) => (wM a cy T rf sp))) (va_A (wM a cy T rf sp) sz)) 0 0 (va_A (wM a cy T rf sp) sz) := by
  refine Met.ofW (cc := cX4_sumOf) (maxL := 2) (ret := (some .int)) (by decide) rfl ?_
  intro p e s m args below meth c s₁ B hml hv
  obtain ⟨rfl, hsz, hP, hK, hD0, hN⟩ := hv
  have hx := B.exec
  have hb := B.bytes
  have hr := B.returns
  have hts := atoms_spec (ws := wsX4_sumOf) B.pre
  have hown : s.vm.findClass RX4 = some m.cls := findClass_of_methodNamed B.named
  have hlocks := B.notSynchronized
  subst hsz
  have hD := hD0.self (sz := s.heap.size)
  generalize hAe : va_A (wM a cy T rf sp) s.heap.size = A at hD ⊢
  have hA : ∀ q : Nat, s.heap.size ≤ q → A q := fun q h => by rw [← hAe]; exact Or.inr h
  have hS : va_S A s.heap s.heap [] := va_S.rf
  have hP : va_P G vwCl (wM a cy T rf sp) s.heap := hP
  have hin_X4 : ∀ w ∈ wsX40, w ∈ wsX4_sumOf := by decide +kernel
  have hl := lv_entry ([.ref (a 0), .int (nI j)]) (n := 2) (Nat.le_of_ble_eq_true rfl)
  rw [lg_entry_eq]
  generalize (lg_sl ([.ref (a 0), .int (nI j)]) ++ List.replicate (2 - (lg_sl ([.ref (a 0), .int (nI j)])).length) Slot.unset).toArray = ls at hl ⊢
  have hl : lv_has ls 2 [(0, .ref (a 0)), (1, .int (nI j))] := hl
  refine lv_aload_n hx hb dX4_sumOf_0 rfl (lv_at hl 0 rfl) ?_
  refine va_get (D := G) (ci := 4) (v := .ref (a 1)) (C := RX4) (T := TX4) (N := 16) hx hb hts hin_X4 hown hK hP 0 rfl rfl 2 (by decide) (hts (.fieldLink RX4 7 "MigrationledgerModel" "kinds" "[I") (by decide +kernel)) (fun _ h9 => h9) rfl dX4_sumOf_1 ?_
  refine lv_iload_n hx hb dX4_sumOf_4 rfl (lv_at hl 1 rfl) ?_
  refine ml_iald hx hb hK hP 1 0 rfl rfl (j) rfl (by omega) (Nat.le_of_ble_eq_true rfl) ((tK T) j) rfl dX4_sumOf_5 ?_
  refine lv_bipush (v := 31) hx hb dX4_sumOf_6 (by decide) ?_
  refine lv_imul hx hb dX4_sumOf_8 ?_
  refine lv_aload_n hx hb dX4_sumOf_9 rfl (lv_at hl 0 rfl) ?_
  refine va_get (D := G) (ci := 4) (v := .ref (a 2)) (C := RX4) (T := TX4) (N := 16) hx hb hts hin_X4 hown hK hP 0 rfl rfl 3 (by decide) (hts (.fieldLink RX4 13 "MigrationledgerModel" "columns" "[I") (by decide +kernel)) (fun _ h9 => h9) rfl dX4_sumOf_10 ?_
  refine lv_iload_n hx hb dX4_sumOf_13 rfl (lv_at hl 1 rfl) ?_
  refine ml_iald hx hb hK hP 2 0 rfl rfl (j) rfl (by omega) (Nat.le_of_ble_eq_true rfl) ((tC T) j) rfl dX4_sumOf_14 ?_
  refine lv_iadd hx hb dX4_sumOf_15 ?_
  refine lv_sipush (v := 2003) hx hb dX4_sumOf_16 (by decide) ?_
  refine lv_imul hx hb dX4_sumOf_19 ?_
  refine lv_aload_n hx hb dX4_sumOf_20 rfl (lv_at hl 0 rfl) ?_
  refine va_get (D := G) (ci := 4) (v := .ref (a 3)) (C := RX4) (T := TX4) (N := 16) hx hb hts hin_X4 hown hK hP 0 rfl rfl 4 (by decide) (hts (.fieldLink RX4 16 "MigrationledgerModel" "operands" "[I") (by decide +kernel)) (fun _ h9 => h9) rfl dX4_sumOf_21 ?_
  refine lv_iload_n hx hb dX4_sumOf_24 rfl (lv_at hl 1 rfl) ?_
  refine ml_iald hx hb hK hP 3 0 rfl rfl (j) rfl (by omega) (Nat.le_of_ble_eq_true rfl) ((tO T) j) rfl dX4_sumOf_25 ?_
  refine lv_iadd hx hb dX4_sumOf_26 ?_
  refine lv_sipush (v := 1001) hx hb dX4_sumOf_27 (by decide) ?_
  refine lv_iadd hx hb dX4_sumOf_30 ?_
  refine lv_bipush (v := 7) hx hb dX4_sumOf_31 (by decide) ?_
  refine lv_imul hx hb dX4_sumOf_33 ?_
  refine lv_iload_n hx hb dX4_sumOf_34 rfl (lv_at hl 1 rfl) ?_
  refine lv_iadd hx hb dX4_sumOf_35 ?_
  refine lv_ldc hx hb hown (hts (.constant RX4 51 65521) (by decide +kernel)) dX4_sumOf_36 ?_
  refine lv_irem hx hb dX4_sumOf_38 (by decide) ?_
  exact ml_ri () hx hb hr hlocks hP hK hD hS rfl rfl dX4_sumOf_39
set_option maxHeartbeats 4000000 in
set_option maxRecDepth 100000 in
theorem c_X4_put (l : Launch) (G : va_G) (cy : Nat → ClassId) (a : Nat → Nat) (sz : Nat) (T : TS) (rf : Int32) (sp : Nat → Int64) (j : Nat) (hj : j ≤ 12) (x : Int32) (y : Int32) (z : Int32) : Met l yX4_put wsX4_put ({ frames := 0, cells := 0, slots := 0, locals := 0 } : Room) (ml_P G cy [.ref (a 0), .int (nI j), .int x, .int y, .int z] (wM a cy T rf sp) sz) (va_Qv (fun (_ : Unit) => True) (ml_B G cy (va_A (wM a cy T rf sp) sz) (fun (_ : Unit) => (wM a cy (putC T j x y z) rf sp))) (va_A (wM a cy T rf sp) sz)) 0 0 (va_A (wM a cy T rf sp) sz) := by
  refine Met.ofW (cc := cX4_put) (maxL := 5) (ret := none) (by decide) rfl ?_
  intro p e s m args below meth c s₁ B hml hv
  obtain ⟨rfl, hsz, hP, hK, hD0, hN⟩ := hv
  have hx := B.exec
  have hb := B.bytes
  have hr := B.returns
  have hts := atoms_spec (ws := wsX4_put) B.pre
  have hown : s.vm.findClass RX4 = some m.cls := findClass_of_methodNamed B.named
  have hlocks := B.notSynchronized
  subst hsz
  have hD := hD0.self (sz := s.heap.size)
  generalize hAe : va_A (wM a cy T rf sp) s.heap.size = A at hD ⊢
  have hA : ∀ q : Nat, s.heap.size ≤ q → A q := fun q h => by rw [← hAe]; exact Or.inr h
  have hS : va_S A s.heap s.heap [] := va_S.rf
  have hP : va_P G vwCl (wM a cy T rf sp) s.heap := hP
  have hin_X4 : ∀ w ∈ wsX40, w ∈ wsX4_put := by decide +kernel
  have hl := lv_entry ([.ref (a 0), .int (nI j), .int x, .int y, .int z]) (n := 5) (Nat.le_of_ble_eq_true rfl)
  rw [lg_entry_eq]
  generalize (lg_sl ([.ref (a 0), .int (nI j), .int x, .int y, .int z]) ++ List.replicate (5 - (lg_sl ([.ref (a 0), .int (nI j), .int x, .int y, .int z])).length) Slot.unset).toArray = ls at hl ⊢
  have hl : lv_has ls 5 [(0, .ref (a 0)), (1, .int (nI j)), (2, .int x), (3, .int y), (4, .int z)] := hl
  refine lv_aload_n hx hb dX4_put_0 rfl (lv_at hl 0 rfl) ?_
  refine va_get (D := G) (ci := 4) (v := .ref (a 1)) (C := RX4) (T := TX4) (N := 16) hx hb hts hin_X4 hown hK hP 0 rfl rfl 2 (by decide) (hts (.fieldLink RX4 7 "MigrationledgerModel" "kinds" "[I") (by decide +kernel)) (fun _ h9 => h9) rfl dX4_put_1 ?_
  refine lv_iload_n hx hb dX4_put_4 rfl (lv_at hl 1 rfl) ?_
  refine lv_iload_n hx hb dX4_put_5 rfl (lv_at hl 2 rfl) ?_
  refine ml_iast hx hb hK hP hD hS 1 0 rfl rfl (j) rfl (by omega) (Nat.le_of_ble_eq_true rfl) dX4_put_6 (fun H locs hP hD hS => ?_)
  have hP : va_P G vwCl (wM a cy (uK T (upd (tK T) j x)) rf sp) H := hP
  have hD : va_D A (wM a cy (uK T (upd (tK T) j x)) rf sp) := hD
  refine lv_aload_n hx hb dX4_put_7 rfl (lv_at hl 0 rfl) ?_
  refine va_get (D := G) (ci := 4) (v := .ref (a 2)) (C := RX4) (T := TX4) (N := 16) hx hb hts hin_X4 hown hK hP 0 rfl rfl 3 (by decide) (hts (.fieldLink RX4 13 "MigrationledgerModel" "columns" "[I") (by decide +kernel)) (fun _ h9 => h9) rfl dX4_put_8 ?_
  refine lv_iload_n hx hb dX4_put_11 rfl (lv_at hl 1 rfl) ?_
  refine lv_iload_n hx hb dX4_put_12 rfl (lv_at hl 3 rfl) ?_
  refine ml_iast hx hb hK hP hD hS 2 0 rfl rfl (j) rfl (by omega) (Nat.le_of_ble_eq_true rfl) dX4_put_13 (fun H locs hP hD hS => ?_)
  have hP : va_P G vwCl (wM a cy (uC (uK T (upd (tK T) j x)) (upd (tC T) j y)) rf sp) H := hP
  have hD : va_D A (wM a cy (uC (uK T (upd (tK T) j x)) (upd (tC T) j y)) rf sp) := hD
  refine lv_aload_n hx hb dX4_put_14 rfl (lv_at hl 0 rfl) ?_
  refine va_get (D := G) (ci := 4) (v := .ref (a 3)) (C := RX4) (T := TX4) (N := 16) hx hb hts hin_X4 hown hK hP 0 rfl rfl 4 (by decide) (hts (.fieldLink RX4 16 "MigrationledgerModel" "operands" "[I") (by decide +kernel)) (fun _ h9 => h9) rfl dX4_put_15 ?_
  refine lv_iload_n hx hb dX4_put_18 rfl (lv_at hl 1 rfl) ?_
  refine lv_iload hx hb dX4_put_19 (lv_at hl 4 rfl) ?_
  refine ml_iast hx hb hK hP hD hS 3 0 rfl rfl (j) rfl (by omega) (Nat.le_of_ble_eq_true rfl) dX4_put_21 (fun H locs hP hD hS => ?_)
  have hP : va_P G vwCl (wM a cy (uO (uC (uK T (upd (tK T) j x)) (upd (tC T) j y)) (upd (tO T) j z)) rf sp) H := hP
  have hD : va_D A (wM a cy (uO (uC (uK T (upd (tK T) j x)) (upd (tC T) j y)) (upd (tO T) j z)) rf sp) := hD
  exact ml_rv () hx hb hr hlocks hP hK hD hS rfl trivial dX4_put_22
set_option maxHeartbeats 4000000 in
set_option maxRecDepth 100000 in
theorem c_X4_stateOf (l : Launch) (G : va_G) (cy : Nat → ClassId) (a : Nat → Nat) (sz : Nat) (T : TS) (rf : Int32) (sp : Nat → Int64) (h : Int32) : Met l yX4_stateOf wsX4_stateOf ({ frames := 0, cells := 0, slots := 0, locals := 0 } : Room) (ml_P G cy [.ref (a 0), .int h] (wM a cy T rf sp) sz) (va_Qi (fun (r : Int32) (_ : Unit) => r = stOf T h) (ml_B G cy (va_A (wM a cy T rf sp) sz) (fun (_ : Unit) => (wM a cy T rf sp))) (va_A (wM a cy T rf sp) sz)) 0 0 (va_A (wM a cy T rf sp) sz) := by
  refine Met.ofW (cc := cX4_stateOf) (maxL := 2) (ret := (some .int)) (by decide) rfl ?_
  intro p e s m args below meth c s₁ B hml hv
  obtain ⟨rfl, hsz, hP, hK, hD0, hN⟩ := hv
  have hx := B.exec
  have hb := B.bytes
  have hr := B.returns
  have hts := atoms_spec (ws := wsX4_stateOf) B.pre
  have hown : s.vm.findClass RX4 = some m.cls := findClass_of_methodNamed B.named
  have hlocks := B.notSynchronized
  subst hsz
  have hD := hD0.self (sz := s.heap.size)
  generalize hAe : va_A (wM a cy T rf sp) s.heap.size = A at hD ⊢
  have hA : ∀ q : Nat, s.heap.size ≤ q → A q := fun q h => by rw [← hAe]; exact Or.inr h
  have hS : va_S A s.heap s.heap [] := va_S.rf
  have hP : va_P G vwCl (wM a cy T rf sp) s.heap := hP
  have hin_X4 : ∀ w ∈ wsX40, w ∈ wsX4_stateOf := by decide +kernel
  have hl := lv_entry ([.ref (a 0), .int h]) (n := 2) (Nat.le_of_ble_eq_true rfl)
  rw [lg_entry_eq]
  generalize (lg_sl ([.ref (a 0), .int h]) ++ List.replicate (2 - (lg_sl ([.ref (a 0), .int h])).length) Slot.unset).toArray = ls at hl ⊢
  have hl : lv_has ls 2 [(0, .ref (a 0)), (1, .int h)] := hl
  refine lv_iload_n hx hb dX4_stateOf_0 rfl (lv_at hl 1 rfl) ?_
  refine lv_aload_n hx hb dX4_stateOf_1 rfl (lv_at hl 0 rfl) ?_
  refine va_get (D := G) (ci := 4) (v := .int (nI (tlv T))) (C := RX4) (T := TX4) (N := 16) hx hb hts hin_X4 hown hK hP 0 rfl rfl 6 (by decide) (hts (.fieldLink RX4 66 "MigrationledgerModel" "level" "I") (by decide +kernel)) (fun _ h9 => h9) rfl dX4_stateOf_2 ?_
  refine lv_icmp_gt (tgt := 12) hx hb dX4_stateOf_5 (by decide) (fun c_5 => ?_) (fun c_5 => ?_)
  · refine lv_iload_n hx hb dX4_stateOf_12 rfl (lv_at hl 1 rfl) ?_
    refine lv_aload_n hx hb dX4_stateOf_13 rfl (lv_at hl 0 rfl) ?_
    refine va_get (D := G) (ci := 4) (v := .int (nI (tlv T))) (C := RX4) (T := TX4) (N := 16) hx hb hts hin_X4 hown hK hP 0 rfl rfl 6 (by decide) (hts (.fieldLink RX4 66 "MigrationledgerModel" "level" "I") (by decide +kernel)) (fun _ h9 => h9) rfl dX4_stateOf_14 ?_
    refine lv_iconst (v := 1) hx hb dX4_stateOf_17 (by decide) ?_
    refine lv_iadd hx hb dX4_stateOf_18 ?_
    refine ml_eqi (nI (tlv T + 1)) (nI_add (tlv T) 1) ?_
    refine lv_icmp_ne (tgt := 29) hx hb dX4_stateOf_19 (by decide) (fun c_19 => ?_) (fun c_19 => ?_)
    · refine lv_iconst (v := 0) hx hb dX4_stateOf_29 (by decide) ?_
      exact ml_ri () hx hb hr hlocks hP hK hD hS rfl (((cif_f (Int32.not_le.mpr c_5)).trans (cif_f c_19)).symm) dX4_stateOf_30
    · refine lv_aload_n hx hb dX4_stateOf_22 rfl (lv_at hl 0 rfl) ?_
      refine va_get (D := G) (ci := 4) (v := .int (tac T)) (C := RX4) (T := TX4) (N := 16) hx hb hts hin_X4 hown hK hP 0 rfl rfl 7 (by decide) (hts (.fieldLink RX4 69 "MigrationledgerModel" "active" "I") (by decide +kernel)) (fun _ h9 => h9) rfl dX4_stateOf_23 ?_
      refine lv_goto (tgt := 30) hx hb dX4_stateOf_26 (by decide) ?_
      exact ml_ri () hx hb hr hlocks hP hK hD hS rfl (((cif_f (Int32.not_le.mpr c_5)).trans (cif_t c_19)).symm) dX4_stateOf_30
  · refine lv_iconst (v := 2) hx hb dX4_stateOf_8 (by decide) ?_
    refine lv_goto (tgt := 30) hx hb dX4_stateOf_9 (by decide) ?_
    exact ml_ri () hx hb hr hlocks hP hK hD hS rfl ((cif_t (Int32.not_lt.mp c_5)).symm) dX4_stateOf_30
set_option maxHeartbeats 4000000 in
set_option maxRecDepth 100000 in
theorem c_X4_isRow (l : Launch) (G : va_G) (cy : Nat → ClassId) (a : Nat → Nat) (sz : Nat) (T : TS) (rf : Int32) (sp : Nat → Int64) (x : Int32) : Met l yX4_isRow wsX4_isRow ({ frames := 1, cells := 0, slots := 0, locals := 22 } : Room) (ml_P G cy [.int x] (wM a cy T rf sp) sz) (va_Qi (fun (r : Int32) (_ : Unit) => r = b2i (inR x 0 39)) (ml_B G cy (va_A (wM a cy T rf sp) sz) (fun (_ : Unit) => (wM a cy T rf sp))) (va_A (wM a cy T rf sp) sz)) 0 0 (va_A (wM a cy T rf sp) sz) := by
  refine Met.ofW (cc := cX4_isRow) (maxL := 1) (ret := (some .boolean)) (by decide) rfl ?_
  intro p e s m args below meth c s₁ B hml hv
  obtain ⟨rfl, hsz, hP, hK, hD0, hN⟩ := hv
  have hx := B.exec
  have hb := B.bytes
  have hr := B.returns
  have hts := atoms_spec (ws := wsX4_isRow) B.pre
  have hown : s.vm.findClass RX4 = some m.cls := findClass_of_methodNamed B.named
  have hlocks := B.notSynchronized
  subst hsz
  have hD := hD0.self (sz := s.heap.size)
  generalize hAe : va_A (wM a cy T rf sp) s.heap.size = A at hD ⊢
  have hA : ∀ q : Nat, s.heap.size ≤ q → A q := fun q h => by rw [← hAe]; exact Or.inr h
  have hS : va_S A s.heap s.heap [] := va_S.rf
  have hP : va_P G vwCl (wM a cy T rf sp) s.heap := hP
  have hl := lv_entry ([.int x]) (n := 1) (Nat.le_of_ble_eq_true rfl)
  rw [lg_entry_eq]
  generalize (lg_sl ([.int x]) ++ List.replicate (1 - (lg_sl ([.int x])).length) Slot.unset).toArray = ls at hl ⊢
  have hl : lv_has ls 1 [(0, .int x)] := hl
  refine lv_iload_n hx hb dX4_isRow_0 rfl (lv_at hl 0 rfl) ?_
  refine lv_iconst (v := 0) hx hb dX4_isRow_1 (by decide) ?_
  refine lv_bipush (v := 39) hx hb dX4_isRow_2 (by decide) ?_
  refine ml_Si (G := G) (As := [.int x, .int 0, .int 39]) (rest := []) ⟨hx, hb, hml, hown, hts⟩ (c_X4_in l G cy a s.heap.size T rf sp x 0 39) (va_cwS 3 hts gX4_isRow_X4_in rfl rfl rfl (by decide +kernel) ⟨Nat.le_of_ble_eq_true rfl, Nat.le_of_ble_eq_true rfl⟩) hP hK hD hS hN hA rfl hl.1 (Nat.le_of_ble_eq_true rfl) dX4_isRow_4 ⟨Nat.le_of_ble_eq_true rfl, Nat.le_of_ble_eq_true rfl⟩ (fun r_4 u_4 H locs hw hP hD hS => ?_)
  obtain rfl : r_4 = b2i (inR x 0 39) := hw
  have hP : va_P G vwCl (wM a cy T rf sp) H := hP
  have hD : va_D A (wM a cy T rf sp) := hD
  exact ml_rz () hx hb hr hlocks hP hK hD hS (b2i_nar _) rfl rfl dX4_isRow_7
set_option maxHeartbeats 4000000 in
set_option maxRecDepth 100000 in
theorem c_X4_isWorker (l : Launch) (G : va_G) (cy : Nat → ClassId) (a : Nat → Nat) (sz : Nat) (T : TS) (rf : Int32) (sp : Nat → Int64) (x : Int32) : Met l yX4_isWorker wsX4_isWorker ({ frames := 1, cells := 0, slots := 0, locals := 22 } : Room) (ml_P G cy [.int x] (wM a cy T rf sp) sz) (va_Qi (fun (r : Int32) (_ : Unit) => r = b2i (inR x 0 3)) (ml_B G cy (va_A (wM a cy T rf sp) sz) (fun (_ : Unit) => (wM a cy T rf sp))) (va_A (wM a cy T rf sp) sz)) 0 0 (va_A (wM a cy T rf sp) sz) := by
  refine Met.ofW (cc := cX4_isWorker) (maxL := 1) (ret := (some .boolean)) (by decide) rfl ?_
  intro p e s m args below meth c s₁ B hml hv
  obtain ⟨rfl, hsz, hP, hK, hD0, hN⟩ := hv
  have hx := B.exec
  have hb := B.bytes
  have hr := B.returns
  have hts := atoms_spec (ws := wsX4_isWorker) B.pre
  have hown : s.vm.findClass RX4 = some m.cls := findClass_of_methodNamed B.named
  have hlocks := B.notSynchronized
  subst hsz
  have hD := hD0.self (sz := s.heap.size)
  generalize hAe : va_A (wM a cy T rf sp) s.heap.size = A at hD ⊢
  have hA : ∀ q : Nat, s.heap.size ≤ q → A q := fun q h => by rw [← hAe]; exact Or.inr h
  have hS : va_S A s.heap s.heap [] := va_S.rf
  have hP : va_P G vwCl (wM a cy T rf sp) s.heap := hP
  have hl := lv_entry ([.int x]) (n := 1) (Nat.le_of_ble_eq_true rfl)
  rw [lg_entry_eq]
  generalize (lg_sl ([.int x]) ++ List.replicate (1 - (lg_sl ([.int x])).length) Slot.unset).toArray = ls at hl ⊢
  have hl : lv_has ls 1 [(0, .int x)] := hl
  refine lv_iload_n hx hb dX4_isWorker_0 rfl (lv_at hl 0 rfl) ?_
  refine lv_iconst (v := 0) hx hb dX4_isWorker_1 (by decide) ?_
  refine lv_iconst (v := 3) hx hb dX4_isWorker_2 (by decide) ?_
  refine ml_Si (G := G) (As := [.int x, .int 0, .int 3]) (rest := []) ⟨hx, hb, hml, hown, hts⟩ (c_X4_in l G cy a s.heap.size T rf sp x 0 3) (va_cwS 3 hts gX4_isWorker_X4_in rfl rfl rfl (by decide +kernel) ⟨Nat.le_of_ble_eq_true rfl, Nat.le_of_ble_eq_true rfl⟩) hP hK hD hS hN hA rfl hl.1 (Nat.le_of_ble_eq_true rfl) dX4_isWorker_3 ⟨Nat.le_of_ble_eq_true rfl, Nat.le_of_ble_eq_true rfl⟩ (fun r_3 u_3 H locs hw hP hD hS => ?_)
  obtain rfl : r_3 = b2i (inR x 0 3) := hw
  have hP : va_P G vwCl (wM a cy T rf sp) H := hP
  have hD : va_D A (wM a cy T rf sp) := hD
  exact ml_rz () hx hb hr hlocks hP hK hD hS (b2i_nar _) rfl rfl dX4_isWorker_6
set_option maxHeartbeats 4000000 in
set_option maxRecDepth 100000 in
theorem c_X4_isHeld (l : Launch) (G : va_G) (cy : Nat → ClassId) (a : Nat → Nat) (sz : Nat) (T : TS) (rf : Int32) (sp : Nat → Int64) : Met l yX4_isHeld wsX4_isHeld ({ frames := 0, cells := 0, slots := 0, locals := 0 } : Room) (ml_P G cy [.ref (a 0)] (wM a cy T rf sp) sz) (va_Qi (fun (r : Int32) (_ : Unit) => r = b2i (isHeld T)) (ml_B G cy (va_A (wM a cy T rf sp) sz) (fun (_ : Unit) => (wM a cy T rf sp))) (va_A (wM a cy T rf sp) sz)) 0 0 (va_A (wM a cy T rf sp) sz) := by
  refine Met.ofW (cc := cX4_isHeld) (maxL := 1) (ret := (some .boolean)) (by decide) rfl ?_
  intro p e s m args below meth c s₁ B hml hv
  obtain ⟨rfl, hsz, hP, hK, hD0, hN⟩ := hv
  have hx := B.exec
  have hb := B.bytes
  have hr := B.returns
  have hts := atoms_spec (ws := wsX4_isHeld) B.pre
  have hown : s.vm.findClass RX4 = some m.cls := findClass_of_methodNamed B.named
  have hlocks := B.notSynchronized
  subst hsz
  have hD := hD0.self (sz := s.heap.size)
  generalize hAe : va_A (wM a cy T rf sp) s.heap.size = A at hD ⊢
  have hA : ∀ q : Nat, s.heap.size ≤ q → A q := fun q h => by rw [← hAe]; exact Or.inr h
  have hS : va_S A s.heap s.heap [] := va_S.rf
  have hP : va_P G vwCl (wM a cy T rf sp) s.heap := hP
  have hin_X4 : ∀ w ∈ wsX40, w ∈ wsX4_isHeld := by decide +kernel
  have hl := lv_entry ([.ref (a 0)]) (n := 1) (Nat.le_of_ble_eq_true rfl)
  rw [lg_entry_eq]
  generalize (lg_sl ([.ref (a 0)]) ++ List.replicate (1 - (lg_sl ([.ref (a 0)])).length) Slot.unset).toArray = ls at hl ⊢
  have hl : lv_has ls 1 [(0, .ref (a 0))] := hl
  refine lv_aload_n hx hb dX4_isHeld_0 rfl (lv_at hl 0 rfl) ?_
  refine va_get (D := G) (ci := 4) (v := .int (tho T)) (C := RX4) (T := TX4) (N := 16) hx hb hts hin_X4 hown hK hP 0 rfl rfl 13 (by decide) (hts (.fieldLink RX4 32 "MigrationledgerModel" "holder" "I") (by decide +kernel)) (fun _ h9 => h9) rfl dX4_isHeld_1 ?_
  refine lv_iconst (v := (-1)) hx hb dX4_isHeld_4 (by decide) ?_
  refine lv_icmp_eq (tgt := 23) hx hb dX4_isHeld_5 (by decide) (fun c_5 => ?_) (fun c_5 => ?_)
  · refine lv_iconst (v := 0) hx hb dX4_isHeld_23 (by decide) ?_
    exact ml_rz () hx hb hr hlocks hP hK hD hS rfl rfl (b2i_f' (fun h => h.1 c_5)) dX4_isHeld_24
  · refine lv_aload_n hx hb dX4_isHeld_8 rfl (lv_at hl 0 rfl) ?_
    refine va_get (D := G) (ci := 4) (v := .int (ttm T)) (C := RX4) (T := TX4) (N := 16) hx hb hts hin_X4 hown hK hP 0 rfl rfl 12 (by decide) (hts (.fieldLink RX4 108 "MigrationledgerModel" "time" "I") (by decide +kernel)) (fun _ h9 => h9) rfl dX4_isHeld_9 ?_
    refine lv_aload_n hx hb dX4_isHeld_12 rfl (lv_at hl 0 rfl) ?_
    refine va_get (D := G) (ci := 4) (v := .int (tle T)) (C := RX4) (T := TX4) (N := 16) hx hb hts hin_X4 hown hK hP 0 rfl rfl 14 (by decide) (hts (.fieldLink RX4 111 "MigrationledgerModel" "leaseEnd" "I") (by decide +kernel)) (fun _ h9 => h9) rfl dX4_isHeld_13 ?_
    refine lv_icmp_ge (tgt := 23) hx hb dX4_isHeld_16 (by decide) (fun c_16 => ?_) (fun c_16 => ?_)
    · refine lv_iconst (v := 0) hx hb dX4_isHeld_23 (by decide) ?_
      exact ml_rz () hx hb hr hlocks hP hK hD hS rfl rfl (b2i_f' (fun h => Int32.not_lt.mpr c_16 h.2)) dX4_isHeld_24
    · refine lv_iconst (v := 1) hx hb dX4_isHeld_19 (by decide) ?_
      refine lv_goto (tgt := 24) hx hb dX4_isHeld_20 (by decide) ?_
      exact ml_rz () hx hb hr hlocks hP hK hD hS rfl rfl (b2i_t' (⟨c_5, Int32.not_le.mp c_16⟩)) dX4_isHeld_24
set_option maxHeartbeats 4000000 in
set_option maxRecDepth 100000 in
theorem c_X4_has (l : Launch) (G : va_G) (cy : Nat → ClassId) (a : Nat → Nat) (sz : Nat) (T : TS) (rf : Int32) (sp : Nat → Int64) (x : Int32) : Met l yX4_has wsX4_has ({ frames := 1, cells := 0, slots := 0, locals := 20 } : Room) (ml_P G cy [.ref (a 0), .int x] (wM a cy T rf sp) sz) (va_Qi (fun (r : Int32) (_ : Unit) => r = b2i (has T x)) (ml_B G cy (va_A (wM a cy T rf sp) sz) (fun (_ : Unit) => (wM a cy T rf sp))) (va_A (wM a cy T rf sp) sz)) 0 0 (va_A (wM a cy T rf sp) sz) := by
  refine Met.ofW (cc := cX4_has) (maxL := 2) (ret := (some .boolean)) (by decide) rfl ?_
  intro p e s m args below meth c s₁ B hml hv
  obtain ⟨rfl, hsz, hP, hK, hD0, hN⟩ := hv
  have hx := B.exec
  have hb := B.bytes
  have hr := B.returns
  have hts := atoms_spec (ws := wsX4_has) B.pre
  have hown : s.vm.findClass RX4 = some m.cls := findClass_of_methodNamed B.named
  have hlocks := B.notSynchronized
  subst hsz
  have hD := hD0.self (sz := s.heap.size)
  generalize hAe : va_A (wM a cy T rf sp) s.heap.size = A at hD ⊢
  have hA : ∀ q : Nat, s.heap.size ≤ q → A q := fun q h => by rw [← hAe]; exact Or.inr h
  have hS : va_S A s.heap s.heap [] := va_S.rf
  have hP : va_P G vwCl (wM a cy T rf sp) s.heap := hP
  have hin_X4 : ∀ w ∈ wsX40, w ∈ wsX4_has := by decide +kernel
  have hl := lv_entry ([.ref (a 0), .int x]) (n := 2) (Nat.le_of_ble_eq_true rfl)
  rw [lg_entry_eq]
  generalize (lg_sl ([.ref (a 0), .int x]) ++ List.replicate (2 - (lg_sl ([.ref (a 0), .int x])).length) Slot.unset).toArray = ls at hl ⊢
  have hl : lv_has ls 2 [(0, .ref (a 0)), (1, .int x)] := hl
  refine lv_aload_n hx hb dX4_has_0 rfl (lv_at hl 0 rfl) ?_
  refine ml_Vi (G := G) (As := []) (rest := []) ⟨hx, hb, hml, hown, hts⟩ (c_X4_isHeld l G cy a s.heap.size T rf sp) (cwV 0 hts gX4_has_X4_isHeld rfl rfl rfl (by decide +kernel) ⟨Nat.le_of_ble_eq_true rfl, Nat.le_of_ble_eq_true rfl⟩) (va_recv hK hP (ci := 4) (q0 := 0) rfl rfl) hP hK hD hS hN hA rfl hl.1 (Nat.le_of_ble_eq_true rfl) dX4_has_1 ⟨Nat.le_of_ble_eq_true rfl, Nat.le_of_ble_eq_true rfl⟩ (fun r_1 u_1 H locs hw hP hD hS => ?_)
  obtain rfl : r_1 = b2i (isHeld T) := hw
  have hP : va_P G vwCl (wM a cy T rf sp) H := hP
  have hD : va_D A (wM a cy T rf sp) := hD
  refine ml_ifeqb (tgt := 19) hx hb dX4_has_4 (by decide) (fun c_4 => ?_) (fun c_4 => ?_)
  · refine lv_iconst (v := 0) hx hb dX4_has_19 (by decide) ?_
    exact ml_rz () hx hb hr hlocks hP hK hD hS rfl rfl (b2i_f' (fun h => c_4 h.1)) dX4_has_20
  · refine lv_aload_n hx hb dX4_has_7 rfl (lv_at hl 0 rfl) ?_
    refine va_get (D := G) (ci := 4) (v := .int (tho T)) (C := RX4) (T := TX4) (N := 16) hx hb hts hin_X4 hown hK hP 0 rfl rfl 13 (by decide) (hts (.fieldLink RX4 32 "MigrationledgerModel" "holder" "I") (by decide +kernel)) (fun _ h9 => h9) rfl dX4_has_8 ?_
    refine lv_iload_n hx hb dX4_has_11 rfl (lv_at hl 1 rfl) ?_
    refine lv_icmp_ne (tgt := 19) hx hb dX4_has_12 (by decide) (fun c_12 => ?_) (fun c_12 => ?_)
    · refine lv_iconst (v := 0) hx hb dX4_has_19 (by decide) ?_
      exact ml_rz () hx hb hr hlocks hP hK hD hS rfl rfl (b2i_f' (fun h => c_12 h.2)) dX4_has_20
    · refine lv_iconst (v := 1) hx hb dX4_has_15 (by decide) ?_
      refine lv_goto (tgt := 20) hx hb dX4_has_16 (by decide) ?_
      exact ml_rz () hx hb hr hlocks hP hK hD hS rfl rfl (b2i_t' (⟨c_4, c_12⟩)) dX4_has_20
set_option maxHeartbeats 4000000 in
set_option maxRecDepth 100000 in
theorem c_X4_cannot (l : Launch) (G : va_G) (cy : Nat → ClassId) (a : Nat → Nat) (sz : Nat) (T : TS) (rf : Int32) (sp : Nat → Int64) (j : Nat) (hj : j < 4) (hcr : tcr T j = 0 ∨ tcr T j = 1) : Met l yX4_cannot wsX4_cannot ({ frames := 2, cells := 0, slots := 0, locals := 41 } : Room) (ml_P G cy [.ref (a 0), .int (nI j)] (wM a cy T rf sp) sz) (va_Qi (fun (r : Int32) (_ : Unit) => r = b2i (crd T (nI j) ∨ ¬ has T (nI j))) (ml_B G cy (va_A (wM a cy T rf sp) sz) (fun (_ : Unit) => (wM a cy T rf sp))) (va_A (wM a cy T rf sp) sz)) 0 0 (va_A (wM a cy T rf sp) sz) := by
  refine Met.ofW (cc := cX4_cannot) (maxL := 2) (ret := (some .boolean)) (by decide) rfl ?_
  intro p e s m args below meth c s₁ B hml hv
  obtain ⟨rfl, hsz, hP, hK, hD0, hN⟩ := hv
  have hx := B.exec
  have hb := B.bytes
  have hr := B.returns
  have hts := atoms_spec (ws := wsX4_cannot) B.pre
  have hown : s.vm.findClass RX4 = some m.cls := findClass_of_methodNamed B.named
  have hlocks := B.notSynchronized
  subst hsz
  have hD := hD0.self (sz := s.heap.size)
  generalize hAe : va_A (wM a cy T rf sp) s.heap.size = A at hD ⊢
  have hA : ∀ q : Nat, s.heap.size ≤ q → A q := fun q h => by rw [← hAe]; exact Or.inr h
  have hS : va_S A s.heap s.heap [] := va_S.rf
  have hP : va_P G vwCl (wM a cy T rf sp) s.heap := hP
  have hin_X4 : ∀ w ∈ wsX40, w ∈ wsX4_cannot := by decide +kernel
  have hl := lv_entry ([.ref (a 0), .int (nI j)]) (n := 2) (Nat.le_of_ble_eq_true rfl)
  rw [lg_entry_eq]
  generalize (lg_sl ([.ref (a 0), .int (nI j)]) ++ List.replicate (2 - (lg_sl ([.ref (a 0), .int (nI j)])).length) Slot.unset).toArray = ls at hl ⊢
  have hl : lv_has ls 2 [(0, .ref (a 0)), (1, .int (nI j))] := hl
  refine lv_aload_n hx hb dX4_cannot_0 rfl (lv_at hl 0 rfl) ?_
  refine va_get (D := G) (ci := 4) (v := .ref (a 8)) (C := RX4) (T := TX4) (N := 16) hx hb hts hin_X4 hown hK hP 0 rfl rfl 15 (by decide) (hts (.fieldLink RX4 36 "MigrationledgerModel" "hasCrashed" "[Z") (by decide +kernel)) (fun _ h9 => h9) rfl dX4_cannot_1 ?_
  refine lv_iload_n hx hb dX4_cannot_4 rfl (lv_at hl 1 rfl) ?_
  refine ml_zald hx hb hK hP 8 2 rfl rfl (j) rfl (by omega) (Nat.le_of_ble_eq_true rfl) (b2i (tcr T j ≠ 0)) (b01 hcr) dX4_cannot_5 ?_
  refine ml_ifneb (tgt := 17) hx hb dX4_cannot_6 (by decide) (fun c_6 => ?_) (fun c_6 => ?_)
  · refine lv_iconst (v := 1) hx hb dX4_cannot_17 (by decide) ?_
    refine lv_goto (tgt := 22) hx hb dX4_cannot_18 (by decide) ?_
    exact ml_rz () hx hb hr hlocks hP hK hD hS rfl rfl (b2i_t' (Or.inl ((crd_n (by omega)).mpr c_6))) dX4_cannot_22
  · refine lv_aload_n hx hb dX4_cannot_9 rfl (lv_at hl 0 rfl) ?_
    refine lv_iload_n hx hb dX4_cannot_10 rfl (lv_at hl 1 rfl) ?_
    refine ml_Vi (G := G) (As := [.int (nI j)]) (rest := []) ⟨hx, hb, hml, hown, hts⟩ (c_X4_has l G cy a s.heap.size T rf sp (nI j)) (cwV 1 hts gX4_cannot_X4_has rfl rfl rfl (by decide +kernel) ⟨Nat.le_of_ble_eq_true rfl, Nat.le_of_ble_eq_true rfl⟩) (va_recv hK hP (ci := 4) (q0 := 0) rfl rfl) hP hK hD hS hN hA rfl hl.1 (Nat.le_of_ble_eq_true rfl) dX4_cannot_11 ⟨Nat.le_of_ble_eq_true rfl, Nat.le_of_ble_eq_true rfl⟩ (fun r_11 u_11 H locs hw hP hD hS => ?_)
    obtain rfl : r_11 = b2i (has T (nI j)) := hw
    have hP : va_P G vwCl (wM a cy T rf sp) H := hP
    have hD : va_D A (wM a cy T rf sp) := hD
    refine ml_ifneb (tgt := 21) hx hb dX4_cannot_14 (by decide) (fun c_14 => ?_) (fun c_14 => ?_)
    · refine lv_iconst (v := 0) hx hb dX4_cannot_21 (by decide) ?_
      exact ml_rz () hx hb hr hlocks hP hK hD hS rfl rfl (b2i_f' (fun q => q.elim (fun z => c_6 ((crd_n (by omega)).mp z)) (fun z => z c_14))) dX4_cannot_22
    · refine lv_iconst (v := 1) hx hb dX4_cannot_17 (by decide) ?_
      refine lv_goto (tgt := 22) hx hb dX4_cannot_18 (by decide) ?_
      exact ml_rz () hx hb hr hlocks hP hK hD hS rfl rfl (b2i_t' (Or.inr c_14)) dX4_cannot_22
set_option maxHeartbeats 4000000 in
set_option maxRecDepth 100000 in
theorem c_X4_firstDrift (l : Launch) (G : va_G) (cy : Nat → ClassId) (a : Nat → Nat) (sz : Nat) (T : TS) (rf : Int32) (sp : Nat → Int64) (hlv : tlv T ≤ 12) : Met l yX4_firstDrift wsX4_firstDrift ({ frames := 1, cells := 0, slots := 0, locals := 21 } : Room) (ml_P G cy [.ref (a 0)] (wM a cy T rf sp) sz) (va_Qi (fun (r : Int32) (_ : Unit) => r = fdr T) (ml_B G cy (va_A (wM a cy T rf sp) sz) (fun (_ : Unit) => (wM a cy T rf sp))) (va_A (wM a cy T rf sp) sz)) 0 0 (va_A (wM a cy T rf sp) sz) := by
  refine Met.ofW (cc := cX4_firstDrift) (maxL := 3) (ret := (some .int)) (by decide) rfl ?_
  intro p e s m args below meth c s₁ B hml hv
  obtain ⟨rfl, hsz, hP, hK, hD0, hN⟩ := hv
  have hx := B.exec
  have hb := B.bytes
  have hr := B.returns
  have hts := atoms_spec (ws := wsX4_firstDrift) B.pre
  have hown : s.vm.findClass RX4 = some m.cls := findClass_of_methodNamed B.named
  have hlocks := B.notSynchronized
  subst hsz
  have hD := hD0.self (sz := s.heap.size)
  generalize hAe : va_A (wM a cy T rf sp) s.heap.size = A at hD ⊢
  have hA : ∀ q : Nat, s.heap.size ≤ q → A q := fun q h => by rw [← hAe]; exact Or.inr h
  have hS : va_S A s.heap s.heap [] := va_S.rf
  have hP : va_P G vwCl (wM a cy T rf sp) s.heap := hP
  have hin_X4 : ∀ w ∈ wsX40, w ∈ wsX4_firstDrift := by decide +kernel
  have hl := lv_entry ([.ref (a 0)]) (n := 3) (Nat.le_of_ble_eq_true rfl)
  rw [lg_entry_eq]
  generalize (lg_sl ([.ref (a 0)]) ++ List.replicate (3 - (lg_sl ([.ref (a 0)])).length) Slot.unset).toArray = ls at hl ⊢
  have hl : lv_has ls 3 [(0, .ref (a 0))] := hl
  refine lv_iconst (v := 0) hx hb dX4_firstDrift_0 (by decide) ?_
  refine lv_istore_n (lv' := [(1, .int 0), (0, .ref (a 0))]) hx hb dX4_firstDrift_1 rfl hl (by decide) rfl (fun ls hl => ?_)
  refine lv_aload_n hx hb dX4_firstDrift_2 rfl (lv_at hl 1 rfl) ?_
  refine va_get (D := G) (ci := 4) (v := .int (nI (tlv T))) (C := RX4) (T := TX4) (N := 16) hx hb hts hin_X4 hown hK hP 0 rfl rfl 6 (by decide) (hts (.fieldLink RX4 66 "MigrationledgerModel" "level" "I") (by decide +kernel)) (fun _ h9 => h9) rfl dX4_firstDrift_3 ?_
  refine lv_istore_n (lv' := [(2, .int (nI (tlv T))), (1, .int 0), (0, .ref (a 0))]) hx hb dX4_firstDrift_6 rfl hl (by decide) rfl (fun ls hl => ?_)
  have LOOP : ∀ (k : Nat) (d : Nat) (x : Int32) (hd : d + k = tlv T) (hx9 : x = fdU T d k) (H : Heap) (locs : List Loc) (ls : Array Slot), va_P G vwCl (wM a cy T rf sp) H → va_D A (wM a cy T rf sp) → va_S A s.heap H locs → lv_has ls 3 [(0, .ref (a 0)), (1, .int x), (2, .int (nI k))] → W p l e (headSpec wsX4_firstDrift ({ frames := 1, cells := 0, slots := 0, locals := 21 } : Room)).room s m (#[.ref (a 0)] : Array Value) below meth c H locs 0 0 (MQ below (va_Qi (fun (r : Int32) (_ : Unit) => r = fdr T) (ml_B G cy A (fun (_ : Unit) => (wM a cy T rf sp))) A) (#[.ref (a 0)] : Array Value) s 0 0 A) (F0 m 7 ls []) := by
    intro k
    induction k with
    | zero =>
      intro d x hd hx9 H locs ls hP hD hS hl
      refine lv_iload_n hx hb dX4_firstDrift_7 rfl (lv_at hl 2 rfl) ?_
      refine lv_if_le (tgt := 37) hx hb dX4_firstDrift_8 (by decide) (fun c_8 => ?_) (fun c_8 => False.elim (c_8 ((lft_le (by omega)).mpr rfl)))
      refine lv_iload_n hx hb dX4_firstDrift_37 rfl (lv_at hl 1 rfl) ?_
      exact ml_ri () hx hb hr hlocks hP hK hD hS rfl (by rw [hx9, show d = tlv T by omega]; rfl) dX4_firstDrift_38
    | succ k ih =>
      intro d x hd hx9 H locs ls hP hD hS hl
      refine lv_iload_n hx hb dX4_firstDrift_7 rfl (lv_at hl 2 rfl) ?_
      refine lv_if_le (tgt := 37) hx hb dX4_firstDrift_8 (by decide) (fun c_8 => False.elim (absurd ((lft_le (by omega)).mp c_8) (by omega))) (fun c_8 => ?_)
      refine lv_aload_n hx hb dX4_firstDrift_11 rfl (lv_at hl 0 rfl) ?_
      refine lv_iload_n hx hb dX4_firstDrift_12 rfl (lv_at hl 2 rfl) ?_
      refine ml_Vi (G := G) (As := [.int (nI (k + 1))]) (rest := []) ⟨hx, hb, hml, hown, hts⟩ (c_X4_sumOf l G cy a H.size T rf sp (k + 1) (by omega)) (cwV 1 hts gX4_firstDrift_X4_sumOf rfl rfl rfl (by decide +kernel) ⟨Nat.le_of_ble_eq_true rfl, Nat.le_of_ble_eq_true rfl⟩) (va_recv hK hP (ci := 4) (q0 := 0) rfl rfl) hP hK hD hS hN hA rfl hl.1 (Nat.le_of_ble_eq_true rfl) dX4_firstDrift_13 ⟨Nat.le_of_ble_eq_true rfl, Nat.le_of_ble_eq_true rfl⟩ (fun r_13 u_13 H locs hw hP hD hS => ?_)
      obtain rfl : r_13 = sumOf T (k + 1) := hw
      have hP : va_P G vwCl (wM a cy T rf sp) H := hP
      have hD : va_D A (wM a cy T rf sp) := hD
      refine lv_aload_n hx hb dX4_firstDrift_16 rfl (lv_at hl 0 rfl) ?_
      refine va_get (D := G) (ci := 4) (v := .ref (a 4)) (C := RX4) (T := TX4) (N := 16) hx hb hts hin_X4 hown hK hP 0 rfl rfl 5 (by decide) (hts (.fieldLink RX4 19 "MigrationledgerModel" "recorded" "[I") (by decide +kernel)) (fun _ h9 => h9) rfl dX4_firstDrift_17 ?_
      refine lv_iload_n hx hb dX4_firstDrift_20 rfl (lv_at hl 2 rfl) ?_
      refine ml_iald hx hb hK hP 4 0 rfl rfl (k + 1) rfl (by omega) (Nat.le_of_ble_eq_true rfl) ((tR T) (k + 1)) rfl dX4_firstDrift_21 ?_
      refine lv_icmp_ne (tgt := 29) hx hb dX4_firstDrift_22 (by decide) (fun c_22 => ?_) (fun c_22 => ?_)
      · refine lv_iload_n hx hb dX4_firstDrift_29 rfl (lv_at hl 2 rfl) ?_
        refine lv_istore_n (lv' := [(1, .int (nI (k + 1))), (0, .ref (a 0)), (2, .int (nI (k + 1)))]) hx hb dX4_firstDrift_30 rfl hl (by decide) rfl (fun ls hl => ?_)
        refine lv_iinc (v := nI k) (lv' := [(2, .int (nI k)), (1, .int (nI (k + 1))), (0, .ref (a 0))]) hx hb dX4_firstDrift_31 hl (k := 2) rfl (pk_m1 _) (by decide) rfl (fun ls hl => ?_)
        refine lv_goto (tgt := 7) hx hb dX4_firstDrift_34 (by decide) ?_
        exact ih (d + 1) (nI (k + 1)) (by omega) (cif_t c_22).symm _ _ _ hP hD hS (lv_sub hl [2, 1, 0] rfl)
      · refine lv_iload_n hx hb dX4_firstDrift_25 rfl (lv_at hl 1 rfl) ?_
        refine lv_goto (tgt := 30) hx hb dX4_firstDrift_26 (by decide) ?_
        refine lv_istore_n (lv' := [(1, .int x), (0, .ref (a 0)), (2, .int (nI (k + 1)))]) hx hb dX4_firstDrift_30 rfl hl (by decide) rfl (fun ls hl => ?_)
        refine lv_iinc (v := nI k) (lv' := [(2, .int (nI k)), (1, .int x), (0, .ref (a 0))]) hx hb dX4_firstDrift_31 hl (k := 2) rfl (pk_m1 _) (by decide) rfl (fun ls hl => ?_)
        refine lv_goto (tgt := 7) hx hb dX4_firstDrift_34 (by decide) ?_
        exact ih (d + 1) x (by omega) (hx9.trans (cif_f (fun z => z c_22) : fdU T (d + 1) k = _).symm) _ _ _ hP hD hS (lv_sub hl [2, 1, 0] rfl)
  exact LOOP (tlv T) 0 0 (by omega) rfl _ _ _ hP hD hS (lv_sub hl [2, 1, 0] rfl)
set_option maxHeartbeats 4000000 in
set_option maxRecDepth 100000 in
theorem c_X4_noRow (l : Launch) (G : va_G) (cy : Nat → ClassId) (a : Nat → Nat) (sz : Nat) (T : TS) (rf : Int32) (sp : Nat → Int64) (y : Int32) (q0 : Prop) (hy : (y = 1 ∧ q0) ∨ (y = 0 ∧ ¬ q0)) (x : Int32) : Met l yX4_noRow wsX4_noRow ({ frames := 2, cells := 0, slots := 0, locals := 42 } : Room) (ml_P G cy [.ref (a 0), .int y, .int x] (wM a cy T rf sp) sz) (va_Qi (fun (r : Int32) (_ : Unit) => r = b2i (cdN T q0 x ≠ 0)) (ml_B G cy (va_A (wM a cy T rf sp) sz) (fun (_ : Unit) => (wM a cy T (cdN T q0 x) sp))) (va_A (wM a cy T rf sp) sz)) 0 0 (va_A (wM a cy T rf sp) sz) := by
  refine Met.ofW (cc := cX4_noRow) (maxL := 3) (ret := (some .boolean)) (by decide) rfl ?_
  intro p e s m args below meth c s₁ B hml hv
  obtain ⟨rfl, hsz, hP, hK, hD0, hN⟩ := hv
  have hx := B.exec
  have hb := B.bytes
  have hr := B.returns
  have hts := atoms_spec (ws := wsX4_noRow) B.pre
  have hown : s.vm.findClass RX4 = some m.cls := findClass_of_methodNamed B.named
  have hlocks := B.notSynchronized
  subst hsz
  have hD := hD0.self (sz := s.heap.size)
  generalize hAe : va_A (wM a cy T rf sp) s.heap.size = A at hD ⊢
  have hA : ∀ q : Nat, s.heap.size ≤ q → A q := fun q h => by rw [← hAe]; exact Or.inr h
  have hS : va_S A s.heap s.heap [] := va_S.rf
  have hP : va_P G vwCl (wM a cy T rf sp) s.heap := hP
  have hin_X4 : ∀ w ∈ wsX40, w ∈ wsX4_noRow := by decide +kernel
  have hl := lv_entry ([.ref (a 0), .int y, .int x]) (n := 3) (Nat.le_of_ble_eq_true rfl)
  rw [lg_entry_eq]
  generalize (lg_sl ([.ref (a 0), .int y, .int x]) ++ List.replicate (3 - (lg_sl ([.ref (a 0), .int y, .int x])).length) Slot.unset).toArray = ls at hl ⊢
  have hl : lv_has ls 3 [(0, .ref (a 0)), (1, .int y), (2, .int x)] := hl
  refine lv_aload_n hx hb dX4_noRow_0 rfl (lv_at hl 0 rfl) ?_
  refine lv_iload_n hx hb dX4_noRow_1 rfl (lv_at hl 1 rfl) ?_
  refine lv_if_eq (tgt := 12) hx hb dX4_noRow_2 (by decide) (fun c_2 => ?_) (fun c_2 => ?_)
  · refine lv_iconst (v := 1) hx hb dX4_noRow_12 (by decide) ?_
    refine lv_goto (tgt := 31) hx hb dX4_noRow_13 (by decide) ?_
    refine ml_Vi (G := G) (As := [.int 1]) (rest := []) ⟨hx, hb, hml, hown, hts⟩ (c_X4_refused l G cy a s.heap.size T rf sp 1) (cwV 1 hts gX4_noRow_X4_refused rfl rfl rfl (by decide +kernel) ⟨Nat.le_of_ble_eq_true rfl, Nat.le_of_ble_eq_true rfl⟩) (va_recv hK hP (ci := 4) (q0 := 0) rfl rfl) hP hK hD hS hN hA rfl hl.1 (Nat.le_of_ble_eq_true rfl) dX4_noRow_31 ⟨Nat.le_of_ble_eq_true rfl, Nat.le_of_ble_eq_true rfl⟩ (fun r_31 u_31 H locs hw hP hD hS => ?_)
    obtain rfl : r_31 = 1 := hw.trans (b2i_t (by decide))
    have hP : va_P G vwCl (wM a cy T 1 sp) H := hP
    have hD : va_D A (wM a cy T 1 sp) := hD
    exact ml_rz () hx hb hr hlocks hP hK hD hS rfl (by rw [(show cdN T q0 x = 1 from cif_t (fun q => bq_f hy c_2 q.1))]) (by rw [(show cdN T q0 x = 1 from cif_t (fun q => bq_f hy c_2 q.1))]; exact (b2i_t (by decide)).symm) dX4_noRow_34
  · refine lv_iload_n hx hb dX4_noRow_5 rfl (lv_at hl 2 rfl) ?_
    refine ml_Si (G := G) (As := [.int x]) (rest := [.ref (a 0)]) ⟨hx, hb, hml, hown, hts⟩ (c_X4_isRow l G cy a s.heap.size T rf sp x) (va_cwS 1 hts gX4_noRow_X4_isRow rfl rfl rfl (by decide +kernel) ⟨Nat.le_of_ble_eq_true rfl, Nat.le_of_ble_eq_true rfl⟩) hP hK hD hS hN hA rfl hl.1 (Nat.le_of_ble_eq_true rfl) dX4_noRow_6 ⟨Nat.le_of_ble_eq_true rfl, Nat.le_of_ble_eq_true rfl⟩ (fun r_6 u_6 H locs hw hP hD hS => ?_)
    obtain rfl : r_6 = b2i (inR x 0 39) := hw
    have hP : va_P G vwCl (wM a cy T rf sp) H := hP
    have hD : va_D A (wM a cy T rf sp) := hD
    refine ml_ifneb (tgt := 16) hx hb dX4_noRow_9 (by decide) (fun c_9 => ?_) (fun c_9 => ?_)
    · obtain ⟨j, hj, rfl⟩ := inR_n 39 (by decide) c_9
      refine lv_aload_n hx hb dX4_noRow_16 rfl (lv_at hl 0 rfl) ?_
      refine va_get (D := G) (ci := 4) (v := .ref (a 5)) (C := RX4) (T := TX4) (N := 16) hx hb hts hin_X4 hown hK hP 0 rfl rfl 9 (by decide) (hts (.fieldLink RX4 22 "MigrationledgerModel" "versions" "[I") (by decide +kernel)) (fun _ h9 => h9) rfl dX4_noRow_17 ?_
      refine lv_iload_n hx hb dX4_noRow_20 rfl (lv_at hl 2 rfl) ?_
      refine ml_iald hx hb hK hP 5 0 rfl rfl (j) rfl (by omega) (Nat.le_of_ble_eq_true rfl) ((tV T) j) rfl dX4_noRow_21 ?_
      refine lv_iconst (v := (-1)) hx hb dX4_noRow_22 (by decide) ?_
      refine lv_icmp_ne (tgt := 30) hx hb dX4_noRow_23 (by decide) (fun c_23 => ?_) (fun c_23 => ?_)
      · refine lv_iconst (v := 0) hx hb dX4_noRow_30 (by decide) ?_
        refine ml_Vi (G := G) (As := [.int 0]) (rest := []) ⟨hx, hb, hml, hown, hts⟩ (c_X4_refused l G cy a H.size T rf sp 0) (cwV 1 hts gX4_noRow_X4_refused rfl rfl rfl (by decide +kernel) ⟨Nat.le_of_ble_eq_true rfl, Nat.le_of_ble_eq_true rfl⟩) (va_recv hK hP (ci := 4) (q0 := 0) rfl rfl) hP hK hD hS hN hA rfl hl.1 (Nat.le_of_ble_eq_true rfl) dX4_noRow_31 ⟨Nat.le_of_ble_eq_true rfl, Nat.le_of_ble_eq_true rfl⟩ (fun r_31 u_31 H locs hw hP hD hS => ?_)
        obtain rfl : r_31 = 0 := hw.trans (b2i_f (by decide))
        have hP : va_P G vwCl (wM a cy T 0 sp) H := hP
        have hD : va_D A (wM a cy T 0 sp) := hD
        exact ml_rz () hx hb hr hlocks hP hK hD hS rfl (by rw [(show cdN T q0 (nI j) = 0 from (cif_f (not_not_intro ⟨bq_t hy c_2, c_9⟩)).trans (cif_f (by rw [ix_n (by omega)]; exact c_23)))]) (by rw [(show cdN T q0 (nI j) = 0 from (cif_f (not_not_intro ⟨bq_t hy c_2, c_9⟩)).trans (cif_f (by rw [ix_n (by omega)]; exact c_23)))]; exact (b2i_f (by decide)).symm) dX4_noRow_34
      · refine lv_iconst (v := 2) hx hb dX4_noRow_26 (by decide) ?_
        refine lv_goto (tgt := 31) hx hb dX4_noRow_27 (by decide) ?_
        refine ml_Vi (G := G) (As := [.int 2]) (rest := []) ⟨hx, hb, hml, hown, hts⟩ (c_X4_refused l G cy a H.size T rf sp 2) (cwV 1 hts gX4_noRow_X4_refused rfl rfl rfl (by decide +kernel) ⟨Nat.le_of_ble_eq_true rfl, Nat.le_of_ble_eq_true rfl⟩) (va_recv hK hP (ci := 4) (q0 := 0) rfl rfl) hP hK hD hS hN hA rfl hl.1 (Nat.le_of_ble_eq_true rfl) dX4_noRow_31 ⟨Nat.le_of_ble_eq_true rfl, Nat.le_of_ble_eq_true rfl⟩ (fun r_31 u_31 H locs hw hP hD hS => ?_)
        obtain rfl : r_31 = 1 := hw.trans (b2i_t (by decide))
        have hP : va_P G vwCl (wM a cy T 2 sp) H := hP
        have hD : va_D A (wM a cy T 2 sp) := hD
        exact ml_rz () hx hb hr hlocks hP hK hD hS rfl (by rw [(show cdN T q0 (nI j) = 2 from (cif_f (not_not_intro ⟨bq_t hy c_2, c_9⟩)).trans (cif_t (by rw [ix_n (by omega)]; exact c_23)))]) (by rw [(show cdN T q0 (nI j) = 2 from (cif_f (not_not_intro ⟨bq_t hy c_2, c_9⟩)).trans (cif_t (by rw [ix_n (by omega)]; exact c_23)))]; exact (b2i_t (by decide)).symm) dX4_noRow_34
    · refine lv_iconst (v := 1) hx hb dX4_noRow_12 (by decide) ?_
      refine lv_goto (tgt := 31) hx hb dX4_noRow_13 (by decide) ?_
      refine ml_Vi (G := G) (As := [.int 1]) (rest := []) ⟨hx, hb, hml, hown, hts⟩ (c_X4_refused l G cy a H.size T rf sp 1) (cwV 1 hts gX4_noRow_X4_refused rfl rfl rfl (by decide +kernel) ⟨Nat.le_of_ble_eq_true rfl, Nat.le_of_ble_eq_true rfl⟩) (va_recv hK hP (ci := 4) (q0 := 0) rfl rfl) hP hK hD hS hN hA rfl hl.1 (Nat.le_of_ble_eq_true rfl) dX4_noRow_31 ⟨Nat.le_of_ble_eq_true rfl, Nat.le_of_ble_eq_true rfl⟩ (fun r_31 u_31 H locs hw hP hD hS => ?_)
      obtain rfl : r_31 = 1 := hw.trans (b2i_t (by decide))
      have hP : va_P G vwCl (wM a cy T 1 sp) H := hP
      have hD : va_D A (wM a cy T 1 sp) := hD
      exact ml_rz () hx hb hr hlocks hP hK hD hS rfl (by rw [(show cdN T q0 x = 1 from cif_t (fun q => c_9 q.2))]) (by rw [(show cdN T q0 x = 1 from cif_t (fun q => c_9 q.2))]; exact (b2i_t (by decide)).symm) dX4_noRow_34
set_option maxHeartbeats 4000000 in
set_option maxRecDepth 100000 in
theorem c_X4_takeSpare (l : Launch) (G : va_G) (cy : Nat → ClassId) (a : Nat → Nat) (sz : Nat) (T : TS) (rf : Int32) (sp : Nat → Int64) (j : Nat) (hj : j < 40) : Met l yX4_takeSpare wsX4_takeSpare ({ frames := 0, cells := 0, slots := 0, locals := 0 } : Room) (ml_P G cy [.ref (a 0), .int (nI j)] (wM a cy T rf sp) sz) (va_Qv (fun (_ : Unit) => True) (ml_B G cy (va_A (wM a cy T rf sp) sz) (fun (_ : Unit) => (wM a cy T rf (vp_updL (vp_updL (vp_updL sp 0 (tX T (3 * j + 0)).toInt64) 1 (tX T (3 * j + 1)).toInt64) 2 (tX T (3 * j + 2)).toInt64)))) (va_A (wM a cy T rf sp) sz)) 0 0 (va_A (wM a cy T rf sp) sz) := by
  refine Met.ofW (cc := cX4_takeSpare) (maxL := 3) (ret := none) (by decide) rfl ?_
  intro p e s m args below meth c s₁ B hml hv
  obtain ⟨rfl, hsz, hP, hK, hD0, hN⟩ := hv
  have hx := B.exec
  have hb := B.bytes
  have hr := B.returns
  have hts := atoms_spec (ws := wsX4_takeSpare) B.pre
  have hown : s.vm.findClass RX4 = some m.cls := findClass_of_methodNamed B.named
  have hlocks := B.notSynchronized
  subst hsz
  have hD := hD0.self (sz := s.heap.size)
  generalize hAe : va_A (wM a cy T rf sp) s.heap.size = A at hD ⊢
  have hA : ∀ q : Nat, s.heap.size ≤ q → A q := fun q h => by rw [← hAe]; exact Or.inr h
  have hS : va_S A s.heap s.heap [] := va_S.rf
  have hP : va_P G vwCl (wM a cy T rf sp) s.heap := hP
  have hin_X4 : ∀ w ∈ wsX40, w ∈ wsX4_takeSpare := by decide +kernel
  have hl := lv_entry ([.ref (a 0), .int (nI j)]) (n := 3) (Nat.le_of_ble_eq_true rfl)
  rw [lg_entry_eq]
  generalize (lg_sl ([.ref (a 0), .int (nI j)]) ++ List.replicate (3 - (lg_sl ([.ref (a 0), .int (nI j)])).length) Slot.unset).toArray = ls at hl ⊢
  have hl : lv_has ls 3 [(0, .ref (a 0)), (1, .int (nI j))] := hl
  refine lv_iconst (v := 0) hx hb dX4_takeSpare_0 (by decide) ?_
  refine lv_istore_n (lv' := [(2, .int 0), (0, .ref (a 0)), (1, .int (nI j))]) hx hb dX4_takeSpare_1 rfl hl (by decide) rfl (fun ls hl => ?_)
  refine lv_iload_n hx hb dX4_takeSpare_2 rfl (lv_at hl 0 rfl) ?_
  refine lv_iconst (v := 3) hx hb dX4_takeSpare_3 (by decide) ?_
  refine lv_icmp_ge (tgt := 30) hx hb dX4_takeSpare_4 (by decide) (fun c_4 => False.elim (by revert c_4; decide)) (fun c_4 => ?_)
  refine lv_aload_n hx hb dX4_takeSpare_7 rfl (lv_at hl 1 rfl) ?_
  refine va_get (D := G) (ci := 4) (v := .ref (a 7)) (C := RX4) (T := TX4) (N := 16) hx hb hts hin_X4 hown hK hP 0 rfl rfl 11 (by decide) (hts (.fieldLink RX4 28 "MigrationledgerModel" "spare" "[J") (by decide +kernel)) (fun _ h9 => h9) rfl dX4_takeSpare_8 ?_
  refine lv_iload_n hx hb dX4_takeSpare_11 rfl (lv_at hl 0 rfl) ?_
  refine lv_aload_n hx hb dX4_takeSpare_12 rfl (lv_at hl 1 rfl) ?_
  refine va_get (D := G) (ci := 4) (v := .ref (a 6)) (C := RX4) (T := TX4) (N := 16) hx hb hts hin_X4 hown hK hP 0 rfl rfl 10 (by decide) (hts (.fieldLink RX4 25 "MigrationledgerModel" "values" "[I") (by decide +kernel)) (fun _ h9 => h9) rfl dX4_takeSpare_13 ?_
  refine lv_iconst (v := 3) hx hb dX4_takeSpare_16 (by decide) ?_
  refine lv_iload_n hx hb dX4_takeSpare_17 rfl (lv_at hl 2 rfl) ?_
  refine lv_imul hx hb dX4_takeSpare_18 ?_
  refine ml_eqi (nI (3 * j)) (pk_mul 3 j) ?_
  refine lv_iload_n hx hb dX4_takeSpare_19 rfl (lv_at hl 0 rfl) ?_
  refine lv_iadd hx hb dX4_takeSpare_20 ?_
  refine ml_eqi (nI (3 * j)) (nI_add (3 * j) 0) ?_
  refine ml_iald hx hb hK hP 6 0 rfl rfl (3 * j) rfl (by omega) (Nat.le_of_ble_eq_true rfl) ((tX T) (3 * j)) rfl dX4_takeSpare_21 ?_
  refine lv_i2l (v := ((tX T) (3 * j)).toInt64) hx hb dX4_takeSpare_22 rfl ?_
  refine ml_last hx hb hK hP hD hS 7 1 rfl rfl (0) rfl (by decide) (Nat.le_of_ble_eq_true rfl) dX4_takeSpare_23 (fun H locs hP hD hS => ?_)
  have hP : va_P G vwCl (wM a cy T rf (vp_updL sp 0 (((tX T) (3 * j)).toInt64))) H := hP
  have hD : va_D A (wM a cy T rf (vp_updL sp 0 (((tX T) (3 * j)).toInt64))) := hD
  refine lv_iinc (v := 1) (lv' := [(2, .int 1), (0, .ref (a 0)), (1, .int (nI j))]) hx hb dX4_takeSpare_24 hl (k := 0) rfl (by decide) (by decide) rfl (fun ls hl => ?_)
  refine lv_goto (tgt := 2) hx hb dX4_takeSpare_27 (by decide) ?_
  refine lv_iload_n hx hb dX4_takeSpare_2 rfl (lv_at hl 0 rfl) ?_
  refine lv_iconst (v := 3) hx hb dX4_takeSpare_3 (by decide) ?_
  refine lv_icmp_ge (tgt := 30) hx hb dX4_takeSpare_4 (by decide) (fun c_4 => False.elim (by revert c_4; decide)) (fun c_4 => ?_)
  refine lv_aload_n hx hb dX4_takeSpare_7 rfl (lv_at hl 1 rfl) ?_
  refine va_get (D := G) (ci := 4) (v := .ref (a 7)) (C := RX4) (T := TX4) (N := 16) hx hb hts hin_X4 hown hK hP 0 rfl rfl 11 (by decide) (hts (.fieldLink RX4 28 "MigrationledgerModel" "spare" "[J") (by decide +kernel)) (fun _ h9 => h9) rfl dX4_takeSpare_8 ?_
  refine lv_iload_n hx hb dX4_takeSpare_11 rfl (lv_at hl 0 rfl) ?_
  refine lv_aload_n hx hb dX4_takeSpare_12 rfl (lv_at hl 1 rfl) ?_
  refine va_get (D := G) (ci := 4) (v := .ref (a 6)) (C := RX4) (T := TX4) (N := 16) hx hb hts hin_X4 hown hK hP 0 rfl rfl 10 (by decide) (hts (.fieldLink RX4 25 "MigrationledgerModel" "values" "[I") (by decide +kernel)) (fun _ h9 => h9) rfl dX4_takeSpare_13 ?_
  refine lv_iconst (v := 3) hx hb dX4_takeSpare_16 (by decide) ?_
  refine lv_iload_n hx hb dX4_takeSpare_17 rfl (lv_at hl 2 rfl) ?_
  refine lv_imul hx hb dX4_takeSpare_18 ?_
  refine ml_eqi (nI (3 * j)) (pk_mul 3 j) ?_
  refine lv_iload_n hx hb dX4_takeSpare_19 rfl (lv_at hl 0 rfl) ?_
  refine lv_iadd hx hb dX4_takeSpare_20 ?_
  refine ml_eqi (nI (3 * j + 1)) (nI_add (3 * j) 1) ?_
  refine ml_iald hx hb hK hP 6 0 rfl rfl (3 * j + 1) rfl (by omega) (Nat.le_of_ble_eq_true rfl) ((tX T) (3 * j + 1)) rfl dX4_takeSpare_21 ?_
  refine lv_i2l (v := ((tX T) (3 * j + 1)).toInt64) hx hb dX4_takeSpare_22 rfl ?_
  refine ml_last hx hb hK hP hD hS 7 1 rfl rfl (1) rfl (by decide) (Nat.le_of_ble_eq_true rfl) dX4_takeSpare_23 (fun H locs hP hD hS => ?_)
  have hP : va_P G vwCl (wM a cy T rf (vp_updL (vp_updL sp 0 (((tX T) (3 * j)).toInt64)) 1 (((tX T) (3 * j + 1)).toInt64))) H := hP
  have hD : va_D A (wM a cy T rf (vp_updL (vp_updL sp 0 (((tX T) (3 * j)).toInt64)) 1 (((tX T) (3 * j + 1)).toInt64))) := hD
  refine lv_iinc (v := 2) (lv' := [(2, .int 2), (0, .ref (a 0)), (1, .int (nI j))]) hx hb dX4_takeSpare_24 hl (k := 0) rfl (by decide) (by decide) rfl (fun ls hl => ?_)
  refine lv_goto (tgt := 2) hx hb dX4_takeSpare_27 (by decide) ?_
  refine lv_iload_n hx hb dX4_takeSpare_2 rfl (lv_at hl 0 rfl) ?_
  refine lv_iconst (v := 3) hx hb dX4_takeSpare_3 (by decide) ?_
  refine lv_icmp_ge (tgt := 30) hx hb dX4_takeSpare_4 (by decide) (fun c_4 => False.elim (by revert c_4; decide)) (fun c_4 => ?_)
  refine lv_aload_n hx hb dX4_takeSpare_7 rfl (lv_at hl 1 rfl) ?_
  refine va_get (D := G) (ci := 4) (v := .ref (a 7)) (C := RX4) (T := TX4) (N := 16) hx hb hts hin_X4 hown hK hP 0 rfl rfl 11 (by decide) (hts (.fieldLink RX4 28 "MigrationledgerModel" "spare" "[J") (by decide +kernel)) (fun _ h9 => h9) rfl dX4_takeSpare_8 ?_
  refine lv_iload_n hx hb dX4_takeSpare_11 rfl (lv_at hl 0 rfl) ?_
  refine lv_aload_n hx hb dX4_takeSpare_12 rfl (lv_at hl 1 rfl) ?_
  refine va_get (D := G) (ci := 4) (v := .ref (a 6)) (C := RX4) (T := TX4) (N := 16) hx hb hts hin_X4 hown hK hP 0 rfl rfl 10 (by decide) (hts (.fieldLink RX4 25 "MigrationledgerModel" "values" "[I") (by decide +kernel)) (fun _ h9 => h9) rfl dX4_takeSpare_13 ?_
  refine lv_iconst (v := 3) hx hb dX4_takeSpare_16 (by decide) ?_
  refine lv_iload_n hx hb dX4_takeSpare_17 rfl (lv_at hl 2 rfl) ?_
  refine lv_imul hx hb dX4_takeSpare_18 ?_
  refine ml_eqi (nI (3 * j)) (pk_mul 3 j) ?_
  refine lv_iload_n hx hb dX4_takeSpare_19 rfl (lv_at hl 0 rfl) ?_
  refine lv_iadd hx hb dX4_takeSpare_20 ?_
  refine ml_eqi (nI (3 * j + 2)) (nI_add (3 * j) 2) ?_
  refine ml_iald hx hb hK hP 6 0 rfl rfl (3 * j + 2) rfl (by omega) (Nat.le_of_ble_eq_true rfl) ((tX T) (3 * j + 2)) rfl dX4_takeSpare_21 ?_
  refine lv_i2l (v := ((tX T) (3 * j + 2)).toInt64) hx hb dX4_takeSpare_22 rfl ?_
  refine ml_last hx hb hK hP hD hS 7 1 rfl rfl (2) rfl (by decide) (Nat.le_of_ble_eq_true rfl) dX4_takeSpare_23 (fun H locs hP hD hS => ?_)
  have hP : va_P G vwCl (wM a cy T rf (vp_updL (vp_updL (vp_updL sp 0 (((tX T) (3 * j)).toInt64)) 1 (((tX T) (3 * j + 1)).toInt64)) 2 (((tX T) (3 * j + 2)).toInt64))) H := hP
  have hD : va_D A (wM a cy T rf (vp_updL (vp_updL (vp_updL sp 0 (((tX T) (3 * j)).toInt64)) 1 (((tX T) (3 * j + 1)).toInt64)) 2 (((tX T) (3 * j + 2)).toInt64))) := hD
  refine lv_iinc (v := 3) (lv' := [(2, .int 3), (0, .ref (a 0)), (1, .int (nI j))]) hx hb dX4_takeSpare_24 hl (k := 0) rfl (by decide) (by decide) rfl (fun ls hl => ?_)
  refine lv_goto (tgt := 2) hx hb dX4_takeSpare_27 (by decide) ?_
  refine lv_iload_n hx hb dX4_takeSpare_2 rfl (lv_at hl 0 rfl) ?_
  refine lv_iconst (v := 3) hx hb dX4_takeSpare_3 (by decide) ?_
  refine lv_icmp_ge (tgt := 30) hx hb dX4_takeSpare_4 (by decide) (fun c_4 => ?_) (fun c_4 => False.elim (by revert c_4; decide))
  exact ml_rv () hx hb hr hlocks hP hK hD hS rfl trivial dX4_takeSpare_30
set_option maxHeartbeats 4000000 in
set_option maxRecDepth 100000 in
theorem c_X4_tries (l : Launch) (G : va_G) (cy : Nat → ClassId) (a : Nat → Nat) (sz : Nat) (T : TS) (rf : Int32) (sp : Nat → Int64) (j : Nat) (hj : j ≤ 12) (x1 : Int32) (und : Prop) (hx1 : (x1 = 1 ∧ und) ∨ (x1 = 0 ∧ ¬ und)) (hok : okAt T j) (row : Nat → Int32) (hrow : ∀ q, q < 3 → sp q = (row q).toInt64) (hrv : ∀ q, q < 3 → okV (row q).toInt64) : Met l yX4_tries wsX4_tries ({ frames := 1, cells := 0, slots := 0, locals := 21 } : Room) (ml_P G cy [.ref (a 0), .int (nI j), .int x1] (wM a cy T rf sp) sz) (va_Qi (fun (r : Int32) (u : Nat → Int64) => r = b2i ((ap T und j row).isSome = true) ∧ ∀ row2, ap T und j row = some row2 → ∀ q, q < 3 → u q = (row2 q).toInt64) (ml_B G cy (va_A (wM a cy T rf sp) sz) (fun (u : Nat → Int64) => (wM a cy T rf u))) (va_A (wM a cy T rf sp) sz)) 0 0 (va_A (wM a cy T rf sp) sz) := by
  refine Met.ofW (cc := cX4_tries) (maxL := 9) (ret := (some .boolean)) (by decide) rfl ?_
  intro p e s m args below meth c s₁ B hml hv
  obtain ⟨rfl, hsz, hP, hK, hD0, hN⟩ := hv
  have hx := B.exec
  have hb := B.bytes
  have hr := B.returns
  have hts := atoms_spec (ws := wsX4_tries) B.pre
  have hown : s.vm.findClass RX4 = some m.cls := findClass_of_methodNamed B.named
  have hlocks := B.notSynchronized
  subst hsz
  have hD := hD0.self (sz := s.heap.size)
  generalize hAe : va_A (wM a cy T rf sp) s.heap.size = A at hD ⊢
  have hA : ∀ q : Nat, s.heap.size ≤ q → A q := fun q h => by rw [← hAe]; exact Or.inr h
  have hS : va_S A s.heap s.heap [] := va_S.rf
  have hP : va_P G vwCl (wM a cy T rf sp) s.heap := hP
  have hin_X4 : ∀ w ∈ wsX40, w ∈ wsX4_tries := by decide +kernel
  have hl := lv_entry ([.ref (a 0), .int (nI j), .int x1]) (n := 9) (Nat.le_of_ble_eq_true rfl)
  rw [lg_entry_eq]
  generalize (lg_sl ([.ref (a 0), .int (nI j), .int x1]) ++ List.replicate (9 - (lg_sl ([.ref (a 0), .int (nI j), .int x1])).length) Slot.unset).toArray = ls at hl ⊢
  have hl : lv_has ls 9 [(0, .ref (a 0)), (1, .int (nI j)), (2, .int x1)] := hl
  obtain ⟨c0, hc, ec⟩ := okC_n hok.2.1
  refine lv_aload_n hx hb dX4_tries_0 rfl (lv_at hl 0 rfl) ?_
  refine va_get (D := G) (ci := 4) (v := .ref (a 2)) (C := RX4) (T := TX4) (N := 16) hx hb hts hin_X4 hown hK hP 0 rfl rfl 3 (by decide) (hts (.fieldLink RX4 13 "MigrationledgerModel" "columns" "[I") (by decide +kernel)) (fun _ h9 => h9) rfl dX4_tries_1 ?_
  refine lv_iload_n hx hb dX4_tries_4 rfl (lv_at hl 1 rfl) ?_
  refine ml_iald hx hb hK hP 2 0 rfl rfl (j) rfl (by omega) (Nat.le_of_ble_eq_true rfl) (nI c0) ec dX4_tries_5 ?_
  refine lv_istore_n (lv' := [(3, .int (nI c0)), (0, .ref (a 0)), (1, .int (nI j)), (2, .int x1)]) hx hb dX4_tries_6 rfl hl (by decide) rfl (fun ls hl => ?_)
  refine lv_aload_n hx hb dX4_tries_7 rfl (lv_at hl 1 rfl) ?_
  refine va_get (D := G) (ci := 4) (v := .ref (a 3)) (C := RX4) (T := TX4) (N := 16) hx hb hts hin_X4 hown hK hP 0 rfl rfl 4 (by decide) (hts (.fieldLink RX4 16 "MigrationledgerModel" "operands" "[I") (by decide +kernel)) (fun _ h9 => h9) rfl dX4_tries_8 ?_
  refine lv_iload_n hx hb dX4_tries_11 rfl (lv_at hl 2 rfl) ?_
  refine ml_iald hx hb hK hP 3 0 rfl rfl (j) rfl (by omega) (Nat.le_of_ble_eq_true rfl) ((tO T) j) rfl dX4_tries_12 ?_
  refine lv_i2l (v := ((tO T) j).toInt64) hx hb dX4_tries_13 rfl ?_
  refine lv_lstore (lv' := [(4, .long (((tO T) j).toInt64)), (3, .int (nI c0)), (0, .ref (a 0)), (1, .int (nI j)), (2, .int x1)]) hx hb dX4_tries_14 hl (by decide) rfl (fun ls hl => ?_)
  refine lv_aload_n hx hb dX4_tries_16 rfl (lv_at hl 2 rfl) ?_
  refine va_get (D := G) (ci := 4) (v := .ref (a 7)) (C := RX4) (T := TX4) (N := 16) hx hb hts hin_X4 hown hK hP 0 rfl rfl 11 (by decide) (hts (.fieldLink RX4 28 "MigrationledgerModel" "spare" "[J") (by decide +kernel)) (fun _ h9 => h9) rfl dX4_tries_17 ?_
  refine lv_iload_n hx hb dX4_tries_20 rfl (lv_at hl 1 rfl) ?_
  refine ml_lald hx hb hK hP 7 1 rfl rfl (c0) rfl (by omega) (Nat.le_of_ble_eq_true rfl) ((row c0).toInt64) (hrow c0 hc) dX4_tries_21 ?_
  refine lv_lstore (lv' := [(6, .long ((row c0).toInt64)), (4, .long (((tO T) j).toInt64)), (3, .int (nI c0)), (0, .ref (a 0)), (1, .int (nI j)), (2, .int x1)]) hx hb dX4_tries_22 hl (by decide) rfl (fun ls hl => ?_)
  refine lv_iconst (v := 1) hx hb dX4_tries_24 (by decide) ?_
  refine lv_istore (lv' := [(8, .int 1), (6, .long ((row c0).toInt64)), (4, .long (((tO T) j).toInt64)), (3, .int (nI c0)), (0, .ref (a 0)), (1, .int (nI j)), (2, .int x1)]) hx hb dX4_tries_25 hl (by decide) rfl (fun ls hl => ?_)
  refine lv_aload_n hx hb dX4_tries_27 rfl (lv_at hl 4 rfl) ?_
  refine va_get (D := G) (ci := 4) (v := .ref (a 1)) (C := RX4) (T := TX4) (N := 16) hx hb hts hin_X4 hown hK hP 0 rfl rfl 2 (by decide) (hts (.fieldLink RX4 7 "MigrationledgerModel" "kinds" "[I") (by decide +kernel)) (fun _ h9 => h9) rfl dX4_tries_28 ?_
  refine lv_iload_n hx hb dX4_tries_31 rfl (lv_at hl 5 rfl) ?_
  refine ml_iald hx hb hK hP 1 0 rfl rfl (j) rfl (by omega) (Nat.le_of_ble_eq_true rfl) ((tK T) j) rfl dX4_tries_32 ?_
  refine lv_if_ne (tgt := 62) hx hb dX4_tries_33 (by decide) (fun c_33 => ?_) (fun c_33 => ?_)
  · refine lv_aload_n hx hb dX4_tries_62 rfl (lv_at hl 4 rfl) ?_
    refine va_get (D := G) (ci := 4) (v := .ref (a 1)) (C := RX4) (T := TX4) (N := 16) hx hb hts hin_X4 hown hK hP 0 rfl rfl 2 (by decide) (hts (.fieldLink RX4 7 "MigrationledgerModel" "kinds" "[I") (by decide +kernel)) (fun _ h9 => h9) rfl dX4_tries_63 ?_
    refine lv_iload_n hx hb dX4_tries_66 rfl (lv_at hl 5 rfl) ?_
    refine ml_iald hx hb hK hP 1 0 rfl rfl (j) rfl (by omega) (Nat.le_of_ble_eq_true rfl) ((tK T) j) rfl dX4_tries_67 ?_
    refine lv_iconst (v := 2) hx hb dX4_tries_68 (by decide) ?_
    refine lv_icmp_ne (tgt := 105) hx hb dX4_tries_69 (by decide) (fun c_69 => ?_) (fun c_69 => ?_)
    · refine lv_iload_n hx hb dX4_tries_105 rfl (lv_at hl 6 rfl) ?_
      refine lv_if_eq (tgt := 140) hx hb dX4_tries_106 (by decide) (fun c_106 => ?_) (fun c_106 => ?_)
      · refine lv_aload_n hx hb dX4_tries_140 rfl (lv_at hl 4 rfl) ?_
        refine va_get (D := G) (ci := 4) (v := .ref (a 7)) (C := RX4) (T := TX4) (N := 16) hx hb hts hin_X4 hown hK hP 0 rfl rfl 11 (by decide) (hts (.fieldLink RX4 28 "MigrationledgerModel" "spare" "[J") (by decide +kernel)) (fun _ h9 => h9) rfl dX4_tries_141 ?_
        refine lv_iload_n hx hb dX4_tries_144 rfl (lv_at hl 3 rfl) ?_
        refine lv_lload hx hb dX4_tries_145 (lv_at hl 1 rfl) ?_
        refine lv_lload hx hb dX4_tries_147 (lv_at hl 2 rfl) ?_
        refine lv_lmul hx hb dX4_tries_149 ?_
        refine ml_last hx hb hK hP hD hS 7 1 rfl rfl (c0) rfl (by omega) (Nat.le_of_ble_eq_true rfl) dX4_tries_150 (fun H locs hP hD hS => ?_)
        have hP : va_P G vwCl (wM a cy T rf (vp_updL sp c0 (((row c0).toInt64) * (((tO T) j).toInt64)))) H := hP
        have hD : va_D A (wM a cy T rf (vp_updL sp c0 (((row c0).toInt64) * (((tO T) j).toInt64)))) := hD
        refine lv_iload hx hb dX4_tries_151 (lv_at hl 0 rfl) ?_
        refine lv_if_eq (tgt := 172) hx hb dX4_tries_153 (by decide) (fun c_153 => False.elim (by revert c_153; decide)) (fun c_153 => ?_)
        refine lv_aload_n hx hb dX4_tries_156 rfl (lv_at hl 4 rfl) ?_
        refine va_get (D := G) (ci := 4) (v := .ref (a 7)) (C := RX4) (T := TX4) (N := 16) hx hb hts hin_X4 hown hK hP 0 rfl rfl 11 (by decide) (hts (.fieldLink RX4 28 "MigrationledgerModel" "spare" "[J") (by decide +kernel)) (fun _ h9 => h9) rfl dX4_tries_157 ?_
        refine lv_iload_n hx hb dX4_tries_160 rfl (lv_at hl 3 rfl) ?_
        refine ml_lald hx hb hK hP 7 1 rfl rfl (c0) rfl (by omega) (Nat.le_of_ble_eq_true rfl) (((row c0).toInt64) * (((tO T) j).toInt64)) (by simp [vp_updL]) dX4_tries_161 ?_
        refine ml_Si (G := G) (As := [.long (((row c0).toInt64) * (((tO T) j).toInt64))]) (rest := []) ⟨hx, hb, hml, hown, hts⟩ (c_X4_isValue l G cy a H.size T rf (vp_updL sp c0 (((row c0).toInt64) * (((tO T) j).toInt64))) (((row c0).toInt64) * (((tO T) j).toInt64))) (va_cwS 1 hts gX4_tries_X4_isValue rfl rfl rfl (by decide +kernel) ⟨Nat.le_of_ble_eq_true rfl, Nat.le_of_ble_eq_true rfl⟩) hP hK hD hS hN hA rfl hl.1 (Nat.le_of_ble_eq_true rfl) dX4_tries_162 ⟨Nat.le_of_ble_eq_true rfl, Nat.le_of_ble_eq_true rfl⟩ (fun r_162 u_162 H locs hw hP hD hS => ?_)
        obtain rfl : r_162 = b2i (okV (((row c0).toInt64) * (((tO T) j).toInt64))) := hw
        have hP : va_P G vwCl (wM a cy T rf (vp_updL sp c0 (((row c0).toInt64) * (((tO T) j).toInt64)))) H := hP
        have hD : va_D A (wM a cy T rf (vp_updL sp c0 (((row c0).toInt64) * (((tO T) j).toInt64)))) := hD
        refine ml_ifeqb (tgt := 172) hx hb dX4_tries_165 (by decide) (fun c_165 => ?_) (fun c_165 => ?_)
        · refine lv_iconst (v := 0) hx hb dX4_tries_172 (by decide) ?_
          exact ml_rz (vp_updL sp c0 (((row c0).toInt64) * (((tO T) j).toInt64))) hx hb hr hlocks hP hK hD hS rfl rfl (by have q := apM_put (v := (row c0).toInt64 * (tO T j).toInt64) hrow hc ((ap_1 (row := row) (k_1 hok.1 c_33 c_69) ec hc).trans (cif_f (bq_f hx1 c_106))); rw [b2i_f c_165] at q; exact q) dX4_tries_173
        · refine lv_iconst (v := 1) hx hb dX4_tries_168 (by decide) ?_
          refine lv_goto (tgt := 173) hx hb dX4_tries_169 (by decide) ?_
          exact ml_rz (vp_updL sp c0 (((row c0).toInt64) * (((tO T) j).toInt64))) hx hb hr hlocks hP hK hD hS rfl rfl (by have q := apM_put (v := (row c0).toInt64 * (tO T j).toInt64) hrow hc ((ap_1 (row := row) (k_1 hok.1 c_33 c_69) ec hc).trans (cif_f (bq_f hx1 c_106))); rw [b2i_t c_165] at q; exact q) dX4_tries_173
      · refine lv_lload hx hb dX4_tries_109 (lv_at hl 1 rfl) ?_
        refine lv_lload hx hb dX4_tries_111 (lv_at hl 2 rfl) ?_
        refine lv_lrem hx hb dX4_tries_113 (tl_ne ((okO_1 (k_1 hok.1 c_33 c_69)).mp hok.2.2).2) ?_
        refine lv_lconst (v := 0) hx hb dX4_tries_114 rfl ?_
        refine W.lcmp hx hb dX4_tries_115 ?_
        refine lv_if_ne (tgt := 123) hx hb dX4_tries_116 (by decide) (fun c_116 => ?_) (fun c_116 => ?_)
        · have c_116 := fun h => c_116 ((lg_cmp_eq _ _).mpr h)
          refine lv_iconst (v := 0) hx hb dX4_tries_123 (by decide) ?_
          refine lv_istore (lv' := [(8, .int 0), (6, .long ((row c0).toInt64)), (4, .long (((tO T) j).toInt64)), (3, .int (nI c0)), (0, .ref (a 0)), (1, .int (nI j)), (2, .int x1)]) hx hb dX4_tries_124 hl (by decide) rfl (fun ls hl => ?_)
          refine lv_aload_n hx hb dX4_tries_126 rfl (lv_at hl 4 rfl) ?_
          refine va_get (D := G) (ci := 4) (v := .ref (a 7)) (C := RX4) (T := TX4) (N := 16) hx hb hts hin_X4 hown hK hP 0 rfl rfl 11 (by decide) (hts (.fieldLink RX4 28 "MigrationledgerModel" "spare" "[J") (by decide +kernel)) (fun _ h9 => h9) rfl dX4_tries_127 ?_
          refine lv_iload_n hx hb dX4_tries_130 rfl (lv_at hl 3 rfl) ?_
          refine lv_lload hx hb dX4_tries_131 (lv_at hl 1 rfl) ?_
          refine lv_lload hx hb dX4_tries_133 (lv_at hl 2 rfl) ?_
          refine lv_ldiv hx hb dX4_tries_135 (tl_ne ((okO_1 (k_1 hok.1 c_33 c_69)).mp hok.2.2).2) ?_
          refine ml_last hx hb hK hP hD hS 7 1 rfl rfl (c0) rfl (by omega) (Nat.le_of_ble_eq_true rfl) dX4_tries_136 (fun H locs hP hD hS => ?_)
          have hP : va_P G vwCl (wM a cy T rf (vp_updL sp c0 (((row c0).toInt64) / (((tO T) j).toInt64)))) H := hP
          have hD : va_D A (wM a cy T rf (vp_updL sp c0 (((row c0).toInt64) / (((tO T) j).toInt64)))) := hD
          refine lv_goto (tgt := 151) hx hb dX4_tries_137 (by decide) ?_
          refine lv_iload hx hb dX4_tries_151 (lv_at hl 0 rfl) ?_
          refine lv_if_eq (tgt := 172) hx hb dX4_tries_153 (by decide) (fun c_153 => ?_) (fun c_153 => False.elim (by revert c_153; decide))
          refine lv_iconst (v := 0) hx hb dX4_tries_172 (by decide) ?_
          exact ml_rz (vp_updL sp c0 (((row c0).toInt64) / (((tO T) j).toInt64))) hx hb hr hlocks hP hK hD hS rfl rfl (apM_f ((ap_1 (row := row) (k_1 hok.1 c_33 c_69) ec hc).trans ((cif_t (bq_t hx1 c_106)).trans (cif_f c_116)))) dX4_tries_173
        · have c_116 := (lg_cmp_eq _ _).mp c_116
          refine lv_iconst (v := 1) hx hb dX4_tries_119 (by decide) ?_
          refine lv_goto (tgt := 124) hx hb dX4_tries_120 (by decide) ?_
          refine lv_istore (lv' := [(8, .int 1), (6, .long ((row c0).toInt64)), (4, .long (((tO T) j).toInt64)), (3, .int (nI c0)), (0, .ref (a 0)), (1, .int (nI j)), (2, .int x1)]) hx hb dX4_tries_124 hl (by decide) rfl (fun ls hl => ?_)
          refine lv_aload_n hx hb dX4_tries_126 rfl (lv_at hl 4 rfl) ?_
          refine va_get (D := G) (ci := 4) (v := .ref (a 7)) (C := RX4) (T := TX4) (N := 16) hx hb hts hin_X4 hown hK hP 0 rfl rfl 11 (by decide) (hts (.fieldLink RX4 28 "MigrationledgerModel" "spare" "[J") (by decide +kernel)) (fun _ h9 => h9) rfl dX4_tries_127 ?_
          refine lv_iload_n hx hb dX4_tries_130 rfl (lv_at hl 3 rfl) ?_
          refine lv_lload hx hb dX4_tries_131 (lv_at hl 1 rfl) ?_
          refine lv_lload hx hb dX4_tries_133 (lv_at hl 2 rfl) ?_
          refine lv_ldiv hx hb dX4_tries_135 (tl_ne ((okO_1 (k_1 hok.1 c_33 c_69)).mp hok.2.2).2) ?_
          refine ml_last hx hb hK hP hD hS 7 1 rfl rfl (c0) rfl (by omega) (Nat.le_of_ble_eq_true rfl) dX4_tries_136 (fun H locs hP hD hS => ?_)
          have hP : va_P G vwCl (wM a cy T rf (vp_updL sp c0 (((row c0).toInt64) / (((tO T) j).toInt64)))) H := hP
          have hD : va_D A (wM a cy T rf (vp_updL sp c0 (((row c0).toInt64) / (((tO T) j).toInt64)))) := hD
          refine lv_goto (tgt := 151) hx hb dX4_tries_137 (by decide) ?_
          refine lv_iload hx hb dX4_tries_151 (lv_at hl 0 rfl) ?_
          refine lv_if_eq (tgt := 172) hx hb dX4_tries_153 (by decide) (fun c_153 => False.elim (by revert c_153; decide)) (fun c_153 => ?_)
          refine lv_aload_n hx hb dX4_tries_156 rfl (lv_at hl 4 rfl) ?_
          refine va_get (D := G) (ci := 4) (v := .ref (a 7)) (C := RX4) (T := TX4) (N := 16) hx hb hts hin_X4 hown hK hP 0 rfl rfl 11 (by decide) (hts (.fieldLink RX4 28 "MigrationledgerModel" "spare" "[J") (by decide +kernel)) (fun _ h9 => h9) rfl dX4_tries_157 ?_
          refine lv_iload_n hx hb dX4_tries_160 rfl (lv_at hl 3 rfl) ?_
          refine ml_lald hx hb hK hP 7 1 rfl rfl (c0) rfl (by omega) (Nat.le_of_ble_eq_true rfl) (((row c0).toInt64) / (((tO T) j).toInt64)) (by simp [vp_updL]) dX4_tries_161 ?_
          refine ml_Si (G := G) (As := [.long (((row c0).toInt64) / (((tO T) j).toInt64))]) (rest := []) ⟨hx, hb, hml, hown, hts⟩ (c_X4_isValue l G cy a H.size T rf (vp_updL sp c0 (((row c0).toInt64) / (((tO T) j).toInt64))) (((row c0).toInt64) / (((tO T) j).toInt64))) (va_cwS 1 hts gX4_tries_X4_isValue rfl rfl rfl (by decide +kernel) ⟨Nat.le_of_ble_eq_true rfl, Nat.le_of_ble_eq_true rfl⟩) hP hK hD hS hN hA rfl hl.1 (Nat.le_of_ble_eq_true rfl) dX4_tries_162 ⟨Nat.le_of_ble_eq_true rfl, Nat.le_of_ble_eq_true rfl⟩ (fun r_162 u_162 H locs hw hP hD hS => ?_)
          obtain rfl : r_162 = b2i (okV (((row c0).toInt64) / (((tO T) j).toInt64))) := hw
          have hP : va_P G vwCl (wM a cy T rf (vp_updL sp c0 (((row c0).toInt64) / (((tO T) j).toInt64)))) H := hP
          have hD : va_D A (wM a cy T rf (vp_updL sp c0 (((row c0).toInt64) / (((tO T) j).toInt64)))) := hD
          refine ml_ifeqb (tgt := 172) hx hb dX4_tries_165 (by decide) (fun c_165 => ?_) (fun c_165 => ?_)
          · refine lv_iconst (v := 0) hx hb dX4_tries_172 (by decide) ?_
            exact ml_rz (vp_updL sp c0 (((row c0).toInt64) / (((tO T) j).toInt64))) hx hb hr hlocks hP hK hD hS rfl rfl (by have q := apM_put (v := (row c0).toInt64 / (tO T j).toInt64) hrow hc ((ap_1 (row := row) (k_1 hok.1 c_33 c_69) ec hc).trans ((cif_t (bq_t hx1 c_106)).trans (cif_t c_116))); rw [b2i_f c_165] at q; exact q) dX4_tries_173
          · refine lv_iconst (v := 1) hx hb dX4_tries_168 (by decide) ?_
            refine lv_goto (tgt := 173) hx hb dX4_tries_169 (by decide) ?_
            exact ml_rz (vp_updL sp c0 (((row c0).toInt64) / (((tO T) j).toInt64))) hx hb hr hlocks hP hK hD hS rfl rfl (by have q := apM_put (v := (row c0).toInt64 / (tO T j).toInt64) hrow hc ((ap_1 (row := row) (k_1 hok.1 c_33 c_69) ec hc).trans ((cif_t (bq_t hx1 c_106)).trans (cif_t c_116))); rw [b2i_t c_165] at q; exact q) dX4_tries_173
    · obtain ⟨ho9, -⟩ := (okO_2 c_33 (fun q => absurd (q.symm.trans c_69) (by decide))).mp hok.2.2
      obtain ⟨o0, ho, eo⟩ := okC_n ho9
      refine lv_aload_n hx hb dX4_tries_72 rfl (lv_at hl 4 rfl) ?_
      refine va_get (D := G) (ci := 4) (v := .ref (a 7)) (C := RX4) (T := TX4) (N := 16) hx hb hts hin_X4 hown hK hP 0 rfl rfl 11 (by decide) (hts (.fieldLink RX4 28 "MigrationledgerModel" "spare" "[J") (by decide +kernel)) (fun _ h9 => h9) rfl dX4_tries_73 ?_
      refine lv_iload_n hx hb dX4_tries_76 rfl (lv_at hl 3 rfl) ?_
      refine lv_aload_n hx hb dX4_tries_77 rfl (lv_at hl 4 rfl) ?_
      refine va_get (D := G) (ci := 4) (v := .ref (a 7)) (C := RX4) (T := TX4) (N := 16) hx hb hts hin_X4 hown hK hP 0 rfl rfl 11 (by decide) (hts (.fieldLink RX4 28 "MigrationledgerModel" "spare" "[J") (by decide +kernel)) (fun _ h9 => h9) rfl dX4_tries_78 ?_
      refine lv_aload_n hx hb dX4_tries_81 rfl (lv_at hl 4 rfl) ?_
      refine va_get (D := G) (ci := 4) (v := .ref (a 3)) (C := RX4) (T := TX4) (N := 16) hx hb hts hin_X4 hown hK hP 0 rfl rfl 4 (by decide) (hts (.fieldLink RX4 16 "MigrationledgerModel" "operands" "[I") (by decide +kernel)) (fun _ h9 => h9) rfl dX4_tries_82 ?_
      refine lv_iload_n hx hb dX4_tries_85 rfl (lv_at hl 5 rfl) ?_
      refine ml_iald hx hb hK hP 3 0 rfl rfl (j) rfl (by omega) (Nat.le_of_ble_eq_true rfl) (nI o0) eo dX4_tries_86 ?_
      refine ml_lald hx hb hK hP 7 1 rfl rfl (o0) rfl (by omega) (Nat.le_of_ble_eq_true rfl) ((row o0).toInt64) (hrow o0 ho) dX4_tries_87 ?_
      refine ml_last hx hb hK hP hD hS 7 1 rfl rfl (c0) rfl (by omega) (Nat.le_of_ble_eq_true rfl) dX4_tries_88 (fun H locs hP hD hS => ?_)
      have hP : va_P G vwCl (wM a cy T rf (vp_updL sp c0 ((row o0).toInt64))) H := hP
      have hD : va_D A (wM a cy T rf (vp_updL sp c0 ((row o0).toInt64))) := hD
      refine lv_aload_n hx hb dX4_tries_89 rfl (lv_at hl 4 rfl) ?_
      refine va_get (D := G) (ci := 4) (v := .ref (a 7)) (C := RX4) (T := TX4) (N := 16) hx hb hts hin_X4 hown hK hP 0 rfl rfl 11 (by decide) (hts (.fieldLink RX4 28 "MigrationledgerModel" "spare" "[J") (by decide +kernel)) (fun _ h9 => h9) rfl dX4_tries_90 ?_
      refine lv_aload_n hx hb dX4_tries_93 rfl (lv_at hl 4 rfl) ?_
      refine va_get (D := G) (ci := 4) (v := .ref (a 3)) (C := RX4) (T := TX4) (N := 16) hx hb hts hin_X4 hown hK hP 0 rfl rfl 4 (by decide) (hts (.fieldLink RX4 16 "MigrationledgerModel" "operands" "[I") (by decide +kernel)) (fun _ h9 => h9) rfl dX4_tries_94 ?_
      refine lv_iload_n hx hb dX4_tries_97 rfl (lv_at hl 5 rfl) ?_
      refine ml_iald hx hb hK hP 3 0 rfl rfl (j) rfl (by omega) (Nat.le_of_ble_eq_true rfl) (nI o0) eo dX4_tries_98 ?_
      refine lv_lload hx hb dX4_tries_99 (lv_at hl 1 rfl) ?_
      refine ml_last hx hb hK hP hD hS 7 1 rfl rfl (o0) rfl (by omega) (Nat.le_of_ble_eq_true rfl) dX4_tries_101 (fun H locs hP hD hS => ?_)
      have hP : va_P G vwCl (wM a cy T rf (vp_updL (vp_updL sp c0 ((row o0).toInt64)) o0 ((row c0).toInt64))) H := hP
      have hD : va_D A (wM a cy T rf (vp_updL (vp_updL sp c0 ((row o0).toInt64)) o0 ((row c0).toInt64))) := hD
      refine lv_goto (tgt := 151) hx hb dX4_tries_102 (by decide) ?_
      refine lv_iload hx hb dX4_tries_151 (lv_at hl 0 rfl) ?_
      refine lv_if_eq (tgt := 172) hx hb dX4_tries_153 (by decide) (fun c_153 => False.elim (by revert c_153; decide)) (fun c_153 => ?_)
      refine lv_aload_n hx hb dX4_tries_156 rfl (lv_at hl 4 rfl) ?_
      refine va_get (D := G) (ci := 4) (v := .ref (a 7)) (C := RX4) (T := TX4) (N := 16) hx hb hts hin_X4 hown hK hP 0 rfl rfl 11 (by decide) (hts (.fieldLink RX4 28 "MigrationledgerModel" "spare" "[J") (by decide +kernel)) (fun _ h9 => h9) rfl dX4_tries_157 ?_
      refine lv_iload_n hx hb dX4_tries_160 rfl (lv_at hl 3 rfl) ?_
      refine ml_lald hx hb hK hP 7 1 rfl rfl (c0) rfl (by omega) (Nat.le_of_ble_eq_true rfl) ((row o0).toInt64) (by by_cases h : c0 = o0 <;> simp [vp_updL, h]) dX4_tries_161 ?_
      refine ml_Si (G := G) (As := [.long ((row o0).toInt64)]) (rest := []) ⟨hx, hb, hml, hown, hts⟩ (c_X4_isValue l G cy a H.size T rf (vp_updL (vp_updL sp c0 ((row o0).toInt64)) o0 ((row c0).toInt64)) ((row o0).toInt64)) (va_cwS 1 hts gX4_tries_X4_isValue rfl rfl rfl (by decide +kernel) ⟨Nat.le_of_ble_eq_true rfl, Nat.le_of_ble_eq_true rfl⟩) hP hK hD hS hN hA rfl hl.1 (Nat.le_of_ble_eq_true rfl) dX4_tries_162 ⟨Nat.le_of_ble_eq_true rfl, Nat.le_of_ble_eq_true rfl⟩ (fun r_162 u_162 H locs hw hP hD hS => ?_)
      obtain rfl : r_162 = b2i (okV ((row o0).toInt64)) := hw
      have hP : va_P G vwCl (wM a cy T rf (vp_updL (vp_updL sp c0 ((row o0).toInt64)) o0 ((row c0).toInt64))) H := hP
      have hD : va_D A (wM a cy T rf (vp_updL (vp_updL sp c0 ((row o0).toInt64)) o0 ((row c0).toInt64))) := hD
      refine ml_ifeqb (tgt := 172) hx hb dX4_tries_165 (by decide) (fun c_165 => False.elim (c_165 (hrv o0 ho))) (fun c_165 => ?_)
      refine lv_iconst (v := 1) hx hb dX4_tries_168 (by decide) ?_
      refine lv_goto (tgt := 173) hx hb dX4_tries_169 (by decide) ?_
      exact ml_rz (vp_updL (vp_updL sp c0 ((row o0).toInt64)) o0 ((row c0).toInt64)) hx hb hr hlocks hP hK hD hS rfl rfl (apM_sw hrow hc ho (ap_2 c_33 (fun q => absurd (q.symm.trans c_69) (by decide)) ec hc eo ho)) dX4_tries_173
  · refine lv_aload_n hx hb dX4_tries_36 rfl (lv_at hl 4 rfl) ?_
    refine va_get (D := G) (ci := 4) (v := .ref (a 7)) (C := RX4) (T := TX4) (N := 16) hx hb hts hin_X4 hown hK hP 0 rfl rfl 11 (by decide) (hts (.fieldLink RX4 28 "MigrationledgerModel" "spare" "[J") (by decide +kernel)) (fun _ h9 => h9) rfl dX4_tries_37 ?_
    refine lv_iload_n hx hb dX4_tries_40 rfl (lv_at hl 3 rfl) ?_
    refine lv_iload_n hx hb dX4_tries_41 rfl (lv_at hl 6 rfl) ?_
    refine lv_if_eq (tgt := 53) hx hb dX4_tries_42 (by decide) (fun c_42 => ?_) (fun c_42 => ?_)
    · refine lv_lload hx hb dX4_tries_53 (lv_at hl 1 rfl) ?_
      refine lv_lload hx hb dX4_tries_55 (lv_at hl 2 rfl) ?_
      refine lv_ladd hx hb dX4_tries_57 ?_
      refine ml_last hx hb hK hP hD hS 7 1 rfl rfl (c0) rfl (by omega) (Nat.le_of_ble_eq_true rfl) dX4_tries_58 (fun H locs hP hD hS => ?_)
      have hP : va_P G vwCl (wM a cy T rf (vp_updL sp c0 (((row c0).toInt64) + (((tO T) j).toInt64)))) H := hP
      have hD : va_D A (wM a cy T rf (vp_updL sp c0 (((row c0).toInt64) + (((tO T) j).toInt64)))) := hD
      refine lv_goto (tgt := 151) hx hb dX4_tries_59 (by decide) ?_
      refine lv_iload hx hb dX4_tries_151 (lv_at hl 0 rfl) ?_
      refine lv_if_eq (tgt := 172) hx hb dX4_tries_153 (by decide) (fun c_153 => False.elim (by revert c_153; decide)) (fun c_153 => ?_)
      refine lv_aload_n hx hb dX4_tries_156 rfl (lv_at hl 4 rfl) ?_
      refine va_get (D := G) (ci := 4) (v := .ref (a 7)) (C := RX4) (T := TX4) (N := 16) hx hb hts hin_X4 hown hK hP 0 rfl rfl 11 (by decide) (hts (.fieldLink RX4 28 "MigrationledgerModel" "spare" "[J") (by decide +kernel)) (fun _ h9 => h9) rfl dX4_tries_157 ?_
      refine lv_iload_n hx hb dX4_tries_160 rfl (lv_at hl 3 rfl) ?_
      refine ml_lald hx hb hK hP 7 1 rfl rfl (c0) rfl (by omega) (Nat.le_of_ble_eq_true rfl) (((row c0).toInt64) + (((tO T) j).toInt64)) (by simp [vp_updL]) dX4_tries_161 ?_
      refine ml_Si (G := G) (As := [.long (((row c0).toInt64) + (((tO T) j).toInt64))]) (rest := []) ⟨hx, hb, hml, hown, hts⟩ (c_X4_isValue l G cy a H.size T rf (vp_updL sp c0 (((row c0).toInt64) + (((tO T) j).toInt64))) (((row c0).toInt64) + (((tO T) j).toInt64))) (va_cwS 1 hts gX4_tries_X4_isValue rfl rfl rfl (by decide +kernel) ⟨Nat.le_of_ble_eq_true rfl, Nat.le_of_ble_eq_true rfl⟩) hP hK hD hS hN hA rfl hl.1 (Nat.le_of_ble_eq_true rfl) dX4_tries_162 ⟨Nat.le_of_ble_eq_true rfl, Nat.le_of_ble_eq_true rfl⟩ (fun r_162 u_162 H locs hw hP hD hS => ?_)
      obtain rfl : r_162 = b2i (okV (((row c0).toInt64) + (((tO T) j).toInt64))) := hw
      have hP : va_P G vwCl (wM a cy T rf (vp_updL sp c0 (((row c0).toInt64) + (((tO T) j).toInt64)))) H := hP
      have hD : va_D A (wM a cy T rf (vp_updL sp c0 (((row c0).toInt64) + (((tO T) j).toInt64)))) := hD
      refine ml_ifeqb (tgt := 172) hx hb dX4_tries_165 (by decide) (fun c_165 => ?_) (fun c_165 => ?_)
      · refine lv_iconst (v := 0) hx hb dX4_tries_172 (by decide) ?_
        exact ml_rz (vp_updL sp c0 (((row c0).toInt64) + (((tO T) j).toInt64))) hx hb hr hlocks hP hK hD hS rfl rfl (by have q := apM_put (v := (row c0).toInt64 + (tO T j).toInt64) hrow hc ((ap_0 (row := row) c_33 ec hc).trans (by rw [cif_f (bq_f hx1 c_42)])); rw [b2i_f c_165] at q; exact q) dX4_tries_173
      · refine lv_iconst (v := 1) hx hb dX4_tries_168 (by decide) ?_
        refine lv_goto (tgt := 173) hx hb dX4_tries_169 (by decide) ?_
        exact ml_rz (vp_updL sp c0 (((row c0).toInt64) + (((tO T) j).toInt64))) hx hb hr hlocks hP hK hD hS rfl rfl (by have q := apM_put (v := (row c0).toInt64 + (tO T j).toInt64) hrow hc ((ap_0 (row := row) c_33 ec hc).trans (by rw [cif_f (bq_f hx1 c_42)])); rw [b2i_t c_165] at q; exact q) dX4_tries_173
    · refine lv_lload hx hb dX4_tries_45 (lv_at hl 1 rfl) ?_
      refine lv_lload hx hb dX4_tries_47 (lv_at hl 2 rfl) ?_
      refine lv_lsub hx hb dX4_tries_49 ?_
      refine lv_goto (tgt := 58) hx hb dX4_tries_50 (by decide) ?_
      refine ml_last hx hb hK hP hD hS 7 1 rfl rfl (c0) rfl (by omega) (Nat.le_of_ble_eq_true rfl) dX4_tries_58 (fun H locs hP hD hS => ?_)
      have hP : va_P G vwCl (wM a cy T rf (vp_updL sp c0 (((row c0).toInt64) - (((tO T) j).toInt64)))) H := hP
      have hD : va_D A (wM a cy T rf (vp_updL sp c0 (((row c0).toInt64) - (((tO T) j).toInt64)))) := hD
      refine lv_goto (tgt := 151) hx hb dX4_tries_59 (by decide) ?_
      refine lv_iload hx hb dX4_tries_151 (lv_at hl 0 rfl) ?_
      refine lv_if_eq (tgt := 172) hx hb dX4_tries_153 (by decide) (fun c_153 => False.elim (by revert c_153; decide)) (fun c_153 => ?_)
      refine lv_aload_n hx hb dX4_tries_156 rfl (lv_at hl 4 rfl) ?_
      refine va_get (D := G) (ci := 4) (v := .ref (a 7)) (C := RX4) (T := TX4) (N := 16) hx hb hts hin_X4 hown hK hP 0 rfl rfl 11 (by decide) (hts (.fieldLink RX4 28 "MigrationledgerModel" "spare" "[J") (by decide +kernel)) (fun _ h9 => h9) rfl dX4_tries_157 ?_
      refine lv_iload_n hx hb dX4_tries_160 rfl (lv_at hl 3 rfl) ?_
      refine ml_lald hx hb hK hP 7 1 rfl rfl (c0) rfl (by omega) (Nat.le_of_ble_eq_true rfl) (((row c0).toInt64) - (((tO T) j).toInt64)) (by simp [vp_updL]) dX4_tries_161 ?_
      refine ml_Si (G := G) (As := [.long (((row c0).toInt64) - (((tO T) j).toInt64))]) (rest := []) ⟨hx, hb, hml, hown, hts⟩ (c_X4_isValue l G cy a H.size T rf (vp_updL sp c0 (((row c0).toInt64) - (((tO T) j).toInt64))) (((row c0).toInt64) - (((tO T) j).toInt64))) (va_cwS 1 hts gX4_tries_X4_isValue rfl rfl rfl (by decide +kernel) ⟨Nat.le_of_ble_eq_true rfl, Nat.le_of_ble_eq_true rfl⟩) hP hK hD hS hN hA rfl hl.1 (Nat.le_of_ble_eq_true rfl) dX4_tries_162 ⟨Nat.le_of_ble_eq_true rfl, Nat.le_of_ble_eq_true rfl⟩ (fun r_162 u_162 H locs hw hP hD hS => ?_)
      obtain rfl : r_162 = b2i (okV (((row c0).toInt64) - (((tO T) j).toInt64))) := hw
      have hP : va_P G vwCl (wM a cy T rf (vp_updL sp c0 (((row c0).toInt64) - (((tO T) j).toInt64)))) H := hP
      have hD : va_D A (wM a cy T rf (vp_updL sp c0 (((row c0).toInt64) - (((tO T) j).toInt64)))) := hD
      refine ml_ifeqb (tgt := 172) hx hb dX4_tries_165 (by decide) (fun c_165 => ?_) (fun c_165 => ?_)
      · refine lv_iconst (v := 0) hx hb dX4_tries_172 (by decide) ?_
        exact ml_rz (vp_updL sp c0 (((row c0).toInt64) - (((tO T) j).toInt64))) hx hb hr hlocks hP hK hD hS rfl rfl (by have q := apM_put (v := (row c0).toInt64 - (tO T j).toInt64) hrow hc ((ap_0 (row := row) c_33 ec hc).trans (by rw [cif_t (bq_t hx1 c_42)])); rw [b2i_f c_165] at q; exact q) dX4_tries_173
      · refine lv_iconst (v := 1) hx hb dX4_tries_168 (by decide) ?_
        refine lv_goto (tgt := 173) hx hb dX4_tries_169 (by decide) ?_
        exact ml_rz (vp_updL sp c0 (((row c0).toInt64) - (((tO T) j).toInt64))) hx hb hr hlocks hP hK hD hS rfl rfl (by have q := apM_put (v := (row c0).toInt64 - (tO T j).toInt64) hrow hc ((ap_0 (row := row) c_33 ec hc).trans (by rw [cif_t (bq_t hx1 c_42)])); rw [b2i_t c_165] at q; exact q) dX4_tries_173
