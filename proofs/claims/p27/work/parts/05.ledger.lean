set_option maxHeartbeats 4000000 in
set_option maxRecDepth 100000 in
theorem c_X3_isColumn (l : Launch) (G : va_G) (cy : Nat → ClassId) (a : Nat → Nat) (sz : Nat) (T : TS) (tr : Nat → Int32) (x : Int32) : Met l yX3_isColumn wsX3_isColumn ({ frames := 0, cells := 0, slots := 0, locals := 0 } : Room) (ml_P G cy [.int x] (wC a cy T tr) sz) (va_Qi (fun (r : Int32) (_ : Unit) => r = b2i (inR x 0 2)) (ml_B G cy (va_A (wC a cy T tr) sz) (fun (_ : Unit) => (wC a cy T tr))) (va_A (wC a cy T tr) sz)) 0 0 (va_A (wC a cy T tr) sz) := by
  refine Met.ofW (cc := cX3_isColumn) (maxL := 1) (ret := (some .boolean)) (by decide) rfl ?_
  intro p e s m args below meth c s₁ B hml hv
  obtain ⟨rfl, hsz, hP, hK, hD0, hN⟩ := hv
  have hx := B.exec
  have hb := B.bytes
  have hr := B.returns
  have hts := atoms_spec (ws := wsX3_isColumn) B.pre
  have hown : s.vm.findClass RX3 = some m.cls := findClass_of_methodNamed B.named
  have hlocks := B.notSynchronized
  subst hsz
  have hD := hD0.self (sz := s.heap.size)
  generalize hAe : va_A (wC a cy T tr) s.heap.size = A at hD ⊢
  have hA : ∀ q : Nat, s.heap.size ≤ q → A q := fun q h => by rw [← hAe]; exact Or.inr h
  have hS : va_S A s.heap s.heap [] := va_S.rf
  have hP : va_P G vwCl (wC a cy T tr) s.heap := hP
  have hl := lv_entry ([.int x]) (n := 1) (Nat.le_of_ble_eq_true rfl)
  rw [lg_entry_eq]
  generalize (lg_sl ([.int x]) ++ List.replicate (1 - (lg_sl ([.int x])).length) Slot.unset).toArray = ls at hl ⊢
  have hl : lv_has ls 1 [(0, .int x)] := hl
  refine lv_iload_n hx hb dX3_isColumn_0 rfl (lv_at hl 0 rfl) ?_
  refine lv_if_lt (tgt := 13) hx hb dX3_isColumn_1 (by decide) (fun c_1 => ?_) (fun c_1 => ?_)
  · refine lv_iconst (v := 0) hx hb dX3_isColumn_13 (by decide) ?_
    exact ml_rz () hx hb hr hlocks hP hK hD hS rfl rfl (b2i_f' (nR_a c_1)) dX3_isColumn_14
  · refine lv_iload_n hx hb dX3_isColumn_4 rfl (lv_at hl 0 rfl) ?_
    refine lv_iconst (v := 3) hx hb dX3_isColumn_5 (by decide) ?_
    refine lv_icmp_ge (tgt := 13) hx hb dX3_isColumn_6 (by decide) (fun c_6 => ?_) (fun c_6 => ?_)
    · refine lv_iconst (v := 0) hx hb dX3_isColumn_13 (by decide) ?_
      exact ml_rz () hx hb hr hlocks hP hK hD hS rfl rfl (b2i_f' (nR_d (h1 := 3) (by decide) c_6)) dX3_isColumn_14
    · refine lv_iconst (v := 1) hx hb dX3_isColumn_9 (by decide) ?_
      refine lv_goto (tgt := 14) hx hb dX3_isColumn_10 (by decide) ?_
      exact ml_rz () hx hb hr hlocks hP hK hD hS rfl rfl (b2i_t' (inR_a (h1 := 3) (by decide) c_1 (Int32.not_le.mp c_6))) dX3_isColumn_14
set_option maxHeartbeats 4000000 in
set_option maxRecDepth 100000 in
theorem c_X3_requireColumn (l : Launch) (hlt : l.stackTraces = false) (G : va_G) (cy : Nat → ClassId) (a : Nat → Nat) (sz : Nat) (T : TS) (tr : Nat → Int32) (x : Int32) : vy_Met l yX3_requireColumn wsX3_requireColumn ({ frames := 6, cells := 1, slots := 6, locals := 82 } : Room) (ml_PX G cy [.int x] (wC a cy T tr) sz) (va_Qv (fun (_ : Unit) => inR x 0 2) (ml_B G cy (va_A (wC a cy T tr) sz) (fun (_ : Unit) => (wC a cy T tr))) (va_A (wC a cy T tr) sz)) (ml_XC G cy (va_A (wC a cy T tr) sz) (wC a cy T tr) (fun E => E = eIA ∧ ¬ inR x 0 2)) 1 6 (va_A (wC a cy T tr) sz) := by
  refine vy_ofW (cc := cX3_requireColumn) (maxL := 1) (ret := none) (by decide) rfl ?_
  intro p e s m args below meth c s₁ B hml hout hv
  obtain ⟨rfl, hsz, hP, hK, hD0, hN, hE⟩ := hv
  have hx := B.exec
  have hb := B.bytes
  have hr := B.returns
  have hts := atoms_spec (ws := wsX3_requireColumn) B.pre
  have hown : s.vm.findClass RX3 = some m.cls := findClass_of_methodNamed B.named
  have hlocks := B.notSynchronized
  subst hsz
  have hD := hD0.self (sz := s.heap.size)
  generalize hAe : va_A (wC a cy T tr) s.heap.size = A at hD hE ⊢
  have hA : ∀ q : Nat, s.heap.size ≤ q → A q := fun q h => by rw [← hAe]; exact Or.inr h
  have hS : va_S A s.heap s.heap [] := va_S.rf
  have hP : va_P G vwCl (wC a cy T tr) s.heap := hP
  have hl := lv_entry ([.int x]) (n := 1) (Nat.le_of_ble_eq_true rfl)
  rw [lg_entry_eq]
  generalize (lg_sl ([.int x]) ++ List.replicate (1 - (lg_sl ([.int x])).length) Slot.unset).toArray = ls at hl ⊢
  have hl : lv_has ls 1 [(0, .int x)] := hl
  refine lv_iload_n hx hb dX3_requireColumn_0 rfl (lv_at hl 0 rfl) ?_
  refine ml_Si (G := G) (As := [.int x]) (rest := []) ⟨hx, hb, hml, hown, hts⟩ (c_X3_isColumn l G cy a s.heap.size T tr x) (va_cwS 1 hts gX3_requireColumn_X3_isColumn rfl rfl rfl (by decide +kernel) ⟨Nat.le_of_ble_eq_true rfl, Nat.le_of_ble_eq_true rfl⟩) hP hK hD hS hN hA rfl hl.1 (Nat.le_of_ble_eq_true rfl) dX3_requireColumn_1 ⟨Nat.le_of_ble_eq_true rfl, Nat.le_of_ble_eq_true rfl⟩ (fun r_1 u_1 H locs hw hP hD hS => ?_)
  obtain rfl : r_1 = b2i (inR x 0 2) := hw
  have hP : va_P G vwCl (wC a cy T tr) H := hP
  have hD : va_D A (wC a cy T tr) := hD
  refine ml_ifneb (tgt := 18) hx hb dX3_requireColumn_4 (by decide) (fun c_4 => ?_) (fun c_4 => ?_)
  · exact vy_ret (ml_rv () hx hb hr hlocks hP hK hD hS rfl c_4 dX3_requireColumn_18)
  · exact ml_thr true hx hb hlt hown rfl (by decide) (text := "a column is 0 to 2") (by decide) (hts (.classLink RX3 122 eIA) (by decide +kernel)) (hts (.initialized eIA) (by decide +kernel)) (fun w h => hts w (List.mem_cons_of_mem _ (List.mem_append_right _ h))) th_ng126 th_gd126 hP hK hD hE hS (hl.1.trans hml.symm) dX3_requireColumn_7 dX3_requireColumn_10 dX3_requireColumn_11 dX3_requireColumn_14 dX3_requireColumn_17 hout (Nat.le_of_ble_eq_true rfl) (Nat.le_of_ble_eq_true rfl) (Nat.le_of_ble_eq_true rfl) (Nat.le_of_ble_eq_true rfl) hlocks (⟨rfl, c_4⟩) (Nat.le_of_ble_eq_true rfl) (Nat.le_of_ble_eq_true rfl)
set_option maxHeartbeats 4000000 in
set_option maxRecDepth 100000 in
theorem c_X3_isOperand (l : Launch) (G : va_G) (cy : Nat → ClassId) (a : Nat → Nat) (sz : Nat) (T : TS) (tr : Nat → Int32) (x : Int32) (y : Int32) (z : Int32) : Met l yX3_isOperand wsX3_isOperand ({ frames := 1, cells := 0, slots := 0, locals := 20 } : Room) (ml_P G cy [.int x, .int y, .int z] (wC a cy T tr) sz) (va_Qi (fun (r : Int32) (_ : Unit) => r = b2i (okO x y z)) (ml_B G cy (va_A (wC a cy T tr) sz) (fun (_ : Unit) => (wC a cy T tr))) (va_A (wC a cy T tr) sz)) 0 0 (va_A (wC a cy T tr) sz) := by
  refine Met.ofW (cc := cX3_isOperand) (maxL := 3) (ret := (some .boolean)) (by decide) rfl ?_
  intro p e s m args below meth c s₁ B hml hv
  obtain ⟨rfl, hsz, hP, hK, hD0, hN⟩ := hv
  have hx := B.exec
  have hb := B.bytes
  have hr := B.returns
  have hts := atoms_spec (ws := wsX3_isOperand) B.pre
  have hown : s.vm.findClass RX3 = some m.cls := findClass_of_methodNamed B.named
  have hlocks := B.notSynchronized
  subst hsz
  have hD := hD0.self (sz := s.heap.size)
  generalize hAe : va_A (wC a cy T tr) s.heap.size = A at hD ⊢
  have hA : ∀ q : Nat, s.heap.size ≤ q → A q := fun q h => by rw [← hAe]; exact Or.inr h
  have hS : va_S A s.heap s.heap [] := va_S.rf
  have hP : va_P G vwCl (wC a cy T tr) s.heap := hP
  have hl := lv_entry ([.int x, .int y, .int z]) (n := 3) (Nat.le_of_ble_eq_true rfl)
  rw [lg_entry_eq]
  generalize (lg_sl ([.int x, .int y, .int z]) ++ List.replicate (3 - (lg_sl ([.int x, .int y, .int z])).length) Slot.unset).toArray = ls at hl ⊢
  have hl : lv_has ls 3 [(0, .int x), (1, .int y), (2, .int z)] := hl
  refine lv_iload_n hx hb dX3_isOperand_0 rfl (lv_at hl 0 rfl) ?_
  refine ml_lk2 (t0 := 28) (t1 := 48) (td := 70) hx hb dX3_isOperand_1 (by decide) (by decide) (by decide) (fun c_1 => ?_) (fun c_1 => ?_) (fun c_1 d_1 => ?_)
  · refine lv_iload_n hx hb dX3_isOperand_28 rfl (lv_at hl 2 rfl) ?_
    refine lv_sipush (v := (-1000)) hx hb dX3_isOperand_29 (by decide) ?_
    refine lv_icmp_lt (tgt := 46) hx hb dX3_isOperand_32 (by decide) (fun c_32 => ?_) (fun c_32 => ?_)
    · refine lv_iconst (v := 0) hx hb dX3_isOperand_46 (by decide) ?_
      exact ml_rz () hx hb hr hlocks hP hK hD hS rfl rfl (b2i_f' (fun h => absurd ((okO_0 c_1).mp h) (nR_a c_32))) dX3_isOperand_47
    · refine lv_iload_n hx hb dX3_isOperand_35 rfl (lv_at hl 2 rfl) ?_
      refine lv_sipush (v := 1000) hx hb dX3_isOperand_36 (by decide) ?_
      refine lv_icmp_gt (tgt := 46) hx hb dX3_isOperand_39 (by decide) (fun c_39 => ?_) (fun c_39 => ?_)
      · refine lv_iconst (v := 0) hx hb dX3_isOperand_46 (by decide) ?_
        exact ml_rz () hx hb hr hlocks hP hK hD hS rfl rfl (b2i_f' (fun h => absurd ((okO_0 c_1).mp h) (nR_b c_39))) dX3_isOperand_47
      · refine lv_iconst (v := 1) hx hb dX3_isOperand_42 (by decide) ?_
        refine lv_goto (tgt := 47) hx hb dX3_isOperand_43 (by decide) ?_
        exact ml_rz () hx hb hr hlocks hP hK hD hS rfl rfl (b2i_t' ((okO_0 c_1).mpr (inR_b c_32 c_39))) dX3_isOperand_47
  · refine lv_iload_n hx hb dX3_isOperand_48 rfl (lv_at hl 2 rfl) ?_
    refine lv_bipush (v := (-9)) hx hb dX3_isOperand_49 (by decide) ?_
    refine lv_icmp_lt (tgt := 68) hx hb dX3_isOperand_51 (by decide) (fun c_51 => ?_) (fun c_51 => ?_)
    · refine lv_iconst (v := 0) hx hb dX3_isOperand_68 (by decide) ?_
      exact ml_rz () hx hb hr hlocks hP hK hD hS rfl rfl (b2i_f' (fun h => absurd ((okO_1 c_1).mp h).1 (nR_a c_51))) dX3_isOperand_69
    · refine lv_iload_n hx hb dX3_isOperand_54 rfl (lv_at hl 2 rfl) ?_
      refine lv_bipush (v := 9) hx hb dX3_isOperand_55 (by decide) ?_
      refine lv_icmp_gt (tgt := 68) hx hb dX3_isOperand_57 (by decide) (fun c_57 => ?_) (fun c_57 => ?_)
      · refine lv_iconst (v := 0) hx hb dX3_isOperand_68 (by decide) ?_
        exact ml_rz () hx hb hr hlocks hP hK hD hS rfl rfl (b2i_f' (fun h => absurd ((okO_1 c_1).mp h).1 (nR_b c_57))) dX3_isOperand_69
      · refine lv_iload_n hx hb dX3_isOperand_60 rfl (lv_at hl 2 rfl) ?_
        refine lv_if_eq (tgt := 68) hx hb dX3_isOperand_61 (by decide) (fun c_61 => ?_) (fun c_61 => ?_)
        · refine lv_iconst (v := 0) hx hb dX3_isOperand_68 (by decide) ?_
          exact ml_rz () hx hb hr hlocks hP hK hD hS rfl rfl (b2i_f' (fun h => ((okO_1 c_1).mp h).2 c_61)) dX3_isOperand_69
        · refine lv_iconst (v := 1) hx hb dX3_isOperand_64 (by decide) ?_
          refine lv_goto (tgt := 69) hx hb dX3_isOperand_65 (by decide) ?_
          exact ml_rz () hx hb hr hlocks hP hK hD hS rfl rfl (b2i_t' ((okO_1 c_1).mpr ⟨inR_b c_51 c_57, c_61⟩)) dX3_isOperand_69
  · refine lv_iload_n hx hb dX3_isOperand_70 rfl (lv_at hl 2 rfl) ?_
    refine ml_Si (G := G) (As := [.int z]) (rest := []) ⟨hx, hb, hml, hown, hts⟩ (c_X3_isColumn l G cy a s.heap.size T tr z) (va_cwS 1 hts gX3_isOperand_X3_isColumn rfl rfl rfl (by decide +kernel) ⟨Nat.le_of_ble_eq_true rfl, Nat.le_of_ble_eq_true rfl⟩) hP hK hD hS hN hA rfl hl.1 (Nat.le_of_ble_eq_true rfl) dX3_isOperand_71 ⟨Nat.le_of_ble_eq_true rfl, Nat.le_of_ble_eq_true rfl⟩ (fun r_71 u_71 H locs hw hP hD hS => ?_)
    obtain rfl : r_71 = b2i (inR z 0 2) := hw
    have hP : va_P G vwCl (wC a cy T tr) H := hP
    have hD : va_D A (wC a cy T tr) := hD
    refine ml_ifeqb (tgt := 86) hx hb dX3_isOperand_74 (by decide) (fun c_74 => ?_) (fun c_74 => ?_)
    · refine lv_iconst (v := 0) hx hb dX3_isOperand_86 (by decide) ?_
      exact ml_rz () hx hb hr hlocks hP hK hD hS rfl rfl (b2i_f' (fun h => c_74 ((okO_2 c_1 d_1).mp h).1)) dX3_isOperand_87
    · refine lv_iload_n hx hb dX3_isOperand_77 rfl (lv_at hl 2 rfl) ?_
      refine lv_iload_n hx hb dX3_isOperand_78 rfl (lv_at hl 1 rfl) ?_
      refine lv_icmp_eq (tgt := 86) hx hb dX3_isOperand_79 (by decide) (fun c_79 => ?_) (fun c_79 => ?_)
      · refine lv_iconst (v := 0) hx hb dX3_isOperand_86 (by decide) ?_
        exact ml_rz () hx hb hr hlocks hP hK hD hS rfl rfl (b2i_f' (fun h => ((okO_2 c_1 d_1).mp h).2 c_79)) dX3_isOperand_87
      · refine lv_iconst (v := 1) hx hb dX3_isOperand_82 (by decide) ?_
        refine lv_goto (tgt := 87) hx hb dX3_isOperand_83 (by decide) ?_
        exact ml_rz () hx hb hr hlocks hP hK hD hS rfl rfl (b2i_t' ((okO_2 c_1 d_1).mpr ⟨c_74, c_79⟩)) dX3_isOperand_87
set_option maxHeartbeats 4000000 in
set_option maxRecDepth 100000 in
theorem c_X3_requireChangeParts (l : Launch) (hlt : l.stackTraces = false) (G : va_G) (cy : Nat → ClassId) (a : Nat → Nat) (sz : Nat) (T : TS) (tr : Nat → Int32) (x : Int32) (y : Int32) (z : Int32) : vy_Met l yX3_requireChangeParts wsX3_requireChangeParts ({ frames := 7, cells := 1, slots := 6, locals := 102 } : Room) (ml_PX G cy [.int x, .int y, .int z] (wC a cy T tr) sz) (va_Qv (fun (_ : Unit) => okCh x y z) (ml_B G cy (va_A (wC a cy T tr) sz) (fun (_ : Unit) => (wC a cy T tr))) (va_A (wC a cy T tr) sz)) (ml_XC G cy (va_A (wC a cy T tr) sz) (wC a cy T tr) (fun E => E = eIA ∧ ¬ okCh x y z)) 1 6 (va_A (wC a cy T tr) sz) := by
  refine vy_ofW (cc := cX3_requireChangeParts) (maxL := 3) (ret := none) (by decide) rfl ?_
  intro p e s m args below meth c s₁ B hml hout hv
  obtain ⟨rfl, hsz, hP, hK, hD0, hN, hE⟩ := hv
  have hx := B.exec
  have hb := B.bytes
  have hr := B.returns
  have hts := atoms_spec (ws := wsX3_requireChangeParts) B.pre
  have hown : s.vm.findClass RX3 = some m.cls := findClass_of_methodNamed B.named
  have hlocks := B.notSynchronized
  subst hsz
  have hD := hD0.self (sz := s.heap.size)
  generalize hAe : va_A (wC a cy T tr) s.heap.size = A at hD hE ⊢
  have hA : ∀ q : Nat, s.heap.size ≤ q → A q := fun q h => by rw [← hAe]; exact Or.inr h
  have hS : va_S A s.heap s.heap [] := va_S.rf
  have hP : va_P G vwCl (wC a cy T tr) s.heap := hP
  have hl := lv_entry ([.int x, .int y, .int z]) (n := 3) (Nat.le_of_ble_eq_true rfl)
  rw [lg_entry_eq]
  generalize (lg_sl ([.int x, .int y, .int z]) ++ List.replicate (3 - (lg_sl ([.int x, .int y, .int z])).length) Slot.unset).toArray = ls at hl ⊢
  have hl : lv_has ls 3 [(0, .int x), (1, .int y), (2, .int z)] := hl
  refine lv_iload_n hx hb dX3_requireChangeParts_0 rfl (lv_at hl 0 rfl) ?_
  refine lv_if_lt (tgt := 9) hx hb dX3_requireChangeParts_1 (by decide) (fun c_1 => ?_) (fun c_1 => ?_)
  · exact ml_thr false hx hb hlt hown rfl (by decide) (text := "a kind is 0 to 2") (by decide) (hts (.classLink RX3 122 eIA) (by decide +kernel)) (hts (.initialized eIA) (by decide +kernel)) (fun w h => hts w (List.mem_cons_of_mem _ (List.mem_append_right _ h))) th_ng126 th_gd126 hP hK hD hE hS (hl.1.trans hml.symm) dX3_requireChangeParts_9 dX3_requireChangeParts_12 dX3_requireChangeParts_13 dX3_requireChangeParts_15 dX3_requireChangeParts_18 hout (Nat.le_of_ble_eq_true rfl) (Nat.le_of_ble_eq_true rfl) (Nat.le_of_ble_eq_true rfl) (Nat.le_of_ble_eq_true rfl) hlocks (⟨rfl, fun h => absurd h.1 (nR_a c_1)⟩) (Nat.le_of_ble_eq_true rfl) (Nat.le_of_ble_eq_true rfl)
  · refine lv_iload_n hx hb dX3_requireChangeParts_4 rfl (lv_at hl 0 rfl) ?_
    refine lv_iconst (v := 2) hx hb dX3_requireChangeParts_5 (by decide) ?_
    refine lv_icmp_le (tgt := 19) hx hb dX3_requireChangeParts_6 (by decide) (fun c_6 => ?_) (fun c_6 => ?_)
    · refine lv_iload_n hx hb dX3_requireChangeParts_19 rfl (lv_at hl 1 rfl) ?_
      refine ml_xSv (G := G) (As := [.int y]) (rest := []) ⟨hx, hb, hml, hown, hts⟩ (c_X3_requireColumn l hlt G cy a s.heap.size T tr y) (va_cwS 1 hts gX3_requireChangeParts_X3_requireColumn rfl rfl rfl (by decide +kernel) ⟨Nat.le_of_ble_eq_true rfl, Nat.le_of_ble_eq_true rfl⟩) hP hK hD hS hN hA hE rfl hl.1 (Nat.le_of_ble_eq_true rfl) dX3_requireChangeParts_20 ⟨Nat.le_of_ble_eq_true rfl, Nat.le_of_ble_eq_true rfl⟩ (fun E ce q9 H1 locs1 hz9 hp hP hD hS9 hcell hv hcl => ml_out hout hlocks (Nat.lt_of_le_of_lt hS.1 hz9) (⟨hp.1, fun h => hp.2 h.2.1⟩) hP hK hD hS9 hcell hv hcl (Nat.le_of_ble_eq_true rfl) (Nat.le_of_ble_eq_true rfl)) (fun u_20 H locs hw hP hD hS => ?_)
      have q_20 := hw
      have hP : va_P G vwCl (wC a cy T tr) H := hP
      have hD : va_D A (wC a cy T tr) := hD
      refine lv_iload_n hx hb dX3_requireChangeParts_23 rfl (lv_at hl 0 rfl) ?_
      refine lv_iload_n hx hb dX3_requireChangeParts_24 rfl (lv_at hl 1 rfl) ?_
      refine lv_iload_n hx hb dX3_requireChangeParts_25 rfl (lv_at hl 2 rfl) ?_
      refine ml_Si (G := G) (As := [.int x, .int y, .int z]) (rest := []) ⟨hx, hb, hml, hown, hts⟩ (c_X3_isOperand l G cy a H.size T tr x y z) (va_cwS 3 hts gX3_requireChangeParts_X3_isOperand rfl rfl rfl (by decide +kernel) ⟨Nat.le_of_ble_eq_true rfl, Nat.le_of_ble_eq_true rfl⟩) hP hK hD hS hN hA rfl hl.1 (Nat.le_of_ble_eq_true rfl) dX3_requireChangeParts_26 ⟨Nat.le_of_ble_eq_true rfl, Nat.le_of_ble_eq_true rfl⟩ (fun r_26 u_26 H locs hw hP hD hS => ?_)
      obtain rfl : r_26 = b2i (okO x y z) := hw
      have hP : va_P G vwCl (wC a cy T tr) H := hP
      have hD : va_D A (wC a cy T tr) := hD
      refine ml_ifneb (tgt := 43) hx hb dX3_requireChangeParts_29 (by decide) (fun c_29 => ?_) (fun c_29 => ?_)
      · exact vy_ret (ml_rv () hx hb hr hlocks hP hK hD hS rfl ⟨⟨Int32.not_lt.mp c_1, c_6⟩, q_20, c_29⟩ dX3_requireChangeParts_43)
      · exact ml_thr true hx hb hlt hown rfl (by decide) (text := "the operand is out of range for the kind") (by decide) (hts (.classLink RX3 122 eIA) (by decide +kernel)) (hts (.initialized eIA) (by decide +kernel)) (fun w h => hts w (List.mem_cons_of_mem _ (List.mem_append_right _ h))) th_ng126 th_gd126 hP hK hD hE hS (hl.1.trans hml.symm) dX3_requireChangeParts_32 dX3_requireChangeParts_35 dX3_requireChangeParts_36 dX3_requireChangeParts_39 dX3_requireChangeParts_42 hout (Nat.le_of_ble_eq_true rfl) (Nat.le_of_ble_eq_true rfl) (Nat.le_of_ble_eq_true rfl) (Nat.le_of_ble_eq_true rfl) hlocks (⟨rfl, fun h => c_29 h.2.2⟩) (Nat.le_of_ble_eq_true rfl) (Nat.le_of_ble_eq_true rfl)
    · exact ml_thr false hx hb hlt hown rfl (by decide) (text := "a kind is 0 to 2") (by decide) (hts (.classLink RX3 122 eIA) (by decide +kernel)) (hts (.initialized eIA) (by decide +kernel)) (fun w h => hts w (List.mem_cons_of_mem _ (List.mem_append_right _ h))) th_ng126 th_gd126 hP hK hD hE hS (hl.1.trans hml.symm) dX3_requireChangeParts_9 dX3_requireChangeParts_12 dX3_requireChangeParts_13 dX3_requireChangeParts_15 dX3_requireChangeParts_18 hout (Nat.le_of_ble_eq_true rfl) (Nat.le_of_ble_eq_true rfl) (Nat.le_of_ble_eq_true rfl) (Nat.le_of_ble_eq_true rfl) hlocks (⟨rfl, fun h => absurd h.1 (nR_b (Int32.not_le.mp c_6))⟩) (Nat.le_of_ble_eq_true rfl) (Nat.le_of_ble_eq_true rfl)
set_option maxHeartbeats 4000000 in
set_option maxRecDepth 100000 in
theorem c_X3_requireId (l : Launch) (hlt : l.stackTraces = false) (G : va_G) (cy : Nat → ClassId) (a : Nat → Nat) (sz : Nat) (T : TS) (tr : Nat → Int32) (x : Int32) : vy_Met l yX3_requireId wsX3_requireId ({ frames := 6, cells := 1, slots := 6, locals := 82 } : Room) (ml_PX G cy [.int x] (wC a cy T tr) sz) (va_Qv (fun (_ : Unit) => inR x 0 39) (ml_B G cy (va_A (wC a cy T tr) sz) (fun (_ : Unit) => (wC a cy T tr))) (va_A (wC a cy T tr) sz)) (ml_XC G cy (va_A (wC a cy T tr) sz) (wC a cy T tr) (fun E => E = eIA ∧ ¬ inR x 0 39)) 1 6 (va_A (wC a cy T tr) sz) := by
  refine vy_ofW (cc := cX3_requireId) (maxL := 1) (ret := none) (by decide) rfl ?_
  intro p e s m args below meth c s₁ B hml hout hv
  obtain ⟨rfl, hsz, hP, hK, hD0, hN, hE⟩ := hv
  have hx := B.exec
  have hb := B.bytes
  have hr := B.returns
  have hts := atoms_spec (ws := wsX3_requireId) B.pre
  have hown : s.vm.findClass RX3 = some m.cls := findClass_of_methodNamed B.named
  have hlocks := B.notSynchronized
  subst hsz
  have hD := hD0.self (sz := s.heap.size)
  generalize hAe : va_A (wC a cy T tr) s.heap.size = A at hD hE ⊢
  have hA : ∀ q : Nat, s.heap.size ≤ q → A q := fun q h => by rw [← hAe]; exact Or.inr h
  have hS : va_S A s.heap s.heap [] := va_S.rf
  have hP : va_P G vwCl (wC a cy T tr) s.heap := hP
  have hl := lv_entry ([.int x]) (n := 1) (Nat.le_of_ble_eq_true rfl)
  rw [lg_entry_eq]
  generalize (lg_sl ([.int x]) ++ List.replicate (1 - (lg_sl ([.int x])).length) Slot.unset).toArray = ls at hl ⊢
  have hl : lv_has ls 1 [(0, .int x)] := hl
  refine lv_iload_n hx hb dX3_requireId_0 rfl (lv_at hl 0 rfl) ?_
  refine lv_if_lt (tgt := 10) hx hb dX3_requireId_1 (by decide) (fun c_1 => ?_) (fun c_1 => ?_)
  · exact ml_thr true hx hb hlt hown rfl (by decide) (text := "an id is 0 to 39") (by decide) (hts (.classLink RX3 122 eIA) (by decide +kernel)) (hts (.initialized eIA) (by decide +kernel)) (fun w h => hts w (List.mem_cons_of_mem _ (List.mem_append_right _ h))) th_ng126 th_gd126 hP hK hD hE hS (hl.1.trans hml.symm) dX3_requireId_10 dX3_requireId_13 dX3_requireId_14 dX3_requireId_17 dX3_requireId_20 hout (Nat.le_of_ble_eq_true rfl) (Nat.le_of_ble_eq_true rfl) (Nat.le_of_ble_eq_true rfl) (Nat.le_of_ble_eq_true rfl) hlocks (⟨rfl, nR_a c_1⟩) (Nat.le_of_ble_eq_true rfl) (Nat.le_of_ble_eq_true rfl)
  · refine lv_iload_n hx hb dX3_requireId_4 rfl (lv_at hl 0 rfl) ?_
    refine lv_bipush (v := 40) hx hb dX3_requireId_5 (by decide) ?_
    refine lv_icmp_lt (tgt := 21) hx hb dX3_requireId_7 (by decide) (fun c_7 => ?_) (fun c_7 => ?_)
    · exact vy_ret (ml_rv () hx hb hr hlocks hP hK hD hS rfl (inR_a (h1 := 40) (by decide) c_1 c_7) dX3_requireId_21)
    · exact ml_thr true hx hb hlt hown rfl (by decide) (text := "an id is 0 to 39") (by decide) (hts (.classLink RX3 122 eIA) (by decide +kernel)) (hts (.initialized eIA) (by decide +kernel)) (fun w h => hts w (List.mem_cons_of_mem _ (List.mem_append_right _ h))) th_ng126 th_gd126 hP hK hD hE hS (hl.1.trans hml.symm) dX3_requireId_10 dX3_requireId_13 dX3_requireId_14 dX3_requireId_17 dX3_requireId_20 hout (Nat.le_of_ble_eq_true rfl) (Nat.le_of_ble_eq_true rfl) (Nat.le_of_ble_eq_true rfl) (Nat.le_of_ble_eq_true rfl) hlocks (⟨rfl, nR_c (h1 := 40) (by decide) c_7⟩) (Nat.le_of_ble_eq_true rfl) (Nat.le_of_ble_eq_true rfl)
set_option maxHeartbeats 4000000 in
set_option maxRecDepth 100000 in
theorem c_X3_requireTableValue (l : Launch) (hlt : l.stackTraces = false) (G : va_G) (cy : Nat → ClassId) (a : Nat → Nat) (sz : Nat) (T : TS) (tr : Nat → Int32) (x : Int32) : vy_Met l yX3_requireTableValue wsX3_requireTableValue ({ frames := 6, cells := 1, slots := 6, locals := 82 } : Room) (ml_PX G cy [.int x] (wC a cy T tr) sz) (va_Qv (fun (_ : Unit) => okV x.toInt64) (ml_B G cy (va_A (wC a cy T tr) sz) (fun (_ : Unit) => (wC a cy T tr))) (va_A (wC a cy T tr) sz)) (ml_XC G cy (va_A (wC a cy T tr) sz) (wC a cy T tr) (fun E => E = eIA ∧ ¬ okV x.toInt64)) 1 6 (va_A (wC a cy T tr) sz) := by
  refine vy_ofW (cc := cX3_requireTableValue) (maxL := 1) (ret := none) (by decide) rfl ?_
  intro p e s m args below meth c s₁ B hml hout hv
  obtain ⟨rfl, hsz, hP, hK, hD0, hN, hE⟩ := hv
  have hx := B.exec
  have hb := B.bytes
  have hr := B.returns
  have hts := atoms_spec (ws := wsX3_requireTableValue) B.pre
  have hown : s.vm.findClass RX3 = some m.cls := findClass_of_methodNamed B.named
  have hlocks := B.notSynchronized
  subst hsz
  have hD := hD0.self (sz := s.heap.size)
  generalize hAe : va_A (wC a cy T tr) s.heap.size = A at hD hE ⊢
  have hA : ∀ q : Nat, s.heap.size ≤ q → A q := fun q h => by rw [← hAe]; exact Or.inr h
  have hS : va_S A s.heap s.heap [] := va_S.rf
  have hP : va_P G vwCl (wC a cy T tr) s.heap := hP
  have hl := lv_entry ([.int x]) (n := 1) (Nat.le_of_ble_eq_true rfl)
  rw [lg_entry_eq]
  generalize (lg_sl ([.int x]) ++ List.replicate (1 - (lg_sl ([.int x])).length) Slot.unset).toArray = ls at hl ⊢
  have hl : lv_has ls 1 [(0, .int x)] := hl
  refine lv_iload_n hx hb dX3_requireTableValue_0 rfl (lv_at hl 0 rfl) ?_
  refine lv_i2l (v := x.toInt64) hx hb dX3_requireTableValue_1 rfl ?_
  refine ml_Si (G := G) (As := [.long x.toInt64]) (rest := []) ⟨hx, hb, hml, hown, hts⟩ (c_X3_isTableValue l G cy a s.heap.size T tr x.toInt64) (va_cwS 1 hts gX3_requireTableValue_X3_isTableValue rfl rfl rfl (by decide +kernel) ⟨Nat.le_of_ble_eq_true rfl, Nat.le_of_ble_eq_true rfl⟩) hP hK hD hS hN hA rfl hl.1 (Nat.le_of_ble_eq_true rfl) dX3_requireTableValue_2 ⟨Nat.le_of_ble_eq_true rfl, Nat.le_of_ble_eq_true rfl⟩ (fun r_2 u_2 H locs hw hP hD hS => ?_)
  obtain rfl : r_2 = b2i (okV x.toInt64) := hw
  have hP : va_P G vwCl (wC a cy T tr) H := hP
  have hD : va_D A (wC a cy T tr) := hD
  refine ml_ifneb (tgt := 19) hx hb dX3_requireTableValue_5 (by decide) (fun c_5 => ?_) (fun c_5 => ?_)
  · exact vy_ret (ml_rv () hx hb hr hlocks hP hK hD hS rfl c_5 dX3_requireTableValue_19)
  · exact ml_thr true hx hb hlt hown rfl (by decide) (text := "a value is -1000000000 to 1000000000") (by decide) (hts (.classLink RX3 122 eIA) (by decide +kernel)) (hts (.initialized eIA) (by decide +kernel)) (fun w h => hts w (List.mem_cons_of_mem _ (List.mem_append_right _ h))) th_ng126 th_gd126 hP hK hD hE hS (hl.1.trans hml.symm) dX3_requireTableValue_8 dX3_requireTableValue_11 dX3_requireTableValue_12 dX3_requireTableValue_15 dX3_requireTableValue_18 hout (Nat.le_of_ble_eq_true rfl) (Nat.le_of_ble_eq_true rfl) (Nat.le_of_ble_eq_true rfl) (Nat.le_of_ble_eq_true rfl) hlocks (⟨rfl, c_5⟩) (Nat.le_of_ble_eq_true rfl) (Nat.le_of_ble_eq_true rfl)
set_option maxHeartbeats 4000000 in
set_option maxRecDepth 100000 in
theorem c_X3_requireWorker (l : Launch) (hlt : l.stackTraces = false) (G : va_G) (cy : Nat → ClassId) (a : Nat → Nat) (sz : Nat) (T : TS) (tr : Nat → Int32) (x : Int32) : vy_Met l yX3_requireWorker wsX3_requireWorker ({ frames := 6, cells := 1, slots := 6, locals := 82 } : Room) (ml_PX G cy [.int x] (wC a cy T tr) sz) (va_Qv (fun (_ : Unit) => inR x 0 3) (ml_B G cy (va_A (wC a cy T tr) sz) (fun (_ : Unit) => (wC a cy T tr))) (va_A (wC a cy T tr) sz)) (ml_XC G cy (va_A (wC a cy T tr) sz) (wC a cy T tr) (fun E => E = eIA ∧ ¬ inR x 0 3)) 1 6 (va_A (wC a cy T tr) sz) := by
  refine vy_ofW (cc := cX3_requireWorker) (maxL := 1) (ret := none) (by decide) rfl ?_
  intro p e s m args below meth c s₁ B hml hout hv
  obtain ⟨rfl, hsz, hP, hK, hD0, hN, hE⟩ := hv
  have hx := B.exec
  have hb := B.bytes
  have hr := B.returns
  have hts := atoms_spec (ws := wsX3_requireWorker) B.pre
  have hown : s.vm.findClass RX3 = some m.cls := findClass_of_methodNamed B.named
  have hlocks := B.notSynchronized
  subst hsz
  have hD := hD0.self (sz := s.heap.size)
  generalize hAe : va_A (wC a cy T tr) s.heap.size = A at hD hE ⊢
  have hA : ∀ q : Nat, s.heap.size ≤ q → A q := fun q h => by rw [← hAe]; exact Or.inr h
  have hS : va_S A s.heap s.heap [] := va_S.rf
  have hP : va_P G vwCl (wC a cy T tr) s.heap := hP
  have hl := lv_entry ([.int x]) (n := 1) (Nat.le_of_ble_eq_true rfl)
  rw [lg_entry_eq]
  generalize (lg_sl ([.int x]) ++ List.replicate (1 - (lg_sl ([.int x])).length) Slot.unset).toArray = ls at hl ⊢
  have hl : lv_has ls 1 [(0, .int x)] := hl
  refine lv_iload_n hx hb dX3_requireWorker_0 rfl (lv_at hl 0 rfl) ?_
  refine lv_if_lt (tgt := 9) hx hb dX3_requireWorker_1 (by decide) (fun c_1 => ?_) (fun c_1 => ?_)
  · exact ml_thr true hx hb hlt hown rfl (by decide) (text := "a worker is 0 to 3") (by decide) (hts (.classLink RX3 122 eIA) (by decide +kernel)) (hts (.initialized eIA) (by decide +kernel)) (fun w h => hts w (List.mem_cons_of_mem _ (List.mem_append_right _ h))) th_ng126 th_gd126 hP hK hD hE hS (hl.1.trans hml.symm) dX3_requireWorker_9 dX3_requireWorker_12 dX3_requireWorker_13 dX3_requireWorker_16 dX3_requireWorker_19 hout (Nat.le_of_ble_eq_true rfl) (Nat.le_of_ble_eq_true rfl) (Nat.le_of_ble_eq_true rfl) (Nat.le_of_ble_eq_true rfl) hlocks (⟨rfl, nR_a c_1⟩) (Nat.le_of_ble_eq_true rfl) (Nat.le_of_ble_eq_true rfl)
  · refine lv_iload_n hx hb dX3_requireWorker_4 rfl (lv_at hl 0 rfl) ?_
    refine lv_iconst (v := 4) hx hb dX3_requireWorker_5 (by decide) ?_
    refine lv_icmp_lt (tgt := 20) hx hb dX3_requireWorker_6 (by decide) (fun c_6 => ?_) (fun c_6 => ?_)
    · exact vy_ret (ml_rv () hx hb hr hlocks hP hK hD hS rfl (inR_a (h1 := 4) (by decide) c_1 c_6) dX3_requireWorker_20)
    · exact ml_thr true hx hb hlt hown rfl (by decide) (text := "a worker is 0 to 3") (by decide) (hts (.classLink RX3 122 eIA) (by decide +kernel)) (hts (.initialized eIA) (by decide +kernel)) (fun w h => hts w (List.mem_cons_of_mem _ (List.mem_append_right _ h))) th_ng126 th_gd126 hP hK hD hE hS (hl.1.trans hml.symm) dX3_requireWorker_9 dX3_requireWorker_12 dX3_requireWorker_13 dX3_requireWorker_16 dX3_requireWorker_19 hout (Nat.le_of_ble_eq_true rfl) (Nat.le_of_ble_eq_true rfl) (Nat.le_of_ble_eq_true rfl) (Nat.le_of_ble_eq_true rfl) hlocks (⟨rfl, nR_c (h1 := 4) (by decide) c_6⟩) (Nat.le_of_ble_eq_true rfl) (Nat.le_of_ble_eq_true rfl)
set_option maxHeartbeats 4000000 in
set_option maxRecDepth 100000 in
theorem c_X3_requireListed (l : Launch) (hlt : l.stackTraces = false) (G : va_G) (cy : Nat → ClassId) (a : Nat → Nat) (sz : Nat) (T : TS) (tr : Nat → Int32) (x : Int32) : vy_Met l yX3_requireListed wsX3_requireListed ({ frames := 6, cells := 1, slots := 6, locals := 82 } : Room) (ml_PX G cy [.ref (a 0), .int x] (wC a cy T tr) sz) (va_Qv (fun (_ : Unit) => inR x 1 (nI (tn T))) (ml_B G cy (va_A (wC a cy T tr) sz) (fun (_ : Unit) => (wC a cy T tr))) (va_A (wC a cy T tr) sz)) (ml_XC G cy (va_A (wC a cy T tr) sz) (wC a cy T tr) (fun E => E = eIB ∧ ¬ inR x 1 (nI (tn T)))) 1 6 (va_A (wC a cy T tr) sz) := by
  refine vy_ofW (cc := cX3_requireListed) (maxL := 2) (ret := none) (by decide) rfl ?_
  intro p e s m args below meth c s₁ B hml hout hv
  obtain ⟨rfl, hsz, hP, hK, hD0, hN, hE⟩ := hv
  have hx := B.exec
  have hb := B.bytes
  have hr := B.returns
  have hts := atoms_spec (ws := wsX3_requireListed) B.pre
  have hown : s.vm.findClass RX3 = some m.cls := findClass_of_methodNamed B.named
  have hlocks := B.notSynchronized
  subst hsz
  have hD := hD0.self (sz := s.heap.size)
  generalize hAe : va_A (wC a cy T tr) s.heap.size = A at hD hE ⊢
  have hA : ∀ q : Nat, s.heap.size ≤ q → A q := fun q h => by rw [← hAe]; exact Or.inr h
  have hS : va_S A s.heap s.heap [] := va_S.rf
  have hP : va_P G vwCl (wC a cy T tr) s.heap := hP
  have hin_X3 : ∀ w ∈ wsX30, w ∈ wsX3_requireListed := by decide +kernel
  have hl := lv_entry ([.ref (a 0), .int x]) (n := 2) (Nat.le_of_ble_eq_true rfl)
  rw [lg_entry_eq]
  generalize (lg_sl ([.ref (a 0), .int x]) ++ List.replicate (2 - (lg_sl ([.ref (a 0), .int x])).length) Slot.unset).toArray = ls at hl ⊢
  have hl : lv_has ls 2 [(0, .ref (a 0)), (1, .int x)] := hl
  refine lv_aload_n hx hb dX3_requireListed_0 rfl (lv_at hl 0 rfl) ?_
  refine va_get (D := G) (ci := 3) (v := .ref (a 1)) (C := RX3) (T := TX3) (N := 7) hx hb hts hin_X3 hown hK hP 0 rfl rfl 0 (by decide) (hts (.fieldLink RX3 10 "Migrationledger" "list" "LMigrationledger$ChangeList;") (by decide +kernel)) (fun _ h9 => h9) rfl dX3_requireListed_1 ?_
  refine lv_iload_n hx hb dX3_requireListed_4 rfl (lv_at hl 1 rfl) ?_
  refine ml_Vi (G := G) (As := [.int x]) (rest := []) ⟨hx, hb, hml, hown, hts⟩ (c_X0_contains l G cy a s.heap.size T tr x) (cwV 1 hts gX3_requireListed_X0_contains rfl rfl rfl (by decide +kernel) ⟨Nat.le_of_ble_eq_true rfl, Nat.le_of_ble_eq_true rfl⟩) (va_recv hK hP (ci := 0) (q0 := 1) rfl rfl) hP hK hD hS hN hA rfl hl.1 (Nat.le_of_ble_eq_true rfl) dX3_requireListed_5 ⟨Nat.le_of_ble_eq_true rfl, Nat.le_of_ble_eq_true rfl⟩ (fun r_5 u_5 H locs hw hP hD hS => ?_)
  obtain rfl : r_5 = b2i (inR x 1 (nI (tn T))) := hw
  have hP : va_P G vwCl (wC a cy T tr) H := hP
  have hD : va_D A (wC a cy T tr) := hD
  refine ml_ifneb (tgt := 22) hx hb dX3_requireListed_8 (by decide) (fun c_8 => ?_) (fun c_8 => ?_)
  · exact vy_ret (ml_rv () hx hb hr hlocks hP hK hD hS rfl c_8 dX3_requireListed_22)
  · exact ml_thr true hx hb hlt hown rfl (by decide) (text := "there is no such change") (by decide) (hts (.classLink RX3 276 eIB) (by decide +kernel)) (hts (.initialized eIB) (by decide +kernel)) (fun w h => hts w (List.mem_cons_of_mem _ (List.mem_append_right _ h))) th_ng280 th_gd280 hP hK hD hE hS (hl.1.trans hml.symm) dX3_requireListed_11 dX3_requireListed_14 dX3_requireListed_15 dX3_requireListed_18 dX3_requireListed_21 hout (Nat.le_of_ble_eq_true rfl) (Nat.le_of_ble_eq_true rfl) (Nat.le_of_ble_eq_true rfl) (Nat.le_of_ble_eq_true rfl) hlocks (⟨rfl, c_8⟩) (Nat.le_of_ble_eq_true rfl) (Nat.le_of_ble_eq_true rfl)
set_option maxHeartbeats 4000000 in
set_option maxRecDepth 100000 in
theorem c_X3_requirePresent (l : Launch) (hlt : l.stackTraces = false) (G : va_G) (cy : Nat → ClassId) (a : Nat → Nat) (sz : Nat) (T : TS) (tr : Nat → Int32) (j : Nat) (hj : j < 40) : vy_Met l yX3_requirePresent wsX3_requirePresent ({ frames := 6, cells := 1, slots := 6, locals := 82 } : Room) (ml_PX G cy [.ref (a 0), .int (nI j)] (wC a cy T tr) sz) (va_Qv (fun (_ : Unit) => tV T j ≠ -1) (ml_B G cy (va_A (wC a cy T tr) sz) (fun (_ : Unit) => (wC a cy T tr))) (va_A (wC a cy T tr) sz)) (ml_XC G cy (va_A (wC a cy T tr) sz) (wC a cy T tr) (fun E => E = eIB ∧ tV T j = -1)) 1 6 (va_A (wC a cy T tr) sz) := by
  refine vy_ofW (cc := cX3_requirePresent) (maxL := 2) (ret := none) (by decide) rfl ?_
  intro p e s m args below meth c s₁ B hml hout hv
  obtain ⟨rfl, hsz, hP, hK, hD0, hN, hE⟩ := hv
  have hx := B.exec
  have hb := B.bytes
  have hr := B.returns
  have hts := atoms_spec (ws := wsX3_requirePresent) B.pre
  have hown : s.vm.findClass RX3 = some m.cls := findClass_of_methodNamed B.named
  have hlocks := B.notSynchronized
  subst hsz
  have hD := hD0.self (sz := s.heap.size)
  generalize hAe : va_A (wC a cy T tr) s.heap.size = A at hD hE ⊢
  have hA : ∀ q : Nat, s.heap.size ≤ q → A q := fun q h => by rw [← hAe]; exact Or.inr h
  have hS : va_S A s.heap s.heap [] := va_S.rf
  have hP : va_P G vwCl (wC a cy T tr) s.heap := hP
  have hin_X3 : ∀ w ∈ wsX30, w ∈ wsX3_requirePresent := by decide +kernel
  have hl := lv_entry ([.ref (a 0), .int (nI j)]) (n := 2) (Nat.le_of_ble_eq_true rfl)
  rw [lg_entry_eq]
  generalize (lg_sl ([.ref (a 0), .int (nI j)]) ++ List.replicate (2 - (lg_sl ([.ref (a 0), .int (nI j)])).length) Slot.unset).toArray = ls at hl ⊢
  have hl : lv_has ls 2 [(0, .ref (a 0)), (1, .int (nI j))] := hl
  refine lv_aload_n hx hb dX3_requirePresent_0 rfl (lv_at hl 0 rfl) ?_
  refine va_get (D := G) (ci := 3) (v := .ref (a 2)) (C := RX3) (T := TX3) (N := 7) hx hb hts hin_X3 hown hK hP 0 rfl rfl 1 (by decide) (hts (.fieldLink RX3 19 "Migrationledger" "table" "LMigrationledger$Table;") (by decide +kernel)) (fun _ h9 => h9) rfl dX3_requirePresent_1 ?_
  refine lv_iload_n hx hb dX3_requirePresent_4 rfl (lv_at hl 1 rfl) ?_
  refine ml_Vi (G := G) (As := [.int (nI j)]) (rest := []) ⟨hx, hb, hml, hown, hts⟩ (c_X2_isPresent l G cy a s.heap.size T tr j (by omega)) (cwV 1 hts gX3_requirePresent_X2_isPresent rfl rfl rfl (by decide +kernel) ⟨Nat.le_of_ble_eq_true rfl, Nat.le_of_ble_eq_true rfl⟩) (va_recv hK hP (ci := 2) (q0 := 2) rfl rfl) hP hK hD hS hN hA rfl hl.1 (Nat.le_of_ble_eq_true rfl) dX3_requirePresent_5 ⟨Nat.le_of_ble_eq_true rfl, Nat.le_of_ble_eq_true rfl⟩ (fun r_5 u_5 H locs hw hP hD hS => ?_)
  obtain rfl : r_5 = b2i (tV T j ≠ -1) := hw
  have hP : va_P G vwCl (wC a cy T tr) H := hP
  have hD : va_D A (wC a cy T tr) := hD
  refine ml_ifneb (tgt := 22) hx hb dX3_requirePresent_8 (by decide) (fun c_8 => ?_) (fun c_8 => ?_)
  · exact vy_ret (ml_rv () hx hb hr hlocks hP hK hD hS rfl c_8 dX3_requirePresent_22)
  · exact ml_thr true hx hb hlt hown rfl (by decide) (text := "the row is absent") (by decide) (hts (.classLink RX3 276 eIB) (by decide +kernel)) (hts (.initialized eIB) (by decide +kernel)) (fun w h => hts w (List.mem_cons_of_mem _ (List.mem_append_right _ h))) th_ng280 th_gd280 hP hK hD hE hS (hl.1.trans hml.symm) dX3_requirePresent_11 dX3_requirePresent_14 dX3_requirePresent_15 dX3_requirePresent_18 dX3_requirePresent_21 hout (Nat.le_of_ble_eq_true rfl) (Nat.le_of_ble_eq_true rfl) (Nat.le_of_ble_eq_true rfl) (Nat.le_of_ble_eq_true rfl) hlocks (⟨rfl, Classical.not_not.mp c_8⟩) (Nat.le_of_ble_eq_true rfl) (Nat.le_of_ble_eq_true rfl)
set_option maxHeartbeats 4000000 in
set_option maxRecDepth 100000 in
theorem c_X3_requireNotCrashed (l : Launch) (hlt : l.stackTraces = false) (G : va_G) (cy : Nat → ClassId) (a : Nat → Nat) (sz : Nat) (T : TS) (tr : Nat → Int32) (j : Nat) (hj : j < 4) (hcr : tcr T j = 0 ∨ tcr T j = 1) : vy_Met l yX3_requireNotCrashed wsX3_requireNotCrashed ({ frames := 6, cells := 1, slots := 6, locals := 82 } : Room) (ml_PX G cy [.ref (a 0), .int (nI j)] (wC a cy T tr) sz) (va_Qv (fun (_ : Unit) => ¬ tcr T j ≠ 0) (ml_B G cy (va_A (wC a cy T tr) sz) (fun (_ : Unit) => (wC a cy T tr))) (va_A (wC a cy T tr) sz)) (ml_XC G cy (va_A (wC a cy T tr) sz) (wC a cy T tr) (fun E => E = eIS ∧ tcr T j ≠ 0)) 1 6 (va_A (wC a cy T tr) sz) := by
  refine vy_ofW (cc := cX3_requireNotCrashed) (maxL := 2) (ret := none) (by decide) rfl ?_
  intro p e s m args below meth c s₁ B hml hout hv
  obtain ⟨rfl, hsz, hP, hK, hD0, hN, hE⟩ := hv
  have hx := B.exec
  have hb := B.bytes
  have hr := B.returns
  have hts := atoms_spec (ws := wsX3_requireNotCrashed) B.pre
  have hown : s.vm.findClass RX3 = some m.cls := findClass_of_methodNamed B.named
  have hlocks := B.notSynchronized
  subst hsz
  have hD := hD0.self (sz := s.heap.size)
  generalize hAe : va_A (wC a cy T tr) s.heap.size = A at hD hE ⊢
  have hA : ∀ q : Nat, s.heap.size ≤ q → A q := fun q h => by rw [← hAe]; exact Or.inr h
  have hS : va_S A s.heap s.heap [] := va_S.rf
  have hP : va_P G vwCl (wC a cy T tr) s.heap := hP
  have hin_X3 : ∀ w ∈ wsX30, w ∈ wsX3_requireNotCrashed := by decide +kernel
  have hl := lv_entry ([.ref (a 0), .int (nI j)]) (n := 2) (Nat.le_of_ble_eq_true rfl)
  rw [lg_entry_eq]
  generalize (lg_sl ([.ref (a 0), .int (nI j)]) ++ List.replicate (2 - (lg_sl ([.ref (a 0), .int (nI j)])).length) Slot.unset).toArray = ls at hl ⊢
  have hl : lv_has ls 2 [(0, .ref (a 0)), (1, .int (nI j))] := hl
  refine lv_aload_n hx hb dX3_requireNotCrashed_0 rfl (lv_at hl 0 rfl) ?_
  refine va_get (D := G) (ci := 3) (v := .ref (a 3)) (C := RX3) (T := TX3) (N := 7) hx hb hts hin_X3 hown hK hP 0 rfl rfl 2 (by decide) (hts (.fieldLink RX3 26 "Migrationledger" "lock" "LMigrationledger$Lock;") (by decide +kernel)) (fun _ h9 => h9) rfl dX3_requireNotCrashed_1 ?_
  refine lv_iload_n hx hb dX3_requireNotCrashed_4 rfl (lv_at hl 1 rfl) ?_
  refine ml_Vi (G := G) (As := [.int (nI j)]) (rest := []) ⟨hx, hb, hml, hown, hts⟩ (c_X1_hasCrashed l G cy a s.heap.size T tr j (by omega) hcr) (cwV 1 hts gX3_requireNotCrashed_X1_hasCrashed rfl rfl rfl (by decide +kernel) ⟨Nat.le_of_ble_eq_true rfl, Nat.le_of_ble_eq_true rfl⟩) (va_recv hK hP (ci := 1) (q0 := 3) rfl rfl) hP hK hD hS hN hA rfl hl.1 (Nat.le_of_ble_eq_true rfl) dX3_requireNotCrashed_5 ⟨Nat.le_of_ble_eq_true rfl, Nat.le_of_ble_eq_true rfl⟩ (fun r_5 u_5 H locs hw hP hD hS => ?_)
  obtain rfl : r_5 = b2i (tcr T j ≠ 0) := hw
  have hP : va_P G vwCl (wC a cy T tr) H := hP
  have hD : va_D A (wC a cy T tr) := hD
  refine ml_ifeqb (tgt := 22) hx hb dX3_requireNotCrashed_8 (by decide) (fun c_8 => ?_) (fun c_8 => ?_)
  · exact vy_ret (ml_rv () hx hb hr hlocks hP hK hD hS rfl c_8 dX3_requireNotCrashed_22)
  · exact ml_thr true hx hb hlt hown rfl (by decide) (text := "the worker has crashed") (by decide) (hts (.classLink RX3 46 eIS) (by decide +kernel)) (hts (.initialized eIS) (by decide +kernel)) (fun w h => hts w (List.mem_cons_of_mem _ (List.mem_append_right _ h))) th_ng50 th_gd50 hP hK hD hE hS (hl.1.trans hml.symm) dX3_requireNotCrashed_11 dX3_requireNotCrashed_14 dX3_requireNotCrashed_15 dX3_requireNotCrashed_18 dX3_requireNotCrashed_21 hout (Nat.le_of_ble_eq_true rfl) (Nat.le_of_ble_eq_true rfl) (Nat.le_of_ble_eq_true rfl) (Nat.le_of_ble_eq_true rfl) hlocks (⟨rfl, c_8⟩) (Nat.le_of_ble_eq_true rfl) (Nat.le_of_ble_eq_true rfl)
set_option maxHeartbeats 4000000 in
set_option maxRecDepth 100000 in
theorem c_X3_requireAtWork (l : Launch) (hlt : l.stackTraces = false) (G : va_G) (cy : Nat → ClassId) (a : Nat → Nat) (sz : Nat) (T : TS) (tr : Nat → Int32) (j : Nat) (hj : j < 4) (hcr : tcr T j = 0 ∨ tcr T j = 1) : vy_Met l yX3_requireAtWork wsX3_requireAtWork ({ frames := 7, cells := 1, slots := 6, locals := 103 } : Room) (ml_PX G cy [.ref (a 0), .int (nI j)] (wC a cy T tr) sz) (va_Qv (fun (_ : Unit) => ¬ tcr T j ≠ 0 ∧ owner T = nI j) (ml_B G cy (va_A (wC a cy T tr) sz) (fun (_ : Unit) => (wC a cy T tr))) (va_A (wC a cy T tr) sz)) (ml_XC G cy (va_A (wC a cy T tr) sz) (wC a cy T tr) (fun E => E = eIS ∧ (tcr T j ≠ 0 ∨ owner T ≠ nI j))) 1 6 (va_A (wC a cy T tr) sz) := by
  refine vy_ofW (cc := cX3_requireAtWork) (maxL := 2) (ret := none) (by decide) rfl ?_
  intro p e s m args below meth c s₁ B hml hout hv
  obtain ⟨rfl, hsz, hP, hK, hD0, hN, hE⟩ := hv
  have hx := B.exec
  have hb := B.bytes
  have hr := B.returns
  have hts := atoms_spec (ws := wsX3_requireAtWork) B.pre
  have hown : s.vm.findClass RX3 = some m.cls := findClass_of_methodNamed B.named
  have hlocks := B.notSynchronized
  subst hsz
  have hD := hD0.self (sz := s.heap.size)
  generalize hAe : va_A (wC a cy T tr) s.heap.size = A at hD hE ⊢
  have hA : ∀ q : Nat, s.heap.size ≤ q → A q := fun q h => by rw [← hAe]; exact Or.inr h
  have hS : va_S A s.heap s.heap [] := va_S.rf
  have hP : va_P G vwCl (wC a cy T tr) s.heap := hP
  have hin_X3 : ∀ w ∈ wsX30, w ∈ wsX3_requireAtWork := by decide +kernel
  have hl := lv_entry ([.ref (a 0), .int (nI j)]) (n := 2) (Nat.le_of_ble_eq_true rfl)
  rw [lg_entry_eq]
  generalize (lg_sl ([.ref (a 0), .int (nI j)]) ++ List.replicate (2 - (lg_sl ([.ref (a 0), .int (nI j)])).length) Slot.unset).toArray = ls at hl ⊢
  have hl : lv_has ls 2 [(0, .ref (a 0)), (1, .int (nI j))] := hl
  refine lv_aload_n hx hb dX3_requireAtWork_0 rfl (lv_at hl 0 rfl) ?_
  refine lv_iload_n hx hb dX3_requireAtWork_1 rfl (lv_at hl 1 rfl) ?_
  refine ml_xVv (G := G) (As := [.int (nI j)]) (rest := []) ⟨hx, hb, hml, hown, hts⟩ (c_X3_requireNotCrashed l hlt G cy a s.heap.size T tr j (by omega) hcr) (cwV 1 hts gX3_requireAtWork_X3_requireNotCrashed rfl rfl rfl (by decide +kernel) ⟨Nat.le_of_ble_eq_true rfl, Nat.le_of_ble_eq_true rfl⟩) (va_recv hK hP (ci := 3) (q0 := 0) rfl rfl) hP hK hD hS hN hA hE rfl hl.1 (Nat.le_of_ble_eq_true rfl) dX3_requireAtWork_2 ⟨Nat.le_of_ble_eq_true rfl, Nat.le_of_ble_eq_true rfl⟩ (fun E ce q9 H1 locs1 hz9 hp hP hD hS9 hcell hv hcl => ml_out hout hlocks (Nat.lt_of_le_of_lt hS.1 hz9) (⟨hp.1, Or.inl hp.2⟩) hP hK hD hS9 hcell hv hcl (Nat.le_of_ble_eq_true rfl) (Nat.le_of_ble_eq_true rfl)) (fun u_2 H locs hw hP hD hS => ?_)
  have q_2 := hw
  have hP : va_P G vwCl (wC a cy T tr) H := hP
  have hD : va_D A (wC a cy T tr) := hD
  refine lv_aload_n hx hb dX3_requireAtWork_5 rfl (lv_at hl 0 rfl) ?_
  refine va_get (D := G) (ci := 3) (v := .ref (a 3)) (C := RX3) (T := TX3) (N := 7) hx hb hts hin_X3 hown hK hP 0 rfl rfl 2 (by decide) (hts (.fieldLink RX3 26 "Migrationledger" "lock" "LMigrationledger$Lock;") (by decide +kernel)) (fun _ h9 => h9) rfl dX3_requireAtWork_6 ?_
  refine ml_Vi (G := G) (As := []) (rest := []) ⟨hx, hb, hml, hown, hts⟩ (c_X1_owner l G cy a H.size T tr) (cwV 0 hts gX3_requireAtWork_X1_owner rfl rfl rfl (by decide +kernel) ⟨Nat.le_of_ble_eq_true rfl, Nat.le_of_ble_eq_true rfl⟩) (va_recv hK hP (ci := 1) (q0 := 3) rfl rfl) hP hK hD hS hN hA rfl hl.1 (Nat.le_of_ble_eq_true rfl) dX3_requireAtWork_9 ⟨Nat.le_of_ble_eq_true rfl, Nat.le_of_ble_eq_true rfl⟩ (fun r_9 u_9 H locs hw hP hD hS => ?_)
  obtain rfl : r_9 = owner T := hw
  have hP : va_P G vwCl (wC a cy T tr) H := hP
  have hD : va_D A (wC a cy T tr) := hD
  refine lv_iload_n hx hb dX3_requireAtWork_12 rfl (lv_at hl 1 rfl) ?_
  refine lv_icmp_eq (tgt := 27) hx hb dX3_requireAtWork_13 (by decide) (fun c_13 => ?_) (fun c_13 => ?_)
  · exact vy_ret (ml_rv () hx hb hr hlocks hP hK hD hS rfl ⟨q_2, c_13⟩ dX3_requireAtWork_27)
  · exact ml_thr true hx hb hlt hown rfl (by decide) (text := "the worker does not have the lock") (by decide) (hts (.classLink RX3 46 eIS) (by decide +kernel)) (hts (.initialized eIS) (by decide +kernel)) (fun w h => hts w (List.mem_cons_of_mem _ (List.mem_append_right _ h))) th_ng50 th_gd50 hP hK hD hE hS (hl.1.trans hml.symm) dX3_requireAtWork_16 dX3_requireAtWork_19 dX3_requireAtWork_20 dX3_requireAtWork_23 dX3_requireAtWork_26 hout (Nat.le_of_ble_eq_true rfl) (Nat.le_of_ble_eq_true rfl) (Nat.le_of_ble_eq_true rfl) (Nat.le_of_ble_eq_true rfl) hlocks (⟨rfl, Or.inr c_13⟩) (Nat.le_of_ble_eq_true rfl) (Nat.le_of_ble_eq_true rfl)
set_option maxHeartbeats 4000000 in
set_option maxRecDepth 100000 in
theorem c_X3_isActive (l : Launch) (G : va_G) (cy : Nat → ClassId) (a : Nat → Nat) (sz : Nat) (T : TS) (tr : Nat → Int32) : Met l yX3_isActive wsX3_isActive ({ frames := 0, cells := 0, slots := 0, locals := 0 } : Room) (ml_P G cy [.ref (a 0)] (wC a cy T tr) sz) (va_Qi (fun (r : Int32) (_ : Unit) => r = b2i (tac T ≠ 0)) (ml_B G cy (va_A (wC a cy T tr) sz) (fun (_ : Unit) => (wC a cy T tr))) (va_A (wC a cy T tr) sz)) 0 0 (va_A (wC a cy T tr) sz) := by
  refine Met.ofW (cc := cX3_isActive) (maxL := 1) (ret := (some .boolean)) (by decide) rfl ?_
  intro p e s m args below meth c s₁ B hml hv
  obtain ⟨rfl, hsz, hP, hK, hD0, hN⟩ := hv
  have hx := B.exec
  have hb := B.bytes
  have hr := B.returns
  have hts := atoms_spec (ws := wsX3_isActive) B.pre
  have hown : s.vm.findClass RX3 = some m.cls := findClass_of_methodNamed B.named
  have hlocks := B.notSynchronized
  subst hsz
  have hD := hD0.self (sz := s.heap.size)
  generalize hAe : va_A (wC a cy T tr) s.heap.size = A at hD ⊢
  have hA : ∀ q : Nat, s.heap.size ≤ q → A q := fun q h => by rw [← hAe]; exact Or.inr h
  have hS : va_S A s.heap s.heap [] := va_S.rf
  have hP : va_P G vwCl (wC a cy T tr) s.heap := hP
  have hin_X3 : ∀ w ∈ wsX30, w ∈ wsX3_isActive := by decide +kernel
  have hl := lv_entry ([.ref (a 0)]) (n := 1) (Nat.le_of_ble_eq_true rfl)
  rw [lg_entry_eq]
  generalize (lg_sl ([.ref (a 0)]) ++ List.replicate (1 - (lg_sl ([.ref (a 0)])).length) Slot.unset).toArray = ls at hl ⊢
  have hl : lv_has ls 1 [(0, .ref (a 0))] := hl
  refine lv_aload_n hx hb dX3_isActive_0 rfl (lv_at hl 0 rfl) ?_
  refine va_get (D := G) (ci := 3) (v := .int (tac T)) (C := RX3) (T := TX3) (N := 7) hx hb hts hin_X3 hown hK hP 0 rfl rfl 5 (by decide) (hts (.fieldLink RX3 34 "Migrationledger" "phase" "I") (by decide +kernel)) (fun _ h9 => h9) rfl dX3_isActive_1 ?_
  refine lv_if_eq (tgt := 11) hx hb dX3_isActive_4 (by decide) (fun c_4 => ?_) (fun c_4 => ?_)
  · refine lv_iconst (v := 0) hx hb dX3_isActive_11 (by decide) ?_
    exact ml_rz () hx hb hr hlocks hP hK hD hS rfl rfl (b2i_f' (fun h => h c_4)) dX3_isActive_12
  · refine lv_iconst (v := 1) hx hb dX3_isActive_7 (by decide) ?_
    refine lv_goto (tgt := 12) hx hb dX3_isActive_8 (by decide) ?_
    exact ml_rz () hx hb hr hlocks hP hK hD hS rfl rfl (b2i_t' c_4) dX3_isActive_12
set_option maxHeartbeats 4000000 in
set_option maxRecDepth 100000 in
theorem c_X3_requireActive (l : Launch) (hlt : l.stackTraces = false) (G : va_G) (cy : Nat → ClassId) (a : Nat → Nat) (sz : Nat) (T : TS) (tr : Nat → Int32) : vy_Met l yX3_requireActive wsX3_requireActive ({ frames := 6, cells := 1, slots := 6, locals := 82 } : Room) (ml_PX G cy [.ref (a 0)] (wC a cy T tr) sz) (va_Qv (fun (_ : Unit) => tac T ≠ 0) (ml_B G cy (va_A (wC a cy T tr) sz) (fun (_ : Unit) => (wC a cy T tr))) (va_A (wC a cy T tr) sz)) (ml_XC G cy (va_A (wC a cy T tr) sz) (wC a cy T tr) (fun E => E = eIS ∧ tac T = 0)) 1 6 (va_A (wC a cy T tr) sz) := by
  refine vy_ofW (cc := cX3_requireActive) (maxL := 1) (ret := none) (by decide) rfl ?_
  intro p e s m args below meth c s₁ B hml hout hv
  obtain ⟨rfl, hsz, hP, hK, hD0, hN, hE⟩ := hv
  have hx := B.exec
  have hb := B.bytes
  have hr := B.returns
  have hts := atoms_spec (ws := wsX3_requireActive) B.pre
  have hown : s.vm.findClass RX3 = some m.cls := findClass_of_methodNamed B.named
  have hlocks := B.notSynchronized
  subst hsz
  have hD := hD0.self (sz := s.heap.size)
  generalize hAe : va_A (wC a cy T tr) s.heap.size = A at hD hE ⊢
  have hA : ∀ q : Nat, s.heap.size ≤ q → A q := fun q h => by rw [← hAe]; exact Or.inr h
  have hS : va_S A s.heap s.heap [] := va_S.rf
  have hP : va_P G vwCl (wC a cy T tr) s.heap := hP
  have hl := lv_entry ([.ref (a 0)]) (n := 1) (Nat.le_of_ble_eq_true rfl)
  rw [lg_entry_eq]
  generalize (lg_sl ([.ref (a 0)]) ++ List.replicate (1 - (lg_sl ([.ref (a 0)])).length) Slot.unset).toArray = ls at hl ⊢
  have hl : lv_has ls 1 [(0, .ref (a 0))] := hl
  refine lv_aload_n hx hb dX3_requireActive_0 rfl (lv_at hl 0 rfl) ?_
  refine ml_Vi (G := G) (As := []) (rest := []) ⟨hx, hb, hml, hown, hts⟩ (c_X3_isActive l G cy a s.heap.size T tr) (cwV 0 hts gX3_requireActive_X3_isActive rfl rfl rfl (by decide +kernel) ⟨Nat.le_of_ble_eq_true rfl, Nat.le_of_ble_eq_true rfl⟩) (va_recv hK hP (ci := 3) (q0 := 0) rfl rfl) hP hK hD hS hN hA rfl hl.1 (Nat.le_of_ble_eq_true rfl) dX3_requireActive_1 ⟨Nat.le_of_ble_eq_true rfl, Nat.le_of_ble_eq_true rfl⟩ (fun r_1 u_1 H locs hw hP hD hS => ?_)
  obtain rfl : r_1 = b2i (tac T ≠ 0) := hw
  have hP : va_P G vwCl (wC a cy T tr) H := hP
  have hD : va_D A (wC a cy T tr) := hD
  refine ml_ifneb (tgt := 18) hx hb dX3_requireActive_4 (by decide) (fun c_4 => ?_) (fun c_4 => ?_)
  · exact vy_ret (ml_rv () hx hb hr hlocks hP hK hD hS rfl c_4 dX3_requireActive_18)
  · exact ml_thr true hx hb hlt hown rfl (by decide) (text := "no change is running or being undone") (by decide) (hts (.classLink RX3 46 eIS) (by decide +kernel)) (hts (.initialized eIS) (by decide +kernel)) (fun w h => hts w (List.mem_cons_of_mem _ (List.mem_append_right _ h))) th_ng50 th_gd50 hP hK hD hE hS (hl.1.trans hml.symm) dX3_requireActive_7 dX3_requireActive_10 dX3_requireActive_11 dX3_requireActive_14 dX3_requireActive_17 hout (Nat.le_of_ble_eq_true rfl) (Nat.le_of_ble_eq_true rfl) (Nat.le_of_ble_eq_true rfl) (Nat.le_of_ble_eq_true rfl) hlocks (⟨rfl, Classical.not_not.mp c_4⟩) (Nat.le_of_ble_eq_true rfl) (Nat.le_of_ble_eq_true rfl)
set_option maxHeartbeats 4000000 in
set_option maxRecDepth 100000 in
theorem c_X3_activeNumber (l : Launch) (G : va_G) (cy : Nat → ClassId) (a : Nat → Nat) (sz : Nat) (T : TS) (tr : Nat → Int32) : Met l yX3_activeNumber wsX3_activeNumber ({ frames := 0, cells := 0, slots := 0, locals := 0 } : Room) (ml_P G cy [.ref (a 0)] (wC a cy T tr) sz) (va_Qi (fun (r : Int32) (_ : Unit) => r = nI (tlv T + 1)) (ml_B G cy (va_A (wC a cy T tr) sz) (fun (_ : Unit) => (wC a cy T tr))) (va_A (wC a cy T tr) sz)) 0 0 (va_A (wC a cy T tr) sz) := by
  refine Met.ofW (cc := cX3_activeNumber) (maxL := 1) (ret := (some .int)) (by decide) rfl ?_
  intro p e s m args below meth c s₁ B hml hv
  obtain ⟨rfl, hsz, hP, hK, hD0, hN⟩ := hv
  have hx := B.exec
  have hb := B.bytes
  have hr := B.returns
  have hts := atoms_spec (ws := wsX3_activeNumber) B.pre
  have hown : s.vm.findClass RX3 = some m.cls := findClass_of_methodNamed B.named
  have hlocks := B.notSynchronized
  subst hsz
  have hD := hD0.self (sz := s.heap.size)
  generalize hAe : va_A (wC a cy T tr) s.heap.size = A at hD ⊢
  have hA : ∀ q : Nat, s.heap.size ≤ q → A q := fun q h => by rw [← hAe]; exact Or.inr h
  have hS : va_S A s.heap s.heap [] := va_S.rf
  have hP : va_P G vwCl (wC a cy T tr) s.heap := hP
  have hin_X3 : ∀ w ∈ wsX30, w ∈ wsX3_activeNumber := by decide +kernel
  have hl := lv_entry ([.ref (a 0)]) (n := 1) (Nat.le_of_ble_eq_true rfl)
  rw [lg_entry_eq]
  generalize (lg_sl ([.ref (a 0)]) ++ List.replicate (1 - (lg_sl ([.ref (a 0)])).length) Slot.unset).toArray = ls at hl ⊢
  have hl : lv_has ls 1 [(0, .ref (a 0))] := hl
  refine lv_aload_n hx hb dX3_activeNumber_0 rfl (lv_at hl 0 rfl) ?_
  refine va_get (D := G) (ci := 3) (v := .int (nI (tlv T))) (C := RX3) (T := TX3) (N := 7) hx hb hts hin_X3 hown hK hP 0 rfl rfl 4 (by decide) (hts (.fieldLink RX3 81 "Migrationledger" "done" "I") (by decide +kernel)) (fun _ h9 => h9) rfl dX3_activeNumber_1 ?_
  refine lv_iconst (v := 1) hx hb dX3_activeNumber_4 (by decide) ?_
  refine lv_iadd hx hb dX3_activeNumber_5 ?_
  refine ml_eqi (nI (tlv T + 1)) (nI_add (tlv T) 1) ?_
  exact ml_ri () hx hb hr hlocks hP hK hD hS rfl rfl dX3_activeNumber_6
set_option maxHeartbeats 4000000 in
set_option maxRecDepth 100000 in
theorem c_X3_requireUndoableDone (l : Launch) (hlt : l.stackTraces = false) (G : va_G) (cy : Nat → ClassId) (a : Nat → Nat) (sz : Nat) (T : TS) (tr : Nat → Int32) (hlv : tlv T ≤ 12) : vy_Met l yX3_requireUndoableDone wsX3_requireUndoableDone ({ frames := 6, cells := 1, slots := 6, locals := 82 } : Room) (ml_PX G cy [.ref (a 0)] (wC a cy T tr) sz) (va_Qv (fun (_ : Unit) => tlv T ≠ 0 ∧ ¬ drf T (tlv T)) (ml_B G cy (va_A (wC a cy T tr) sz) (fun (_ : Unit) => (wC a cy T tr))) (va_A (wC a cy T tr) sz)) (ml_XC G cy (va_A (wC a cy T tr) sz) (wC a cy T tr) (fun E => E = eIS ∧ (tlv T = 0 ∨ drf T (tlv T)))) 1 6 (va_A (wC a cy T tr) sz) := by
  refine vy_ofW (cc := cX3_requireUndoableDone) (maxL := 1) (ret := none) (by decide) rfl ?_
  intro p e s m args below meth c s₁ B hml hout hv
  obtain ⟨rfl, hsz, hP, hK, hD0, hN, hE⟩ := hv
  have hx := B.exec
  have hb := B.bytes
  have hr := B.returns
  have hts := atoms_spec (ws := wsX3_requireUndoableDone) B.pre
  have hown : s.vm.findClass RX3 = some m.cls := findClass_of_methodNamed B.named
  have hlocks := B.notSynchronized
  subst hsz
  have hD := hD0.self (sz := s.heap.size)
  generalize hAe : va_A (wC a cy T tr) s.heap.size = A at hD hE ⊢
  have hA : ∀ q : Nat, s.heap.size ≤ q → A q := fun q h => by rw [← hAe]; exact Or.inr h
  have hS : va_S A s.heap s.heap [] := va_S.rf
  have hP : va_P G vwCl (wC a cy T tr) s.heap := hP
  have hin_X3 : ∀ w ∈ wsX30, w ∈ wsX3_requireUndoableDone := by decide +kernel
  have hl := lv_entry ([.ref (a 0)]) (n := 1) (Nat.le_of_ble_eq_true rfl)
  rw [lg_entry_eq]
  generalize (lg_sl ([.ref (a 0)]) ++ List.replicate (1 - (lg_sl ([.ref (a 0)])).length) Slot.unset).toArray = ls at hl ⊢
  have hl : lv_has ls 1 [(0, .ref (a 0))] := hl
  refine lv_aload_n hx hb dX3_requireUndoableDone_0 rfl (lv_at hl 0 rfl) ?_
  refine va_get (D := G) (ci := 3) (v := .int (nI (tlv T))) (C := RX3) (T := TX3) (N := 7) hx hb hts hin_X3 hown hK hP 0 rfl rfl 4 (by decide) (hts (.fieldLink RX3 81 "Migrationledger" "done" "I") (by decide +kernel)) (fun _ h9 => h9) rfl dX3_requireUndoableDone_1 ?_
  refine lv_if_ne (tgt := 18) hx hb dX3_requireUndoableDone_4 (by decide) (fun c_4 => ?_) (fun c_4 => ?_)
  · have h0 : tlv T ≠ 0 := fun q => c_4 (by rw [q]; rfl)
    obtain ⟨d0, ed⟩ : ∃ d0, tlv T = d0 + 1 := ⟨tlv T - 1, by omega⟩
    refine lv_aload_n hx hb dX3_requireUndoableDone_18 rfl (lv_at hl 0 rfl) ?_
    refine va_get (D := G) (ci := 3) (v := .ref (a 1)) (C := RX3) (T := TX3) (N := 7) hx hb hts hin_X3 hown hK hP 0 rfl rfl 0 (by decide) (hts (.fieldLink RX3 10 "Migrationledger" "list" "LMigrationledger$ChangeList;") (by decide +kernel)) (fun _ h9 => h9) rfl dX3_requireUndoableDone_19 ?_
    refine lv_aload_n hx hb dX3_requireUndoableDone_22 rfl (lv_at hl 0 rfl) ?_
    refine va_get (D := G) (ci := 3) (v := .int (nI (tlv T))) (C := RX3) (T := TX3) (N := 7) hx hb hts hin_X3 hown hK hP 0 rfl rfl 4 (by decide) (hts (.fieldLink RX3 81 "Migrationledger" "done" "I") (by decide +kernel)) (fun _ h9 => h9) rfl dX3_requireUndoableDone_23 ?_
    refine ml_eqi (nI (d0 + 1)) (by rw [ed]) ?_
    refine ml_Vi (G := G) (As := [.int (nI (d0 + 1))]) (rest := []) ⟨hx, hb, hml, hown, hts⟩ (c_X0_hasDrifted l G cy a s.heap.size T tr d0 (by omega)) (cwV 1 hts gX3_requireUndoableDone_X0_hasDrifted rfl rfl rfl (by decide +kernel) ⟨Nat.le_of_ble_eq_true rfl, Nat.le_of_ble_eq_true rfl⟩) (va_recv hK hP (ci := 0) (q0 := 1) rfl rfl) hP hK hD hS hN hA rfl hl.1 (Nat.le_of_ble_eq_true rfl) dX3_requireUndoableDone_26 ⟨Nat.le_of_ble_eq_true rfl, Nat.le_of_ble_eq_true rfl⟩ (fun r_26 u_26 H locs hw hP hD hS => ?_)
    obtain rfl : r_26 = b2i (drf T (d0 + 1)) := hw
    have hP : va_P G vwCl (wC a cy T tr) H := hP
    have hD : va_D A (wC a cy T tr) := hD
    refine ml_ifeqb (tgt := 43) hx hb dX3_requireUndoableDone_29 (by decide) (fun c_29 => ?_) (fun c_29 => ?_)
    · exact vy_ret (ml_rv () hx hb hr hlocks hP hK hD hS rfl ⟨h0, by rw [ed]; exact c_29⟩ dX3_requireUndoableDone_43)
    · exact ml_thr true hx hb hlt hown rfl (by decide) (text := "the change that was done last has drifted") (by decide) (hts (.classLink RX3 46 eIS) (by decide +kernel)) (hts (.initialized eIS) (by decide +kernel)) (fun w h => hts w (List.mem_cons_of_mem _ (List.mem_append_right _ h))) th_ng50 th_gd50 hP hK hD hE hS (hl.1.trans hml.symm) dX3_requireUndoableDone_32 dX3_requireUndoableDone_35 dX3_requireUndoableDone_36 dX3_requireUndoableDone_39 dX3_requireUndoableDone_42 hout (Nat.le_of_ble_eq_true rfl) (Nat.le_of_ble_eq_true rfl) (Nat.le_of_ble_eq_true rfl) (Nat.le_of_ble_eq_true rfl) hlocks (⟨rfl, Or.inr (by rw [ed]; exact c_29)⟩) (Nat.le_of_ble_eq_true rfl) (Nat.le_of_ble_eq_true rfl)
  · exact ml_thr true hx hb hlt hown rfl (by decide) (text := "no change is running and none is done") (by decide) (hts (.classLink RX3 46 eIS) (by decide +kernel)) (hts (.initialized eIS) (by decide +kernel)) (fun w h => hts w (List.mem_cons_of_mem _ (List.mem_append_right _ h))) th_ng50 th_gd50 hP hK hD hE hS (hl.1.trans hml.symm) dX3_requireUndoableDone_7 dX3_requireUndoableDone_10 dX3_requireUndoableDone_11 dX3_requireUndoableDone_14 dX3_requireUndoableDone_17 hout (Nat.le_of_ble_eq_true rfl) (Nat.le_of_ble_eq_true rfl) (Nat.le_of_ble_eq_true rfl) (Nat.le_of_ble_eq_true rfl) hlocks (⟨rfl, Or.inl (Classical.byContradiction fun q => nI_ne0 (Nat.pos_of_ne_zero q) (by omega) c_4)⟩) (Nat.le_of_ble_eq_true rfl) (Nat.le_of_ble_eq_true rfl)
set_option maxHeartbeats 4000000 in
set_option maxRecDepth 100000 in
theorem c_X3_versionForNewRow (l : Launch) (G : va_G) (cy : Nat → ClassId) (a : Nat → Nat) (sz : Nat) (T : TS) (tr : Nat → Int32) (j : Nat) (hj : j < 40) : Met l yX3_versionForNewRow wsX3_versionForNewRow ({ frames := 1, cells := 0, slots := 0, locals := 20 } : Room) (ml_P G cy [.ref (a 0), .int (nI j)] (wC a cy T tr) sz) (va_Qi (fun (r : Int32) (_ : Unit) => r = vNew T j) (ml_B G cy (va_A (wC a cy T tr) sz) (fun (_ : Unit) => (wC a cy T tr))) (va_A (wC a cy T tr) sz)) 0 0 (va_A (wC a cy T tr) sz) := by
  refine Met.ofW (cc := cX3_versionForNewRow) (maxL := 2) (ret := (some .int)) (by decide) rfl ?_
  intro p e s m args below meth c s₁ B hml hv
  obtain ⟨rfl, hsz, hP, hK, hD0, hN⟩ := hv
  have hx := B.exec
  have hb := B.bytes
  have hr := B.returns
  have hts := atoms_spec (ws := wsX3_versionForNewRow) B.pre
  have hown : s.vm.findClass RX3 = some m.cls := findClass_of_methodNamed B.named
  have hlocks := B.notSynchronized
  subst hsz
  have hD := hD0.self (sz := s.heap.size)
  generalize hAe : va_A (wC a cy T tr) s.heap.size = A at hD ⊢
  have hA : ∀ q : Nat, s.heap.size ≤ q → A q := fun q h => by rw [← hAe]; exact Or.inr h
  have hS : va_S A s.heap s.heap [] := va_S.rf
  have hP : va_P G vwCl (wC a cy T tr) s.heap := hP
  have hin_X3 : ∀ w ∈ wsX30, w ∈ wsX3_versionForNewRow := by decide +kernel
  have hl := lv_entry ([.ref (a 0), .int (nI j)]) (n := 2) (Nat.le_of_ble_eq_true rfl)
  rw [lg_entry_eq]
  generalize (lg_sl ([.ref (a 0), .int (nI j)]) ++ List.replicate (2 - (lg_sl ([.ref (a 0), .int (nI j)])).length) Slot.unset).toArray = ls at hl ⊢
  have hl : lv_has ls 2 [(0, .ref (a 0)), (1, .int (nI j))] := hl
  refine lv_aload_n hx hb dX3_versionForNewRow_0 rfl (lv_at hl 0 rfl) ?_
  refine ml_Vi (G := G) (As := []) (rest := []) ⟨hx, hb, hml, hown, hts⟩ (c_X3_isActive l G cy a s.heap.size T tr) (cwV 0 hts gX3_versionForNewRow_X3_isActive rfl rfl rfl (by decide +kernel) ⟨Nat.le_of_ble_eq_true rfl, Nat.le_of_ble_eq_true rfl⟩) (va_recv hK hP (ci := 3) (q0 := 0) rfl rfl) hP hK hD hS hN hA rfl hl.1 (Nat.le_of_ble_eq_true rfl) dX3_versionForNewRow_1 ⟨Nat.le_of_ble_eq_true rfl, Nat.le_of_ble_eq_true rfl⟩ (fun r_1 u_1 H locs hw hP hD hS => ?_)
  obtain rfl : r_1 = b2i (tac T ≠ 0) := hw
  have hP : va_P G vwCl (wC a cy T tr) H := hP
  have hD : va_D A (wC a cy T tr) := hD
  refine ml_ifeqb (tgt := 22) hx hb dX3_versionForNewRow_4 (by decide) (fun c_4 => ?_) (fun c_4 => ?_)
  · refine lv_aload_n hx hb dX3_versionForNewRow_22 rfl (lv_at hl 0 rfl) ?_
    refine va_get (D := G) (ci := 3) (v := .int (nI (tlv T))) (C := RX3) (T := TX3) (N := 7) hx hb hts hin_X3 hown hK hP 0 rfl rfl 4 (by decide) (hts (.fieldLink RX3 81 "Migrationledger" "done" "I") (by decide +kernel)) (fun _ h9 => h9) rfl dX3_versionForNewRow_23 ?_
    exact ml_ri () hx hb hr hlocks hP hK hD hS rfl (nw_a c_4) dX3_versionForNewRow_26
  · refine lv_iload_n hx hb dX3_versionForNewRow_7 rfl (lv_at hl 1 rfl) ?_
    refine lv_aload_n hx hb dX3_versionForNewRow_8 rfl (lv_at hl 0 rfl) ?_
    refine va_get (D := G) (ci := 3) (v := .int (nI (tcu T))) (C := RX3) (T := TX3) (N := 7) hx hb hts hin_X3 hown hK hP 0 rfl rfl 6 (by decide) (hts (.fieldLink RX3 184 "Migrationledger" "position" "I") (by decide +kernel)) (fun _ h9 => h9) rfl dX3_versionForNewRow_9 ?_
    refine lv_icmp_ge (tgt := 22) hx hb dX3_versionForNewRow_12 (by decide) (fun c_12 => ?_) (fun c_12 => ?_)
    · refine lv_aload_n hx hb dX3_versionForNewRow_22 rfl (lv_at hl 0 rfl) ?_
      refine va_get (D := G) (ci := 3) (v := .int (nI (tlv T))) (C := RX3) (T := TX3) (N := 7) hx hb hts hin_X3 hown hK hP 0 rfl rfl 4 (by decide) (hts (.fieldLink RX3 81 "Migrationledger" "done" "I") (by decide +kernel)) (fun _ h9 => h9) rfl dX3_versionForNewRow_23 ?_
      exact ml_ri () hx hb hr hlocks hP hK hD hS rfl (nw_b c_12) dX3_versionForNewRow_26
    · refine lv_aload_n hx hb dX3_versionForNewRow_15 rfl (lv_at hl 0 rfl) ?_
      refine ml_Vi (G := G) (As := []) (rest := []) ⟨hx, hb, hml, hown, hts⟩ (c_X3_activeNumber l G cy a H.size T tr) (cwV 0 hts gX3_versionForNewRow_X3_activeNumber rfl rfl rfl (by decide +kernel) ⟨Nat.le_of_ble_eq_true rfl, Nat.le_of_ble_eq_true rfl⟩) (va_recv hK hP (ci := 3) (q0 := 0) rfl rfl) hP hK hD hS hN hA rfl hl.1 (Nat.le_of_ble_eq_true rfl) dX3_versionForNewRow_16 ⟨Nat.le_of_ble_eq_true rfl, Nat.le_of_ble_eq_true rfl⟩ (fun r_16 u_16 H locs hw hP hD hS => ?_)
      obtain rfl : r_16 = nI (tlv T + 1) := hw
      have hP : va_P G vwCl (wC a cy T tr) H := hP
      have hD : va_D A (wC a cy T tr) := hD
      refine lv_goto (tgt := 26) hx hb dX3_versionForNewRow_19 (by decide) ?_
      exact ml_ri () hx hb hr hlocks hP hK hD hS rfl (nw_t c_4 (Int32.not_le.mp c_12)) dX3_versionForNewRow_26
set_option maxHeartbeats 4000000 in
set_option maxRecDepth 100000 in
theorem c_X3_idsLeft (l : Launch) (G : va_G) (cy : Nat → ClassId) (a : Nat → Nat) (sz : Nat) (T : TS) (tr : Nat → Int32) (und : Prop) (hu : unD T und) (hcu : tcu T ≤ 40) : Met l yX3_idsLeft wsX3_idsLeft ({ frames := 0, cells := 0, slots := 0, locals := 0 } : Room) (ml_P G cy [.ref (a 0)] (wC a cy T tr) sz) (va_Qi (fun (r : Int32) (_ : Unit) => r = nI (left T und)) (ml_B G cy (va_A (wC a cy T tr) sz) (fun (_ : Unit) => (wC a cy T tr))) (va_A (wC a cy T tr) sz)) 0 0 (va_A (wC a cy T tr) sz) := by
  refine Met.ofW (cc := cX3_idsLeft) (maxL := 1) (ret := (some .int)) (by decide) rfl ?_
  intro p e s m args below meth c s₁ B hml hv
  obtain ⟨rfl, hsz, hP, hK, hD0, hN⟩ := hv
  have hx := B.exec
  have hb := B.bytes
  have hr := B.returns
  have hts := atoms_spec (ws := wsX3_idsLeft) B.pre
  have hown : s.vm.findClass RX3 = some m.cls := findClass_of_methodNamed B.named
  have hlocks := B.notSynchronized
  subst hsz
  have hD := hD0.self (sz := s.heap.size)
  generalize hAe : va_A (wC a cy T tr) s.heap.size = A at hD ⊢
  have hA : ∀ q : Nat, s.heap.size ≤ q → A q := fun q h => by rw [← hAe]; exact Or.inr h
  have hS : va_S A s.heap s.heap [] := va_S.rf
  have hP : va_P G vwCl (wC a cy T tr) s.heap := hP
  have hin_X3 : ∀ w ∈ wsX30, w ∈ wsX3_idsLeft := by decide +kernel
  have hl := lv_entry ([.ref (a 0)]) (n := 1) (Nat.le_of_ble_eq_true rfl)
  rw [lg_entry_eq]
  generalize (lg_sl ([.ref (a 0)]) ++ List.replicate (1 - (lg_sl ([.ref (a 0)])).length) Slot.unset).toArray = ls at hl ⊢
  have hl : lv_has ls 1 [(0, .ref (a 0))] := hl
  refine lv_aload_n hx hb dX3_idsLeft_0 rfl (lv_at hl 0 rfl) ?_
  refine va_get (D := G) (ci := 3) (v := .int (tac T)) (C := RX3) (T := TX3) (N := 7) hx hb hts hin_X3 hown hK hP 0 rfl rfl 5 (by decide) (hts (.fieldLink RX3 34 "Migrationledger" "phase" "I") (by decide +kernel)) (fun _ h9 => h9) rfl dX3_idsLeft_1 ?_
  refine lv_iconst (v := 1) hx hb dX3_idsLeft_4 (by decide) ?_
  refine lv_icmp_ne (tgt := 18) hx hb dX3_idsLeft_5 (by decide) (fun c_5 => ?_) (fun c_5 => ?_)
  · refine lv_aload_n hx hb dX3_idsLeft_18 rfl (lv_at hl 0 rfl) ?_
    refine va_get (D := G) (ci := 3) (v := .int (nI (tcu T))) (C := RX3) (T := TX3) (N := 7) hx hb hts hin_X3 hown hK hP 0 rfl rfl 6 (by decide) (hts (.fieldLink RX3 184 "Migrationledger" "position" "I") (by decide +kernel)) (fun _ h9 => h9) rfl dX3_idsLeft_19 ?_
    exact ml_ri () hx hb hr hlocks hP hK hD hS rfl (left_t (un3 hu c_5)) dX3_idsLeft_22
  · refine lv_bipush (v := 40) hx hb dX3_idsLeft_8 (by decide) ?_
    refine lv_aload_n hx hb dX3_idsLeft_10 rfl (lv_at hl 0 rfl) ?_
    refine va_get (D := G) (ci := 3) (v := .int (nI (tcu T))) (C := RX3) (T := TX3) (N := 7) hx hb hts hin_X3 hown hK hP 0 rfl rfl 6 (by decide) (hts (.fieldLink RX3 184 "Migrationledger" "position" "I") (by decide +kernel)) (fun _ h9 => h9) rfl dX3_idsLeft_11 ?_
    refine lv_isub hx hb dX3_idsLeft_14 ?_
    refine ml_eqi (nI (40 - tcu T)) (pk_sub (a := 40) hcu) ?_
    refine lv_goto (tgt := 22) hx hb dX3_idsLeft_15 (by decide) ?_
    exact ml_ri () hx hb hr hlocks hP hK hD hS rfl (left_f (un1 hu c_5)) dX3_idsLeft_22
set_option maxHeartbeats 4000000 in
set_option maxRecDepth 100000 in
theorem c_X3_positionBehind (l : Launch) (G : va_G) (cy : Nat → ClassId) (a : Nat → Nat) (sz : Nat) (T : TS) (tr : Nat → Int32) (k : Nat) (und : Prop) (hu : unD T und) (hk : und → k ≤ tcu T) : Met l yX3_positionBehind wsX3_positionBehind ({ frames := 0, cells := 0, slots := 0, locals := 0 } : Room) (ml_P G cy [.ref (a 0), .int (nI k)] (wC a cy T tr) sz) (va_Qi (fun (r : Int32) (_ : Unit) => r = nI (poB T und k)) (ml_B G cy (va_A (wC a cy T tr) sz) (fun (_ : Unit) => (wC a cy T tr))) (va_A (wC a cy T tr) sz)) 0 0 (va_A (wC a cy T tr) sz) := by
  refine Met.ofW (cc := cX3_positionBehind) (maxL := 2) (ret := (some .int)) (by decide) rfl ?_
  intro p e s m args below meth c s₁ B hml hv
  obtain ⟨rfl, hsz, hP, hK, hD0, hN⟩ := hv
  have hx := B.exec
  have hb := B.bytes
  have hr := B.returns
  have hts := atoms_spec (ws := wsX3_positionBehind) B.pre
  have hown : s.vm.findClass RX3 = some m.cls := findClass_of_methodNamed B.named
  have hlocks := B.notSynchronized
  subst hsz
  have hD := hD0.self (sz := s.heap.size)
  generalize hAe : va_A (wC a cy T tr) s.heap.size = A at hD ⊢
  have hA : ∀ q : Nat, s.heap.size ≤ q → A q := fun q h => by rw [← hAe]; exact Or.inr h
  have hS : va_S A s.heap s.heap [] := va_S.rf
  have hP : va_P G vwCl (wC a cy T tr) s.heap := hP
  have hin_X3 : ∀ w ∈ wsX30, w ∈ wsX3_positionBehind := by decide +kernel
  have hl := lv_entry ([.ref (a 0), .int (nI k)]) (n := 2) (Nat.le_of_ble_eq_true rfl)
  rw [lg_entry_eq]
  generalize (lg_sl ([.ref (a 0), .int (nI k)]) ++ List.replicate (2 - (lg_sl ([.ref (a 0), .int (nI k)])).length) Slot.unset).toArray = ls at hl ⊢
  have hl : lv_has ls 2 [(0, .ref (a 0)), (1, .int (nI k))] := hl
  refine lv_aload_n hx hb dX3_positionBehind_0 rfl (lv_at hl 0 rfl) ?_
  refine va_get (D := G) (ci := 3) (v := .int (tac T)) (C := RX3) (T := TX3) (N := 7) hx hb hts hin_X3 hown hK hP 0 rfl rfl 5 (by decide) (hts (.fieldLink RX3 34 "Migrationledger" "phase" "I") (by decide +kernel)) (fun _ h9 => h9) rfl dX3_positionBehind_1 ?_
  refine lv_iconst (v := 1) hx hb dX3_positionBehind_4 (by decide) ?_
  refine lv_icmp_ne (tgt := 17) hx hb dX3_positionBehind_5 (by decide) (fun c_5 => ?_) (fun c_5 => ?_)
  · refine lv_aload_n hx hb dX3_positionBehind_17 rfl (lv_at hl 0 rfl) ?_
    refine va_get (D := G) (ci := 3) (v := .int (nI (tcu T))) (C := RX3) (T := TX3) (N := 7) hx hb hts hin_X3 hown hK hP 0 rfl rfl 6 (by decide) (hts (.fieldLink RX3 184 "Migrationledger" "position" "I") (by decide +kernel)) (fun _ h9 => h9) rfl dX3_positionBehind_18 ?_
    refine lv_iload_n hx hb dX3_positionBehind_21 rfl (lv_at hl 1 rfl) ?_
    refine lv_isub hx hb dX3_positionBehind_22 ?_
    refine ml_eqi (nI (tcu T - k)) (pk_sub (hk (un3 hu c_5))) ?_
    exact ml_ri () hx hb hr hlocks hP hK hD hS rfl (poB_t (un3 hu c_5)) dX3_positionBehind_23
  · refine lv_aload_n hx hb dX3_positionBehind_8 rfl (lv_at hl 0 rfl) ?_
    refine va_get (D := G) (ci := 3) (v := .int (nI (tcu T))) (C := RX3) (T := TX3) (N := 7) hx hb hts hin_X3 hown hK hP 0 rfl rfl 6 (by decide) (hts (.fieldLink RX3 184 "Migrationledger" "position" "I") (by decide +kernel)) (fun _ h9 => h9) rfl dX3_positionBehind_9 ?_
    refine lv_iload_n hx hb dX3_positionBehind_12 rfl (lv_at hl 1 rfl) ?_
    refine lv_iadd hx hb dX3_positionBehind_13 ?_
    refine ml_eqi (nI (tcu T + k)) (nI_add (tcu T) k) ?_
    refine lv_goto (tgt := 23) hx hb dX3_positionBehind_14 (by decide) ?_
    exact ml_ri () hx hb hr hlocks hP hK hD hS rfl (poB_f (un1 hu c_5)) dX3_positionBehind_23
set_option maxHeartbeats 4000000 in
set_option maxRecDepth 100000 in
theorem c_X3_idBehind (l : Launch) (G : va_G) (cy : Nat → ClassId) (a : Nat → Nat) (sz : Nat) (T : TS) (tr : Nat → Int32) (k : Nat) (und : Prop) (hu : unD T und) (hk : und → k < tcu T) : Met l yX3_idBehind wsX3_idBehind ({ frames := 0, cells := 0, slots := 0, locals := 0 } : Room) (ml_P G cy [.ref (a 0), .int (nI k)] (wC a cy T tr) sz) (va_Qi (fun (r : Int32) (_ : Unit) => r = nI (idB T und k)) (ml_B G cy (va_A (wC a cy T tr) sz) (fun (_ : Unit) => (wC a cy T tr))) (va_A (wC a cy T tr) sz)) 0 0 (va_A (wC a cy T tr) sz) := by
  refine Met.ofW (cc := cX3_idBehind) (maxL := 2) (ret := (some .int)) (by decide) rfl ?_
  intro p e s m args below meth c s₁ B hml hv
  obtain ⟨rfl, hsz, hP, hK, hD0, hN⟩ := hv
  have hx := B.exec
  have hb := B.bytes
  have hr := B.returns
  have hts := atoms_spec (ws := wsX3_idBehind) B.pre
  have hown : s.vm.findClass RX3 = some m.cls := findClass_of_methodNamed B.named
  have hlocks := B.notSynchronized
  subst hsz
  have hD := hD0.self (sz := s.heap.size)
  generalize hAe : va_A (wC a cy T tr) s.heap.size = A at hD ⊢
  have hA : ∀ q : Nat, s.heap.size ≤ q → A q := fun q h => by rw [← hAe]; exact Or.inr h
  have hS : va_S A s.heap s.heap [] := va_S.rf
  have hP : va_P G vwCl (wC a cy T tr) s.heap := hP
  have hin_X3 : ∀ w ∈ wsX30, w ∈ wsX3_idBehind := by decide +kernel
  have hl := lv_entry ([.ref (a 0), .int (nI k)]) (n := 2) (Nat.le_of_ble_eq_true rfl)
  rw [lg_entry_eq]
  generalize (lg_sl ([.ref (a 0), .int (nI k)]) ++ List.replicate (2 - (lg_sl ([.ref (a 0), .int (nI k)])).length) Slot.unset).toArray = ls at hl ⊢
  have hl : lv_has ls 2 [(0, .ref (a 0)), (1, .int (nI k))] := hl
  refine lv_aload_n hx hb dX3_idBehind_0 rfl (lv_at hl 0 rfl) ?_
  refine va_get (D := G) (ci := 3) (v := .int (tac T)) (C := RX3) (T := TX3) (N := 7) hx hb hts hin_X3 hown hK hP 0 rfl rfl 5 (by decide) (hts (.fieldLink RX3 34 "Migrationledger" "phase" "I") (by decide +kernel)) (fun _ h9 => h9) rfl dX3_idBehind_1 ?_
  refine lv_iconst (v := 1) hx hb dX3_idBehind_4 (by decide) ?_
  refine lv_icmp_ne (tgt := 17) hx hb dX3_idBehind_5 (by decide) (fun c_5 => ?_) (fun c_5 => ?_)
  · refine lv_aload_n hx hb dX3_idBehind_17 rfl (lv_at hl 0 rfl) ?_
    refine va_get (D := G) (ci := 3) (v := .int (nI (tcu T))) (C := RX3) (T := TX3) (N := 7) hx hb hts hin_X3 hown hK hP 0 rfl rfl 6 (by decide) (hts (.fieldLink RX3 184 "Migrationledger" "position" "I") (by decide +kernel)) (fun _ h9 => h9) rfl dX3_idBehind_18 ?_
    refine lv_iconst (v := 1) hx hb dX3_idBehind_21 (by decide) ?_
    refine lv_isub hx hb dX3_idBehind_22 ?_
    refine ml_eqi (nI (tcu T - 1)) (pk_sub (b := 1) (by have := hk (un3 hu c_5); omega)) ?_
    refine lv_iload_n hx hb dX3_idBehind_23 rfl (lv_at hl 1 rfl) ?_
    refine lv_isub hx hb dX3_idBehind_24 ?_
    refine ml_eqi (nI (tcu T - 1 - k)) (pk_sub (by have := hk (un3 hu c_5); omega)) ?_
    exact ml_ri () hx hb hr hlocks hP hK hD hS rfl (idB_t (un3 hu c_5)) dX3_idBehind_25
  · refine lv_aload_n hx hb dX3_idBehind_8 rfl (lv_at hl 0 rfl) ?_
    refine va_get (D := G) (ci := 3) (v := .int (nI (tcu T))) (C := RX3) (T := TX3) (N := 7) hx hb hts hin_X3 hown hK hP 0 rfl rfl 6 (by decide) (hts (.fieldLink RX3 184 "Migrationledger" "position" "I") (by decide +kernel)) (fun _ h9 => h9) rfl dX3_idBehind_9 ?_
    refine lv_iload_n hx hb dX3_idBehind_12 rfl (lv_at hl 1 rfl) ?_
    refine lv_iadd hx hb dX3_idBehind_13 ?_
    refine ml_eqi (nI (tcu T + k)) (nI_add (tcu T) k) ?_
    refine lv_goto (tgt := 25) hx hb dX3_idBehind_14 (by decide) ?_
    exact ml_ri () hx hb hr hlocks hP hK hD hS rfl (idB_f (un1 hu c_5)) dX3_idBehind_25
set_option maxHeartbeats 4000000 in
set_option maxRecDepth 100000 in
theorem c_X3_isToBeChanged (l : Launch) (G : va_G) (cy : Nat → ClassId) (a : Nat → Nat) (sz : Nat) (T : TS) (tr : Nat → Int32) (j : Nat) (hj : j < 40) (und : Prop) (hu : unD T und) : Met l yX3_isToBeChanged wsX3_isToBeChanged ({ frames := 1, cells := 0, slots := 0, locals := 21 } : Room) (ml_P G cy [.ref (a 0), .int (nI j)] (wC a cy T tr) sz) (va_Qi (fun (r : Int32) (_ : Unit) => r = b2i (lft T und j)) (ml_B G cy (va_A (wC a cy T tr) sz) (fun (_ : Unit) => (wC a cy T tr))) (va_A (wC a cy T tr) sz)) 0 0 (va_A (wC a cy T tr) sz) := by
  refine Met.ofW (cc := cX3_isToBeChanged) (maxL := 3) (ret := (some .boolean)) (by decide) rfl ?_
  intro p e s m args below meth c s₁ B hml hv
  obtain ⟨rfl, hsz, hP, hK, hD0, hN⟩ := hv
  have hx := B.exec
  have hb := B.bytes
  have hr := B.returns
  have hts := atoms_spec (ws := wsX3_isToBeChanged) B.pre
  have hown : s.vm.findClass RX3 = some m.cls := findClass_of_methodNamed B.named
  have hlocks := B.notSynchronized
  subst hsz
  have hD := hD0.self (sz := s.heap.size)
  generalize hAe : va_A (wC a cy T tr) s.heap.size = A at hD ⊢
  have hA : ∀ q : Nat, s.heap.size ≤ q → A q := fun q h => by rw [← hAe]; exact Or.inr h
  have hS : va_S A s.heap s.heap [] := va_S.rf
  have hP : va_P G vwCl (wC a cy T tr) s.heap := hP
  have hin_X3 : ∀ w ∈ wsX30, w ∈ wsX3_isToBeChanged := by decide +kernel
  have hl := lv_entry ([.ref (a 0), .int (nI j)]) (n := 3) (Nat.le_of_ble_eq_true rfl)
  rw [lg_entry_eq]
  generalize (lg_sl ([.ref (a 0), .int (nI j)]) ++ List.replicate (3 - (lg_sl ([.ref (a 0), .int (nI j)])).length) Slot.unset).toArray = ls at hl ⊢
  have hl : lv_has ls 3 [(0, .ref (a 0)), (1, .int (nI j))] := hl
  refine lv_aload_n hx hb dX3_isToBeChanged_0 rfl (lv_at hl 0 rfl) ?_
  refine va_get (D := G) (ci := 3) (v := .ref (a 2)) (C := RX3) (T := TX3) (N := 7) hx hb hts hin_X3 hown hK hP 0 rfl rfl 1 (by decide) (hts (.fieldLink RX3 19 "Migrationledger" "table" "LMigrationledger$Table;") (by decide +kernel)) (fun _ h9 => h9) rfl dX3_isToBeChanged_1 ?_
  refine lv_iload_n hx hb dX3_isToBeChanged_4 rfl (lv_at hl 1 rfl) ?_
  refine ml_Vi (G := G) (As := [.int (nI j)]) (rest := []) ⟨hx, hb, hml, hown, hts⟩ (c_X2_isPresent l G cy a s.heap.size T tr j (by omega)) (cwV 1 hts gX3_isToBeChanged_X2_isPresent rfl rfl rfl (by decide +kernel) ⟨Nat.le_of_ble_eq_true rfl, Nat.le_of_ble_eq_true rfl⟩) (va_recv hK hP (ci := 2) (q0 := 2) rfl rfl) hP hK hD hS hN hA rfl hl.1 (Nat.le_of_ble_eq_true rfl) dX3_isToBeChanged_5 ⟨Nat.le_of_ble_eq_true rfl, Nat.le_of_ble_eq_true rfl⟩ (fun r_5 u_5 H locs hw hP hD hS => ?_)
  obtain rfl : r_5 = b2i (tV T j ≠ -1) := hw
  have hP : va_P G vwCl (wC a cy T tr) H := hP
  have hD : va_D A (wC a cy T tr) := hD
  refine ml_ifneb (tgt := 13) hx hb dX3_isToBeChanged_8 (by decide) (fun c_8 => ?_) (fun c_8 => ?_)
  · refine lv_aload_n hx hb dX3_isToBeChanged_13 rfl (lv_at hl 0 rfl) ?_
    refine va_get (D := G) (ci := 3) (v := .ref (a 2)) (C := RX3) (T := TX3) (N := 7) hx hb hts hin_X3 hown hK hP 0 rfl rfl 1 (by decide) (hts (.fieldLink RX3 19 "Migrationledger" "table" "LMigrationledger$Table;") (by decide +kernel)) (fun _ h9 => h9) rfl dX3_isToBeChanged_14 ?_
    refine lv_iload_n hx hb dX3_isToBeChanged_17 rfl (lv_at hl 1 rfl) ?_
    refine ml_Vi (G := G) (As := [.int (nI j)]) (rest := []) ⟨hx, hb, hml, hown, hts⟩ (c_X2_versionOf l G cy a H.size T tr j (by omega)) (cwV 1 hts gX3_isToBeChanged_X2_versionOf rfl rfl rfl (by decide +kernel) ⟨Nat.le_of_ble_eq_true rfl, Nat.le_of_ble_eq_true rfl⟩) (va_recv hK hP (ci := 2) (q0 := 2) rfl rfl) hP hK hD hS hN hA rfl hl.1 (Nat.le_of_ble_eq_true rfl) dX3_isToBeChanged_18 ⟨Nat.le_of_ble_eq_true rfl, Nat.le_of_ble_eq_true rfl⟩ (fun r_18 u_18 H locs hw hP hD hS => ?_)
    obtain rfl : r_18 = tV T j := hw
    have hP : va_P G vwCl (wC a cy T tr) H := hP
    have hD : va_D A (wC a cy T tr) := hD
    refine lv_aload_n hx hb dX3_isToBeChanged_21 rfl (lv_at hl 0 rfl) ?_
    refine ml_Vi (G := G) (As := []) (rest := [.int (tV T j)]) ⟨hx, hb, hml, hown, hts⟩ (c_X3_activeNumber l G cy a H.size T tr) (cwV 0 hts gX3_isToBeChanged_X3_activeNumber rfl rfl rfl (by decide +kernel) ⟨Nat.le_of_ble_eq_true rfl, Nat.le_of_ble_eq_true rfl⟩) (va_recv hK hP (ci := 3) (q0 := 0) rfl rfl) hP hK hD hS hN hA rfl hl.1 (Nat.le_of_ble_eq_true rfl) dX3_isToBeChanged_22 ⟨Nat.le_of_ble_eq_true rfl, Nat.le_of_ble_eq_true rfl⟩ (fun r_22 u_22 H locs hw hP hD hS => ?_)
    obtain rfl : r_22 = nI (tlv T + 1) := hw
    have hP : va_P G vwCl (wC a cy T tr) H := hP
    have hD : va_D A (wC a cy T tr) := hD
    refine lv_icmp_lt (tgt := 32) hx hb dX3_isToBeChanged_25 (by decide) (fun c_25 => ?_) (fun c_25 => ?_)
    · refine lv_iconst (v := 0) hx hb dX3_isToBeChanged_32 (by decide) ?_
      refine lv_istore_n (lv' := [(2, .int 0), (0, .ref (a 0)), (1, .int (nI j))]) hx hb dX3_isToBeChanged_33 rfl hl (by decide) rfl (fun ls hl => ?_)
      refine lv_aload_n hx hb dX3_isToBeChanged_34 rfl (lv_at hl 1 rfl) ?_
      refine va_get (D := G) (ci := 3) (v := .int (tac T)) (C := RX3) (T := TX3) (N := 7) hx hb hts hin_X3 hown hK hP 0 rfl rfl 5 (by decide) (hts (.fieldLink RX3 34 "Migrationledger" "phase" "I") (by decide +kernel)) (fun _ h9 => h9) rfl dX3_isToBeChanged_35 ?_
      refine lv_iconst (v := 1) hx hb dX3_isToBeChanged_38 (by decide) ?_
      refine lv_icmp_ne (tgt := 54) hx hb dX3_isToBeChanged_39 (by decide) (fun c_39 => ?_) (fun c_39 => ?_)
      · refine lv_iload_n hx hb dX3_isToBeChanged_54 rfl (lv_at hl 0 rfl) ?_
        exact ml_rz () hx hb hr hlocks hP hK hD hS rfl rfl (b2i_f' (fun h => h.2.elim (fun q => Int32.not_le.mpr c_25 q.2) (fun q => q.1 (un3 hu c_39)))) dX3_isToBeChanged_55
      · refine lv_iload_n hx hb dX3_isToBeChanged_42 rfl (lv_at hl 0 rfl) ?_
        refine lv_if_ne (tgt := 50) hx hb dX3_isToBeChanged_43 (by decide) (fun c_43 => False.elim (by revert c_43; decide)) (fun c_43 => ?_)
        refine lv_iconst (v := 1) hx hb dX3_isToBeChanged_46 (by decide) ?_
        refine lv_goto (tgt := 55) hx hb dX3_isToBeChanged_47 (by decide) ?_
        exact ml_rz () hx hb hr hlocks hP hK hD hS rfl rfl (b2i_t' (⟨c_8, Or.inr ⟨un1 hu c_39, Int32.not_le.mpr c_25⟩⟩)) dX3_isToBeChanged_55
    · refine lv_iconst (v := 1) hx hb dX3_isToBeChanged_28 (by decide) ?_
      refine lv_goto (tgt := 33) hx hb dX3_isToBeChanged_29 (by decide) ?_
      refine lv_istore_n (lv' := [(2, .int 1), (0, .ref (a 0)), (1, .int (nI j))]) hx hb dX3_isToBeChanged_33 rfl hl (by decide) rfl (fun ls hl => ?_)
      refine lv_aload_n hx hb dX3_isToBeChanged_34 rfl (lv_at hl 1 rfl) ?_
      refine va_get (D := G) (ci := 3) (v := .int (tac T)) (C := RX3) (T := TX3) (N := 7) hx hb hts hin_X3 hown hK hP 0 rfl rfl 5 (by decide) (hts (.fieldLink RX3 34 "Migrationledger" "phase" "I") (by decide +kernel)) (fun _ h9 => h9) rfl dX3_isToBeChanged_35 ?_
      refine lv_iconst (v := 1) hx hb dX3_isToBeChanged_38 (by decide) ?_
      refine lv_icmp_ne (tgt := 54) hx hb dX3_isToBeChanged_39 (by decide) (fun c_39 => ?_) (fun c_39 => ?_)
      · refine lv_iload_n hx hb dX3_isToBeChanged_54 rfl (lv_at hl 0 rfl) ?_
        exact ml_rz () hx hb hr hlocks hP hK hD hS rfl rfl (b2i_t' (⟨c_8, Or.inl ⟨un3 hu c_39, Int32.not_lt.mp c_25⟩⟩)) dX3_isToBeChanged_55
      · refine lv_iload_n hx hb dX3_isToBeChanged_42 rfl (lv_at hl 0 rfl) ?_
        refine lv_if_ne (tgt := 50) hx hb dX3_isToBeChanged_43 (by decide) (fun c_43 => ?_) (fun c_43 => False.elim (by revert c_43; decide))
        refine lv_iconst (v := 0) hx hb dX3_isToBeChanged_50 (by decide) ?_
        refine lv_goto (tgt := 55) hx hb dX3_isToBeChanged_51 (by decide) ?_
        exact ml_rz () hx hb hr hlocks hP hK hD hS rfl rfl (b2i_f' (fun h => h.2.elim (fun q => un1 hu c_39 q.1) (fun q => q.2 (Int32.not_lt.mp c_25)))) dX3_isToBeChanged_55
  · refine lv_iconst (v := 0) hx hb dX3_isToBeChanged_11 (by decide) ?_
    exact ml_rz () hx hb hr hlocks hP hK hD hS rfl rfl (b2i_f' (fun h => c_8 h.1)) dX3_isToBeChanged_12
set_option maxHeartbeats 4000000 in
set_option maxRecDepth 100000 in
theorem c_X3_endIfAllPassed (l : Launch) (G : va_G) (cy : Nat → ClassId) (a : Nat → Nat) (sz : Nat) (T : TS) (tr : Nat → Int32) (und : Prop) (hu : unD T und) (hcu : tcu T ≤ 40) (hlf : left T und ≤ 40) : Met l yX3_endIfAllPassed wsX3_endIfAllPassed ({ frames := 1, cells := 0, slots := 0, locals := 20 } : Room) (ml_P G cy [.ref (a 0)] (wC a cy T tr) sz) (va_Qv (fun (_ : Unit) => True) (ml_B G cy (va_A (wC a cy T tr) sz) (fun (_ : Unit) => (wC a cy (fin T und (tcu T)) tr))) (va_A (wC a cy T tr) sz)) 0 0 (va_A (wC a cy T tr) sz) := by
  refine Met.ofW (cc := cX3_endIfAllPassed) (maxL := 1) (ret := none) (by decide) rfl ?_
  intro p e s m args below meth c s₁ B hml hv
  obtain ⟨rfl, hsz, hP, hK, hD0, hN⟩ := hv
  have hx := B.exec
  have hb := B.bytes
  have hr := B.returns
  have hts := atoms_spec (ws := wsX3_endIfAllPassed) B.pre
  have hown : s.vm.findClass RX3 = some m.cls := findClass_of_methodNamed B.named
  have hlocks := B.notSynchronized
  subst hsz
  have hD := hD0.self (sz := s.heap.size)
  generalize hAe : va_A (wC a cy T tr) s.heap.size = A at hD ⊢
  have hA : ∀ q : Nat, s.heap.size ≤ q → A q := fun q h => by rw [← hAe]; exact Or.inr h
  have hS : va_S A s.heap s.heap [] := va_S.rf
  have hP : va_P G vwCl (wC a cy T tr) s.heap := hP
  have hin_X3 : ∀ w ∈ wsX30, w ∈ wsX3_endIfAllPassed := by decide +kernel
  have hl := lv_entry ([.ref (a 0)]) (n := 1) (Nat.le_of_ble_eq_true rfl)
  rw [lg_entry_eq]
  generalize (lg_sl ([.ref (a 0)]) ++ List.replicate (1 - (lg_sl ([.ref (a 0)])).length) Slot.unset).toArray = ls at hl ⊢
  have hl : lv_has ls 1 [(0, .ref (a 0))] := hl
  refine lv_aload_n hx hb dX3_endIfAllPassed_0 rfl (lv_at hl 0 rfl) ?_
  refine ml_Vi (G := G) (As := []) (rest := []) ⟨hx, hb, hml, hown, hts⟩ (c_X3_idsLeft l G cy a s.heap.size T tr und hu hcu) (cwV 0 hts gX3_endIfAllPassed_X3_idsLeft rfl rfl rfl (by decide +kernel) ⟨Nat.le_of_ble_eq_true rfl, Nat.le_of_ble_eq_true rfl⟩) (va_recv hK hP (ci := 3) (q0 := 0) rfl rfl) hP hK hD hS hN hA rfl hl.1 (Nat.le_of_ble_eq_true rfl) dX3_endIfAllPassed_1 ⟨Nat.le_of_ble_eq_true rfl, Nat.le_of_ble_eq_true rfl⟩ (fun r_1 u_1 H locs hw hP hD hS => ?_)
  obtain rfl : r_1 = nI (left T und) := hw
  have hP : va_P G vwCl (wC a cy T tr) H := hP
  have hD : va_D A (wC a cy T tr) := hD
  refine lv_if_le (tgt := 8) hx hb dX3_endIfAllPassed_4 (by decide) (fun c_4 => ?_) (fun c_4 => ?_)
  · refine lv_aload_n hx hb dX3_endIfAllPassed_8 rfl (lv_at hl 0 rfl) ?_
    refine va_get (D := G) (ci := 3) (v := .int (tac T)) (C := RX3) (T := TX3) (N := 7) hx hb hts hin_X3 hown hK hP 0 rfl rfl 5 (by decide) (hts (.fieldLink RX3 34 "Migrationledger" "phase" "I") (by decide +kernel)) (fun _ h9 => h9) rfl dX3_endIfAllPassed_9 ?_
    refine lv_iconst (v := 1) hx hb dX3_endIfAllPassed_12 (by decide) ?_
    refine lv_icmp_ne (tgt := 26) hx hb dX3_endIfAllPassed_13 (by decide) (fun c_13 => ?_) (fun c_13 => ?_)
    · refine lv_aload_n hx hb dX3_endIfAllPassed_26 rfl (lv_at hl 0 rfl) ?_
      refine lv_iconst (v := 0) hx hb dX3_endIfAllPassed_27 (by decide) ?_
      refine va_put (D := G) (ci := 3) (v := .int 0) (ty := .int) (C := RX3) (T := TX3) (N := 7) hx hb hts hin_X3 tyX3 tyX3_ok nmX3 hown hK hP hD hS 0 rfl rfl 5 (by decide) (hts (.fieldLink RX3 34 "Migrationledger" "phase" "I") (by decide +kernel)) (fun _ h9 => h9) rfl (by decide +kernel) rfl rfl (Nat.le_of_ble_eq_true rfl) dX3_endIfAllPassed_28 (fun H locs hP hD hS => ?_)
      have hP : va_P G vwCl (wC a cy (uac T 0) tr) H := hP
      have hD : va_D A (wC a cy (uac T 0) tr) := hD
      exact ml_rv () hx hb hr hlocks hP hK hD hS (by rw [fin_3 ((lft_le (by omega)).mp c_4) (un3 hu c_13)]) trivial dX3_endIfAllPassed_31
    · refine lv_aload_n hx hb dX3_endIfAllPassed_16 rfl (lv_at hl 0 rfl) ?_
      refine lv_dup hx hb dX3_endIfAllPassed_17 rfl ?_
      refine va_get (D := G) (ci := 3) (v := .int (nI (tlv T))) (C := RX3) (T := TX3) (N := 7) hx hb hts hin_X3 hown hK hP 0 rfl rfl 4 (by decide) (hts (.fieldLink RX3 81 "Migrationledger" "done" "I") (by decide +kernel)) (fun _ h9 => h9) rfl dX3_endIfAllPassed_18 ?_
      refine lv_iconst (v := 1) hx hb dX3_endIfAllPassed_21 (by decide) ?_
      refine lv_iadd hx hb dX3_endIfAllPassed_22 ?_
      refine ml_eqi (nI (tlv T + 1)) (nI_add (tlv T) 1) ?_
      refine va_put (D := G) (ci := 3) (v := .int (nI (tlv T + 1))) (ty := .int) (C := RX3) (T := TX3) (N := 7) hx hb hts hin_X3 tyX3 tyX3_ok nmX3 hown hK hP hD hS 0 rfl rfl 4 (by decide) (hts (.fieldLink RX3 81 "Migrationledger" "done" "I") (by decide +kernel)) (fun _ h9 => h9) rfl (by decide +kernel) rfl rfl (Nat.le_of_ble_eq_true rfl) dX3_endIfAllPassed_23 (fun H locs hP hD hS => ?_)
      have hP : va_P G vwCl (wC a cy (ulv T (tlv T + 1)) tr) H := hP
      have hD : va_D A (wC a cy (ulv T (tlv T + 1)) tr) := hD
      refine lv_aload_n hx hb dX3_endIfAllPassed_26 rfl (lv_at hl 0 rfl) ?_
      refine lv_iconst (v := 0) hx hb dX3_endIfAllPassed_27 (by decide) ?_
      refine va_put (D := G) (ci := 3) (v := .int 0) (ty := .int) (C := RX3) (T := TX3) (N := 7) hx hb hts hin_X3 tyX3 tyX3_ok nmX3 hown hK hP hD hS 0 rfl rfl 5 (by decide) (hts (.fieldLink RX3 34 "Migrationledger" "phase" "I") (by decide +kernel)) (fun _ h9 => h9) rfl (by decide +kernel) rfl rfl (Nat.le_of_ble_eq_true rfl) dX3_endIfAllPassed_28 (fun H locs hP hD hS => ?_)
      have hP : va_P G vwCl (wC a cy (uac (ulv T (tlv T + 1)) 0) tr) H := hP
      have hD : va_D A (wC a cy (uac (ulv T (tlv T + 1)) 0) tr) := hD
      exact ml_rv () hx hb hr hlocks hP hK hD hS (by rw [fin_1 ((lft_le (by omega)).mp c_4) hcu (un1 hu c_13)]) trivial dX3_endIfAllPassed_31
  · exact ml_rv () hx hb hr hlocks hP hK hD hS (by rw [fin_0 (fun q => c_4 ((lft_le (by omega)).mpr q)) hcu]) trivial dX3_endIfAllPassed_7
set_option maxHeartbeats 4000000 in
set_option maxRecDepth 100000 in
theorem c_X3_bringTried (l : Launch) (G : va_G) (cy : Nat → ClassId) (a : Nat → Nat) (sz : Nat) (T : TS) (tr : Nat → Int32) (f : Nat) (hf : f ≤ 12) (t : Nat) (ht : t ≤ 12) (hfn : f ≤ tn T) (htn : t ≤ tn T) (hn12 : tn T ≤ 12) (hoks : ∀ j, 1 ≤ j → j ≤ tn T → okAt T j) (row : Nat → Int32) (hrow : ∀ q, q < 3 → tr q = row q) : Met l yX3_bringTried wsX3_bringTried ({ frames := 3, cells := 0, slots := 0, locals := 70 } : Room) (ml_P G cy [.ref (a 0), .int (nI f), .int (nI t)] (wC a cy T tr) sz) (va_Qi (fun (r : Int32) (u : Nat → Int32) => r = b2i ((bring T row f t).isSome = true) ∧ ∀ row2, bring T row f t = some row2 → ∀ q, q < 3 → u q = row2 q) (ml_B G cy (va_A (wC a cy T tr) sz) (fun (u : Nat → Int32) => (wC a cy T u))) (va_A (wC a cy T tr) sz)) 0 0 (va_A (wC a cy T tr) sz) := by
  refine Met.ofW (cc := cX3_bringTried) (maxL := 4) (ret := (some .boolean)) (by decide) rfl ?_
  intro p e s m args below meth c s₁ B hml hv
  obtain ⟨rfl, hsz, hP, hK, hD0, hN⟩ := hv
  have hx := B.exec
  have hb := B.bytes
  have hr := B.returns
  have hts := atoms_spec (ws := wsX3_bringTried) B.pre
  have hown : s.vm.findClass RX3 = some m.cls := findClass_of_methodNamed B.named
  have hlocks := B.notSynchronized
  subst hsz
  have hD := hD0.self (sz := s.heap.size)
  generalize hAe : va_A (wC a cy T tr) s.heap.size = A at hD ⊢
  have hA : ∀ q : Nat, s.heap.size ≤ q → A q := fun q h => by rw [← hAe]; exact Or.inr h
  have hS : va_S A s.heap s.heap [] := va_S.rf
  have hP : va_P G vwCl (wC a cy T tr) s.heap := hP
  have hin_X3 : ∀ w ∈ wsX30, w ∈ wsX3_bringTried := by decide +kernel
  have hl := lv_entry ([.ref (a 0), .int (nI f), .int (nI t)]) (n := 4) (Nat.le_of_ble_eq_true rfl)
  rw [lg_entry_eq]
  generalize (lg_sl ([.ref (a 0), .int (nI f), .int (nI t)]) ++ List.replicate (4 - (lg_sl ([.ref (a 0), .int (nI f), .int (nI t)])).length) Slot.unset).toArray = ls at hl ⊢
  have hl : lv_has ls 4 [(0, .ref (a 0)), (1, .int (nI f)), (2, .int (nI t))] := hl
  refine lv_iload_n hx hb dX3_bringTried_0 rfl (lv_at hl 1 rfl) ?_
  refine lv_iconst (v := 1) hx hb dX3_bringTried_1 (by decide) ?_
  refine lv_iadd hx hb dX3_bringTried_2 ?_
  refine ml_eqi (nI (f + 1)) (nI_add f 1) ?_
  refine lv_istore_n (lv' := [(3, .int (nI (f + 1))), (0, .ref (a 0)), (1, .int (nI f)), (2, .int (nI t))]) hx hb dX3_bringTried_3 rfl hl (by decide) rfl (fun ls hl => ?_)
  have LOOP : ∀ (r : Nat) (k : Nat) (tr2 row2 : Nat → Int32) (hk : (r = 0 ∧ t ≤ k ∧ k ≤ 12) ∨ k + r = t) (hr2 : ∀ q, q < 3 → tr2 q = row2 q) (hg : brU T r k row2 = brU T (t - f) f row) (H : Heap) (locs : List Loc) (ls : Array Slot), va_P G vwCl (wC a cy T tr2) H → va_D A (wC a cy T tr2) → va_S A s.heap H locs → lv_has ls 4 [(0, .ref (a 0)), (1, .int (nI f)), (2, .int (nI t)), (3, .int (nI (k + 1)))] → W p l e (headSpec wsX3_bringTried ({ frames := 3, cells := 0, slots := 0, locals := 70 } : Room)).room s m (#[.ref (a 0), .int (nI f), .int (nI t)] : Array Value) below meth c H locs 0 0 (MQ below (va_Qi (fun (r : Int32) (u : Nat → Int32) => r = b2i ((bring T row f t).isSome = true) ∧ ∀ row2, bring T row f t = some row2 → ∀ q, q < 3 → u q = row2 q) (ml_B G cy A (fun (u : Nat → Int32) => (wC a cy T u))) A) (#[.ref (a 0), .int (nI f), .int (nI t)] : Array Value) s 0 0 A) (F0 m 4 ls []) := by
    intro r
    induction r with
    | zero =>
      intro k tr2 row2 hk hr2 hg H locs ls hP hD hS hl
      refine lv_iload_n hx hb dX3_bringTried_4 rfl (lv_at hl 3 rfl) ?_
      refine lv_iload_n hx hb dX3_bringTried_5 rfl (lv_at hl 2 rfl) ?_
      refine lv_icmp_gt (tgt := 32) hx hb dX3_bringTried_6 (by decide) (fun c_6 => ?_) (fun c_6 => False.elim (c_6 (nI_lt (by omega) (by omega))))
      refine lv_iload_n hx hb dX3_bringTried_32 rfl (lv_at hl 1 rfl) ?_
      refine lv_istore_n (lv' := [(3, .int (nI f)), (0, .ref (a 0)), (1, .int (nI f)), (2, .int (nI t))]) hx hb dX3_bringTried_33 rfl hl (by decide) rfl (fun ls hl => ?_)
      have LOOP2 : ∀ (r9 : Nat) (k : Nat) (tr3 row3 : Nat → Int32) (hk3 : (r9 = 0 ∧ k ≤ t) ∨ k = t + r9) (hk4 : k ≤ f) (hr3 : ∀ q, q < 3 → tr3 q = row3 q) (hg3 : brD T r9 k row3 = bring T row f t) (H : Heap) (locs : List Loc) (ls : Array Slot), va_P G vwCl (wC a cy T tr3) H → va_D A (wC a cy T tr3) → va_S A s.heap H locs → lv_has ls 4 [(0, .ref (a 0)), (1, .int (nI f)), (2, .int (nI t)), (3, .int (nI k))] → W p l e (headSpec wsX3_bringTried ({ frames := 3, cells := 0, slots := 0, locals := 70 } : Room)).room s m (#[.ref (a 0), .int (nI f), .int (nI t)] : Array Value) below meth c H locs 0 0 (MQ below (va_Qi (fun (r : Int32) (u : Nat → Int32) => r = b2i ((bring T row f t).isSome = true) ∧ ∀ row2, bring T row f t = some row2 → ∀ q, q < 3 → u q = row2 q) (ml_B G cy A (fun (u : Nat → Int32) => (wC a cy T u))) A) (#[.ref (a 0), .int (nI f), .int (nI t)] : Array Value) s 0 0 A) (F0 m 34 ls []) := by
        intro r9
        induction r9 with
        | zero =>
          intro k tr3 row3 hk3 hk4 hr3 hg3 H locs ls hP hD hS hl
          refine lv_iload_n hx hb dX3_bringTried_34 rfl (lv_at hl 3 rfl) ?_
          refine lv_iload_n hx hb dX3_bringTried_35 rfl (lv_at hl 2 rfl) ?_
          refine lv_icmp_le (tgt := 62) hx hb dX3_bringTried_36 (by decide) (fun c_36 => ?_) (fun c_36 => False.elim (c_36 ((nI_leI (by omega) (by omega)).mpr (by omega))))
          refine lv_iconst (v := 1) hx hb dX3_bringTried_62 (by decide) ?_
          exact ml_rz tr3 hx hb hr hlocks hP hK hD hS rfl rfl ⟨b2i_t' (by rw [← hg3]; rfl), fun row9 h9 => by rw [← hg3] at h9; cases h9; exact hr3⟩ dX3_bringTried_63
        | succ r9 ih =>
          intro k tr3 row3 hk3 hk4 hr3 hg3 H locs ls hP hD hS hl
          refine lv_iload_n hx hb dX3_bringTried_34 rfl (lv_at hl 3 rfl) ?_
          refine lv_iload_n hx hb dX3_bringTried_35 rfl (lv_at hl 2 rfl) ?_
          refine lv_icmp_le (tgt := 62) hx hb dX3_bringTried_36 (by decide) (fun c_36 => False.elim (absurd ((nI_leI (by omega) (by omega)).mp c_36) (by omega))) (fun c_36 => ?_)
          obtain ⟨k, rfl⟩ : ∃ k9, k = k9 + 1 := ⟨k - 1, by omega⟩
          refine lv_aload_n hx hb dX3_bringTried_39 rfl (lv_at hl 0 rfl) ?_
          refine va_get (D := G) (ci := 3) (v := .ref (a 1)) (C := RX3) (T := TX3) (N := 7) hx hb hts hin_X3 hown hK hP 0 rfl rfl 0 (by decide) (hts (.fieldLink RX3 10 "Migrationledger" "list" "LMigrationledger$ChangeList;") (by decide +kernel)) (fun _ h9 => h9) rfl dX3_bringTried_40 ?_
          refine lv_aload_n hx hb dX3_bringTried_43 rfl (lv_at hl 0 rfl) ?_
          refine va_get (D := G) (ci := 3) (v := .ref (a 4)) (C := RX3) (T := TX3) (N := 7) hx hb hts hin_X3 hown hK hP 0 rfl rfl 3 (by decide) (hts (.fieldLink RX3 30 "Migrationledger" "tried" "[I") (by decide +kernel)) (fun _ h9 => h9) rfl dX3_bringTried_44 ?_
          refine lv_iload_n hx hb dX3_bringTried_47 rfl (lv_at hl 3 rfl) ?_
          refine ml_Vi (G := G) (As := [.ref (a 4), .int (nI (k + 1))]) (rest := []) ⟨hx, hb, hml, hown, hts⟩ (c_X0_undoOn l G cy a H.size T tr3 k (by omega) (hoks _ (by omega) (by omega)) row3 hr3) (cwV 2 hts gX3_bringTried_X0_undoOn rfl rfl rfl (by decide +kernel) ⟨Nat.le_of_ble_eq_true rfl, Nat.le_of_ble_eq_true rfl⟩) (va_recv hK hP (ci := 0) (q0 := 1) rfl rfl) hP hK hD hS hN hA rfl hl.1 (Nat.le_of_ble_eq_true rfl) dX3_bringTried_48 ⟨Nat.le_of_ble_eq_true rfl, Nat.le_of_ble_eq_true rfl⟩ (fun r_48 u_48 H locs hw hP hD hS => ?_)
          obtain ⟨hw1, hw2_48⟩ := hw
          obtain rfl : r_48 = b2i ((ap T True (k + 1) row3).isSome = true) := hw1
          have hP : va_P G vwCl (wC a cy T u_48) H := hP
          have hD : va_D A (wC a cy T u_48) := hD
          refine ml_ifneb (tgt := 56) hx hb dX3_bringTried_51 (by decide) (fun c_51 => ?_) (fun c_51 => ?_)
          · obtain ⟨row4, e4⟩ := is_s c_51
            refine lv_iinc (v := nI k) (lv' := [(3, .int (nI k)), (0, .ref (a 0)), (1, .int (nI f)), (2, .int (nI t))]) hx hb dX3_bringTried_56 hl (k := 3) rfl (pk_m1 _) (by decide) rfl (fun ls hl => ?_)
            refine lv_goto (tgt := 34) hx hb dX3_bringTried_59 (by decide) ?_
            exact ih k u_48 row4 (by omega) (by omega) (hw2_48 row4 e4) ((brD_s e4).symm.trans hg3) _ _ _ hP hD hS (lv_sub hl [1, 2, 3, 0] rfl)
          · have hbn : bring T row f t = none := hg3.symm.trans (brD_n (is_n c_51))
            refine lv_iconst (v := 0) hx hb dX3_bringTried_54 (by decide) ?_
            exact ml_rz u_48 hx hb hr hlocks hP hK hD hS rfl rfl ⟨b2i_f' (by rw [hbn]; exact fun q => by cases q), fun row9 h9 => by rw [hbn] at h9; cases h9⟩ dX3_bringTried_55
      exact LOOP2 (f - t) f tr2 row2 (by omega) (by omega) hr2 (bring_s hg.symm).symm _ _ _ hP hD hS (lv_sub hl [1, 2, 3, 0] rfl)
    | succ r ih =>
      intro k tr2 row2 hk hr2 hg H locs ls hP hD hS hl
      refine lv_iload_n hx hb dX3_bringTried_4 rfl (lv_at hl 3 rfl) ?_
      refine lv_iload_n hx hb dX3_bringTried_5 rfl (lv_at hl 2 rfl) ?_
      refine lv_icmp_gt (tgt := 32) hx hb dX3_bringTried_6 (by decide) (fun c_6 => False.elim (nI_nlt (by omega) (by omega) c_6)) (fun c_6 => ?_)
      refine lv_aload_n hx hb dX3_bringTried_9 rfl (lv_at hl 0 rfl) ?_
      refine va_get (D := G) (ci := 3) (v := .ref (a 1)) (C := RX3) (T := TX3) (N := 7) hx hb hts hin_X3 hown hK hP 0 rfl rfl 0 (by decide) (hts (.fieldLink RX3 10 "Migrationledger" "list" "LMigrationledger$ChangeList;") (by decide +kernel)) (fun _ h9 => h9) rfl dX3_bringTried_10 ?_
      refine lv_aload_n hx hb dX3_bringTried_13 rfl (lv_at hl 0 rfl) ?_
      refine va_get (D := G) (ci := 3) (v := .ref (a 4)) (C := RX3) (T := TX3) (N := 7) hx hb hts hin_X3 hown hK hP 0 rfl rfl 3 (by decide) (hts (.fieldLink RX3 30 "Migrationledger" "tried" "[I") (by decide +kernel)) (fun _ h9 => h9) rfl dX3_bringTried_14 ?_
      refine lv_iload_n hx hb dX3_bringTried_17 rfl (lv_at hl 3 rfl) ?_
      refine ml_Vi (G := G) (As := [.ref (a 4), .int (nI (k + 1))]) (rest := []) ⟨hx, hb, hml, hown, hts⟩ (c_X0_applyTo l G cy a H.size T tr2 k (by omega) (hoks _ (by omega) (by omega)) row2 hr2) (cwV 2 hts gX3_bringTried_X0_applyTo rfl rfl rfl (by decide +kernel) ⟨Nat.le_of_ble_eq_true rfl, Nat.le_of_ble_eq_true rfl⟩) (va_recv hK hP (ci := 0) (q0 := 1) rfl rfl) hP hK hD hS hN hA rfl hl.1 (Nat.le_of_ble_eq_true rfl) dX3_bringTried_18 ⟨Nat.le_of_ble_eq_true rfl, Nat.le_of_ble_eq_true rfl⟩ (fun r_18 u_18 H locs hw hP hD hS => ?_)
      obtain ⟨hw1, hw2_18⟩ := hw
      obtain rfl : r_18 = b2i ((ap T False (k + 1) row2).isSome = true) := hw1
      have hP : va_P G vwCl (wC a cy T u_18) H := hP
      have hD : va_D A (wC a cy T u_18) := hD
      refine ml_ifneb (tgt := 26) hx hb dX3_bringTried_21 (by decide) (fun c_21 => ?_) (fun c_21 => ?_)
      · obtain ⟨row4, e4⟩ := is_s c_21
        refine lv_iinc (v := nI (k + 1 + 1)) (lv' := [(3, .int (nI (k + 1 + 1))), (0, .ref (a 0)), (1, .int (nI f)), (2, .int (nI t))]) hx hb dX3_bringTried_26 hl (k := 3) rfl (nI_1 _) (by decide) rfl (fun ls hl => ?_)
        refine lv_goto (tgt := 4) hx hb dX3_bringTried_29 (by decide) ?_
        exact ih (k + 1) u_18 row4 (by omega) (hw2_18 row4 e4) ((brU_s e4).symm.trans hg) _ _ _ hP hD hS (lv_sub hl [1, 2, 3, 0] rfl)
      · have hbn : bring T row f t = none := bring_n (hg.symm.trans (brU_n (is_n c_21)))
        refine lv_iconst (v := 0) hx hb dX3_bringTried_24 (by decide) ?_
        exact ml_rz u_18 hx hb hr hlocks hP hK hD hS rfl rfl ⟨b2i_f' (by rw [hbn]; exact fun q => by cases q), fun row9 h9 => by rw [hbn] at h9; cases h9⟩ dX3_bringTried_25
  exact LOOP (t - f) f tr row (by omega) hrow rfl _ _ _ hP hD hS (lv_sub hl [1, 2, 3, 0] rfl)
set_option maxHeartbeats 4000000 in
set_option maxRecDepth 100000 in
theorem c_X3_changeRow (l : Launch) (G : va_G) (cy : Nat → ClassId) (a : Nat → Nat) (sz : Nat) (T : TS) (tr : Nat → Int32) (j : Nat) (hj : j < 40) (und : Prop) (hu : unD T und) (hI : InvW T) (f : Nat) (ef : tV T j = nI f) (hf : vF T und f) (hf12 : f ≤ 12) (hfn : f ≤ tn T) : Met l yX3_changeRow wsX3_changeRow ({ frames := 4, cells := 0, slots := 0, locals := 93 } : Room) (ml_P G cy [.ref (a 0), .int (nI j)] (wC a cy T tr) sz) (va_Qi (fun (r : Int32) (u : Nat → Int32) => r = b2i ((stp T und j).isSome = true)) (ml_B G cy (va_A (wC a cy T tr) sz) (fun (u : Nat → Int32) => (wC a cy ((stp T und j).getD T) u))) (va_A (wC a cy T tr) sz)) 0 0 (va_A (wC a cy T tr) sz) := by
  refine Met.ofW (cc := cX3_changeRow) (maxL := 4) (ret := (some .boolean)) (by decide) rfl ?_
  intro p e s m args below meth c s₁ B hml hv
  obtain ⟨rfl, hsz, hP, hK, hD0, hN⟩ := hv
  have hx := B.exec
  have hb := B.bytes
  have hr := B.returns
  have hts := atoms_spec (ws := wsX3_changeRow) B.pre
  have hown : s.vm.findClass RX3 = some m.cls := findClass_of_methodNamed B.named
  have hlocks := B.notSynchronized
  subst hsz
  have hD := hD0.self (sz := s.heap.size)
  generalize hAe : va_A (wC a cy T tr) s.heap.size = A at hD ⊢
  have hA : ∀ q : Nat, s.heap.size ≤ q → A q := fun q h => by rw [← hAe]; exact Or.inr h
  have hS : va_S A s.heap s.heap [] := va_S.rf
  have hP : va_P G vwCl (wC a cy T tr) s.heap := hP
  have hin_X3 : ∀ w ∈ wsX30, w ∈ wsX3_changeRow := by decide +kernel
  have hl := lv_entry ([.ref (a 0), .int (nI j)]) (n := 4) (Nat.le_of_ble_eq_true rfl)
  rw [lg_entry_eq]
  generalize (lg_sl ([.ref (a 0), .int (nI j)]) ++ List.replicate (4 - (lg_sl ([.ref (a 0), .int (nI j)])).length) Slot.unset).toArray = ls at hl ⊢
  have hl : lv_has ls 4 [(0, .ref (a 0)), (1, .int (nI j))] := hl
  have hac : tac T ≠ 0 := by
    rcases hu with q | q <;> (rw [q.1]; decide)
  have hlv : tlv T < tn T := by
    rcases hI.2.1 with q | q
    · exact absurd q hac
    · exact q.2
  have hn12 : tn T ≤ 12 := hI.1.1
  refine lv_aload_n hx hb dX3_changeRow_0 rfl (lv_at hl 0 rfl) ?_
  refine va_get (D := G) (ci := 3) (v := .ref (a 2)) (C := RX3) (T := TX3) (N := 7) hx hb hts hin_X3 hown hK hP 0 rfl rfl 1 (by decide) (hts (.fieldLink RX3 19 "Migrationledger" "table" "LMigrationledger$Table;") (by decide +kernel)) (fun _ h9 => h9) rfl dX3_changeRow_1 ?_
  refine lv_iload_n hx hb dX3_changeRow_4 rfl (lv_at hl 1 rfl) ?_
  refine ml_Vi (G := G) (As := [.int (nI j)]) (rest := []) ⟨hx, hb, hml, hown, hts⟩ (c_X2_versionOf l G cy a s.heap.size T tr j (by omega)) (cwV 1 hts gX3_changeRow_X2_versionOf rfl rfl rfl (by decide +kernel) ⟨Nat.le_of_ble_eq_true rfl, Nat.le_of_ble_eq_true rfl⟩) (va_recv hK hP (ci := 2) (q0 := 2) rfl rfl) hP hK hD hS hN hA rfl hl.1 (Nat.le_of_ble_eq_true rfl) dX3_changeRow_5 ⟨Nat.le_of_ble_eq_true rfl, Nat.le_of_ble_eq_true rfl⟩ (fun r_5 u_5 H locs hw hP hD hS => ?_)
  obtain rfl : r_5 = tV T j := hw
  have hP : va_P G vwCl (wC a cy T tr) H := hP
  have hD : va_D A (wC a cy T tr) := hD
  refine ml_eqi (nI f) ef ?_
  refine lv_istore_n (lv' := [(2, .int (nI f)), (0, .ref (a 0)), (1, .int (nI j))]) hx hb dX3_changeRow_8 rfl hl (by decide) rfl (fun ls hl => ?_)
  refine lv_aload_n hx hb dX3_changeRow_9 rfl (lv_at hl 1 rfl) ?_
  refine va_get (D := G) (ci := 3) (v := .int (tac T)) (C := RX3) (T := TX3) (N := 7) hx hb hts hin_X3 hown hK hP 0 rfl rfl 5 (by decide) (hts (.fieldLink RX3 34 "Migrationledger" "phase" "I") (by decide +kernel)) (fun _ h9 => h9) rfl dX3_changeRow_10 ?_
  refine lv_iconst (v := 1) hx hb dX3_changeRow_13 (by decide) ?_
  refine lv_icmp_ne (tgt := 23) hx hb dX3_changeRow_14 (by decide) (fun c_14 => ?_) (fun c_14 => ?_)
  · have hft : 1 ≤ f := by
      rcases hf with q | q
      · exact absurd (un3 hu c_14) q.1
      · omega
    refine lv_iload_n hx hb dX3_changeRow_23 rfl (lv_at hl 0 rfl) ?_
    refine lv_iconst (v := 1) hx hb dX3_changeRow_24 (by decide) ?_
    refine lv_isub hx hb dX3_changeRow_25 ?_
    refine ml_eqi (nI (f - 1)) (pk_sub (b := 1) hft) ?_
    refine lv_istore_n (lv' := [(3, .int (nI (f - 1))), (2, .int (nI f)), (0, .ref (a 0)), (1, .int (nI j))]) hx hb dX3_changeRow_26 rfl hl (by decide) rfl (fun ls hl => ?_)
    refine lv_aload_n hx hb dX3_changeRow_27 rfl (lv_at hl 2 rfl) ?_
    refine va_get (D := G) (ci := 3) (v := .ref (a 2)) (C := RX3) (T := TX3) (N := 7) hx hb hts hin_X3 hown hK hP 0 rfl rfl 1 (by decide) (hts (.fieldLink RX3 19 "Migrationledger" "table" "LMigrationledger$Table;") (by decide +kernel)) (fun _ h9 => h9) rfl dX3_changeRow_28 ?_
    refine lv_iload_n hx hb dX3_changeRow_31 rfl (lv_at hl 3 rfl) ?_
    refine lv_aload_n hx hb dX3_changeRow_32 rfl (lv_at hl 2 rfl) ?_
    refine va_get (D := G) (ci := 3) (v := .ref (a 4)) (C := RX3) (T := TX3) (N := 7) hx hb hts hin_X3 hown hK hP 0 rfl rfl 3 (by decide) (hts (.fieldLink RX3 30 "Migrationledger" "tried" "[I") (by decide +kernel)) (fun _ h9 => h9) rfl dX3_changeRow_33 ?_
    refine ml_Vv (G := G) (As := [.int (nI j), .ref (a 4)]) (rest := []) ⟨hx, hb, hml, hown, hts⟩ (c_X2_copyRow l G cy a H.size T tr j (by omega)) (cwV 2 hts gX3_changeRow_X2_copyRow rfl rfl rfl (by decide +kernel) ⟨Nat.le_of_ble_eq_true rfl, Nat.le_of_ble_eq_true rfl⟩) (va_recv hK hP (ci := 2) (q0 := 2) rfl rfl) hP hK hD hS hN hA rfl hl.1 (Nat.le_of_ble_eq_true rfl) dX3_changeRow_36 ⟨Nat.le_of_ble_eq_true rfl, Nat.le_of_ble_eq_true rfl⟩ (fun u_36 H locs hw hP hD hS => ?_)
    have hP : va_P G vwCl (wC a cy T (upd (upd (upd tr 0 (tX T (3 * j + 0))) 1 (tX T (3 * j + 1))) 2 (tX T (3 * j + 2)))) H := hP
    have hD : va_D A (wC a cy T (upd (upd (upd tr 0 (tX T (3 * j + 0))) 1 (tX T (3 * j + 1))) 2 (tX T (3 * j + 2)))) := hD
    refine lv_aload_n hx hb dX3_changeRow_39 rfl (lv_at hl 2 rfl) ?_
    refine lv_iload_n hx hb dX3_changeRow_40 rfl (lv_at hl 1 rfl) ?_
    refine lv_iload_n hx hb dX3_changeRow_41 rfl (lv_at hl 0 rfl) ?_
    refine ml_Vi (G := G) (As := [.int (nI f), .int (nI (f - 1))]) (rest := []) ⟨hx, hb, hml, hown, hts⟩ (c_X3_bringTried l G cy a H.size T (upd (upd (upd tr 0 (tX T (3 * j + 0))) 1 (tX T (3 * j + 1))) 2 (tX T (3 * j + 2))) f (by omega) (f - 1) (by omega) hfn (by omega) hn12 hI.2.2.1 (rowOf T j) cpRow) (cwV 2 hts gX3_changeRow_X3_bringTried rfl rfl rfl (by decide +kernel) ⟨Nat.le_of_ble_eq_true rfl, Nat.le_of_ble_eq_true rfl⟩) (va_recv hK hP (ci := 3) (q0 := 0) rfl rfl) hP hK hD hS hN hA rfl hl.1 (Nat.le_of_ble_eq_true rfl) dX3_changeRow_42 ⟨Nat.le_of_ble_eq_true rfl, Nat.le_of_ble_eq_true rfl⟩ (fun r_42 u_42 H locs hw hP hD hS => ?_)
    obtain ⟨hw1, hw2_42⟩ := hw
    obtain rfl : r_42 = b2i ((bring T (rowOf T j) f (f - 1)).isSome = true) := hw1
    have hP : va_P G vwCl (wC a cy T u_42) H := hP
    have hD : va_D A (wC a cy T u_42) := hD
    refine ml_ifneb (tgt := 50) hx hb dX3_changeRow_45 (by decide) (fun c_45 => ?_) (fun c_45 => ?_)
    · obtain ⟨row4, e4⟩ := is_s c_45
      refine lv_aload_n hx hb dX3_changeRow_50 rfl (lv_at hl 2 rfl) ?_
      refine va_get (D := G) (ci := 3) (v := .ref (a 2)) (C := RX3) (T := TX3) (N := 7) hx hb hts hin_X3 hown hK hP 0 rfl rfl 1 (by decide) (hts (.fieldLink RX3 19 "Migrationledger" "table" "LMigrationledger$Table;") (by decide +kernel)) (fun _ h9 => h9) rfl dX3_changeRow_51 ?_
      refine lv_iload_n hx hb dX3_changeRow_54 rfl (lv_at hl 3 rfl) ?_
      refine lv_aload_n hx hb dX3_changeRow_55 rfl (lv_at hl 2 rfl) ?_
      refine va_get (D := G) (ci := 3) (v := .ref (a 4)) (C := RX3) (T := TX3) (N := 7) hx hb hts hin_X3 hown hK hP 0 rfl rfl 3 (by decide) (hts (.fieldLink RX3 30 "Migrationledger" "tried" "[I") (by decide +kernel)) (fun _ h9 => h9) rfl dX3_changeRow_56 ?_
      refine ml_Vv (G := G) (As := [.int (nI j), .ref (a 4)]) (rest := []) ⟨hx, hb, hml, hown, hts⟩ (c_X2_storeRow l G cy a H.size T u_42 j (by omega)) (cwV 2 hts gX3_changeRow_X2_storeRow rfl rfl rfl (by decide +kernel) ⟨Nat.le_of_ble_eq_true rfl, Nat.le_of_ble_eq_true rfl⟩) (va_recv hK hP (ci := 2) (q0 := 2) rfl rfl) hP hK hD hS hN hA rfl hl.1 (Nat.le_of_ble_eq_true rfl) dX3_changeRow_59 ⟨Nat.le_of_ble_eq_true rfl, Nat.le_of_ble_eq_true rfl⟩ (fun u_59 H locs hw hP hD hS => ?_)
      have hP : va_P G vwCl (wC a cy (uX T (wrX (tX T) j u_42)) u_42) H := hP
      have hD : va_D A (wC a cy (uX T (wrX (tX T) j u_42)) u_42) := hD
      refine lv_aload_n hx hb dX3_changeRow_62 rfl (lv_at hl 2 rfl) ?_
      refine va_get (D := G) (ci := 3) (v := .ref (a 2)) (C := RX3) (T := TX3) (N := 7) hx hb hts hin_X3 hown hK hP 0 rfl rfl 1 (by decide) (hts (.fieldLink RX3 19 "Migrationledger" "table" "LMigrationledger$Table;") (by decide +kernel)) (fun _ h9 => h9) rfl dX3_changeRow_63 ?_
      refine lv_iload_n hx hb dX3_changeRow_66 rfl (lv_at hl 3 rfl) ?_
      refine lv_iload_n hx hb dX3_changeRow_67 rfl (lv_at hl 0 rfl) ?_
      refine ml_Vv (G := G) (As := [.int (nI j), .int (nI (f - 1))]) (rest := []) ⟨hx, hb, hml, hown, hts⟩ (c_X2_setVersion l G cy a H.size (uX T (wrX (tX T) j u_42)) u_42 j (by omega) (nI (f - 1))) (cwV 2 hts gX3_changeRow_X2_setVersion rfl rfl rfl (by decide +kernel) ⟨Nat.le_of_ble_eq_true rfl, Nat.le_of_ble_eq_true rfl⟩) (va_recv hK hP (ci := 2) (q0 := 2) rfl rfl) hP hK hD hS hN hA rfl hl.1 (Nat.le_of_ble_eq_true rfl) dX3_changeRow_68 ⟨Nat.le_of_ble_eq_true rfl, Nat.le_of_ble_eq_true rfl⟩ (fun u_68 H locs hw hP hD hS => ?_)
      have hP : va_P G vwCl (wC a cy (uV (uX T (wrX (tX T) j u_42)) (upd (tV (uX T (wrX (tX T) j u_42))) j (nI (f - 1)))) u_42) H := hP
      have hD : va_D A (wC a cy (uV (uX T (wrX (tX T) j u_42)) (upd (tV (uX T (wrX (tX T) j u_42))) j (nI (f - 1)))) u_42) := hD
      refine lv_iconst (v := 1) hx hb dX3_changeRow_71 (by decide) ?_
      exact ml_rz u_42 hx hb hr hlocks hP hK hD hS rfl (by rw [getD_s (stp_ok ((chg_dn hf (un3 hu c_14)).symm.trans e4) (hw2_42 row4 e4) (chg_3 ef hf (un3 hu c_14)))]) (b2i_t' (by rw [(stp_ok ((chg_dn hf (un3 hu c_14)).symm.trans e4) (hw2_42 row4 e4) (chg_3 ef hf (un3 hu c_14)))]; rfl)) dX3_changeRow_72
    · refine lv_iconst (v := 0) hx hb dX3_changeRow_48 (by decide) ?_
      exact ml_rz u_42 hx hb hr hlocks hP hK hD hS rfl (by rw [getD_n (stp_n ((chg_dn hf (un3 hu c_14)).symm.trans (is_n c_45)))]) (b2i_f' (by rw [stp_n ((chg_dn hf (un3 hu c_14)).symm.trans (is_n c_45))]; exact fun q => by cases q)) dX3_changeRow_49
  · have hft : f + 1 ≤ tn T := by
      rcases hf with q | q
      · omega
      · exact absurd q.1 (un1 hu c_14)
    refine lv_iload_n hx hb dX3_changeRow_17 rfl (lv_at hl 0 rfl) ?_
    refine lv_iconst (v := 1) hx hb dX3_changeRow_18 (by decide) ?_
    refine lv_iadd hx hb dX3_changeRow_19 ?_
    refine ml_eqi (nI (f + 1)) (nI_add f 1) ?_
    refine lv_goto (tgt := 26) hx hb dX3_changeRow_20 (by decide) ?_
    refine lv_istore_n (lv' := [(3, .int (nI (f + 1))), (2, .int (nI f)), (0, .ref (a 0)), (1, .int (nI j))]) hx hb dX3_changeRow_26 rfl hl (by decide) rfl (fun ls hl => ?_)
    refine lv_aload_n hx hb dX3_changeRow_27 rfl (lv_at hl 2 rfl) ?_
    refine va_get (D := G) (ci := 3) (v := .ref (a 2)) (C := RX3) (T := TX3) (N := 7) hx hb hts hin_X3 hown hK hP 0 rfl rfl 1 (by decide) (hts (.fieldLink RX3 19 "Migrationledger" "table" "LMigrationledger$Table;") (by decide +kernel)) (fun _ h9 => h9) rfl dX3_changeRow_28 ?_
    refine lv_iload_n hx hb dX3_changeRow_31 rfl (lv_at hl 3 rfl) ?_
    refine lv_aload_n hx hb dX3_changeRow_32 rfl (lv_at hl 2 rfl) ?_
    refine va_get (D := G) (ci := 3) (v := .ref (a 4)) (C := RX3) (T := TX3) (N := 7) hx hb hts hin_X3 hown hK hP 0 rfl rfl 3 (by decide) (hts (.fieldLink RX3 30 "Migrationledger" "tried" "[I") (by decide +kernel)) (fun _ h9 => h9) rfl dX3_changeRow_33 ?_
    refine ml_Vv (G := G) (As := [.int (nI j), .ref (a 4)]) (rest := []) ⟨hx, hb, hml, hown, hts⟩ (c_X2_copyRow l G cy a H.size T tr j (by omega)) (cwV 2 hts gX3_changeRow_X2_copyRow rfl rfl rfl (by decide +kernel) ⟨Nat.le_of_ble_eq_true rfl, Nat.le_of_ble_eq_true rfl⟩) (va_recv hK hP (ci := 2) (q0 := 2) rfl rfl) hP hK hD hS hN hA rfl hl.1 (Nat.le_of_ble_eq_true rfl) dX3_changeRow_36 ⟨Nat.le_of_ble_eq_true rfl, Nat.le_of_ble_eq_true rfl⟩ (fun u_36 H locs hw hP hD hS => ?_)
    have hP : va_P G vwCl (wC a cy T (upd (upd (upd tr 0 (tX T (3 * j + 0))) 1 (tX T (3 * j + 1))) 2 (tX T (3 * j + 2)))) H := hP
    have hD : va_D A (wC a cy T (upd (upd (upd tr 0 (tX T (3 * j + 0))) 1 (tX T (3 * j + 1))) 2 (tX T (3 * j + 2)))) := hD
    refine lv_aload_n hx hb dX3_changeRow_39 rfl (lv_at hl 2 rfl) ?_
    refine lv_iload_n hx hb dX3_changeRow_40 rfl (lv_at hl 1 rfl) ?_
    refine lv_iload_n hx hb dX3_changeRow_41 rfl (lv_at hl 0 rfl) ?_
    refine ml_Vi (G := G) (As := [.int (nI f), .int (nI (f + 1))]) (rest := []) ⟨hx, hb, hml, hown, hts⟩ (c_X3_bringTried l G cy a H.size T (upd (upd (upd tr 0 (tX T (3 * j + 0))) 1 (tX T (3 * j + 1))) 2 (tX T (3 * j + 2))) f (by omega) (f + 1) (by omega) hfn (by omega) hn12 hI.2.2.1 (rowOf T j) cpRow) (cwV 2 hts gX3_changeRow_X3_bringTried rfl rfl rfl (by decide +kernel) ⟨Nat.le_of_ble_eq_true rfl, Nat.le_of_ble_eq_true rfl⟩) (va_recv hK hP (ci := 3) (q0 := 0) rfl rfl) hP hK hD hS hN hA rfl hl.1 (Nat.le_of_ble_eq_true rfl) dX3_changeRow_42 ⟨Nat.le_of_ble_eq_true rfl, Nat.le_of_ble_eq_true rfl⟩ (fun r_42 u_42 H locs hw hP hD hS => ?_)
    obtain ⟨hw1, hw2_42⟩ := hw
    obtain rfl : r_42 = b2i ((bring T (rowOf T j) f (f + 1)).isSome = true) := hw1
    have hP : va_P G vwCl (wC a cy T u_42) H := hP
    have hD : va_D A (wC a cy T u_42) := hD
    refine ml_ifneb (tgt := 50) hx hb dX3_changeRow_45 (by decide) (fun c_45 => ?_) (fun c_45 => ?_)
    · obtain ⟨row4, e4⟩ := is_s c_45
      refine lv_aload_n hx hb dX3_changeRow_50 rfl (lv_at hl 2 rfl) ?_
      refine va_get (D := G) (ci := 3) (v := .ref (a 2)) (C := RX3) (T := TX3) (N := 7) hx hb hts hin_X3 hown hK hP 0 rfl rfl 1 (by decide) (hts (.fieldLink RX3 19 "Migrationledger" "table" "LMigrationledger$Table;") (by decide +kernel)) (fun _ h9 => h9) rfl dX3_changeRow_51 ?_
      refine lv_iload_n hx hb dX3_changeRow_54 rfl (lv_at hl 3 rfl) ?_
      refine lv_aload_n hx hb dX3_changeRow_55 rfl (lv_at hl 2 rfl) ?_
      refine va_get (D := G) (ci := 3) (v := .ref (a 4)) (C := RX3) (T := TX3) (N := 7) hx hb hts hin_X3 hown hK hP 0 rfl rfl 3 (by decide) (hts (.fieldLink RX3 30 "Migrationledger" "tried" "[I") (by decide +kernel)) (fun _ h9 => h9) rfl dX3_changeRow_56 ?_
      refine ml_Vv (G := G) (As := [.int (nI j), .ref (a 4)]) (rest := []) ⟨hx, hb, hml, hown, hts⟩ (c_X2_storeRow l G cy a H.size T u_42 j (by omega)) (cwV 2 hts gX3_changeRow_X2_storeRow rfl rfl rfl (by decide +kernel) ⟨Nat.le_of_ble_eq_true rfl, Nat.le_of_ble_eq_true rfl⟩) (va_recv hK hP (ci := 2) (q0 := 2) rfl rfl) hP hK hD hS hN hA rfl hl.1 (Nat.le_of_ble_eq_true rfl) dX3_changeRow_59 ⟨Nat.le_of_ble_eq_true rfl, Nat.le_of_ble_eq_true rfl⟩ (fun u_59 H locs hw hP hD hS => ?_)
      have hP : va_P G vwCl (wC a cy (uX T (wrX (tX T) j u_42)) u_42) H := hP
      have hD : va_D A (wC a cy (uX T (wrX (tX T) j u_42)) u_42) := hD
      refine lv_aload_n hx hb dX3_changeRow_62 rfl (lv_at hl 2 rfl) ?_
      refine va_get (D := G) (ci := 3) (v := .ref (a 2)) (C := RX3) (T := TX3) (N := 7) hx hb hts hin_X3 hown hK hP 0 rfl rfl 1 (by decide) (hts (.fieldLink RX3 19 "Migrationledger" "table" "LMigrationledger$Table;") (by decide +kernel)) (fun _ h9 => h9) rfl dX3_changeRow_63 ?_
      refine lv_iload_n hx hb dX3_changeRow_66 rfl (lv_at hl 3 rfl) ?_
      refine lv_iload_n hx hb dX3_changeRow_67 rfl (lv_at hl 0 rfl) ?_
      refine ml_Vv (G := G) (As := [.int (nI j), .int (nI (f + 1))]) (rest := []) ⟨hx, hb, hml, hown, hts⟩ (c_X2_setVersion l G cy a H.size (uX T (wrX (tX T) j u_42)) u_42 j (by omega) (nI (f + 1))) (cwV 2 hts gX3_changeRow_X2_setVersion rfl rfl rfl (by decide +kernel) ⟨Nat.le_of_ble_eq_true rfl, Nat.le_of_ble_eq_true rfl⟩) (va_recv hK hP (ci := 2) (q0 := 2) rfl rfl) hP hK hD hS hN hA rfl hl.1 (Nat.le_of_ble_eq_true rfl) dX3_changeRow_68 ⟨Nat.le_of_ble_eq_true rfl, Nat.le_of_ble_eq_true rfl⟩ (fun u_68 H locs hw hP hD hS => ?_)
      have hP : va_P G vwCl (wC a cy (uV (uX T (wrX (tX T) j u_42)) (upd (tV (uX T (wrX (tX T) j u_42))) j (nI (f + 1)))) u_42) H := hP
      have hD : va_D A (wC a cy (uV (uX T (wrX (tX T) j u_42)) (upd (tV (uX T (wrX (tX T) j u_42))) j (nI (f + 1)))) u_42) := hD
      refine lv_iconst (v := 1) hx hb dX3_changeRow_71 (by decide) ?_
      exact ml_rz u_42 hx hb hr hlocks hP hK hD hS rfl (by rw [getD_s (stp_ok ((chg_up hf (un1 hu c_14)).symm.trans e4) (hw2_42 row4 e4) (chg_1 ef (un1 hu c_14)))]) (b2i_t' (by rw [(stp_ok ((chg_up hf (un1 hu c_14)).symm.trans e4) (hw2_42 row4 e4) (chg_1 ef (un1 hu c_14)))]; rfl)) dX3_changeRow_72
    · refine lv_iconst (v := 0) hx hb dX3_changeRow_48 (by decide) ?_
      exact ml_rz u_42 hx hb hr hlocks hP hK hD hS rfl (by rw [getD_n (stp_n ((chg_up hf (un1 hu c_14)).symm.trans (is_n c_45)))]) (b2i_f' (by rw [stp_n ((chg_up hf (un1 hu c_14)).symm.trans (is_n c_45))]; exact fun q => by cases q)) dX3_changeRow_49
set_option maxHeartbeats 4000000 in
set_option maxRecDepth 100000 in
theorem c_X3_goThrough (l : Launch) (G : va_G) (cy : Nat → ClassId) (a : Nat → Nat) (sz : Nat) (T : TS) (tr : Nat → Int32) (n0 : Nat) (hn0 : n0 ≤ 40) (v : Nat) (hv : v < 4) (z : Int32) (und : Prop) (hu : unD T und) (hI : InvW T) (hlf : n0 ≤ left T und) : Met l yX3_goThrough wsX3_goThrough ({ frames := 5, cells := 0, slots := 0, locals := 116 } : Room) (ml_P G cy [.ref (a 0), .int (nI n0), .int (nI v), .int z] (wC a cy T tr) sz) (va_Qi (fun (r : Int32) (u : Nat → Int32) => r = (stR und v (sgo und z n0 0 0 T)).1) (ml_B G cy (va_A (wC a cy T tr) sz) (fun (u : Nat → Int32) => (wC a cy ((stR und v (sgo und z n0 0 0 T)).2) u))) (va_A (wC a cy T tr) sz)) 0 0 (va_A (wC a cy T tr) sz) := by
  refine Met.ofW (cc := cX3_goThrough) (maxL := 7) (ret := (some .int)) (by decide) rfl ?_
  intro p e s m args below meth c s₁ B hml hv
  obtain ⟨rfl, hsz, hP, hK, hD0, hN⟩ := hv
  have hx := B.exec
  have hb := B.bytes
  have hr := B.returns
  have hts := atoms_spec (ws := wsX3_goThrough) B.pre
  have hown : s.vm.findClass RX3 = some m.cls := findClass_of_methodNamed B.named
  have hlocks := B.notSynchronized
  subst hsz
  have hD := hD0.self (sz := s.heap.size)
  generalize hAe : va_A (wC a cy T tr) s.heap.size = A at hD ⊢
  have hA : ∀ q : Nat, s.heap.size ≤ q → A q := fun q h => by rw [← hAe]; exact Or.inr h
  have hS : va_S A s.heap s.heap [] := va_S.rf
  have hP : va_P G vwCl (wC a cy T tr) s.heap := hP
  have hin_X3 : ∀ w ∈ wsX30, w ∈ wsX3_goThrough := by decide +kernel
  have hl := lv_entry ([.ref (a 0), .int (nI n0), .int (nI v), .int z]) (n := 7) (Nat.le_of_ble_eq_true rfl)
  rw [lg_entry_eq]
  generalize (lg_sl ([.ref (a 0), .int (nI n0), .int (nI v), .int z]) ++ List.replicate (7 - (lg_sl ([.ref (a 0), .int (nI n0), .int (nI v), .int z])).length) Slot.unset).toArray = ls at hl ⊢
  have hl : lv_has ls 7 [(0, .ref (a 0)), (1, .int (nI n0)), (2, .int (nI v)), (3, .int z)] := hl
  refine lv_iconst (v := 0) hx hb dX3_goThrough_0 (by decide) ?_
  refine lv_istore (lv' := [(4, .int 0), (0, .ref (a 0)), (1, .int (nI n0)), (2, .int (nI v)), (3, .int z)]) hx hb dX3_goThrough_1 hl (by decide) rfl (fun ls hl => ?_)
  refine lv_iconst (v := 0) hx hb dX3_goThrough_3 (by decide) ?_
  refine lv_istore (lv' := [(5, .int 0), (4, .int 0), (0, .ref (a 0)), (1, .int (nI n0)), (2, .int (nI v)), (3, .int z)]) hx hb dX3_goThrough_4 hl (by decide) rfl (fun ls hl => ?_)
  have LOOP : ∀ (r : Nat) (k ch : Nat) (T1 : TS) (tr1 : Nat → Int32) (hk : k + r = n0) (hg : sgo und z r k ch T1 = sgo und z n0 0 0 T) (hI1 : InvW T1) (hkp : keepR T T1) (H : Heap) (locs : List Loc) (ls : Array Slot), va_P G vwCl (wC a cy T1 tr1) H → va_D A (wC a cy T1 tr1) → va_S A s.heap H locs → lv_has ls 7 [(0, .ref (a 0)), (1, .int (nI n0)), (2, .int (nI v)), (3, .int z), (4, .int (nI ch)), (5, .int (nI k))] → W p l e (headSpec wsX3_goThrough ({ frames := 5, cells := 0, slots := 0, locals := 116 } : Room)).room s m (#[.ref (a 0), .int (nI n0), .int (nI v), .int z] : Array Value) below meth c H locs 0 0 (MQ below (va_Qi (fun (r : Int32) (u : Nat → Int32) => r = (stR und v (sgo und z n0 0 0 T)).1) (ml_B G cy A (fun (u : Nat → Int32) => (wC a cy ((stR und v (sgo und z n0 0 0 T)).2) u))) A) (#[.ref (a 0), .int (nI n0), .int (nI v), .int z] : Array Value) s 0 0 A) (F0 m 6 ls []) := by
    intro r
    induction r with
    | zero =>
      intro k ch T1 tr1 hk hg hI1 hkp H locs ls hP hD hS hl
      have hu1 : unD T1 und := unD_cg hkp.1 hu
      have hcu : tcu T1 ≤ 40 := hI1.1.2.2
      have hlf1 : n0 ≤ left T1 und := by rw [left_cg hkp.2.1]; exact hlf
      have hk0 : k = n0 := by omega
      have hpo := poB_le hcu hlf1
      refine lv_iload hx hb dX3_goThrough_6 (lv_at hl 5 rfl) ?_
      refine lv_iload_n hx hb dX3_goThrough_8 rfl (lv_at hl 1 rfl) ?_
      refine lv_icmp_ge (tgt := 84) hx hb dX3_goThrough_9 (by decide) (fun c_9 => ?_) (fun c_9 => False.elim (c_9 ((nI_leI (by omega) (by omega)).mpr (by omega))))
      refine lv_aload_n hx hb dX3_goThrough_84 rfl (lv_at hl 0 rfl) ?_
      refine lv_aload_n hx hb dX3_goThrough_85 rfl (lv_at hl 0 rfl) ?_
      refine lv_iload_n hx hb dX3_goThrough_86 rfl (lv_at hl 1 rfl) ?_
      refine ml_Vi (G := G) (As := [.int (nI n0)]) (rest := [.ref (a 0)]) ⟨hx, hb, hml, hown, hts⟩ (c_X3_positionBehind l G cy a H.size T1 tr1 n0 und hu1 hpo.2) (cwV 1 hts gX3_goThrough_X3_positionBehind rfl rfl rfl (by decide +kernel) ⟨Nat.le_of_ble_eq_true rfl, Nat.le_of_ble_eq_true rfl⟩) (va_recv hK hP (ci := 3) (q0 := 0) rfl rfl) hP hK hD hS hN hA rfl hl.1 (Nat.le_of_ble_eq_true rfl) dX3_goThrough_87 ⟨Nat.le_of_ble_eq_true rfl, Nat.le_of_ble_eq_true rfl⟩ (fun r_87 u_87 H locs hw hP hD hS => ?_)
      obtain rfl : r_87 = nI (poB T1 und n0) := hw
      have hP : va_P G vwCl (wC a cy T1 tr1) H := hP
      have hD : va_D A (wC a cy T1 tr1) := hD
      refine va_put (D := G) (ci := 3) (v := .int (nI (poB T1 und n0))) (ty := .int) (C := RX3) (T := TX3) (N := 7) hx hb hts hin_X3 tyX3 tyX3_ok nmX3 hown hK hP hD hS 0 rfl rfl 6 (by decide) (hts (.fieldLink RX3 184 "Migrationledger" "position" "I") (by decide +kernel)) (fun _ h9 => h9) rfl (by decide +kernel) rfl rfl (Nat.le_of_ble_eq_true rfl) dX3_goThrough_90 (fun H locs hP hD hS => ?_)
      have hP : va_P G vwCl (wC a cy (ucu T1 (poB T1 und n0)) tr1) H := hP
      have hD : va_D A (wC a cy (ucu T1 (poB T1 und n0)) tr1) := hD
      refine lv_aload_n hx hb dX3_goThrough_93 rfl (lv_at hl 0 rfl) ?_
      refine ml_Vv (G := G) (As := []) (rest := []) ⟨hx, hb, hml, hown, hts⟩ (c_X3_endIfAllPassed l G cy a H.size (ucu T1 (poB T1 und n0)) tr1 und hu1 hpo.1 (left_le hpo.1)) (cwV 0 hts gX3_goThrough_X3_endIfAllPassed rfl rfl rfl (by decide +kernel) ⟨Nat.le_of_ble_eq_true rfl, Nat.le_of_ble_eq_true rfl⟩) (va_recv hK hP (ci := 3) (q0 := 0) rfl rfl) hP hK hD hS hN hA rfl hl.1 (Nat.le_of_ble_eq_true rfl) dX3_goThrough_94 ⟨Nat.le_of_ble_eq_true rfl, Nat.le_of_ble_eq_true rfl⟩ (fun u_94 H locs hw hP hD hS => ?_)
      have hP : va_P G vwCl (wC a cy (fin (ucu T1 (poB T1 und n0)) und (poB T1 und n0)) tr1) H := hP
      have hD : va_D A (wC a cy (fin (ucu T1 (poB T1 und n0)) und (poB T1 und n0)) tr1) := hD
      refine lv_iload hx hb dX3_goThrough_97 (lv_at hl 4 rfl) ?_
      exact ml_ri tr1 hx hb hr hlocks hP hK hD hS (by rw [hg.symm]; show wC a cy (stR und v (0, k, ch, T1)).2 tr1 = _; rw [stR_0, hk0]; rfl) (by rw [hg.symm]; show _ = (stR und v (0, k, ch, T1)).1; rw [stR_0]) dX3_goThrough_99
    | succ r ih =>
      intro k ch T1 tr1 hk hg hI1 hkp H locs ls hP hD hS hl
      have hu1 : unD T1 und := unD_cg hkp.1 hu
      have hcu : tcu T1 ≤ 40 := hI1.1.2.2
      have hlf1 : n0 ≤ left T1 und := by rw [left_cg hkp.2.1]; exact hlf
      have hid := idB_lt (T := T1) (und := und) (k := k) hcu (by omega)
      have hpo := poB_le (T := T1) (und := und) (k := k) hcu (by omega)
      refine lv_iload hx hb dX3_goThrough_6 (lv_at hl 5 rfl) ?_
      refine lv_iload_n hx hb dX3_goThrough_8 rfl (lv_at hl 1 rfl) ?_
      refine lv_icmp_ge (tgt := 84) hx hb dX3_goThrough_9 (by decide) (fun c_9 => False.elim (absurd ((nI_leI (by omega) (by omega)).mp c_9) (by omega))) (fun c_9 => ?_)
      refine lv_aload_n hx hb dX3_goThrough_12 rfl (lv_at hl 0 rfl) ?_
      refine lv_iload hx hb dX3_goThrough_13 (lv_at hl 5 rfl) ?_
      refine ml_Vi (G := G) (As := [.int (nI k)]) (rest := []) ⟨hx, hb, hml, hown, hts⟩ (c_X3_idBehind l G cy a H.size T1 tr1 k und hu1 hid.2) (cwV 1 hts gX3_goThrough_X3_idBehind rfl rfl rfl (by decide +kernel) ⟨Nat.le_of_ble_eq_true rfl, Nat.le_of_ble_eq_true rfl⟩) (va_recv hK hP (ci := 3) (q0 := 0) rfl rfl) hP hK hD hS hN hA rfl hl.1 (Nat.le_of_ble_eq_true rfl) dX3_goThrough_15 ⟨Nat.le_of_ble_eq_true rfl, Nat.le_of_ble_eq_true rfl⟩ (fun r_15 u_15 H locs hw hP hD hS => ?_)
      obtain rfl : r_15 = nI (idB T1 und k) := hw
      have hP : va_P G vwCl (wC a cy T1 tr1) H := hP
      have hD : va_D A (wC a cy T1 tr1) := hD
      refine lv_istore (lv' := [(6, .int (nI (idB T1 und k))), (0, .ref (a 0)), (1, .int (nI n0)), (2, .int (nI v)), (3, .int z), (4, .int (nI ch)), (5, .int (nI k))]) hx hb dX3_goThrough_18 hl (by decide) rfl (fun ls hl => ?_)
      refine lv_aload_n hx hb dX3_goThrough_20 rfl (lv_at hl 1 rfl) ?_
      refine lv_iload hx hb dX3_goThrough_21 (lv_at hl 0 rfl) ?_
      refine ml_Vi (G := G) (As := [.int (nI (idB T1 und k))]) (rest := []) ⟨hx, hb, hml, hown, hts⟩ (c_X3_isToBeChanged l G cy a H.size T1 tr1 (idB T1 und k) hid.1 und hu1) (cwV 1 hts gX3_goThrough_X3_isToBeChanged rfl rfl rfl (by decide +kernel) ⟨Nat.le_of_ble_eq_true rfl, Nat.le_of_ble_eq_true rfl⟩) (va_recv hK hP (ci := 3) (q0 := 0) rfl rfl) hP hK hD hS hN hA rfl hl.1 (Nat.le_of_ble_eq_true rfl) dX3_goThrough_23 ⟨Nat.le_of_ble_eq_true rfl, Nat.le_of_ble_eq_true rfl⟩ (fun r_23 u_23 H locs hw hP hD hS => ?_)
      obtain rfl : r_23 = b2i (lft T1 und (idB T1 und k)) := hw
      have hP : va_P G vwCl (wC a cy T1 tr1) H := hP
      have hD : va_D A (wC a cy T1 tr1) := hD
      refine ml_ifneb (tgt := 32) hx hb dX3_goThrough_26 (by decide) (fun c_26 => ?_) (fun c_26 => ?_)
      · obtain ⟨f, ef, hf, hf12, hfn⟩ := vF_of hI1 hid.1 c_26
        refine lv_aload_n hx hb dX3_goThrough_32 rfl (lv_at hl 1 rfl) ?_
        refine lv_iload hx hb dX3_goThrough_33 (lv_at hl 0 rfl) ?_
        refine ml_Vi (G := G) (As := [.int (nI (idB T1 und k))]) (rest := []) ⟨hx, hb, hml, hown, hts⟩ (c_X3_changeRow l G cy a H.size T1 tr1 (idB T1 und k) hid.1 und hu1 hI1 f ef hf hf12 hfn) (cwV 1 hts gX3_goThrough_X3_changeRow rfl rfl rfl (by decide +kernel) ⟨Nat.le_of_ble_eq_true rfl, Nat.le_of_ble_eq_true rfl⟩) (va_recv hK hP (ci := 3) (q0 := 0) rfl rfl) hP hK hD hS hN hA rfl hl.1 (Nat.le_of_ble_eq_true rfl) dX3_goThrough_35 ⟨Nat.le_of_ble_eq_true rfl, Nat.le_of_ble_eq_true rfl⟩ (fun r_35 u_35 H locs hw hP hD hS => ?_)
        obtain rfl : r_35 = b2i ((stp T1 und (idB T1 und k)).isSome = true) := hw
        have hP : va_P G vwCl (wC a cy ((stp T1 und (idB T1 und k)).getD T1) u_35) H := hP
        have hD : va_D A (wC a cy ((stp T1 und (idB T1 und k)).getD T1) u_35) := hD
        refine ml_ifneb (tgt := 57) hx hb dX3_goThrough_38 (by decide) (fun c_38 => ?_) (fun c_38 => ?_)
        · obtain ⟨T2, e2⟩ := is_s c_38
          have hkp2 := stp_keep e2
          have hP : va_P G vwCl (wC a cy T2 u_35) H := by
            rw [getD_s e2] at hP
            exact hP
          have hD : va_D A (wC a cy T2 u_35) := by
            rw [getD_s e2] at hD
            exact hD
          refine lv_iinc (v := nI (ch + 1)) (lv' := [(4, .int (nI (ch + 1))), (6, .int (nI (idB T1 und k))), (0, .ref (a 0)), (1, .int (nI n0)), (2, .int (nI v)), (3, .int z), (5, .int (nI k))]) hx hb dX3_goThrough_57 hl (k := 5) rfl (nI_1 _) (by decide) rfl (fun ls hl => ?_)
          refine lv_iload hx hb dX3_goThrough_60 (lv_at hl 0 rfl) ?_
          refine lv_iload_n hx hb dX3_goThrough_62 rfl (lv_at hl 5 rfl) ?_
          refine lv_icmp_ne (tgt := 78) hx hb dX3_goThrough_63 (by decide) (fun c_63 => ?_) (fun c_63 => ?_)
          · refine lv_iinc (v := nI (k + 1)) (lv' := [(5, .int (nI (k + 1))), (4, .int (nI (ch + 1))), (6, .int (nI (idB T1 und k))), (0, .ref (a 0)), (1, .int (nI n0)), (2, .int (nI v)), (3, .int z)]) hx hb dX3_goThrough_78 hl (k := 6) rfl (nI_1 _) (by decide) rfl (fun ls hl => ?_)
            refine lv_goto (tgt := 6) hx hb dX3_goThrough_81 (by decide) ?_
            exact ih (k + 1) (ch + 1) T2 u_35 (by omega) ((sgo_go c_26 e2 c_63).symm.trans hg) (stp_inv hI1 hu1 hid.1 c_26 e2) ⟨hkp2.1.trans hkp.1, hkp2.2.1.trans hkp.2.1, hkp2.2.2.1.trans hkp.2.2.1, hkp2.2.2.2.trans hkp.2.2.2⟩ _ _ _ hP hD hS (lv_sub hl [3, 4, 5, 6, 1, 0] rfl)
          · refine lv_aload_n hx hb dX3_goThrough_66 rfl (lv_at hl 2 rfl) ?_
            refine va_get (D := G) (ci := 3) (v := .ref (a 3)) (C := RX3) (T := TX3) (N := 7) hx hb hts hin_X3 hown hK hP 0 rfl rfl 2 (by decide) (hts (.fieldLink RX3 26 "Migrationledger" "lock" "LMigrationledger$Lock;") (by decide +kernel)) (fun _ h9 => h9) rfl dX3_goThrough_67 ?_
            refine lv_iload_n hx hb dX3_goThrough_70 rfl (lv_at hl 4 rfl) ?_
            refine lv_iconst (v := 1) hx hb dX3_goThrough_71 (by decide) ?_
            refine ml_Vv (G := G) (As := [.int (nI v), .int 1]) (rest := []) ⟨hx, hb, hml, hown, hts⟩ (c_X1_setCrashed l G cy a H.size T2 u_35 v hv 1 rfl) (cwV 2 hts gX3_goThrough_X1_setCrashed rfl rfl rfl (by decide +kernel) ⟨Nat.le_of_ble_eq_true rfl, Nat.le_of_ble_eq_true rfl⟩) (va_recv hK hP (ci := 1) (q0 := 3) rfl rfl) hP hK hD hS hN hA rfl hl.1 (Nat.le_of_ble_eq_true rfl) dX3_goThrough_72 ⟨Nat.le_of_ble_eq_true rfl, Nat.le_of_ble_eq_true rfl⟩ (fun u_72 H locs hw hP hD hS => ?_)
            have hP : va_P G vwCl (wC a cy (ucr T2 (upd (tcr T2) v 1)) u_35) H := hP
            have hD : va_D A (wC a cy (ucr T2 (upd (tcr T2) v 1)) u_35) := hD
            refine lv_iload hx hb dX3_goThrough_75 (lv_at hl 0 rfl) ?_
            exact ml_ri u_35 hx hb hr hlocks hP hK hD hS (by rw [(hg.symm.trans (sgo_cr c_26 e2 c_63)), stR_2]) (by rw [(hg.symm.trans (sgo_cr c_26 e2 c_63)), stR_2]) dX3_goThrough_77
        · have e38 := is_n c_38
          have hP : va_P G vwCl (wC a cy T1 u_35) H := by
            rw [getD_n e38] at hP
            exact hP
          have hD : va_D A (wC a cy T1 u_35) := by
            rw [getD_n e38] at hD
            exact hD
          refine lv_aload_n hx hb dX3_goThrough_41 rfl (lv_at hl 1 rfl) ?_
          refine lv_aload_n hx hb dX3_goThrough_42 rfl (lv_at hl 1 rfl) ?_
          refine lv_iload hx hb dX3_goThrough_43 (lv_at hl 6 rfl) ?_
          refine ml_Vi (G := G) (As := [.int (nI k)]) (rest := [.ref (a 0)]) ⟨hx, hb, hml, hown, hts⟩ (c_X3_positionBehind l G cy a H.size T1 u_35 k und hu1 hpo.2) (cwV 1 hts gX3_goThrough_X3_positionBehind rfl rfl rfl (by decide +kernel) ⟨Nat.le_of_ble_eq_true rfl, Nat.le_of_ble_eq_true rfl⟩) (va_recv hK hP (ci := 3) (q0 := 0) rfl rfl) hP hK hD hS hN hA rfl hl.1 (Nat.le_of_ble_eq_true rfl) dX3_goThrough_45 ⟨Nat.le_of_ble_eq_true rfl, Nat.le_of_ble_eq_true rfl⟩ (fun r_45 u_45 H locs hw hP hD hS => ?_)
          obtain rfl : r_45 = nI (poB T1 und k) := hw
          have hP : va_P G vwCl (wC a cy T1 u_35) H := hP
          have hD : va_D A (wC a cy T1 u_35) := hD
          refine va_put (D := G) (ci := 3) (v := .int (nI (poB T1 und k))) (ty := .int) (C := RX3) (T := TX3) (N := 7) hx hb hts hin_X3 tyX3 tyX3_ok nmX3 hown hK hP hD hS 0 rfl rfl 6 (by decide) (hts (.fieldLink RX3 184 "Migrationledger" "position" "I") (by decide +kernel)) (fun _ h9 => h9) rfl (by decide +kernel) rfl rfl (Nat.le_of_ble_eq_true rfl) dX3_goThrough_48 (fun H locs hP hD hS => ?_)
          have hP : va_P G vwCl (wC a cy (ucu T1 (poB T1 und k)) u_35) H := hP
          have hD : va_D A (wC a cy (ucu T1 (poB T1 und k)) u_35) := hD
          refine lv_iload hx hb dX3_goThrough_51 (lv_at hl 5 rfl) ?_
          refine lv_bipush (v := 100) hx hb dX3_goThrough_53 (by decide) ?_
          refine lv_isub hx hb dX3_goThrough_55 ?_
          exact ml_ri u_35 hx hb hr hlocks hP hK hD hS (by rw [(hg.symm.trans (sgo_blk c_26 e38)), stR_1]) (by rw [(hg.symm.trans (sgo_blk c_26 e38)), stR_1]) dX3_goThrough_56
      · refine lv_goto (tgt := 78) hx hb dX3_goThrough_29 (by decide) ?_
        refine lv_iinc (v := nI (k + 1)) (lv' := [(5, .int (nI (k + 1))), (6, .int (nI (idB T1 und k))), (0, .ref (a 0)), (1, .int (nI n0)), (2, .int (nI v)), (3, .int z), (4, .int (nI ch))]) hx hb dX3_goThrough_78 hl (k := 6) rfl (nI_1 _) (by decide) rfl (fun ls hl => ?_)
        refine lv_goto (tgt := 6) hx hb dX3_goThrough_81 (by decide) ?_
        exact ih (k + 1) ch T1 tr1 (by omega) ((sgo_skip c_26).symm.trans hg) hI1 hkp _ _ _ hP hD hS (lv_sub hl [2, 3, 4, 5, 6, 0] rfl)
  exact LOOP n0 0 0 T tr (by omega) rfl hI ⟨rfl, rfl, rfl, rfl⟩ _ _ _ hP hD hS (lv_sub hl [2, 3, 4, 5, 1, 0] rfl)
