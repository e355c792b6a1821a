set_option maxHeartbeats 4000000 in
set_option maxRecDepth 100000 in
theorem c_X0_count (l : Launch) (G : va_G) (cy : Nat → ClassId) (a : Nat → Nat) (sz : Nat) (T : TS) (tr : Nat → Int32) : Met l yX0_count wsX0_count ({ frames := 0, cells := 0, slots := 0, locals := 0 } : Room) (ml_P G cy [.ref (a 1)] (wC a cy T tr) sz) (va_Qi (fun (r : Int32) (_ : Unit) => r = nI (tn T)) (ml_B G cy (va_A (wC a cy T tr) sz) (fun (_ : Unit) => (wC a cy T tr))) (va_A (wC a cy T tr) sz)) 0 0 (va_A (wC a cy T tr) sz) := by
  refine Met.ofW (cc := cX0_count) (maxL := 1) (ret := (some .int)) (by decide) rfl ?_
  intro p e s m args below meth c s₁ B hml hv
  obtain ⟨rfl, hsz, hP, hK, hD0, hN⟩ := hv
  have hx := B.exec
  have hb := B.bytes
  have hr := B.returns
  have hts := atoms_spec (ws := wsX0_count) B.pre
  have hown : s.vm.findClass RX0 = some m.cls := findClass_of_methodNamed B.named
  have hlocks := B.notSynchronized
  subst hsz
  have hD := hD0.self (sz := s.heap.size)
  generalize hAe : va_A (wC a cy T tr) s.heap.size = A at hD ⊢
  have hA : ∀ q : Nat, s.heap.size ≤ q → A q := fun q h => by rw [← hAe]; exact Or.inr h
  have hS : va_S A s.heap s.heap [] := va_S.rf
  have hP : va_P G vwCl (wC a cy T tr) s.heap := hP
  have hin_X0 : ∀ w ∈ wsX00, w ∈ wsX0_count := by decide +kernel
  have hl := lv_entry ([.ref (a 1)]) (n := 1) (Nat.le_of_ble_eq_true rfl)
  rw [lg_entry_eq]
  generalize (lg_sl ([.ref (a 1)]) ++ List.replicate (1 - (lg_sl ([.ref (a 1)])).length) Slot.unset).toArray = ls at hl ⊢
  have hl : lv_has ls 1 [(0, .ref (a 1))] := hl
  refine lv_aload_n hx hb dX0_count_0 rfl (lv_at hl 0 rfl) ?_
  refine va_get (D := G) (ci := 0) (v := .int (nI (tn T))) (C := RX0) (T := TX0) (N := 5) hx hb hts hin_X0 hown hK hP 1 rfl rfl 4 (by decide) (hts (.fieldLink RX0 24 "Migrationledger$ChangeList" "count" "I") (by decide +kernel)) (fun _ h9 => h9) rfl dX0_count_1 ?_
  exact ml_ri () hx hb hr hlocks hP hK hD hS rfl rfl dX0_count_4
set_option maxHeartbeats 4000000 in
set_option maxRecDepth 100000 in
theorem c_X0_isFull (l : Launch) (G : va_G) (cy : Nat → ClassId) (a : Nat → Nat) (sz : Nat) (T : TS) (tr : Nat → Int32) (hn : tn T ≤ 12) : Met l yX0_isFull wsX0_isFull ({ frames := 0, cells := 0, slots := 0, locals := 0 } : Room) (ml_P G cy [.ref (a 1)] (wC a cy T tr) sz) (va_Qi (fun (r : Int32) (_ : Unit) => r = b2i (12 ≤ tn T)) (ml_B G cy (va_A (wC a cy T tr) sz) (fun (_ : Unit) => (wC a cy T tr))) (va_A (wC a cy T tr) sz)) 0 0 (va_A (wC a cy T tr) sz) := by
  refine Met.ofW (cc := cX0_isFull) (maxL := 1) (ret := (some .boolean)) (by decide) rfl ?_
  intro p e s m args below meth c s₁ B hml hv
  obtain ⟨rfl, hsz, hP, hK, hD0, hN⟩ := hv
  have hx := B.exec
  have hb := B.bytes
  have hr := B.returns
  have hts := atoms_spec (ws := wsX0_isFull) B.pre
  have hown : s.vm.findClass RX0 = some m.cls := findClass_of_methodNamed B.named
  have hlocks := B.notSynchronized
  subst hsz
  have hD := hD0.self (sz := s.heap.size)
  generalize hAe : va_A (wC a cy T tr) s.heap.size = A at hD ⊢
  have hA : ∀ q : Nat, s.heap.size ≤ q → A q := fun q h => by rw [← hAe]; exact Or.inr h
  have hS : va_S A s.heap s.heap [] := va_S.rf
  have hP : va_P G vwCl (wC a cy T tr) s.heap := hP
  have hin_X0 : ∀ w ∈ wsX00, w ∈ wsX0_isFull := by decide +kernel
  have hl := lv_entry ([.ref (a 1)]) (n := 1) (Nat.le_of_ble_eq_true rfl)
  rw [lg_entry_eq]
  generalize (lg_sl ([.ref (a 1)]) ++ List.replicate (1 - (lg_sl ([.ref (a 1)])).length) Slot.unset).toArray = ls at hl ⊢
  have hl : lv_has ls 1 [(0, .ref (a 1))] := hl
  refine lv_aload_n hx hb dX0_isFull_0 rfl (lv_at hl 0 rfl) ?_
  refine va_get (D := G) (ci := 0) (v := .int (nI (tn T))) (C := RX0) (T := TX0) (N := 5) hx hb hts hin_X0 hown hK hP 1 rfl rfl 4 (by decide) (hts (.fieldLink RX0 24 "Migrationledger$ChangeList" "count" "I") (by decide +kernel)) (fun _ h9 => h9) rfl dX0_isFull_1 ?_
  refine lv_bipush (v := 12) hx hb dX0_isFull_4 (by decide) ?_
  refine lv_icmp_lt (tgt := 13) hx hb dX0_isFull_6 (by decide) (fun c_6 => ?_) (fun c_6 => ?_)
  · refine lv_iconst (v := 0) hx hb dX0_isFull_13 (by decide) ?_
    exact ml_rz () hx hb hr hlocks hP hK hD hS rfl rfl (b2i_f' (fun h => Int32.not_le.mpr c_6 ((nI_12 hn).mpr h))) dX0_isFull_14
  · refine lv_iconst (v := 1) hx hb dX0_isFull_9 (by decide) ?_
    refine lv_goto (tgt := 14) hx hb dX0_isFull_10 (by decide) ?_
    exact ml_rz () hx hb hr hlocks hP hK hD hS rfl rfl (b2i_t' ((nI_12 hn).mp (Int32.not_lt.mp c_6))) dX0_isFull_14
set_option maxHeartbeats 4000000 in
set_option maxRecDepth 100000 in
theorem c_X0_contains (l : Launch) (G : va_G) (cy : Nat → ClassId) (a : Nat → Nat) (sz : Nat) (T : TS) (tr : Nat → Int32) (x : Int32) : Met l yX0_contains wsX0_contains ({ frames := 0, cells := 0, slots := 0, locals := 0 } : Room) (ml_P G cy [.ref (a 1), .int x] (wC a cy T tr) sz) (va_Qi (fun (r : Int32) (_ : Unit) => r = b2i (inR x 1 (nI (tn T)))) (ml_B G cy (va_A (wC a cy T tr) sz) (fun (_ : Unit) => (wC a cy T tr))) (va_A (wC a cy T tr) sz)) 0 0 (va_A (wC a cy T tr) sz) := by
  refine Met.ofW (cc := cX0_contains) (maxL := 2) (ret := (some .boolean)) (by decide) rfl ?_
  intro p e s m args below meth c s₁ B hml hv
  obtain ⟨rfl, hsz, hP, hK, hD0, hN⟩ := hv
  have hx := B.exec
  have hb := B.bytes
  have hr := B.returns
  have hts := atoms_spec (ws := wsX0_contains) B.pre
  have hown : s.vm.findClass RX0 = some m.cls := findClass_of_methodNamed B.named
  have hlocks := B.notSynchronized
  subst hsz
  have hD := hD0.self (sz := s.heap.size)
  generalize hAe : va_A (wC a cy T tr) s.heap.size = A at hD ⊢
  have hA : ∀ q : Nat, s.heap.size ≤ q → A q := fun q h => by rw [← hAe]; exact Or.inr h
  have hS : va_S A s.heap s.heap [] := va_S.rf
  have hP : va_P G vwCl (wC a cy T tr) s.heap := hP
  have hin_X0 : ∀ w ∈ wsX00, w ∈ wsX0_contains := by decide +kernel
  have hl := lv_entry ([.ref (a 1), .int x]) (n := 2) (Nat.le_of_ble_eq_true rfl)
  rw [lg_entry_eq]
  generalize (lg_sl ([.ref (a 1), .int x]) ++ List.replicate (2 - (lg_sl ([.ref (a 1), .int x])).length) Slot.unset).toArray = ls at hl ⊢
  have hl : lv_has ls 2 [(0, .ref (a 1)), (1, .int x)] := hl
  refine lv_iload_n hx hb dX0_contains_0 rfl (lv_at hl 1 rfl) ?_
  refine lv_iconst (v := 1) hx hb dX0_contains_1 (by decide) ?_
  refine lv_icmp_lt (tgt := 17) hx hb dX0_contains_2 (by decide) (fun c_2 => ?_) (fun c_2 => ?_)
  · refine lv_iconst (v := 0) hx hb dX0_contains_17 (by decide) ?_
    exact ml_rz () hx hb hr hlocks hP hK hD hS rfl rfl (b2i_f' (nR_a c_2)) dX0_contains_18
  · refine lv_iload_n hx hb dX0_contains_5 rfl (lv_at hl 1 rfl) ?_
    refine lv_aload_n hx hb dX0_contains_6 rfl (lv_at hl 0 rfl) ?_
    refine va_get (D := G) (ci := 0) (v := .int (nI (tn T))) (C := RX0) (T := TX0) (N := 5) hx hb hts hin_X0 hown hK hP 1 rfl rfl 4 (by decide) (hts (.fieldLink RX0 24 "Migrationledger$ChangeList" "count" "I") (by decide +kernel)) (fun _ h9 => h9) rfl dX0_contains_7 ?_
    refine lv_icmp_gt (tgt := 17) hx hb dX0_contains_10 (by decide) (fun c_10 => ?_) (fun c_10 => ?_)
    · refine lv_iconst (v := 0) hx hb dX0_contains_17 (by decide) ?_
      exact ml_rz () hx hb hr hlocks hP hK hD hS rfl rfl (b2i_f' (nR_b c_10)) dX0_contains_18
    · refine lv_iconst (v := 1) hx hb dX0_contains_13 (by decide) ?_
      refine lv_goto (tgt := 18) hx hb dX0_contains_14 (by decide) ?_
      exact ml_rz () hx hb hr hlocks hP hK hD hS rfl rfl (b2i_t' (inR_b c_2 c_10)) dX0_contains_18
set_option maxHeartbeats 4000000 in
set_option maxRecDepth 100000 in
theorem c_X0_put (l : Launch) (G : va_G) (cy : Nat → ClassId) (a : Nat → Nat) (sz : Nat) (T : TS) (tr : Nat → Int32) (j : Nat) (hj : j < 12) (x : Int32) (y : Int32) (z : Int32) : Met l yX0_put wsX0_put ({ frames := 0, cells := 0, slots := 0, locals := 0 } : Room) (ml_P G cy [.ref (a 1), .int (nI (j + 1)), .int x, .int y, .int z] (wC a cy T tr) sz) (va_Qv (fun (_ : Unit) => True) (ml_B G cy (va_A (wC a cy T tr) sz) (fun (_ : Unit) => (wC a cy (putC T (j + 1) x y z) tr))) (va_A (wC a cy T tr) sz)) 0 0 (va_A (wC a cy T tr) sz) := by
  refine Met.ofW (cc := cX0_put) (maxL := 5) (ret := none) (by decide) rfl ?_
  intro p e s m args below meth c s₁ B hml hv
  obtain ⟨rfl, hsz, hP, hK, hD0, hN⟩ := hv
  have hx := B.exec
  have hb := B.bytes
  have hr := B.returns
  have hts := atoms_spec (ws := wsX0_put) B.pre
  have hown : s.vm.findClass RX0 = some m.cls := findClass_of_methodNamed B.named
  have hlocks := B.notSynchronized
  subst hsz
  have hD := hD0.self (sz := s.heap.size)
  generalize hAe : va_A (wC a cy T tr) s.heap.size = A at hD ⊢
  have hA : ∀ q : Nat, s.heap.size ≤ q → A q := fun q h => by rw [← hAe]; exact Or.inr h
  have hS : va_S A s.heap s.heap [] := va_S.rf
  have hP : va_P G vwCl (wC a cy T tr) s.heap := hP
  have hin_X0 : ∀ w ∈ wsX00, w ∈ wsX0_put := by decide +kernel
  have hl := lv_entry ([.ref (a 1), .int (nI (j + 1)), .int x, .int y, .int z]) (n := 5) (Nat.le_of_ble_eq_true rfl)
  rw [lg_entry_eq]
  generalize (lg_sl ([.ref (a 1), .int (nI (j + 1)), .int x, .int y, .int z]) ++ List.replicate (5 - (lg_sl ([.ref (a 1), .int (nI (j + 1)), .int x, .int y, .int z])).length) Slot.unset).toArray = ls at hl ⊢
  have hl : lv_has ls 5 [(0, .ref (a 1)), (1, .int (nI (j + 1))), (2, .int x), (3, .int y), (4, .int z)] := hl
  refine lv_aload_n hx hb dX0_put_0 rfl (lv_at hl 0 rfl) ?_
  refine va_get (D := G) (ci := 0) (v := .ref (a 5)) (C := RX0) (T := TX0) (N := 5) hx hb hts hin_X0 hown hK hP 1 rfl rfl 0 (by decide) (hts (.fieldLink RX0 9 "Migrationledger$ChangeList" "kinds" "[I") (by decide +kernel)) (fun _ h9 => h9) rfl dX0_put_1 ?_
  refine lv_iload_n hx hb dX0_put_4 rfl (lv_at hl 1 rfl) ?_
  refine lv_iconst (v := 1) hx hb dX0_put_5 (by decide) ?_
  refine lv_isub hx hb dX0_put_6 ?_
  refine ml_eqi (nI j) (nI_pred j) ?_
  refine lv_iload_n hx hb dX0_put_7 rfl (lv_at hl 2 rfl) ?_
  refine ml_iast hx hb hK hP hD hS 5 0 rfl rfl (j) rfl (by omega) (Nat.le_of_ble_eq_true rfl) dX0_put_8 (fun H locs hP hD hS => ?_)
  rw [ml_sh ((tK T)) (j) (x)] at hP hD
  have hP : va_P G vwCl (wC a cy (uK T (upd (tK T) (j + 1) x)) tr) H := hP
  have hD : va_D A (wC a cy (uK T (upd (tK T) (j + 1) x)) tr) := hD
  refine lv_aload_n hx hb dX0_put_9 rfl (lv_at hl 0 rfl) ?_
  refine va_get (D := G) (ci := 0) (v := .ref (a 6)) (C := RX0) (T := TX0) (N := 5) hx hb hts hin_X0 hown hK hP 1 rfl rfl 1 (by decide) (hts (.fieldLink RX0 15 "Migrationledger$ChangeList" "columns" "[I") (by decide +kernel)) (fun _ h9 => h9) rfl dX0_put_10 ?_
  refine lv_iload_n hx hb dX0_put_13 rfl (lv_at hl 1 rfl) ?_
  refine lv_iconst (v := 1) hx hb dX0_put_14 (by decide) ?_
  refine lv_isub hx hb dX0_put_15 ?_
  refine ml_eqi (nI j) (nI_pred j) ?_
  refine lv_iload_n hx hb dX0_put_16 rfl (lv_at hl 3 rfl) ?_
  refine ml_iast hx hb hK hP hD hS 6 0 rfl rfl (j) rfl (by omega) (Nat.le_of_ble_eq_true rfl) dX0_put_17 (fun H locs hP hD hS => ?_)
  rw [ml_sh ((tC T)) (j) (y)] at hP hD
  have hP : va_P G vwCl (wC a cy (uC (uK T (upd (tK T) (j + 1) x)) (upd (tC T) (j + 1) y)) tr) H := hP
  have hD : va_D A (wC a cy (uC (uK T (upd (tK T) (j + 1) x)) (upd (tC T) (j + 1) y)) tr) := hD
  refine lv_aload_n hx hb dX0_put_18 rfl (lv_at hl 0 rfl) ?_
  refine va_get (D := G) (ci := 0) (v := .ref (a 7)) (C := RX0) (T := TX0) (N := 5) hx hb hts hin_X0 hown hK hP 1 rfl rfl 2 (by decide) (hts (.fieldLink RX0 18 "Migrationledger$ChangeList" "operands" "[I") (by decide +kernel)) (fun _ h9 => h9) rfl dX0_put_19 ?_
  refine lv_iload_n hx hb dX0_put_22 rfl (lv_at hl 1 rfl) ?_
  refine lv_iconst (v := 1) hx hb dX0_put_23 (by decide) ?_
  refine lv_isub hx hb dX0_put_24 ?_
  refine ml_eqi (nI j) (nI_pred j) ?_
  refine lv_iload hx hb dX0_put_25 (lv_at hl 4 rfl) ?_
  refine ml_iast hx hb hK hP hD hS 7 0 rfl rfl (j) rfl (by omega) (Nat.le_of_ble_eq_true rfl) dX0_put_27 (fun H locs hP hD hS => ?_)
  rw [ml_sh ((tO T)) (j) (z)] at hP hD
  have hP : va_P G vwCl (wC a cy (uO (uC (uK T (upd (tK T) (j + 1) x)) (upd (tC T) (j + 1) y)) (upd (tO T) (j + 1) z)) tr) H := hP
  have hD : va_D A (wC a cy (uO (uC (uK T (upd (tK T) (j + 1) x)) (upd (tC T) (j + 1) y)) (upd (tO T) (j + 1) z)) tr) := hD
  exact ml_rv () hx hb hr hlocks hP hK hD hS rfl trivial dX0_put_28
set_option maxHeartbeats 4000000 in
set_option maxRecDepth 100000 in
theorem c_X0_append (l : Launch) (G : va_G) (cy : Nat → ClassId) (a : Nat → Nat) (sz : Nat) (T : TS) (tr : Nat → Int32) (x : Int32) (y : Int32) (z : Int32) (hn : tn T < 12) : Met l yX0_append wsX0_append ({ frames := 1, cells := 0, slots := 0, locals := 24 } : Room) (ml_P G cy [.ref (a 1), .int x, .int y, .int z] (wC a cy T tr) sz) (va_Qi (fun (r : Int32) (_ : Unit) => r = nI (tn T + 1)) (ml_B G cy (va_A (wC a cy T tr) sz) (fun (_ : Unit) => (wC a cy (putC (un T (tn T + 1)) (tn T + 1) x y z) tr))) (va_A (wC a cy T tr) sz)) 0 0 (va_A (wC a cy T tr) sz) := by
  refine Met.ofW (cc := cX0_append) (maxL := 4) (ret := (some .int)) (by decide) rfl ?_
  intro p e s m args below meth c s₁ B hml hv
  obtain ⟨rfl, hsz, hP, hK, hD0, hN⟩ := hv
  have hx := B.exec
  have hb := B.bytes
  have hr := B.returns
  have hts := atoms_spec (ws := wsX0_append) B.pre
  have hown : s.vm.findClass RX0 = some m.cls := findClass_of_methodNamed B.named
  have hlocks := B.notSynchronized
  subst hsz
  have hD := hD0.self (sz := s.heap.size)
  generalize hAe : va_A (wC a cy T tr) s.heap.size = A at hD ⊢
  have hA : ∀ q : Nat, s.heap.size ≤ q → A q := fun q h => by rw [← hAe]; exact Or.inr h
  have hS : va_S A s.heap s.heap [] := va_S.rf
  have hP : va_P G vwCl (wC a cy T tr) s.heap := hP
  have hin_X0 : ∀ w ∈ wsX00, w ∈ wsX0_append := by decide +kernel
  have hl := lv_entry ([.ref (a 1), .int x, .int y, .int z]) (n := 4) (Nat.le_of_ble_eq_true rfl)
  rw [lg_entry_eq]
  generalize (lg_sl ([.ref (a 1), .int x, .int y, .int z]) ++ List.replicate (4 - (lg_sl ([.ref (a 1), .int x, .int y, .int z])).length) Slot.unset).toArray = ls at hl ⊢
  have hl : lv_has ls 4 [(0, .ref (a 1)), (1, .int x), (2, .int y), (3, .int z)] := hl
  refine lv_aload_n hx hb dX0_append_0 rfl (lv_at hl 0 rfl) ?_
  refine lv_dup hx hb dX0_append_1 rfl ?_
  refine va_get (D := G) (ci := 0) (v := .int (nI (tn T))) (C := RX0) (T := TX0) (N := 5) hx hb hts hin_X0 hown hK hP 1 rfl rfl 4 (by decide) (hts (.fieldLink RX0 24 "Migrationledger$ChangeList" "count" "I") (by decide +kernel)) (fun _ h9 => h9) rfl dX0_append_2 ?_
  refine lv_iconst (v := 1) hx hb dX0_append_5 (by decide) ?_
  refine lv_iadd hx hb dX0_append_6 ?_
  refine ml_eqi (nI (tn T + 1)) (nI_add (tn T) 1) ?_
  refine va_put (D := G) (ci := 0) (v := .int (nI (tn T + 1))) (ty := .int) (C := RX0) (T := TX0) (N := 5) hx hb hts hin_X0 tyX0 tyX0_ok nmX0 hown hK hP hD hS 1 rfl rfl 4 (by decide) (hts (.fieldLink RX0 24 "Migrationledger$ChangeList" "count" "I") (by decide +kernel)) (fun _ h9 => h9) rfl (by decide +kernel) rfl rfl (Nat.le_of_ble_eq_true rfl) dX0_append_7 (fun H locs hP hD hS => ?_)
  have hP : va_P G vwCl (wC a cy (un T (tn T + 1)) tr) H := hP
  have hD : va_D A (wC a cy (un T (tn T + 1)) tr) := hD
  refine lv_aload_n hx hb dX0_append_10 rfl (lv_at hl 0 rfl) ?_
  refine lv_aload_n hx hb dX0_append_11 rfl (lv_at hl 0 rfl) ?_
  refine va_get (D := G) (ci := 0) (v := .int (nI (tn T + 1))) (C := RX0) (T := TX0) (N := 5) hx hb hts hin_X0 hown hK hP 1 rfl rfl 4 (by decide) (hts (.fieldLink RX0 24 "Migrationledger$ChangeList" "count" "I") (by decide +kernel)) (fun _ h9 => h9) rfl dX0_append_12 ?_
  refine lv_iload_n hx hb dX0_append_15 rfl (lv_at hl 1 rfl) ?_
  refine lv_iload_n hx hb dX0_append_16 rfl (lv_at hl 2 rfl) ?_
  refine lv_iload_n hx hb dX0_append_17 rfl (lv_at hl 3 rfl) ?_
  refine ml_Vv (G := G) (As := [.int (nI (tn T + 1)), .int x, .int y, .int z]) (rest := []) ⟨hx, hb, hml, hown, hts⟩ (c_X0_put l G cy a H.size (un T (tn T + 1)) tr (tn T) (by omega) x y z) (cwV 4 hts gX0_append_X0_put rfl rfl rfl (by decide +kernel) ⟨Nat.le_of_ble_eq_true rfl, Nat.le_of_ble_eq_true rfl⟩) (va_recv hK hP (ci := 0) (q0 := 1) rfl rfl) hP hK hD hS hN hA rfl hl.1 (Nat.le_of_ble_eq_true rfl) dX0_append_18 ⟨Nat.le_of_ble_eq_true rfl, Nat.le_of_ble_eq_true rfl⟩ (fun u_18 H locs hw hP hD hS => ?_)
  have hP : va_P G vwCl (wC a cy (putC (un T (tn T + 1)) (tn T + 1) x y z) tr) H := hP
  have hD : va_D A (wC a cy (putC (un T (tn T + 1)) (tn T + 1) x y z) tr) := hD
  refine lv_aload_n hx hb dX0_append_21 rfl (lv_at hl 0 rfl) ?_
  refine va_get (D := G) (ci := 0) (v := .int (nI (tn (putC (un T (tn T + 1)) (tn T + 1) x y z)))) (C := RX0) (T := TX0) (N := 5) hx hb hts hin_X0 hown hK hP 1 rfl rfl 4 (by decide) (hts (.fieldLink RX0 24 "Migrationledger$ChangeList" "count" "I") (by decide +kernel)) (fun _ h9 => h9) rfl dX0_append_22 ?_
  exact ml_ri () hx hb hr hlocks hP hK hD hS rfl rfl dX0_append_25
set_option maxHeartbeats 4000000 in
set_option maxRecDepth 100000 in
theorem c_X0_checksumOf (l : Launch) (G : va_G) (cy : Nat → ClassId) (a : Nat → Nat) (sz : Nat) (T : TS) (tr : Nat → Int32) (j : Nat) (hj : j < 12) : Met l yX0_checksumOf wsX0_checksumOf ({ frames := 0, cells := 0, slots := 0, locals := 0 } : Room) (ml_P G cy [.ref (a 1), .int (nI (j + 1))] (wC a cy T tr) sz) (va_Qi (fun (r : Int32) (_ : Unit) => r = sumOf T (j + 1)) (ml_B G cy (va_A (wC a cy T tr) sz) (fun (_ : Unit) => (wC a cy T tr))) (va_A (wC a cy T tr) sz)) 0 0 (va_A (wC a cy T tr) sz) := by
  refine Met.ofW (cc := cX0_checksumOf) (maxL := 4) (ret := (some .int)) (by decide) rfl ?_
  intro p e s m args below meth c s₁ B hml hv
  obtain ⟨rfl, hsz, hP, hK, hD0, hN⟩ := hv
  have hx := B.exec
  have hb := B.bytes
  have hr := B.returns
  have hts := atoms_spec (ws := wsX0_checksumOf) B.pre
  have hown : s.vm.findClass RX0 = some m.cls := findClass_of_methodNamed B.named
  have hlocks := B.notSynchronized
  subst hsz
  have hD := hD0.self (sz := s.heap.size)
  generalize hAe : va_A (wC a cy T tr) s.heap.size = A at hD ⊢
  have hA : ∀ q : Nat, s.heap.size ≤ q → A q := fun q h => by rw [← hAe]; exact Or.inr h
  have hS : va_S A s.heap s.heap [] := va_S.rf
  have hP : va_P G vwCl (wC a cy T tr) s.heap := hP
  have hin_X0 : ∀ w ∈ wsX00, w ∈ wsX0_checksumOf := by decide +kernel
  have hl := lv_entry ([.ref (a 1), .int (nI (j + 1))]) (n := 4) (Nat.le_of_ble_eq_true rfl)
  rw [lg_entry_eq]
  generalize (lg_sl ([.ref (a 1), .int (nI (j + 1))]) ++ List.replicate (4 - (lg_sl ([.ref (a 1), .int (nI (j + 1))])).length) Slot.unset).toArray = ls at hl ⊢
  have hl : lv_has ls 4 [(0, .ref (a 1)), (1, .int (nI (j + 1)))] := hl
  refine lv_aload_n hx hb dX0_checksumOf_0 rfl (lv_at hl 0 rfl) ?_
  refine va_get (D := G) (ci := 0) (v := .ref (a 5)) (C := RX0) (T := TX0) (N := 5) hx hb hts hin_X0 hown hK hP 1 rfl rfl 0 (by decide) (hts (.fieldLink RX0 9 "Migrationledger$ChangeList" "kinds" "[I") (by decide +kernel)) (fun _ h9 => h9) rfl dX0_checksumOf_1 ?_
  refine lv_iload_n hx hb dX0_checksumOf_4 rfl (lv_at hl 1 rfl) ?_
  refine lv_iconst (v := 1) hx hb dX0_checksumOf_5 (by decide) ?_
  refine lv_isub hx hb dX0_checksumOf_6 ?_
  refine ml_eqi (nI j) (nI_pred j) ?_
  refine ml_iald hx hb hK hP 5 0 rfl rfl (j) rfl (by omega) (Nat.le_of_ble_eq_true rfl) ((tK T) (j + 1)) rfl dX0_checksumOf_7 ?_
  refine lv_bipush (v := 31) hx hb dX0_checksumOf_8 (by decide) ?_
  refine lv_imul hx hb dX0_checksumOf_10 ?_
  refine lv_aload_n hx hb dX0_checksumOf_11 rfl (lv_at hl 0 rfl) ?_
  refine va_get (D := G) (ci := 0) (v := .ref (a 6)) (C := RX0) (T := TX0) (N := 5) hx hb hts hin_X0 hown hK hP 1 rfl rfl 1 (by decide) (hts (.fieldLink RX0 15 "Migrationledger$ChangeList" "columns" "[I") (by decide +kernel)) (fun _ h9 => h9) rfl dX0_checksumOf_12 ?_
  refine lv_iload_n hx hb dX0_checksumOf_15 rfl (lv_at hl 1 rfl) ?_
  refine lv_iconst (v := 1) hx hb dX0_checksumOf_16 (by decide) ?_
  refine lv_isub hx hb dX0_checksumOf_17 ?_
  refine ml_eqi (nI j) (nI_pred j) ?_
  refine ml_iald hx hb hK hP 6 0 rfl rfl (j) rfl (by omega) (Nat.le_of_ble_eq_true rfl) ((tC T) (j + 1)) rfl dX0_checksumOf_18 ?_
  refine lv_iadd hx hb dX0_checksumOf_19 ?_
  refine lv_istore_n (lv' := [(2, .int ((((tK T) (j + 1)) * 31) + ((tC T) (j + 1)))), (0, .ref (a 1)), (1, .int (nI (j + 1)))]) hx hb dX0_checksumOf_20 rfl hl (by decide) rfl (fun ls hl => ?_)
  refine lv_iload_n hx hb dX0_checksumOf_21 rfl (lv_at hl 0 rfl) ?_
  refine lv_sipush (v := 2003) hx hb dX0_checksumOf_22 (by decide) ?_
  refine lv_imul hx hb dX0_checksumOf_25 ?_
  refine lv_aload_n hx hb dX0_checksumOf_26 rfl (lv_at hl 1 rfl) ?_
  refine va_get (D := G) (ci := 0) (v := .ref (a 7)) (C := RX0) (T := TX0) (N := 5) hx hb hts hin_X0 hown hK hP 1 rfl rfl 2 (by decide) (hts (.fieldLink RX0 18 "Migrationledger$ChangeList" "operands" "[I") (by decide +kernel)) (fun _ h9 => h9) rfl dX0_checksumOf_27 ?_
  refine lv_iload_n hx hb dX0_checksumOf_30 rfl (lv_at hl 2 rfl) ?_
  refine lv_iconst (v := 1) hx hb dX0_checksumOf_31 (by decide) ?_
  refine lv_isub hx hb dX0_checksumOf_32 ?_
  refine ml_eqi (nI j) (nI_pred j) ?_
  refine ml_iald hx hb hK hP 7 0 rfl rfl (j) rfl (by omega) (Nat.le_of_ble_eq_true rfl) ((tO T) (j + 1)) rfl dX0_checksumOf_33 ?_
  refine lv_iadd hx hb dX0_checksumOf_34 ?_
  refine lv_sipush (v := 1001) hx hb dX0_checksumOf_35 (by decide) ?_
  refine lv_iadd hx hb dX0_checksumOf_38 ?_
  refine lv_istore_n (lv' := [(3, .int (((((((tK T) (j + 1)) * 31) + ((tC T) (j + 1))) * 2003) + ((tO T) (j + 1))) + 1001)), (2, .int ((((tK T) (j + 1)) * 31) + ((tC T) (j + 1)))), (0, .ref (a 1)), (1, .int (nI (j + 1)))]) hx hb dX0_checksumOf_39 rfl hl (by decide) rfl (fun ls hl => ?_)
  refine lv_iload_n hx hb dX0_checksumOf_40 rfl (lv_at hl 0 rfl) ?_
  refine lv_bipush (v := 7) hx hb dX0_checksumOf_41 (by decide) ?_
  refine lv_imul hx hb dX0_checksumOf_43 ?_
  refine lv_iload_n hx hb dX0_checksumOf_44 rfl (lv_at hl 3 rfl) ?_
  refine lv_iadd hx hb dX0_checksumOf_45 ?_
  refine lv_ldc hx hb hown (hts (.constant RX0 32 65521) (by decide +kernel)) dX0_checksumOf_46 ?_
  refine lv_irem hx hb dX0_checksumOf_48 (by decide) ?_
  exact ml_ri () hx hb hr hlocks hP hK hD hS rfl rfl dX0_checksumOf_49
set_option maxHeartbeats 4000000 in
set_option maxRecDepth 100000 in
theorem c_X0_recordChecksum (l : Launch) (G : va_G) (cy : Nat → ClassId) (a : Nat → Nat) (sz : Nat) (T : TS) (tr : Nat → Int32) (j : Nat) (hj : j < 12) : Met l yX0_recordChecksum wsX0_recordChecksum ({ frames := 1, cells := 0, slots := 0, locals := 23 } : Room) (ml_P G cy [.ref (a 1), .int (nI (j + 1))] (wC a cy T tr) sz) (va_Qv (fun (_ : Unit) => True) (ml_B G cy (va_A (wC a cy T tr) sz) (fun (_ : Unit) => (wC a cy (uR T (upd (tR T) (j + 1) (sumOf T (j + 1)))) tr))) (va_A (wC a cy T tr) sz)) 0 0 (va_A (wC a cy T tr) sz) := by
  refine Met.ofW (cc := cX0_recordChecksum) (maxL := 2) (ret := none) (by decide) rfl ?_
  intro p e s m args below meth c s₁ B hml hv
  obtain ⟨rfl, hsz, hP, hK, hD0, hN⟩ := hv
  have hx := B.exec
  have hb := B.bytes
  have hr := B.returns
  have hts := atoms_spec (ws := wsX0_recordChecksum) B.pre
  have hown : s.vm.findClass RX0 = some m.cls := findClass_of_methodNamed B.named
  have hlocks := B.notSynchronized
  subst hsz
  have hD := hD0.self (sz := s.heap.size)
  generalize hAe : va_A (wC a cy T tr) s.heap.size = A at hD ⊢
  have hA : ∀ q : Nat, s.heap.size ≤ q → A q := fun q h => by rw [← hAe]; exact Or.inr h
  have hS : va_S A s.heap s.heap [] := va_S.rf
  have hP : va_P G vwCl (wC a cy T tr) s.heap := hP
  have hin_X0 : ∀ w ∈ wsX00, w ∈ wsX0_recordChecksum := by decide +kernel
  have hl := lv_entry ([.ref (a 1), .int (nI (j + 1))]) (n := 2) (Nat.le_of_ble_eq_true rfl)
  rw [lg_entry_eq]
  generalize (lg_sl ([.ref (a 1), .int (nI (j + 1))]) ++ List.replicate (2 - (lg_sl ([.ref (a 1), .int (nI (j + 1))])).length) Slot.unset).toArray = ls at hl ⊢
  have hl : lv_has ls 2 [(0, .ref (a 1)), (1, .int (nI (j + 1)))] := hl
  refine lv_aload_n hx hb dX0_recordChecksum_0 rfl (lv_at hl 0 rfl) ?_
  refine va_get (D := G) (ci := 0) (v := .ref (a 8)) (C := RX0) (T := TX0) (N := 5) hx hb hts hin_X0 hown hK hP 1 rfl rfl 3 (by decide) (hts (.fieldLink RX0 21 "Migrationledger$ChangeList" "recorded" "[I") (by decide +kernel)) (fun _ h9 => h9) rfl dX0_recordChecksum_1 ?_
  refine lv_iload_n hx hb dX0_recordChecksum_4 rfl (lv_at hl 1 rfl) ?_
  refine lv_iconst (v := 1) hx hb dX0_recordChecksum_5 (by decide) ?_
  refine lv_isub hx hb dX0_recordChecksum_6 ?_
  refine ml_eqi (nI j) (nI_pred j) ?_
  refine lv_aload_n hx hb dX0_recordChecksum_7 rfl (lv_at hl 0 rfl) ?_
  refine lv_iload_n hx hb dX0_recordChecksum_8 rfl (lv_at hl 1 rfl) ?_
  refine ml_Vi (G := G) (As := [.int (nI (j + 1))]) (rest := [.int (nI j), .ref (a 8)]) ⟨hx, hb, hml, hown, hts⟩ (c_X0_checksumOf l G cy a s.heap.size T tr j (by omega)) (cwV 1 hts gX0_recordChecksum_X0_checksumOf rfl rfl rfl (by decide +kernel) ⟨Nat.le_of_ble_eq_true rfl, Nat.le_of_ble_eq_true rfl⟩) (va_recv hK hP (ci := 0) (q0 := 1) rfl rfl) hP hK hD hS hN hA rfl hl.1 (Nat.le_of_ble_eq_true rfl) dX0_recordChecksum_9 ⟨Nat.le_of_ble_eq_true rfl, Nat.le_of_ble_eq_true rfl⟩ (fun r_9 u_9 H locs hw hP hD hS => ?_)
  obtain rfl : r_9 = sumOf T (j + 1) := hw
  have hP : va_P G vwCl (wC a cy T tr) H := hP
  have hD : va_D A (wC a cy T tr) := hD
  refine ml_iast hx hb hK hP hD hS 8 0 rfl rfl (j) rfl (by omega) (Nat.le_of_ble_eq_true rfl) dX0_recordChecksum_12 (fun H locs hP hD hS => ?_)
  rw [ml_sh ((tR T)) (j) (sumOf T (j + 1))] at hP hD
  have hP : va_P G vwCl (wC a cy (uR T (upd (tR T) (j + 1) (sumOf T (j + 1)))) tr) H := hP
  have hD : va_D A (wC a cy (uR T (upd (tR T) (j + 1) (sumOf T (j + 1)))) tr) := hD
  exact ml_rv () hx hb hr hlocks hP hK hD hS rfl trivial dX0_recordChecksum_13
set_option maxHeartbeats 4000000 in
set_option maxRecDepth 100000 in
theorem c_X0_hasDrifted (l : Launch) (G : va_G) (cy : Nat → ClassId) (a : Nat → Nat) (sz : Nat) (T : TS) (tr : Nat → Int32) (j : Nat) (hj : j < 12) : Met l yX0_hasDrifted wsX0_hasDrifted ({ frames := 1, cells := 0, slots := 0, locals := 23 } : Room) (ml_P G cy [.ref (a 1), .int (nI (j + 1))] (wC a cy T tr) sz) (va_Qi (fun (r : Int32) (_ : Unit) => r = b2i (drf T (j + 1))) (ml_B G cy (va_A (wC a cy T tr) sz) (fun (_ : Unit) => (wC a cy T tr))) (va_A (wC a cy T tr) sz)) 0 0 (va_A (wC a cy T tr) sz) := by
  refine Met.ofW (cc := cX0_hasDrifted) (maxL := 2) (ret := (some .boolean)) (by decide) rfl ?_
  intro p e s m args below meth c s₁ B hml hv
  obtain ⟨rfl, hsz, hP, hK, hD0, hN⟩ := hv
  have hx := B.exec
  have hb := B.bytes
  have hr := B.returns
  have hts := atoms_spec (ws := wsX0_hasDrifted) B.pre
  have hown : s.vm.findClass RX0 = some m.cls := findClass_of_methodNamed B.named
  have hlocks := B.notSynchronized
  subst hsz
  have hD := hD0.self (sz := s.heap.size)
  generalize hAe : va_A (wC a cy T tr) s.heap.size = A at hD ⊢
  have hA : ∀ q : Nat, s.heap.size ≤ q → A q := fun q h => by rw [← hAe]; exact Or.inr h
  have hS : va_S A s.heap s.heap [] := va_S.rf
  have hP : va_P G vwCl (wC a cy T tr) s.heap := hP
  have hin_X0 : ∀ w ∈ wsX00, w ∈ wsX0_hasDrifted := by decide +kernel
  have hl := lv_entry ([.ref (a 1), .int (nI (j + 1))]) (n := 2) (Nat.le_of_ble_eq_true rfl)
  rw [lg_entry_eq]
  generalize (lg_sl ([.ref (a 1), .int (nI (j + 1))]) ++ List.replicate (2 - (lg_sl ([.ref (a 1), .int (nI (j + 1))])).length) Slot.unset).toArray = ls at hl ⊢
  have hl : lv_has ls 2 [(0, .ref (a 1)), (1, .int (nI (j + 1)))] := hl
  refine lv_aload_n hx hb dX0_hasDrifted_0 rfl (lv_at hl 0 rfl) ?_
  refine lv_iload_n hx hb dX0_hasDrifted_1 rfl (lv_at hl 1 rfl) ?_
  refine ml_Vi (G := G) (As := [.int (nI (j + 1))]) (rest := []) ⟨hx, hb, hml, hown, hts⟩ (c_X0_checksumOf l G cy a s.heap.size T tr j (by omega)) (cwV 1 hts gX0_hasDrifted_X0_checksumOf rfl rfl rfl (by decide +kernel) ⟨Nat.le_of_ble_eq_true rfl, Nat.le_of_ble_eq_true rfl⟩) (va_recv hK hP (ci := 0) (q0 := 1) rfl rfl) hP hK hD hS hN hA rfl hl.1 (Nat.le_of_ble_eq_true rfl) dX0_hasDrifted_2 ⟨Nat.le_of_ble_eq_true rfl, Nat.le_of_ble_eq_true rfl⟩ (fun r_2 u_2 H locs hw hP hD hS => ?_)
  obtain rfl : r_2 = sumOf T (j + 1) := hw
  have hP : va_P G vwCl (wC a cy T tr) H := hP
  have hD : va_D A (wC a cy T tr) := hD
  refine lv_aload_n hx hb dX0_hasDrifted_5 rfl (lv_at hl 0 rfl) ?_
  refine va_get (D := G) (ci := 0) (v := .ref (a 8)) (C := RX0) (T := TX0) (N := 5) hx hb hts hin_X0 hown hK hP 1 rfl rfl 3 (by decide) (hts (.fieldLink RX0 21 "Migrationledger$ChangeList" "recorded" "[I") (by decide +kernel)) (fun _ h9 => h9) rfl dX0_hasDrifted_6 ?_
  refine lv_iload_n hx hb dX0_hasDrifted_9 rfl (lv_at hl 1 rfl) ?_
  refine lv_iconst (v := 1) hx hb dX0_hasDrifted_10 (by decide) ?_
  refine lv_isub hx hb dX0_hasDrifted_11 ?_
  refine ml_eqi (nI j) (nI_pred j) ?_
  refine ml_iald hx hb hK hP 8 0 rfl rfl (j) rfl (by omega) (Nat.le_of_ble_eq_true rfl) ((tR T) (j + 1)) rfl dX0_hasDrifted_12 ?_
  refine lv_icmp_eq (tgt := 20) hx hb dX0_hasDrifted_13 (by decide) (fun c_13 => ?_) (fun c_13 => ?_)
  · refine lv_iconst (v := 0) hx hb dX0_hasDrifted_20 (by decide) ?_
    exact ml_rz () hx hb hr hlocks hP hK hD hS rfl rfl (b2i_f' (fun h => h c_13)) dX0_hasDrifted_21
  · refine lv_iconst (v := 1) hx hb dX0_hasDrifted_16 (by decide) ?_
    refine lv_goto (tgt := 21) hx hb dX0_hasDrifted_17 (by decide) ?_
    exact ml_rz () hx hb hr hlocks hP hK hD hS rfl rfl (b2i_t' c_13) dX0_hasDrifted_21
set_option maxHeartbeats 4000000 in
set_option maxRecDepth 100000 in
theorem c_X0_firstDrifted (l : Launch) (G : va_G) (cy : Nat → ClassId) (a : Nat → Nat) (sz : Nat) (T : TS) (tr : Nat → Int32) (q : Nat) (hq : q ≤ 12) : Met l yX0_firstDrifted wsX0_firstDrifted ({ frames := 2, cells := 0, slots := 0, locals := 44 } : Room) (ml_P G cy [.ref (a 1), .int (nI q)] (wC a cy T tr) sz) (va_Qi (fun (r : Int32) (_ : Unit) => r = fdU T q 0) (ml_B G cy (va_A (wC a cy T tr) sz) (fun (_ : Unit) => (wC a cy T tr))) (va_A (wC a cy T tr) sz)) 0 0 (va_A (wC a cy T tr) sz) := by
  refine Met.ofW (cc := cX0_firstDrifted) (maxL := 3) (ret := (some .int)) (by decide) rfl ?_
  intro p e s m args below meth c s₁ B hml hv
  obtain ⟨rfl, hsz, hP, hK, hD0, hN⟩ := hv
  have hx := B.exec
  have hb := B.bytes
  have hr := B.returns
  have hts := atoms_spec (ws := wsX0_firstDrifted) B.pre
  have hown : s.vm.findClass RX0 = some m.cls := findClass_of_methodNamed B.named
  have hlocks := B.notSynchronized
  subst hsz
  have hD := hD0.self (sz := s.heap.size)
  generalize hAe : va_A (wC a cy T tr) s.heap.size = A at hD ⊢
  have hA : ∀ q : Nat, s.heap.size ≤ q → A q := fun q h => by rw [← hAe]; exact Or.inr h
  have hS : va_S A s.heap s.heap [] := va_S.rf
  have hP : va_P G vwCl (wC a cy T tr) s.heap := hP
  have hl := lv_entry ([.ref (a 1), .int (nI q)]) (n := 3) (Nat.le_of_ble_eq_true rfl)
  rw [lg_entry_eq]
  generalize (lg_sl ([.ref (a 1), .int (nI q)]) ++ List.replicate (3 - (lg_sl ([.ref (a 1), .int (nI q)])).length) Slot.unset).toArray = ls at hl ⊢
  have hl : lv_has ls 3 [(0, .ref (a 1)), (1, .int (nI q))] := hl
  refine lv_iconst (v := 1) hx hb dX0_firstDrifted_0 (by decide) ?_
  refine lv_istore_n (lv' := [(2, .int 1), (0, .ref (a 1)), (1, .int (nI q))]) hx hb dX0_firstDrifted_1 rfl hl (by decide) rfl (fun ls hl => ?_)
  have LOOP : ∀ (r : Nat) (k : Nat) (hk : k + r = q) (hg : fdU T r k = fdU T q 0) (H : Heap) (locs : List Loc) (ls : Array Slot), va_P G vwCl (wC a cy T tr) H → va_D A (wC a cy T tr) → va_S A s.heap H locs → lv_has ls 3 [(0, .ref (a 1)), (1, .int (nI q)), (2, .int (nI (k + 1)))] → W p l e (headSpec wsX0_firstDrifted ({ frames := 2, cells := 0, slots := 0, locals := 44 } : Room)).room s m (#[.ref (a 1), .int (nI q)] : Array Value) below meth c H locs 0 0 (MQ below (va_Qi (fun (r : Int32) (_ : Unit) => r = fdU T q 0) (ml_B G cy A (fun (_ : Unit) => (wC a cy T tr))) A) (#[.ref (a 1), .int (nI q)] : Array Value) s 0 0 A) (F0 m 2 ls []) := by
    intro r
    induction r with
    | zero =>
      intro k hk hg H locs ls hP hD hS hl
      refine lv_iload_n hx hb dX0_firstDrifted_2 rfl (lv_at hl 2 rfl) ?_
      refine lv_iload_n hx hb dX0_firstDrifted_3 rfl (lv_at hl 1 rfl) ?_
      refine lv_icmp_gt (tgt := 23) hx hb dX0_firstDrifted_4 (by decide) (fun c_4 => ?_) (fun c_4 => False.elim (c_4 (nI_lt (by omega) (by omega))))
      refine lv_iconst (v := 0) hx hb dX0_firstDrifted_23 (by decide) ?_
      exact ml_ri () hx hb hr hlocks hP hK hD hS rfl hg dX0_firstDrifted_24
    | succ r ih =>
      intro k hk hg H locs ls hP hD hS hl
      refine lv_iload_n hx hb dX0_firstDrifted_2 rfl (lv_at hl 2 rfl) ?_
      refine lv_iload_n hx hb dX0_firstDrifted_3 rfl (lv_at hl 1 rfl) ?_
      refine lv_icmp_gt (tgt := 23) hx hb dX0_firstDrifted_4 (by decide) (fun c_4 => False.elim (nI_nlt (by omega) (by omega) c_4)) (fun c_4 => ?_)
      refine lv_aload_n hx hb dX0_firstDrifted_7 rfl (lv_at hl 0 rfl) ?_
      refine lv_iload_n hx hb dX0_firstDrifted_8 rfl (lv_at hl 2 rfl) ?_
      refine ml_Vi (G := G) (As := [.int (nI (k + 1))]) (rest := []) ⟨hx, hb, hml, hown, hts⟩ (c_X0_hasDrifted l G cy a H.size T tr k (by omega)) (cwV 1 hts gX0_firstDrifted_X0_hasDrifted rfl rfl rfl (by decide +kernel) ⟨Nat.le_of_ble_eq_true rfl, Nat.le_of_ble_eq_true rfl⟩) (va_recv hK hP (ci := 0) (q0 := 1) rfl rfl) hP hK hD hS hN hA rfl hl.1 (Nat.le_of_ble_eq_true rfl) dX0_firstDrifted_9 ⟨Nat.le_of_ble_eq_true rfl, Nat.le_of_ble_eq_true rfl⟩ (fun r_9 u_9 H locs hw hP hD hS => ?_)
      obtain rfl : r_9 = b2i (drf T (k + 1)) := hw
      have hP : va_P G vwCl (wC a cy T tr) H := hP
      have hD : va_D A (wC a cy T tr) := hD
      refine ml_ifeqb (tgt := 17) hx hb dX0_firstDrifted_12 (by decide) (fun c_12 => ?_) (fun c_12 => ?_)
      · refine lv_iinc (v := nI (k + 1 + 1)) (lv' := [(2, .int (nI (k + 1 + 1))), (0, .ref (a 1)), (1, .int (nI q))]) hx hb dX0_firstDrifted_17 hl (k := 2) rfl (nI_1 _) (by decide) rfl (fun ls hl => ?_)
        refine lv_goto (tgt := 2) hx hb dX0_firstDrifted_20 (by decide) ?_
        exact ih (k + 1) (by omega) (by rw [← hg]; exact (cif_f c_12).symm) _ _ _ hP hD hS (lv_sub hl [1, 2, 0] rfl)
      · refine lv_iload_n hx hb dX0_firstDrifted_15 rfl (lv_at hl 2 rfl) ?_
        exact ml_ri () hx hb hr hlocks hP hK hD hS rfl (by rw [← hg]; exact (cif_t c_12).symm) dX0_firstDrifted_16
  exact LOOP q 0 (by omega) rfl _ _ _ hP hD hS (lv_sub hl [1, 2, 0] rfl)
set_option maxHeartbeats 4000000 in
set_option maxRecDepth 100000 in
theorem c_X3_isTableValue (l : Launch) (G : va_G) (cy : Nat → ClassId) (a : Nat → Nat) (sz : Nat) (T : TS) (tr : Nat → Int32) (v : Int64) : Met l yX3_isTableValue wsX3_isTableValue ({ frames := 0, cells := 0, slots := 0, locals := 0 } : Room) (ml_P G cy [.long v] (wC a cy T tr) sz) (va_Qi (fun (r : Int32) (_ : Unit) => r = b2i (okV v)) (ml_B G cy (va_A (wC a cy T tr) sz) (fun (_ : Unit) => (wC a cy T tr))) (va_A (wC a cy T tr) sz)) 0 0 (va_A (wC a cy T tr) sz) := by
  refine Met.ofW (cc := cX3_isTableValue) (maxL := 2) (ret := (some .boolean)) (by decide) rfl ?_
  intro p e s m args below meth c s₁ B hml hv
  obtain ⟨rfl, hsz, hP, hK, hD0, hN⟩ := hv
  have hx := B.exec
  have hb := B.bytes
  have hr := B.returns
  have hts := atoms_spec (ws := wsX3_isTableValue) B.pre
  have hown : s.vm.findClass RX3 = some m.cls := findClass_of_methodNamed B.named
  have hlocks := B.notSynchronized
  subst hsz
  have hD := hD0.self (sz := s.heap.size)
  generalize hAe : va_A (wC a cy T tr) s.heap.size = A at hD ⊢
  have hA : ∀ q : Nat, s.heap.size ≤ q → A q := fun q h => by rw [← hAe]; exact Or.inr h
  have hS : va_S A s.heap s.heap [] := va_S.rf
  have hP : va_P G vwCl (wC a cy T tr) s.heap := hP
  have hl := lv_entry ([.long v]) (n := 2) (Nat.le_of_ble_eq_true rfl)
  rw [lg_entry_eq]
  generalize (lg_sl ([.long v]) ++ List.replicate (2 - (lg_sl ([.long v])).length) Slot.unset).toArray = ls at hl ⊢
  have hl : lv_has ls 2 [(0, .long v)] := hl
  refine lv_lload_n hx hb dX3_isTableValue_0 rfl (lv_at hl 0 rfl) ?_
  refine lv_ldc2 hx hb hown (hts (.constantLong RX3 246 (-1000000000)) (by decide +kernel)) dX3_isTableValue_1 ?_
  refine W.lcmp hx hb dX3_isTableValue_4 ?_
  refine lv_if_lt (tgt := 20) hx hb dX3_isTableValue_5 (by decide) (fun c_5 => ?_) (fun c_5 => ?_)
  · have c_5 := (lg_cmp_lt _ _).mp c_5
    refine lv_iconst (v := 0) hx hb dX3_isTableValue_20 (by decide) ?_
    exact ml_rz () hx hb hr hlocks hP hK hD hS rfl rfl (b2i_f' (okV_a c_5)) dX3_isTableValue_21
  · have c_5 := fun h => c_5 ((lg_cmp_lt _ _).mpr h)
    refine lv_lload_n hx hb dX3_isTableValue_8 rfl (lv_at hl 0 rfl) ?_
    refine lv_ldc2 hx hb hown (hts (.constantLong RX3 248 1000000000) (by decide +kernel)) dX3_isTableValue_9 ?_
    refine W.lcmp hx hb dX3_isTableValue_12 ?_
    refine lv_if_gt (tgt := 20) hx hb dX3_isTableValue_13 (by decide) (fun c_13 => ?_) (fun c_13 => ?_)
    · have c_13 := (lg_cmp_gt _ _).mp c_13
      refine lv_iconst (v := 0) hx hb dX3_isTableValue_20 (by decide) ?_
      exact ml_rz () hx hb hr hlocks hP hK hD hS rfl rfl (b2i_f' (okV_b c_13)) dX3_isTableValue_21
    · have c_13 := fun h => c_13 ((lg_cmp_gt _ _).mpr h)
      refine lv_iconst (v := 1) hx hb dX3_isTableValue_16 (by decide) ?_
      refine lv_goto (tgt := 21) hx hb dX3_isTableValue_17 (by decide) ?_
      exact ml_rz () hx hb hr hlocks hP hK hD hS rfl rfl (b2i_t' (okV_t c_5 c_13)) dX3_isTableValue_21
set_option maxHeartbeats 4000000 in
set_option maxRecDepth 100000 in
theorem c_X0_putResult (l : Launch) (G : va_G) (cy : Nat → ClassId) (a : Nat → Nat) (sz : Nat) (T : TS) (tr : Nat → Int32) (k : Nat) (hk : k < 3) (v : Int64) : Met l yX0_putResult wsX0_putResult ({ frames := 1, cells := 0, slots := 0, locals := 21 } : Room) (ml_P G cy [.ref (a 4), .int (nI k), .long v] (wC a cy T tr) sz) (va_Qi (fun (r : Int32) (u : Nat → Int32) => r = b2i (okV v) ∧ u = cif (okV v) (upd tr k v.toInt32) tr) (ml_B G cy (va_A (wC a cy T tr) sz) (fun (u : Nat → Int32) => (wC a cy T u))) (va_A (wC a cy T tr) sz)) 0 0 (va_A (wC a cy T tr) sz) := by
  refine Met.ofW (cc := cX0_putResult) (maxL := 4) (ret := (some .boolean)) (by decide) rfl ?_
  intro p e s m args below meth c s₁ B hml hv
  obtain ⟨rfl, hsz, hP, hK, hD0, hN⟩ := hv
  have hx := B.exec
  have hb := B.bytes
  have hr := B.returns
  have hts := atoms_spec (ws := wsX0_putResult) B.pre
  have hown : s.vm.findClass RX0 = some m.cls := findClass_of_methodNamed B.named
  have hlocks := B.notSynchronized
  subst hsz
  have hD := hD0.self (sz := s.heap.size)
  generalize hAe : va_A (wC a cy T tr) s.heap.size = A at hD ⊢
  have hA : ∀ q : Nat, s.heap.size ≤ q → A q := fun q h => by rw [← hAe]; exact Or.inr h
  have hS : va_S A s.heap s.heap [] := va_S.rf
  have hP : va_P G vwCl (wC a cy T tr) s.heap := hP
  have hl := lv_entry ([.ref (a 4), .int (nI k), .long v]) (n := 4) (Nat.le_of_ble_eq_true rfl)
  rw [lg_entry_eq]
  generalize (lg_sl ([.ref (a 4), .int (nI k), .long v]) ++ List.replicate (4 - (lg_sl ([.ref (a 4), .int (nI k), .long v])).length) Slot.unset).toArray = ls at hl ⊢
  have hl : lv_has ls 4 [(0, .ref (a 4)), (1, .int (nI k)), (2, .long v)] := hl
  refine lv_lload_n hx hb dX0_putResult_0 rfl (lv_at hl 2 rfl) ?_
  refine ml_SNi (G := G) (As := [.long v]) (rest := []) ⟨hx, hb, hml, hown, hts⟩ (c_X3_isTableValue l G cy a s.heap.size T tr v) ⟨va_cnB 1 hts gX0_putResult_X3_isTableValue_n49 rfl rfl rfl hN.1 (hts (.initialized RX3) (by decide +kernel)) (by decide +kernel) ⟨Nat.le_of_ble_eq_true rfl, Nat.le_of_ble_eq_true rfl⟩, hts (.static yX3_isTableValue) (by decide +kernel), trivial⟩ hP hK hD hS hN hA rfl hl.1 (Nat.le_of_ble_eq_true rfl) dX0_putResult_1 ⟨Nat.le_of_ble_eq_true rfl, Nat.le_of_ble_eq_true rfl⟩ (fun r_1 u_1 H locs hw hP hD hS => ?_)
  obtain rfl : r_1 = b2i (okV v) := hw
  have hP : va_P G vwCl (wC a cy T tr) H := hP
  have hD : va_D A (wC a cy T tr) := hD
  refine ml_ifneb (tgt := 9) hx hb dX0_putResult_4 (by decide) (fun c_4 => ?_) (fun c_4 => ?_)
  · refine lv_aload_n hx hb dX0_putResult_9 rfl (lv_at hl 0 rfl) ?_
    refine lv_iload_n hx hb dX0_putResult_10 rfl (lv_at hl 1 rfl) ?_
    refine lv_lload_n hx hb dX0_putResult_11 rfl (lv_at hl 2 rfl) ?_
    refine lv_l2i (v := v.toInt32) hx hb dX0_putResult_12 rfl ?_
    refine ml_iast hx hb hK hP hD hS 4 0 rfl rfl (k) rfl (by omega) (Nat.le_of_ble_eq_true rfl) dX0_putResult_13 (fun H locs hP hD hS => ?_)
    have hP : va_P G vwCl (wC a cy T (upd tr k v.toInt32)) H := hP
    have hD : va_D A (wC a cy T (upd tr k v.toInt32)) := hD
    refine lv_iconst (v := 1) hx hb dX0_putResult_14 (by decide) ?_
    exact ml_rz (upd tr k v.toInt32) hx hb hr hlocks hP hK hD hS rfl rfl ⟨b2i_t' c_4, (cif_t c_4).symm⟩ dX0_putResult_15
  · refine lv_iconst (v := 0) hx hb dX0_putResult_7 (by decide) ?_
    exact ml_rz tr hx hb hr hlocks hP hK hD hS rfl rfl ⟨b2i_f' c_4, (cif_f c_4).symm⟩ dX0_putResult_8
set_option maxHeartbeats 4000000 in
set_option maxRecDepth 100000 in
theorem c_X0_exchange (l : Launch) (G : va_G) (cy : Nat → ClassId) (a : Nat → Nat) (sz : Nat) (T : TS) (tr : Nat → Int32) (k : Nat) (hk : k < 3) (q : Nat) (hq : q < 3) : Met l yX0_exchange wsX0_exchange ({ frames := 0, cells := 0, slots := 0, locals := 0 } : Room) (ml_P G cy [.ref (a 4), .int (nI k), .int (nI q)] (wC a cy T tr) sz) (va_Qi (fun (r : Int32) (_ : Unit) => r = 1) (ml_B G cy (va_A (wC a cy T tr) sz) (fun (_ : Unit) => (wC a cy T (swp tr k q)))) (va_A (wC a cy T tr) sz)) 0 0 (va_A (wC a cy T tr) sz) := by
  refine Met.ofW (cc := cX0_exchange) (maxL := 4) (ret := (some .boolean)) (by decide) rfl ?_
  intro p e s m args below meth c s₁ B hml hv
  obtain ⟨rfl, hsz, hP, hK, hD0, hN⟩ := hv
  have hx := B.exec
  have hb := B.bytes
  have hr := B.returns
  have hts := atoms_spec (ws := wsX0_exchange) B.pre
  have hown : s.vm.findClass RX0 = some m.cls := findClass_of_methodNamed B.named
  have hlocks := B.notSynchronized
  subst hsz
  have hD := hD0.self (sz := s.heap.size)
  generalize hAe : va_A (wC a cy T tr) s.heap.size = A at hD ⊢
  have hA : ∀ q : Nat, s.heap.size ≤ q → A q := fun q h => by rw [← hAe]; exact Or.inr h
  have hS : va_S A s.heap s.heap [] := va_S.rf
  have hP : va_P G vwCl (wC a cy T tr) s.heap := hP
  have hl := lv_entry ([.ref (a 4), .int (nI k), .int (nI q)]) (n := 4) (Nat.le_of_ble_eq_true rfl)
  rw [lg_entry_eq]
  generalize (lg_sl ([.ref (a 4), .int (nI k), .int (nI q)]) ++ List.replicate (4 - (lg_sl ([.ref (a 4), .int (nI k), .int (nI q)])).length) Slot.unset).toArray = ls at hl ⊢
  have hl : lv_has ls 4 [(0, .ref (a 4)), (1, .int (nI k)), (2, .int (nI q))] := hl
  refine lv_aload_n hx hb dX0_exchange_0 rfl (lv_at hl 0 rfl) ?_
  refine lv_iload_n hx hb dX0_exchange_1 rfl (lv_at hl 1 rfl) ?_
  refine ml_iald hx hb hK hP 4 0 rfl rfl (k) rfl (by omega) (Nat.le_of_ble_eq_true rfl) (tr k) rfl dX0_exchange_2 ?_
  refine lv_istore_n (lv' := [(3, .int (tr k)), (0, .ref (a 4)), (1, .int (nI k)), (2, .int (nI q))]) hx hb dX0_exchange_3 rfl hl (by decide) rfl (fun ls hl => ?_)
  refine lv_aload_n hx hb dX0_exchange_4 rfl (lv_at hl 1 rfl) ?_
  refine lv_iload_n hx hb dX0_exchange_5 rfl (lv_at hl 2 rfl) ?_
  refine lv_aload_n hx hb dX0_exchange_6 rfl (lv_at hl 1 rfl) ?_
  refine lv_iload_n hx hb dX0_exchange_7 rfl (lv_at hl 3 rfl) ?_
  refine ml_iald hx hb hK hP 4 0 rfl rfl (q) rfl (by omega) (Nat.le_of_ble_eq_true rfl) (tr q) rfl dX0_exchange_8 ?_
  refine ml_iast hx hb hK hP hD hS 4 0 rfl rfl (k) rfl (by omega) (Nat.le_of_ble_eq_true rfl) dX0_exchange_9 (fun H locs hP hD hS => ?_)
  have hP : va_P G vwCl (wC a cy T (upd tr k (tr q))) H := hP
  have hD : va_D A (wC a cy T (upd tr k (tr q))) := hD
  refine lv_aload_n hx hb dX0_exchange_10 rfl (lv_at hl 1 rfl) ?_
  refine lv_iload_n hx hb dX0_exchange_11 rfl (lv_at hl 3 rfl) ?_
  refine lv_iload_n hx hb dX0_exchange_12 rfl (lv_at hl 0 rfl) ?_
  refine ml_iast hx hb hK hP hD hS 4 0 rfl rfl (q) rfl (by omega) (Nat.le_of_ble_eq_true rfl) dX0_exchange_13 (fun H locs hP hD hS => ?_)
  have hP : va_P G vwCl (wC a cy T (upd (upd tr k (tr q)) q (tr k))) H := hP
  have hD : va_D A (wC a cy T (upd (upd tr k (tr q)) q (tr k))) := hD
  refine lv_iconst (v := 1) hx hb dX0_exchange_14 (by decide) ?_
  exact ml_rz () hx hb hr hlocks hP hK hD hS rfl rfl rfl dX0_exchange_15
set_option maxHeartbeats 4000000 in
set_option maxRecDepth 100000 in
theorem c_X0_applyTo (l : Launch) (G : va_G) (cy : Nat → ClassId) (a : Nat → Nat) (sz : Nat) (T : TS) (tr : Nat → Int32) (j : Nat) (hj : j < 12) (hok : okAt T (j + 1)) (row : Nat → Int32) (hrow : ∀ q, q < 3 → tr q = row q) : Met l yX0_applyTo wsX0_applyTo ({ frames := 2, cells := 0, slots := 0, locals := 44 } : Room) (ml_P G cy [.ref (a 1), .ref (a 4), .int (nI (j + 1))] (wC a cy T tr) sz) (va_Qi (fun (r : Int32) (u : Nat → Int32) => r = b2i ((ap T False (j + 1) row).isSome = true) ∧ ∀ row2, ap T False (j + 1) row = some row2 → ∀ q, q < 3 → u q = row2 q) (ml_B G cy (va_A (wC a cy T tr) sz) (fun (u : Nat → Int32) => (wC a cy T u))) (va_A (wC a cy T tr) sz)) 0 0 (va_A (wC a cy T tr) sz) := by
  refine Met.ofW (cc := cX0_applyTo) (maxL := 7) (ret := (some .boolean)) (by decide) rfl ?_
  intro p e s m args below meth c s₁ B hml hv
  obtain ⟨rfl, hsz, hP, hK, hD0, hN⟩ := hv
  have hx := B.exec
  have hb := B.bytes
  have hr := B.returns
  have hts := atoms_spec (ws := wsX0_applyTo) B.pre
  have hown : s.vm.findClass RX0 = some m.cls := findClass_of_methodNamed B.named
  have hlocks := B.notSynchronized
  subst hsz
  have hD := hD0.self (sz := s.heap.size)
  generalize hAe : va_A (wC a cy T tr) s.heap.size = A at hD ⊢
  have hA : ∀ q : Nat, s.heap.size ≤ q → A q := fun q h => by rw [← hAe]; exact Or.inr h
  have hS : va_S A s.heap s.heap [] := va_S.rf
  have hP : va_P G vwCl (wC a cy T tr) s.heap := hP
  have hin_X0 : ∀ w ∈ wsX00, w ∈ wsX0_applyTo := by decide +kernel
  have hl := lv_entry ([.ref (a 1), .ref (a 4), .int (nI (j + 1))]) (n := 7) (Nat.le_of_ble_eq_true rfl)
  rw [lg_entry_eq]
  generalize (lg_sl ([.ref (a 1), .ref (a 4), .int (nI (j + 1))]) ++ List.replicate (7 - (lg_sl ([.ref (a 1), .ref (a 4), .int (nI (j + 1))])).length) Slot.unset).toArray = ls at hl ⊢
  have hl : lv_has ls 7 [(0, .ref (a 1)), (1, .ref (a 4)), (2, .int (nI (j + 1)))] := hl
  obtain ⟨c0, hc, ec⟩ := okC_n hok.2.1
  refine lv_aload_n hx hb dX0_applyTo_0 rfl (lv_at hl 0 rfl) ?_
  refine va_get (D := G) (ci := 0) (v := .ref (a 6)) (C := RX0) (T := TX0) (N := 5) hx hb hts hin_X0 hown hK hP 1 rfl rfl 1 (by decide) (hts (.fieldLink RX0 15 "Migrationledger$ChangeList" "columns" "[I") (by decide +kernel)) (fun _ h9 => h9) rfl dX0_applyTo_1 ?_
  refine lv_iload_n hx hb dX0_applyTo_4 rfl (lv_at hl 2 rfl) ?_
  refine lv_iconst (v := 1) hx hb dX0_applyTo_5 (by decide) ?_
  refine lv_isub hx hb dX0_applyTo_6 ?_
  refine ml_eqi (nI j) (nI_pred j) ?_
  refine ml_iald hx hb hK hP 6 0 rfl rfl (j) rfl (by omega) (Nat.le_of_ble_eq_true rfl) (nI c0) ec dX0_applyTo_7 ?_
  refine lv_istore_n (lv' := [(3, .int (nI c0)), (0, .ref (a 1)), (1, .ref (a 4)), (2, .int (nI (j + 1)))]) hx hb dX0_applyTo_8 rfl hl (by decide) rfl (fun ls hl => ?_)
  refine lv_aload_n hx hb dX0_applyTo_9 rfl (lv_at hl 1 rfl) ?_
  refine va_get (D := G) (ci := 0) (v := .ref (a 7)) (C := RX0) (T := TX0) (N := 5) hx hb hts hin_X0 hown hK hP 1 rfl rfl 2 (by decide) (hts (.fieldLink RX0 18 "Migrationledger$ChangeList" "operands" "[I") (by decide +kernel)) (fun _ h9 => h9) rfl dX0_applyTo_10 ?_
  refine lv_iload_n hx hb dX0_applyTo_13 rfl (lv_at hl 3 rfl) ?_
  refine lv_iconst (v := 1) hx hb dX0_applyTo_14 (by decide) ?_
  refine lv_isub hx hb dX0_applyTo_15 ?_
  refine ml_eqi (nI j) (nI_pred j) ?_
  refine ml_iald hx hb hK hP 7 0 rfl rfl (j) rfl (by omega) (Nat.le_of_ble_eq_true rfl) ((tO T) (j + 1)) rfl dX0_applyTo_16 ?_
  refine lv_istore (lv' := [(4, .int ((tO T) (j + 1))), (3, .int (nI c0)), (0, .ref (a 1)), (1, .ref (a 4)), (2, .int (nI (j + 1)))]) hx hb dX0_applyTo_17 hl (by decide) rfl (fun ls hl => ?_)
  refine lv_aload_n hx hb dX0_applyTo_19 rfl (lv_at hl 3 rfl) ?_
  refine lv_iload_n hx hb dX0_applyTo_20 rfl (lv_at hl 1 rfl) ?_
  refine ml_iald hx hb hK hP 4 0 rfl rfl (c0) rfl (by omega) (Nat.le_of_ble_eq_true rfl) (row c0) (hrow c0 hc) dX0_applyTo_21 ?_
  refine lv_i2l (v := (row c0).toInt64) hx hb dX0_applyTo_22 rfl ?_
  refine lv_lstore (lv' := [(5, .long ((row c0).toInt64)), (4, .int ((tO T) (j + 1))), (3, .int (nI c0)), (0, .ref (a 1)), (1, .ref (a 4)), (2, .int (nI (j + 1)))]) hx hb dX0_applyTo_23 hl (by decide) rfl (fun ls hl => ?_)
  refine lv_aload_n hx hb dX0_applyTo_25 rfl (lv_at hl 3 rfl) ?_
  refine va_get (D := G) (ci := 0) (v := .ref (a 5)) (C := RX0) (T := TX0) (N := 5) hx hb hts hin_X0 hown hK hP 1 rfl rfl 0 (by decide) (hts (.fieldLink RX0 9 "Migrationledger$ChangeList" "kinds" "[I") (by decide +kernel)) (fun _ h9 => h9) rfl dX0_applyTo_26 ?_
  refine lv_iload_n hx hb dX0_applyTo_29 rfl (lv_at hl 5 rfl) ?_
  refine lv_iconst (v := 1) hx hb dX0_applyTo_30 (by decide) ?_
  refine lv_isub hx hb dX0_applyTo_31 ?_
  refine ml_eqi (nI j) (nI_pred j) ?_
  refine ml_iald hx hb hK hP 5 0 rfl rfl (j) rfl (by omega) (Nat.le_of_ble_eq_true rfl) ((tK T) (j + 1)) rfl dX0_applyTo_32 ?_
  refine ml_lk2 (t0 := 60) (t1 := 72) (td := 84) hx hb dX0_applyTo_33 (by decide) (by decide) (by decide) (fun c_33 => ?_) (fun c_33 => ?_) (fun c_33 d_33 => ?_)
  · refine lv_aload_n hx hb dX0_applyTo_60 rfl (lv_at hl 4 rfl) ?_
    refine lv_iload_n hx hb dX0_applyTo_61 rfl (lv_at hl 2 rfl) ?_
    refine lv_lload hx hb dX0_applyTo_62 (lv_at hl 0 rfl) ?_
    refine lv_iload hx hb dX0_applyTo_64 (lv_at hl 1 rfl) ?_
    refine lv_i2l (v := ((tO T) (j + 1)).toInt64) hx hb dX0_applyTo_66 rfl ?_
    refine lv_ladd hx hb dX0_applyTo_67 ?_
    refine ml_Si (G := G) (As := [.ref (a 4), .int (nI c0), .long (((row c0).toInt64) + (((tO T) (j + 1)).toInt64))]) (rest := []) ⟨hx, hb, hml, hown, hts⟩ (c_X0_putResult l G cy a s.heap.size T tr c0 (by omega) (((row c0).toInt64) + (((tO T) (j + 1)).toInt64))) (va_cwS 3 hts gX0_applyTo_X0_putResult rfl rfl rfl (by decide +kernel) ⟨Nat.le_of_ble_eq_true rfl, Nat.le_of_ble_eq_true rfl⟩) hP hK hD hS hN hA rfl hl.1 (Nat.le_of_ble_eq_true rfl) dX0_applyTo_68 ⟨Nat.le_of_ble_eq_true rfl, Nat.le_of_ble_eq_true rfl⟩ (fun r_68 u_68 H locs hw hP hD hS => ?_)
    obtain ⟨hw1, hw2_68⟩ := hw
    obtain rfl : r_68 = b2i (okV (((row c0).toInt64) + (((tO T) (j + 1)).toInt64))) := hw1
    have hP : va_P G vwCl (wC a cy T u_68) H := hP
    have hD : va_D A (wC a cy T u_68) := hD
    exact ml_rz u_68 hx hb hr hlocks hP hK hD hS (b2i_nar _) rfl (ap_put hrow hc ((ap_0 (row := row) c_33 ec hc).trans (by rw [cif_f id])) rfl hw2_68) dX0_applyTo_71
  · refine lv_aload_n hx hb dX0_applyTo_72 rfl (lv_at hl 4 rfl) ?_
    refine lv_iload_n hx hb dX0_applyTo_73 rfl (lv_at hl 2 rfl) ?_
    refine lv_lload hx hb dX0_applyTo_74 (lv_at hl 0 rfl) ?_
    refine lv_iload hx hb dX0_applyTo_76 (lv_at hl 1 rfl) ?_
    refine lv_i2l (v := ((tO T) (j + 1)).toInt64) hx hb dX0_applyTo_78 rfl ?_
    refine lv_lmul hx hb dX0_applyTo_79 ?_
    refine ml_Si (G := G) (As := [.ref (a 4), .int (nI c0), .long (((row c0).toInt64) * (((tO T) (j + 1)).toInt64))]) (rest := []) ⟨hx, hb, hml, hown, hts⟩ (c_X0_putResult l G cy a s.heap.size T tr c0 (by omega) (((row c0).toInt64) * (((tO T) (j + 1)).toInt64))) (va_cwS 3 hts gX0_applyTo_X0_putResult rfl rfl rfl (by decide +kernel) ⟨Nat.le_of_ble_eq_true rfl, Nat.le_of_ble_eq_true rfl⟩) hP hK hD hS hN hA rfl hl.1 (Nat.le_of_ble_eq_true rfl) dX0_applyTo_80 ⟨Nat.le_of_ble_eq_true rfl, Nat.le_of_ble_eq_true rfl⟩ (fun r_80 u_80 H locs hw hP hD hS => ?_)
    obtain ⟨hw1, hw2_80⟩ := hw
    obtain rfl : r_80 = b2i (okV (((row c0).toInt64) * (((tO T) (j + 1)).toInt64))) := hw1
    have hP : va_P G vwCl (wC a cy T u_80) H := hP
    have hD : va_D A (wC a cy T u_80) := hD
    exact ml_rz u_80 hx hb hr hlocks hP hK hD hS (b2i_nar _) rfl (ap_put hrow hc ((ap_1 (row := row) c_33 ec hc).trans (cif_f id)) rfl hw2_80) dX0_applyTo_83
  · obtain ⟨ho9, -⟩ := (okO_2 c_33 d_33).mp hok.2.2
    obtain ⟨o0, ho, eo⟩ := okC_n ho9
    rw [eo] at hl
    refine lv_aload_n hx hb dX0_applyTo_84 rfl (lv_at hl 4 rfl) ?_
    refine lv_iload_n hx hb dX0_applyTo_85 rfl (lv_at hl 2 rfl) ?_
    refine lv_iload hx hb dX0_applyTo_86 (lv_at hl 1 rfl) ?_
    refine ml_Si (G := G) (As := [.ref (a 4), .int (nI c0), .int (nI o0)]) (rest := []) ⟨hx, hb, hml, hown, hts⟩ (c_X0_exchange l G cy a s.heap.size T tr c0 (by omega) o0 (by omega)) (va_cwS 3 hts gX0_applyTo_X0_exchange rfl rfl rfl (by decide +kernel) ⟨Nat.le_of_ble_eq_true rfl, Nat.le_of_ble_eq_true rfl⟩) hP hK hD hS hN hA rfl hl.1 (Nat.le_of_ble_eq_true rfl) dX0_applyTo_88 ⟨Nat.le_of_ble_eq_true rfl, Nat.le_of_ble_eq_true rfl⟩ (fun r_88 u_88 H locs hw hP hD hS => ?_)
    obtain rfl : r_88 = 1 := hw
    have hP : va_P G vwCl (wC a cy T (swp tr c0 o0)) H := hP
    have hD : va_D A (wC a cy T (swp tr c0 o0)) := hD
    exact ml_rz (swp tr c0 o0) hx hb hr hlocks hP hK hD hS rfl rfl ⟨b2i_t' (by rw [(ap_2 c_33 d_33 ec hc eo ho)]; rfl), fun row2 h2 => by rw [(ap_2 c_33 d_33 ec hc eo ho)] at h2; cases h2; exact swp_eq hrow hc ho⟩ dX0_applyTo_91
set_option maxHeartbeats 4000000 in
set_option maxRecDepth 100000 in
theorem c_X0_undoOn (l : Launch) (G : va_G) (cy : Nat → ClassId) (a : Nat → Nat) (sz : Nat) (T : TS) (tr : Nat → Int32) (j : Nat) (hj : j < 12) (hok : okAt T (j + 1)) (row : Nat → Int32) (hrow : ∀ q, q < 3 → tr q = row q) : Met l yX0_undoOn wsX0_undoOn ({ frames := 2, cells := 0, slots := 0, locals := 44 } : Room) (ml_P G cy [.ref (a 1), .ref (a 4), .int (nI (j + 1))] (wC a cy T tr) sz) (va_Qi (fun (r : Int32) (u : Nat → Int32) => r = b2i ((ap T True (j + 1) row).isSome = true) ∧ ∀ row2, ap T True (j + 1) row = some row2 → ∀ q, q < 3 → u q = row2 q) (ml_B G cy (va_A (wC a cy T tr) sz) (fun (u : Nat → Int32) => (wC a cy T u))) (va_A (wC a cy T tr) sz)) 0 0 (va_A (wC a cy T tr) sz) := by
  refine Met.ofW (cc := cX0_undoOn) (maxL := 7) (ret := (some .boolean)) (by decide) rfl ?_
  intro p e s m args below meth c s₁ B hml hv
  obtain ⟨rfl, hsz, hP, hK, hD0, hN⟩ := hv
  have hx := B.exec
  have hb := B.bytes
  have hr := B.returns
  have hts := atoms_spec (ws := wsX0_undoOn) B.pre
  have hown : s.vm.findClass RX0 = some m.cls := findClass_of_methodNamed B.named
  have hlocks := B.notSynchronized
  subst hsz
  have hD := hD0.self (sz := s.heap.size)
  generalize hAe : va_A (wC a cy T tr) s.heap.size = A at hD ⊢
  have hA : ∀ q : Nat, s.heap.size ≤ q → A q := fun q h => by rw [← hAe]; exact Or.inr h
  have hS : va_S A s.heap s.heap [] := va_S.rf
  have hP : va_P G vwCl (wC a cy T tr) s.heap := hP
  have hin_X0 : ∀ w ∈ wsX00, w ∈ wsX0_undoOn := by decide +kernel
  have hl := lv_entry ([.ref (a 1), .ref (a 4), .int (nI (j + 1))]) (n := 7) (Nat.le_of_ble_eq_true rfl)
  rw [lg_entry_eq]
  generalize (lg_sl ([.ref (a 1), .ref (a 4), .int (nI (j + 1))]) ++ List.replicate (7 - (lg_sl ([.ref (a 1), .ref (a 4), .int (nI (j + 1))])).length) Slot.unset).toArray = ls at hl ⊢
  have hl : lv_has ls 7 [(0, .ref (a 1)), (1, .ref (a 4)), (2, .int (nI (j + 1)))] := hl
  obtain ⟨c0, hc, ec⟩ := okC_n hok.2.1
  refine lv_aload_n hx hb dX0_undoOn_0 rfl (lv_at hl 0 rfl) ?_
  refine va_get (D := G) (ci := 0) (v := .ref (a 6)) (C := RX0) (T := TX0) (N := 5) hx hb hts hin_X0 hown hK hP 1 rfl rfl 1 (by decide) (hts (.fieldLink RX0 15 "Migrationledger$ChangeList" "columns" "[I") (by decide +kernel)) (fun _ h9 => h9) rfl dX0_undoOn_1 ?_
  refine lv_iload_n hx hb dX0_undoOn_4 rfl (lv_at hl 2 rfl) ?_
  refine lv_iconst (v := 1) hx hb dX0_undoOn_5 (by decide) ?_
  refine lv_isub hx hb dX0_undoOn_6 ?_
  refine ml_eqi (nI j) (nI_pred j) ?_
  refine ml_iald hx hb hK hP 6 0 rfl rfl (j) rfl (by omega) (Nat.le_of_ble_eq_true rfl) (nI c0) ec dX0_undoOn_7 ?_
  refine lv_istore_n (lv' := [(3, .int (nI c0)), (0, .ref (a 1)), (1, .ref (a 4)), (2, .int (nI (j + 1)))]) hx hb dX0_undoOn_8 rfl hl (by decide) rfl (fun ls hl => ?_)
  refine lv_aload_n hx hb dX0_undoOn_9 rfl (lv_at hl 1 rfl) ?_
  refine va_get (D := G) (ci := 0) (v := .ref (a 7)) (C := RX0) (T := TX0) (N := 5) hx hb hts hin_X0 hown hK hP 1 rfl rfl 2 (by decide) (hts (.fieldLink RX0 18 "Migrationledger$ChangeList" "operands" "[I") (by decide +kernel)) (fun _ h9 => h9) rfl dX0_undoOn_10 ?_
  refine lv_iload_n hx hb dX0_undoOn_13 rfl (lv_at hl 3 rfl) ?_
  refine lv_iconst (v := 1) hx hb dX0_undoOn_14 (by decide) ?_
  refine lv_isub hx hb dX0_undoOn_15 ?_
  refine ml_eqi (nI j) (nI_pred j) ?_
  refine ml_iald hx hb hK hP 7 0 rfl rfl (j) rfl (by omega) (Nat.le_of_ble_eq_true rfl) ((tO T) (j + 1)) rfl dX0_undoOn_16 ?_
  refine lv_istore (lv' := [(4, .int ((tO T) (j + 1))), (3, .int (nI c0)), (0, .ref (a 1)), (1, .ref (a 4)), (2, .int (nI (j + 1)))]) hx hb dX0_undoOn_17 hl (by decide) rfl (fun ls hl => ?_)
  refine lv_aload_n hx hb dX0_undoOn_19 rfl (lv_at hl 3 rfl) ?_
  refine lv_iload_n hx hb dX0_undoOn_20 rfl (lv_at hl 1 rfl) ?_
  refine ml_iald hx hb hK hP 4 0 rfl rfl (c0) rfl (by omega) (Nat.le_of_ble_eq_true rfl) (row c0) (hrow c0 hc) dX0_undoOn_21 ?_
  refine lv_i2l (v := (row c0).toInt64) hx hb dX0_undoOn_22 rfl ?_
  refine lv_lstore (lv' := [(5, .long ((row c0).toInt64)), (4, .int ((tO T) (j + 1))), (3, .int (nI c0)), (0, .ref (a 1)), (1, .ref (a 4)), (2, .int (nI (j + 1)))]) hx hb dX0_undoOn_23 hl (by decide) rfl (fun ls hl => ?_)
  refine lv_aload_n hx hb dX0_undoOn_25 rfl (lv_at hl 3 rfl) ?_
  refine va_get (D := G) (ci := 0) (v := .ref (a 5)) (C := RX0) (T := TX0) (N := 5) hx hb hts hin_X0 hown hK hP 1 rfl rfl 0 (by decide) (hts (.fieldLink RX0 9 "Migrationledger$ChangeList" "kinds" "[I") (by decide +kernel)) (fun _ h9 => h9) rfl dX0_undoOn_26 ?_
  refine lv_iload_n hx hb dX0_undoOn_29 rfl (lv_at hl 5 rfl) ?_
  refine lv_iconst (v := 1) hx hb dX0_undoOn_30 (by decide) ?_
  refine lv_isub hx hb dX0_undoOn_31 ?_
  refine ml_eqi (nI j) (nI_pred j) ?_
  refine ml_iald hx hb hK hP 5 0 rfl rfl (j) rfl (by omega) (Nat.le_of_ble_eq_true rfl) ((tK T) (j + 1)) rfl dX0_undoOn_32 ?_
  refine ml_lk2 (t0 := 60) (t1 := 72) (td := 108) hx hb dX0_undoOn_33 (by decide) (by decide) (by decide) (fun c_33 => ?_) (fun c_33 => ?_) (fun c_33 d_33 => ?_)
  · refine lv_aload_n hx hb dX0_undoOn_60 rfl (lv_at hl 4 rfl) ?_
    refine lv_iload_n hx hb dX0_undoOn_61 rfl (lv_at hl 2 rfl) ?_
    refine lv_lload hx hb dX0_undoOn_62 (lv_at hl 0 rfl) ?_
    refine lv_iload hx hb dX0_undoOn_64 (lv_at hl 1 rfl) ?_
    refine lv_i2l (v := ((tO T) (j + 1)).toInt64) hx hb dX0_undoOn_66 rfl ?_
    refine lv_lsub hx hb dX0_undoOn_67 ?_
    refine ml_Si (G := G) (As := [.ref (a 4), .int (nI c0), .long (((row c0).toInt64) - (((tO T) (j + 1)).toInt64))]) (rest := []) ⟨hx, hb, hml, hown, hts⟩ (c_X0_putResult l G cy a s.heap.size T tr c0 (by omega) (((row c0).toInt64) - (((tO T) (j + 1)).toInt64))) (va_cwS 3 hts gX0_undoOn_X0_putResult rfl rfl rfl (by decide +kernel) ⟨Nat.le_of_ble_eq_true rfl, Nat.le_of_ble_eq_true rfl⟩) hP hK hD hS hN hA rfl hl.1 (Nat.le_of_ble_eq_true rfl) dX0_undoOn_68 ⟨Nat.le_of_ble_eq_true rfl, Nat.le_of_ble_eq_true rfl⟩ (fun r_68 u_68 H locs hw hP hD hS => ?_)
    obtain ⟨hw1, hw2_68⟩ := hw
    obtain rfl : r_68 = b2i (okV (((row c0).toInt64) - (((tO T) (j + 1)).toInt64))) := hw1
    have hP : va_P G vwCl (wC a cy T u_68) H := hP
    have hD : va_D A (wC a cy T u_68) := hD
    exact ml_rz u_68 hx hb hr hlocks hP hK hD hS (b2i_nar _) rfl (ap_put hrow hc ((ap_0 (row := row) c_33 ec hc).trans (by rw [cif_t trivial])) rfl hw2_68) dX0_undoOn_71
  · refine lv_iload hx hb dX0_undoOn_72 (lv_at hl 1 rfl) ?_
    refine lv_if_eq (tgt := 106) hx hb dX0_undoOn_74 (by decide) (fun c_74 => False.elim (((okO_1 c_33).mp hok.2.2).2 c_74)) (fun c_74 => ?_)
    refine lv_lload hx hb dX0_undoOn_77 (lv_at hl 0 rfl) ?_
    refine lv_iload hx hb dX0_undoOn_79 (lv_at hl 1 rfl) ?_
    refine lv_i2l (v := ((tO T) (j + 1)).toInt64) hx hb dX0_undoOn_81 rfl ?_
    refine lv_lrem hx hb dX0_undoOn_82 (tl_ne c_74) ?_
    refine lv_lconst (v := 0) hx hb dX0_undoOn_83 rfl ?_
    refine W.lcmp hx hb dX0_undoOn_84 ?_
    refine lv_if_ne (tgt := 106) hx hb dX0_undoOn_85 (by decide) (fun c_85 => ?_) (fun c_85 => ?_)
    · have c_85 := fun h => c_85 ((lg_cmp_eq _ _).mpr h)
      refine lv_iconst (v := 0) hx hb dX0_undoOn_106 (by decide) ?_
      exact ml_rz tr hx hb hr hlocks hP hK hD hS rfl rfl ⟨b2i_f' (by rw [((ap_1 (row := row) c_33 ec hc).trans ((cif_t trivial).trans (cif_f c_85)))]; exact fun q => by cases q), fun row2 h2 => by rw [((ap_1 (row := row) c_33 ec hc).trans ((cif_t trivial).trans (cif_f c_85)))] at h2; cases h2⟩ dX0_undoOn_107
    · have c_85 := (lg_cmp_eq _ _).mp c_85
      refine lv_aload_n hx hb dX0_undoOn_88 rfl (lv_at hl 4 rfl) ?_
      refine lv_iload_n hx hb dX0_undoOn_89 rfl (lv_at hl 2 rfl) ?_
      refine lv_lload hx hb dX0_undoOn_90 (lv_at hl 0 rfl) ?_
      refine lv_iload hx hb dX0_undoOn_92 (lv_at hl 1 rfl) ?_
      refine lv_i2l (v := ((tO T) (j + 1)).toInt64) hx hb dX0_undoOn_94 rfl ?_
      refine lv_ldiv hx hb dX0_undoOn_95 (tl_ne c_74) ?_
      refine ml_Si (G := G) (As := [.ref (a 4), .int (nI c0), .long (((row c0).toInt64) / (((tO T) (j + 1)).toInt64))]) (rest := []) ⟨hx, hb, hml, hown, hts⟩ (c_X0_putResult l G cy a s.heap.size T tr c0 (by omega) (((row c0).toInt64) / (((tO T) (j + 1)).toInt64))) (va_cwS 3 hts gX0_undoOn_X0_putResult rfl rfl rfl (by decide +kernel) ⟨Nat.le_of_ble_eq_true rfl, Nat.le_of_ble_eq_true rfl⟩) hP hK hD hS hN hA rfl hl.1 (Nat.le_of_ble_eq_true rfl) dX0_undoOn_96 ⟨Nat.le_of_ble_eq_true rfl, Nat.le_of_ble_eq_true rfl⟩ (fun r_96 u_96 H locs hw hP hD hS => ?_)
      obtain ⟨hw1, hw2_96⟩ := hw
      obtain rfl : r_96 = b2i (okV (((row c0).toInt64) / (((tO T) (j + 1)).toInt64))) := hw1
      have hP : va_P G vwCl (wC a cy T u_96) H := hP
      have hD : va_D A (wC a cy T u_96) := hD
      refine ml_ifeqb (tgt := 106) hx hb dX0_undoOn_99 (by decide) (fun c_99 => ?_) (fun c_99 => ?_)
      · refine lv_iconst (v := 0) hx hb dX0_undoOn_106 (by decide) ?_
        exact ml_rz u_96 hx hb hr hlocks hP hK hD hS rfl rfl (by have q := ap_put hrow hc ((ap_1 (row := row) c_33 ec hc).trans ((cif_t trivial).trans (cif_t c_85))) rfl hw2_96; rw [b2i_f c_99] at q; exact q) dX0_undoOn_107
      · refine lv_iconst (v := 1) hx hb dX0_undoOn_102 (by decide) ?_
        refine lv_goto (tgt := 107) hx hb dX0_undoOn_103 (by decide) ?_
        exact ml_rz u_96 hx hb hr hlocks hP hK hD hS rfl rfl (by have q := ap_put hrow hc ((ap_1 (row := row) c_33 ec hc).trans ((cif_t trivial).trans (cif_t c_85))) rfl hw2_96; rw [b2i_t c_99] at q; exact q) dX0_undoOn_107
  · obtain ⟨ho9, -⟩ := (okO_2 c_33 d_33).mp hok.2.2
    obtain ⟨o0, ho, eo⟩ := okC_n ho9
    rw [eo] at hl
    refine lv_aload_n hx hb dX0_undoOn_108 rfl (lv_at hl 4 rfl) ?_
    refine lv_iload_n hx hb dX0_undoOn_109 rfl (lv_at hl 2 rfl) ?_
    refine lv_iload hx hb dX0_undoOn_110 (lv_at hl 1 rfl) ?_
    refine ml_Si (G := G) (As := [.ref (a 4), .int (nI c0), .int (nI o0)]) (rest := []) ⟨hx, hb, hml, hown, hts⟩ (c_X0_exchange l G cy a s.heap.size T tr c0 (by omega) o0 (by omega)) (va_cwS 3 hts gX0_undoOn_X0_exchange rfl rfl rfl (by decide +kernel) ⟨Nat.le_of_ble_eq_true rfl, Nat.le_of_ble_eq_true rfl⟩) hP hK hD hS hN hA rfl hl.1 (Nat.le_of_ble_eq_true rfl) dX0_undoOn_112 ⟨Nat.le_of_ble_eq_true rfl, Nat.le_of_ble_eq_true rfl⟩ (fun r_112 u_112 H locs hw hP hD hS => ?_)
    obtain rfl : r_112 = 1 := hw
    have hP : va_P G vwCl (wC a cy T (swp tr c0 o0)) H := hP
    have hD : va_D A (wC a cy T (swp tr c0 o0)) := hD
    exact ml_rz (swp tr c0 o0) hx hb hr hlocks hP hK hD hS rfl rfl ⟨b2i_t' (by rw [(ap_2 c_33 d_33 ec hc eo ho)]; rfl), fun row2 h2 => by rw [(ap_2 c_33 d_33 ec hc eo ho)] at h2; cases h2; exact swp_eq hrow hc ho⟩ dX0_undoOn_115
set_option maxHeartbeats 4000000 in
set_option maxRecDepth 100000 in
theorem c_X1_owner (l : Launch) (G : va_G) (cy : Nat → ClassId) (a : Nat → Nat) (sz : Nat) (T : TS) (tr : Nat → Int32) : Met l yX1_owner wsX1_owner ({ frames := 0, cells := 0, slots := 0, locals := 0 } : Room) (ml_P G cy [.ref (a 3)] (wC a cy T tr) sz) (va_Qi (fun (r : Int32) (_ : Unit) => r = owner T) (ml_B G cy (va_A (wC a cy T tr) sz) (fun (_ : Unit) => (wC a cy T tr))) (va_A (wC a cy T tr) sz)) 0 0 (va_A (wC a cy T tr) sz) := by
  refine Met.ofW (cc := cX1_owner) (maxL := 1) (ret := (some .int)) (by decide) rfl ?_
  intro p e s m args below meth c s₁ B hml hv
  obtain ⟨rfl, hsz, hP, hK, hD0, hN⟩ := hv
  have hx := B.exec
  have hb := B.bytes
  have hr := B.returns
  have hts := atoms_spec (ws := wsX1_owner) B.pre
  have hown : s.vm.findClass RX1 = some m.cls := findClass_of_methodNamed B.named
  have hlocks := B.notSynchronized
  subst hsz
  have hD := hD0.self (sz := s.heap.size)
  generalize hAe : va_A (wC a cy T tr) s.heap.size = A at hD ⊢
  have hA : ∀ q : Nat, s.heap.size ≤ q → A q := fun q h => by rw [← hAe]; exact Or.inr h
  have hS : va_S A s.heap s.heap [] := va_S.rf
  have hP : va_P G vwCl (wC a cy T tr) s.heap := hP
  have hin_X1 : ∀ w ∈ wsX10, w ∈ wsX1_owner := by decide +kernel
  have hl := lv_entry ([.ref (a 3)]) (n := 1) (Nat.le_of_ble_eq_true rfl)
  rw [lg_entry_eq]
  generalize (lg_sl ([.ref (a 3)]) ++ List.replicate (1 - (lg_sl ([.ref (a 3)])).length) Slot.unset).toArray = ls at hl ⊢
  have hl : lv_has ls 1 [(0, .ref (a 3))] := hl
  refine lv_aload_n hx hb dX1_owner_0 rfl (lv_at hl 0 rfl) ?_
  refine va_get (D := G) (ci := 1) (v := .int (ttm T)) (C := RX1) (T := TX1) (N := 4) hx hb hts hin_X1 hown hK hP 3 rfl rfl 1 (by decide) (hts (.fieldLink RX1 19 "Migrationledger$Lock" "time" "I") (by decide +kernel)) (fun _ h9 => h9) rfl dX1_owner_1 ?_
  refine lv_aload_n hx hb dX1_owner_4 rfl (lv_at hl 0 rfl) ?_
  refine va_get (D := G) (ci := 1) (v := .int (tle T)) (C := RX1) (T := TX1) (N := 4) hx hb hts hin_X1 hown hK hP 3 rfl rfl 3 (by decide) (hts (.fieldLink RX1 22 "Migrationledger$Lock" "leaseEnd" "I") (by decide +kernel)) (fun _ h9 => h9) rfl dX1_owner_5 ?_
  refine lv_icmp_ge (tgt := 18) hx hb dX1_owner_8 (by decide) (fun c_8 => ?_) (fun c_8 => ?_)
  · refine lv_iconst (v := (-1)) hx hb dX1_owner_18 (by decide) ?_
    exact ml_ri () hx hb hr hlocks hP hK hD hS rfl ((cif_f (Int32.not_lt.mpr c_8)).symm) dX1_owner_19
  · refine lv_aload_n hx hb dX1_owner_11 rfl (lv_at hl 0 rfl) ?_
    refine va_get (D := G) (ci := 1) (v := .int (tho T)) (C := RX1) (T := TX1) (N := 4) hx hb hts hin_X1 hown hK hP 3 rfl rfl 2 (by decide) (hts (.fieldLink RX1 15 "Migrationledger$Lock" "taker" "I") (by decide +kernel)) (fun _ h9 => h9) rfl dX1_owner_12 ?_
    refine lv_goto (tgt := 19) hx hb dX1_owner_15 (by decide) ?_
    exact ml_ri () hx hb hr hlocks hP hK hD hS rfl ((cif_t (Int32.not_le.mp c_8)).symm) dX1_owner_19
set_option maxHeartbeats 4000000 in
set_option maxRecDepth 100000 in
theorem c_X1_grant (l : Launch) (G : va_G) (cy : Nat → ClassId) (a : Nat → Nat) (sz : Nat) (T : TS) (tr : Nat → Int32) (x : Int32) (y : Int32) : Met l yX1_grant wsX1_grant ({ frames := 0, cells := 0, slots := 0, locals := 0 } : Room) (ml_P G cy [.ref (a 3), .int x, .int y] (wC a cy T tr) sz) (va_Qi (fun (r : Int32) (_ : Unit) => r = ttm T + y) (ml_B G cy (va_A (wC a cy T tr) sz) (fun (_ : Unit) => (wC a cy (ule (uho T x) (ttm T + y)) tr))) (va_A (wC a cy T tr) sz)) 0 0 (va_A (wC a cy T tr) sz) := by
  refine Met.ofW (cc := cX1_grant) (maxL := 3) (ret := (some .int)) (by decide) rfl ?_
  intro p e s m args below meth c s₁ B hml hv
  obtain ⟨rfl, hsz, hP, hK, hD0, hN⟩ := hv
  have hx := B.exec
  have hb := B.bytes
  have hr := B.returns
  have hts := atoms_spec (ws := wsX1_grant) B.pre
  have hown : s.vm.findClass RX1 = some m.cls := findClass_of_methodNamed B.named
  have hlocks := B.notSynchronized
  subst hsz
  have hD := hD0.self (sz := s.heap.size)
  generalize hAe : va_A (wC a cy T tr) s.heap.size = A at hD ⊢
  have hA : ∀ q : Nat, s.heap.size ≤ q → A q := fun q h => by rw [← hAe]; exact Or.inr h
  have hS : va_S A s.heap s.heap [] := va_S.rf
  have hP : va_P G vwCl (wC a cy T tr) s.heap := hP
  have hin_X1 : ∀ w ∈ wsX10, w ∈ wsX1_grant := by decide +kernel
  have hl := lv_entry ([.ref (a 3), .int x, .int y]) (n := 3) (Nat.le_of_ble_eq_true rfl)
  rw [lg_entry_eq]
  generalize (lg_sl ([.ref (a 3), .int x, .int y]) ++ List.replicate (3 - (lg_sl ([.ref (a 3), .int x, .int y])).length) Slot.unset).toArray = ls at hl ⊢
  have hl : lv_has ls 3 [(0, .ref (a 3)), (1, .int x), (2, .int y)] := hl
  refine lv_aload_n hx hb dX1_grant_0 rfl (lv_at hl 0 rfl) ?_
  refine lv_iload_n hx hb dX1_grant_1 rfl (lv_at hl 1 rfl) ?_
  refine va_put (D := G) (ci := 1) (v := .int x) (ty := .int) (C := RX1) (T := TX1) (N := 4) hx hb hts hin_X1 tyX1 tyX1_ok nmX1 hown hK hP hD hS 3 rfl rfl 2 (by decide) (hts (.fieldLink RX1 15 "Migrationledger$Lock" "taker" "I") (by decide +kernel)) (fun _ h9 => h9) rfl (by decide +kernel) rfl rfl (Nat.le_of_ble_eq_true rfl) dX1_grant_2 (fun H locs hP hD hS => ?_)
  have hP : va_P G vwCl (wC a cy (uho T x) tr) H := hP
  have hD : va_D A (wC a cy (uho T x) tr) := hD
  refine lv_aload_n hx hb dX1_grant_5 rfl (lv_at hl 0 rfl) ?_
  refine lv_aload_n hx hb dX1_grant_6 rfl (lv_at hl 0 rfl) ?_
  refine va_get (D := G) (ci := 1) (v := .int (ttm T)) (C := RX1) (T := TX1) (N := 4) hx hb hts hin_X1 hown hK hP 3 rfl rfl 1 (by decide) (hts (.fieldLink RX1 19 "Migrationledger$Lock" "time" "I") (by decide +kernel)) (fun _ h9 => h9) rfl dX1_grant_7 ?_
  refine lv_iload_n hx hb dX1_grant_10 rfl (lv_at hl 2 rfl) ?_
  refine lv_iadd hx hb dX1_grant_11 ?_
  refine va_put (D := G) (ci := 1) (v := .int ((ttm T) + y)) (ty := .int) (C := RX1) (T := TX1) (N := 4) hx hb hts hin_X1 tyX1 tyX1_ok nmX1 hown hK hP hD hS 3 rfl rfl 3 (by decide) (hts (.fieldLink RX1 22 "Migrationledger$Lock" "leaseEnd" "I") (by decide +kernel)) (fun _ h9 => h9) rfl (by decide +kernel) rfl rfl (Nat.le_of_ble_eq_true rfl) dX1_grant_12 (fun H locs hP hD hS => ?_)
  have hP : va_P G vwCl (wC a cy (ule (uho T x) ((ttm T) + y)) tr) H := hP
  have hD : va_D A (wC a cy (ule (uho T x) ((ttm T) + y)) tr) := hD
  refine lv_aload_n hx hb dX1_grant_15 rfl (lv_at hl 0 rfl) ?_
  refine va_get (D := G) (ci := 1) (v := .int ((ttm T) + y)) (C := RX1) (T := TX1) (N := 4) hx hb hts hin_X1 hown hK hP 3 rfl rfl 3 (by decide) (hts (.fieldLink RX1 22 "Migrationledger$Lock" "leaseEnd" "I") (by decide +kernel)) (fun _ h9 => h9) rfl dX1_grant_16 ?_
  exact ml_ri () hx hb hr hlocks hP hK hD hS rfl rfl dX1_grant_19
set_option maxHeartbeats 4000000 in
set_option maxRecDepth 100000 in
theorem c_X1_release (l : Launch) (G : va_G) (cy : Nat → ClassId) (a : Nat → Nat) (sz : Nat) (T : TS) (tr : Nat → Int32) : Met l yX1_release wsX1_release ({ frames := 0, cells := 0, slots := 0, locals := 0 } : Room) (ml_P G cy [.ref (a 3)] (wC a cy T tr) sz) (va_Qv (fun (_ : Unit) => True) (ml_B G cy (va_A (wC a cy T tr) sz) (fun (_ : Unit) => (wC a cy (uho T (-1)) tr))) (va_A (wC a cy T tr) sz)) 0 0 (va_A (wC a cy T tr) sz) := by
  refine Met.ofW (cc := cX1_release) (maxL := 1) (ret := none) (by decide) rfl ?_
  intro p e s m args below meth c s₁ B hml hv
  obtain ⟨rfl, hsz, hP, hK, hD0, hN⟩ := hv
  have hx := B.exec
  have hb := B.bytes
  have hr := B.returns
  have hts := atoms_spec (ws := wsX1_release) B.pre
  have hown : s.vm.findClass RX1 = some m.cls := findClass_of_methodNamed B.named
  have hlocks := B.notSynchronized
  subst hsz
  have hD := hD0.self (sz := s.heap.size)
  generalize hAe : va_A (wC a cy T tr) s.heap.size = A at hD ⊢
  have hA : ∀ q : Nat, s.heap.size ≤ q → A q := fun q h => by rw [← hAe]; exact Or.inr h
  have hS : va_S A s.heap s.heap [] := va_S.rf
  have hP : va_P G vwCl (wC a cy T tr) s.heap := hP
  have hin_X1 : ∀ w ∈ wsX10, w ∈ wsX1_release := by decide +kernel
  have hl := lv_entry ([.ref (a 3)]) (n := 1) (Nat.le_of_ble_eq_true rfl)
  rw [lg_entry_eq]
  generalize (lg_sl ([.ref (a 3)]) ++ List.replicate (1 - (lg_sl ([.ref (a 3)])).length) Slot.unset).toArray = ls at hl ⊢
  have hl : lv_has ls 1 [(0, .ref (a 3))] := hl
  refine lv_aload_n hx hb dX1_release_0 rfl (lv_at hl 0 rfl) ?_
  refine lv_iconst (v := (-1)) hx hb dX1_release_1 (by decide) ?_
  refine va_put (D := G) (ci := 1) (v := .int (-1)) (ty := .int) (C := RX1) (T := TX1) (N := 4) hx hb hts hin_X1 tyX1 tyX1_ok nmX1 hown hK hP hD hS 3 rfl rfl 2 (by decide) (hts (.fieldLink RX1 15 "Migrationledger$Lock" "taker" "I") (by decide +kernel)) (fun _ h9 => h9) rfl (by decide +kernel) rfl rfl (Nat.le_of_ble_eq_true rfl) dX1_release_2 (fun H locs hP hD hS => ?_)
  have hP : va_P G vwCl (wC a cy (uho T (-1)) tr) H := hP
  have hD : va_D A (wC a cy (uho T (-1)) tr) := hD
  exact ml_rv () hx hb hr hlocks hP hK hD hS rfl trivial dX1_release_5
set_option maxHeartbeats 4000000 in
set_option maxRecDepth 100000 in
theorem c_X1_advance (l : Launch) (G : va_G) (cy : Nat → ClassId) (a : Nat → Nat) (sz : Nat) (T : TS) (tr : Nat → Int32) (x : Int32) : Met l yX1_advance wsX1_advance ({ frames := 0, cells := 0, slots := 0, locals := 0 } : Room) (ml_P G cy [.ref (a 3), .int x] (wC a cy T tr) sz) (va_Qi (fun (r : Int32) (_ : Unit) => r = ttm T + x) (ml_B G cy (va_A (wC a cy T tr) sz) (fun (_ : Unit) => (wC a cy (utm T (ttm T + x)) tr))) (va_A (wC a cy T tr) sz)) 0 0 (va_A (wC a cy T tr) sz) := by
  refine Met.ofW (cc := cX1_advance) (maxL := 2) (ret := (some .int)) (by decide) rfl ?_
  intro p e s m args below meth c s₁ B hml hv
  obtain ⟨rfl, hsz, hP, hK, hD0, hN⟩ := hv
  have hx := B.exec
  have hb := B.bytes
  have hr := B.returns
  have hts := atoms_spec (ws := wsX1_advance) B.pre
  have hown : s.vm.findClass RX1 = some m.cls := findClass_of_methodNamed B.named
  have hlocks := B.notSynchronized
  subst hsz
  have hD := hD0.self (sz := s.heap.size)
  generalize hAe : va_A (wC a cy T tr) s.heap.size = A at hD ⊢
  have hA : ∀ q : Nat, s.heap.size ≤ q → A q := fun q h => by rw [← hAe]; exact Or.inr h
  have hS : va_S A s.heap s.heap [] := va_S.rf
  have hP : va_P G vwCl (wC a cy T tr) s.heap := hP
  have hin_X1 : ∀ w ∈ wsX10, w ∈ wsX1_advance := by decide +kernel
  have hl := lv_entry ([.ref (a 3), .int x]) (n := 2) (Nat.le_of_ble_eq_true rfl)
  rw [lg_entry_eq]
  generalize (lg_sl ([.ref (a 3), .int x]) ++ List.replicate (2 - (lg_sl ([.ref (a 3), .int x])).length) Slot.unset).toArray = ls at hl ⊢
  have hl : lv_has ls 2 [(0, .ref (a 3)), (1, .int x)] := hl
  refine lv_aload_n hx hb dX1_advance_0 rfl (lv_at hl 0 rfl) ?_
  refine lv_dup hx hb dX1_advance_1 rfl ?_
  refine va_get (D := G) (ci := 1) (v := .int (ttm T)) (C := RX1) (T := TX1) (N := 4) hx hb hts hin_X1 hown hK hP 3 rfl rfl 1 (by decide) (hts (.fieldLink RX1 19 "Migrationledger$Lock" "time" "I") (by decide +kernel)) (fun _ h9 => h9) rfl dX1_advance_2 ?_
  refine lv_iload_n hx hb dX1_advance_5 rfl (lv_at hl 1 rfl) ?_
  refine lv_iadd hx hb dX1_advance_6 ?_
  refine va_put (D := G) (ci := 1) (v := .int ((ttm T) + x)) (ty := .int) (C := RX1) (T := TX1) (N := 4) hx hb hts hin_X1 tyX1 tyX1_ok nmX1 hown hK hP hD hS 3 rfl rfl 1 (by decide) (hts (.fieldLink RX1 19 "Migrationledger$Lock" "time" "I") (by decide +kernel)) (fun _ h9 => h9) rfl (by decide +kernel) rfl rfl (Nat.le_of_ble_eq_true rfl) dX1_advance_7 (fun H locs hP hD hS => ?_)
  have hP : va_P G vwCl (wC a cy (utm T ((ttm T) + x)) tr) H := hP
  have hD : va_D A (wC a cy (utm T ((ttm T) + x)) tr) := hD
  refine lv_aload_n hx hb dX1_advance_10 rfl (lv_at hl 0 rfl) ?_
  refine va_get (D := G) (ci := 1) (v := .int ((ttm T) + x)) (C := RX1) (T := TX1) (N := 4) hx hb hts hin_X1 hown hK hP 3 rfl rfl 1 (by decide) (hts (.fieldLink RX1 19 "Migrationledger$Lock" "time" "I") (by decide +kernel)) (fun _ h9 => h9) rfl dX1_advance_11 ?_
  exact ml_ri () hx hb hr hlocks hP hK hD hS rfl rfl dX1_advance_14
set_option maxHeartbeats 4000000 in
set_option maxRecDepth 100000 in
theorem c_X1_hasCrashed (l : Launch) (G : va_G) (cy : Nat → ClassId) (a : Nat → Nat) (sz : Nat) (T : TS) (tr : Nat → Int32) (j : Nat) (hj : j < 4) (hcr : tcr T j = 0 ∨ tcr T j = 1) : Met l yX1_hasCrashed wsX1_hasCrashed ({ frames := 0, cells := 0, slots := 0, locals := 0 } : Room) (ml_P G cy [.ref (a 3), .int (nI j)] (wC a cy T tr) sz) (va_Qi (fun (r : Int32) (_ : Unit) => r = b2i (tcr T j ≠ 0)) (ml_B G cy (va_A (wC a cy T tr) sz) (fun (_ : Unit) => (wC a cy T tr))) (va_A (wC a cy T tr) sz)) 0 0 (va_A (wC a cy T tr) sz) := by
  refine Met.ofW (cc := cX1_hasCrashed) (maxL := 2) (ret := (some .boolean)) (by decide) rfl ?_
  intro p e s m args below meth c s₁ B hml hv
  obtain ⟨rfl, hsz, hP, hK, hD0, hN⟩ := hv
  have hx := B.exec
  have hb := B.bytes
  have hr := B.returns
  have hts := atoms_spec (ws := wsX1_hasCrashed) B.pre
  have hown : s.vm.findClass RX1 = some m.cls := findClass_of_methodNamed B.named
  have hlocks := B.notSynchronized
  subst hsz
  have hD := hD0.self (sz := s.heap.size)
  generalize hAe : va_A (wC a cy T tr) s.heap.size = A at hD ⊢
  have hA : ∀ q : Nat, s.heap.size ≤ q → A q := fun q h => by rw [← hAe]; exact Or.inr h
  have hS : va_S A s.heap s.heap [] := va_S.rf
  have hP : va_P G vwCl (wC a cy T tr) s.heap := hP
  have hin_X1 : ∀ w ∈ wsX10, w ∈ wsX1_hasCrashed := by decide +kernel
  have hl := lv_entry ([.ref (a 3), .int (nI j)]) (n := 2) (Nat.le_of_ble_eq_true rfl)
  rw [lg_entry_eq]
  generalize (lg_sl ([.ref (a 3), .int (nI j)]) ++ List.replicate (2 - (lg_sl ([.ref (a 3), .int (nI j)])).length) Slot.unset).toArray = ls at hl ⊢
  have hl : lv_has ls 2 [(0, .ref (a 3)), (1, .int (nI j))] := hl
  refine lv_aload_n hx hb dX1_hasCrashed_0 rfl (lv_at hl 0 rfl) ?_
  refine va_get (D := G) (ci := 1) (v := .ref (a 11)) (C := RX1) (T := TX1) (N := 4) hx hb hts hin_X1 hown hK hP 3 rfl rfl 0 (by decide) (hts (.fieldLink RX1 9 "Migrationledger$Lock" "crashed" "[Z") (by decide +kernel)) (fun _ h9 => h9) rfl dX1_hasCrashed_1 ?_
  refine lv_iload_n hx hb dX1_hasCrashed_4 rfl (lv_at hl 1 rfl) ?_
  refine ml_zald hx hb hK hP 11 1 rfl rfl (j) rfl (by omega) (Nat.le_of_ble_eq_true rfl) (b2i (tcr T j ≠ 0)) (b01 hcr) dX1_hasCrashed_5 ?_
  exact ml_rz () hx hb hr hlocks hP hK hD hS (b2i_nar _) rfl rfl dX1_hasCrashed_6
set_option maxHeartbeats 4000000 in
set_option maxRecDepth 100000 in
theorem c_X1_setCrashed (l : Launch) (G : va_G) (cy : Nat → ClassId) (a : Nat → Nat) (sz : Nat) (T : TS) (tr : Nat → Int32) (j : Nat) (hj : j < 4) (x : Int32) (hnr : vp_nar .boolean x = x) : Met l yX1_setCrashed wsX1_setCrashed ({ frames := 0, cells := 0, slots := 0, locals := 0 } : Room) (ml_P G cy [.ref (a 3), .int (nI j), .int x] (wC a cy T tr) sz) (va_Qv (fun (_ : Unit) => True) (ml_B G cy (va_A (wC a cy T tr) sz) (fun (_ : Unit) => (wC a cy (ucr T (upd (tcr T) j x)) tr))) (va_A (wC a cy T tr) sz)) 0 0 (va_A (wC a cy T tr) sz) := by
  refine Met.ofW (cc := cX1_setCrashed) (maxL := 3) (ret := none) (by decide) rfl ?_
  intro p e s m args below meth c s₁ B hml hv
  obtain ⟨rfl, hsz, hP, hK, hD0, hN⟩ := hv
  have hx := B.exec
  have hb := B.bytes
  have hr := B.returns
  have hts := atoms_spec (ws := wsX1_setCrashed) B.pre
  have hown : s.vm.findClass RX1 = some m.cls := findClass_of_methodNamed B.named
  have hlocks := B.notSynchronized
  subst hsz
  have hD := hD0.self (sz := s.heap.size)
  generalize hAe : va_A (wC a cy T tr) s.heap.size = A at hD ⊢
  have hA : ∀ q : Nat, s.heap.size ≤ q → A q := fun q h => by rw [← hAe]; exact Or.inr h
  have hS : va_S A s.heap s.heap [] := va_S.rf
  have hP : va_P G vwCl (wC a cy T tr) s.heap := hP
  have hin_X1 : ∀ w ∈ wsX10, w ∈ wsX1_setCrashed := by decide +kernel
  have hl := lv_entry ([.ref (a 3), .int (nI j), .int x]) (n := 3) (Nat.le_of_ble_eq_true rfl)
  rw [lg_entry_eq]
  generalize (lg_sl ([.ref (a 3), .int (nI j), .int x]) ++ List.replicate (3 - (lg_sl ([.ref (a 3), .int (nI j), .int x])).length) Slot.unset).toArray = ls at hl ⊢
  have hl : lv_has ls 3 [(0, .ref (a 3)), (1, .int (nI j)), (2, .int x)] := hl
  refine lv_aload_n hx hb dX1_setCrashed_0 rfl (lv_at hl 0 rfl) ?_
  refine va_get (D := G) (ci := 1) (v := .ref (a 11)) (C := RX1) (T := TX1) (N := 4) hx hb hts hin_X1 hown hK hP 3 rfl rfl 0 (by decide) (hts (.fieldLink RX1 9 "Migrationledger$Lock" "crashed" "[Z") (by decide +kernel)) (fun _ h9 => h9) rfl dX1_setCrashed_1 ?_
  refine lv_iload_n hx hb dX1_setCrashed_4 rfl (lv_at hl 1 rfl) ?_
  refine lv_iload_n hx hb dX1_setCrashed_5 rfl (lv_at hl 2 rfl) ?_
  refine ml_zast hx hb hK hP hD hS 11 1 rfl rfl (j) rfl (by omega) (Nat.le_of_ble_eq_true rfl) hnr dX1_setCrashed_6 (fun H locs hP hD hS => ?_)
  have hP : va_P G vwCl (wC a cy (ucr T (upd (tcr T) j x)) tr) H := hP
  have hD : va_D A (wC a cy (ucr T (upd (tcr T) j x)) tr) := hD
  exact ml_rv () hx hb hr hlocks hP hK hD hS rfl trivial dX1_setCrashed_7
set_option maxHeartbeats 4000000 in
set_option maxRecDepth 100000 in
theorem c_X2_isPresent (l : Launch) (G : va_G) (cy : Nat → ClassId) (a : Nat → Nat) (sz : Nat) (T : TS) (tr : Nat → Int32) (j : Nat) (hj : j < 40) : Met l yX2_isPresent wsX2_isPresent ({ frames := 0, cells := 0, slots := 0, locals := 0 } : Room) (ml_P G cy [.ref (a 2), .int (nI j)] (wC a cy T tr) sz) (va_Qi (fun (r : Int32) (_ : Unit) => r = b2i (tV T j ≠ -1)) (ml_B G cy (va_A (wC a cy T tr) sz) (fun (_ : Unit) => (wC a cy T tr))) (va_A (wC a cy T tr) sz)) 0 0 (va_A (wC a cy T tr) sz) := by
  refine Met.ofW (cc := cX2_isPresent) (maxL := 2) (ret := (some .boolean)) (by decide) rfl ?_
  intro p e s m args below meth c s₁ B hml hv
  obtain ⟨rfl, hsz, hP, hK, hD0, hN⟩ := hv
  have hx := B.exec
  have hb := B.bytes
  have hr := B.returns
  have hts := atoms_spec (ws := wsX2_isPresent) B.pre
  have hown : s.vm.findClass RX2 = some m.cls := findClass_of_methodNamed B.named
  have hlocks := B.notSynchronized
  subst hsz
  have hD := hD0.self (sz := s.heap.size)
  generalize hAe : va_A (wC a cy T tr) s.heap.size = A at hD ⊢
  have hA : ∀ q : Nat, s.heap.size ≤ q → A q := fun q h => by rw [← hAe]; exact Or.inr h
  have hS : va_S A s.heap s.heap [] := va_S.rf
  have hP : va_P G vwCl (wC a cy T tr) s.heap := hP
  have hin_X2 : ∀ w ∈ wsX20, w ∈ wsX2_isPresent := by decide +kernel
  have hl := lv_entry ([.ref (a 2), .int (nI j)]) (n := 2) (Nat.le_of_ble_eq_true rfl)
  rw [lg_entry_eq]
  generalize (lg_sl ([.ref (a 2), .int (nI j)]) ++ List.replicate (2 - (lg_sl ([.ref (a 2), .int (nI j)])).length) Slot.unset).toArray = ls at hl ⊢
  have hl : lv_has ls 2 [(0, .ref (a 2)), (1, .int (nI j))] := hl
  refine lv_aload_n hx hb dX2_isPresent_0 rfl (lv_at hl 0 rfl) ?_
  refine va_get (D := G) (ci := 2) (v := .ref (a 10)) (C := RX2) (T := TX2) (N := 2) hx hb hts hin_X2 hown hK hP 2 rfl rfl 1 (by decide) (hts (.fieldLink RX2 15 "Migrationledger$Table" "versions" "[I") (by decide +kernel)) (fun _ h9 => h9) rfl dX2_isPresent_1 ?_
  refine lv_iload_n hx hb dX2_isPresent_4 rfl (lv_at hl 1 rfl) ?_
  refine ml_iald hx hb hK hP 10 0 rfl rfl (j) rfl (by omega) (Nat.le_of_ble_eq_true rfl) ((tV T) j) rfl dX2_isPresent_5 ?_
  refine lv_iconst (v := (-1)) hx hb dX2_isPresent_6 (by decide) ?_
  refine lv_icmp_eq (tgt := 14) hx hb dX2_isPresent_7 (by decide) (fun c_7 => ?_) (fun c_7 => ?_)
  · refine lv_iconst (v := 0) hx hb dX2_isPresent_14 (by decide) ?_
    exact ml_rz () hx hb hr hlocks hP hK hD hS rfl rfl (b2i_f' (fun h => h c_7)) dX2_isPresent_15
  · refine lv_iconst (v := 1) hx hb dX2_isPresent_10 (by decide) ?_
    refine lv_goto (tgt := 15) hx hb dX2_isPresent_11 (by decide) ?_
    exact ml_rz () hx hb hr hlocks hP hK hD hS rfl rfl (b2i_t' c_7) dX2_isPresent_15
set_option maxHeartbeats 4000000 in
set_option maxRecDepth 100000 in
theorem c_X2_versionOf (l : Launch) (G : va_G) (cy : Nat → ClassId) (a : Nat → Nat) (sz : Nat) (T : TS) (tr : Nat → Int32) (j : Nat) (hj : j < 40) : Met l yX2_versionOf wsX2_versionOf ({ frames := 0, cells := 0, slots := 0, locals := 0 } : Room) (ml_P G cy [.ref (a 2), .int (nI j)] (wC a cy T tr) sz) (va_Qi (fun (r : Int32) (_ : Unit) => r = tV T j) (ml_B G cy (va_A (wC a cy T tr) sz) (fun (_ : Unit) => (wC a cy T tr))) (va_A (wC a cy T tr) sz)) 0 0 (va_A (wC a cy T tr) sz) := by
  refine Met.ofW (cc := cX2_versionOf) (maxL := 2) (ret := (some .int)) (by decide) rfl ?_
  intro p e s m args below meth c s₁ B hml hv
  obtain ⟨rfl, hsz, hP, hK, hD0, hN⟩ := hv
  have hx := B.exec
  have hb := B.bytes
  have hr := B.returns
  have hts := atoms_spec (ws := wsX2_versionOf) B.pre
  have hown : s.vm.findClass RX2 = some m.cls := findClass_of_methodNamed B.named
  have hlocks := B.notSynchronized
  subst hsz
  have hD := hD0.self (sz := s.heap.size)
  generalize hAe : va_A (wC a cy T tr) s.heap.size = A at hD ⊢
  have hA : ∀ q : Nat, s.heap.size ≤ q → A q := fun q h => by rw [← hAe]; exact Or.inr h
  have hS : va_S A s.heap s.heap [] := va_S.rf
  have hP : va_P G vwCl (wC a cy T tr) s.heap := hP
  have hin_X2 : ∀ w ∈ wsX20, w ∈ wsX2_versionOf := by decide +kernel
  have hl := lv_entry ([.ref (a 2), .int (nI j)]) (n := 2) (Nat.le_of_ble_eq_true rfl)
  rw [lg_entry_eq]
  generalize (lg_sl ([.ref (a 2), .int (nI j)]) ++ List.replicate (2 - (lg_sl ([.ref (a 2), .int (nI j)])).length) Slot.unset).toArray = ls at hl ⊢
  have hl : lv_has ls 2 [(0, .ref (a 2)), (1, .int (nI j))] := hl
  refine lv_aload_n hx hb dX2_versionOf_0 rfl (lv_at hl 0 rfl) ?_
  refine va_get (D := G) (ci := 2) (v := .ref (a 10)) (C := RX2) (T := TX2) (N := 2) hx hb hts hin_X2 hown hK hP 2 rfl rfl 1 (by decide) (hts (.fieldLink RX2 15 "Migrationledger$Table" "versions" "[I") (by decide +kernel)) (fun _ h9 => h9) rfl dX2_versionOf_1 ?_
  refine lv_iload_n hx hb dX2_versionOf_4 rfl (lv_at hl 1 rfl) ?_
  refine ml_iald hx hb hK hP 10 0 rfl rfl (j) rfl (by omega) (Nat.le_of_ble_eq_true rfl) ((tV T) j) rfl dX2_versionOf_5 ?_
  exact ml_ri () hx hb hr hlocks hP hK hD hS rfl rfl dX2_versionOf_6
set_option maxHeartbeats 4000000 in
set_option maxRecDepth 100000 in
theorem c_X2_setVersion (l : Launch) (G : va_G) (cy : Nat → ClassId) (a : Nat → Nat) (sz : Nat) (T : TS) (tr : Nat → Int32) (j : Nat) (hj : j < 40) (x : Int32) : Met l yX2_setVersion wsX2_setVersion ({ frames := 0, cells := 0, slots := 0, locals := 0 } : Room) (ml_P G cy [.ref (a 2), .int (nI j), .int x] (wC a cy T tr) sz) (va_Qv (fun (_ : Unit) => True) (ml_B G cy (va_A (wC a cy T tr) sz) (fun (_ : Unit) => (wC a cy (uV T (upd (tV T) j x)) tr))) (va_A (wC a cy T tr) sz)) 0 0 (va_A (wC a cy T tr) sz) := by
  refine Met.ofW (cc := cX2_setVersion) (maxL := 3) (ret := none) (by decide) rfl ?_
  intro p e s m args below meth c s₁ B hml hv
  obtain ⟨rfl, hsz, hP, hK, hD0, hN⟩ := hv
  have hx := B.exec
  have hb := B.bytes
  have hr := B.returns
  have hts := atoms_spec (ws := wsX2_setVersion) B.pre
  have hown : s.vm.findClass RX2 = some m.cls := findClass_of_methodNamed B.named
  have hlocks := B.notSynchronized
  subst hsz
  have hD := hD0.self (sz := s.heap.size)
  generalize hAe : va_A (wC a cy T tr) s.heap.size = A at hD ⊢
  have hA : ∀ q : Nat, s.heap.size ≤ q → A q := fun q h => by rw [← hAe]; exact Or.inr h
  have hS : va_S A s.heap s.heap [] := va_S.rf
  have hP : va_P G vwCl (wC a cy T tr) s.heap := hP
  have hin_X2 : ∀ w ∈ wsX20, w ∈ wsX2_setVersion := by decide +kernel
  have hl := lv_entry ([.ref (a 2), .int (nI j), .int x]) (n := 3) (Nat.le_of_ble_eq_true rfl)
  rw [lg_entry_eq]
  generalize (lg_sl ([.ref (a 2), .int (nI j), .int x]) ++ List.replicate (3 - (lg_sl ([.ref (a 2), .int (nI j), .int x])).length) Slot.unset).toArray = ls at hl ⊢
  have hl : lv_has ls 3 [(0, .ref (a 2)), (1, .int (nI j)), (2, .int x)] := hl
  refine lv_aload_n hx hb dX2_setVersion_0 rfl (lv_at hl 0 rfl) ?_
  refine va_get (D := G) (ci := 2) (v := .ref (a 10)) (C := RX2) (T := TX2) (N := 2) hx hb hts hin_X2 hown hK hP 2 rfl rfl 1 (by decide) (hts (.fieldLink RX2 15 "Migrationledger$Table" "versions" "[I") (by decide +kernel)) (fun _ h9 => h9) rfl dX2_setVersion_1 ?_
  refine lv_iload_n hx hb dX2_setVersion_4 rfl (lv_at hl 1 rfl) ?_
  refine lv_iload_n hx hb dX2_setVersion_5 rfl (lv_at hl 2 rfl) ?_
  refine ml_iast hx hb hK hP hD hS 10 0 rfl rfl (j) rfl (by omega) (Nat.le_of_ble_eq_true rfl) dX2_setVersion_6 (fun H locs hP hD hS => ?_)
  have hP : va_P G vwCl (wC a cy (uV T (upd (tV T) j x)) tr) H := hP
  have hD : va_D A (wC a cy (uV T (upd (tV T) j x)) tr) := hD
  exact ml_rv () hx hb hr hlocks hP hK hD hS rfl trivial dX2_setVersion_7
set_option maxHeartbeats 4000000 in
set_option maxRecDepth 100000 in
theorem c_X2_cell (l : Launch) (G : va_G) (cy : Nat → ClassId) (a : Nat → Nat) (sz : Nat) (T : TS) (tr : Nat → Int32) (j : Nat) (hj : j < 40) (k : Nat) (hk : k < 3) : Met l yX2_cell wsX2_cell ({ frames := 0, cells := 0, slots := 0, locals := 0 } : Room) (ml_P G cy [.ref (a 2), .int (nI j), .int (nI k)] (wC a cy T tr) sz) (va_Qi (fun (r : Int32) (_ : Unit) => r = tX T (3 * j + k)) (ml_B G cy (va_A (wC a cy T tr) sz) (fun (_ : Unit) => (wC a cy T tr))) (va_A (wC a cy T tr) sz)) 0 0 (va_A (wC a cy T tr) sz) := by
  refine Met.ofW (cc := cX2_cell) (maxL := 3) (ret := (some .int)) (by decide) rfl ?_
  intro p e s m args below meth c s₁ B hml hv
  obtain ⟨rfl, hsz, hP, hK, hD0, hN⟩ := hv
  have hx := B.exec
  have hb := B.bytes
  have hr := B.returns
  have hts := atoms_spec (ws := wsX2_cell) B.pre
  have hown : s.vm.findClass RX2 = some m.cls := findClass_of_methodNamed B.named
  have hlocks := B.notSynchronized
  subst hsz
  have hD := hD0.self (sz := s.heap.size)
  generalize hAe : va_A (wC a cy T tr) s.heap.size = A at hD ⊢
  have hA : ∀ q : Nat, s.heap.size ≤ q → A q := fun q h => by rw [← hAe]; exact Or.inr h
  have hS : va_S A s.heap s.heap [] := va_S.rf
  have hP : va_P G vwCl (wC a cy T tr) s.heap := hP
  have hin_X2 : ∀ w ∈ wsX20, w ∈ wsX2_cell := by decide +kernel
  have hl := lv_entry ([.ref (a 2), .int (nI j), .int (nI k)]) (n := 3) (Nat.le_of_ble_eq_true rfl)
  rw [lg_entry_eq]
  generalize (lg_sl ([.ref (a 2), .int (nI j), .int (nI k)]) ++ List.replicate (3 - (lg_sl ([.ref (a 2), .int (nI j), .int (nI k)])).length) Slot.unset).toArray = ls at hl ⊢
  have hl : lv_has ls 3 [(0, .ref (a 2)), (1, .int (nI j)), (2, .int (nI k))] := hl
  refine lv_aload_n hx hb dX2_cell_0 rfl (lv_at hl 0 rfl) ?_
  refine va_get (D := G) (ci := 2) (v := .ref (a 9)) (C := RX2) (T := TX2) (N := 2) hx hb hts hin_X2 hown hK hP 2 rfl rfl 0 (by decide) (hts (.fieldLink RX2 9 "Migrationledger$Table" "cells" "[I") (by decide +kernel)) (fun _ h9 => h9) rfl dX2_cell_1 ?_
  refine lv_iload_n hx hb dX2_cell_4 rfl (lv_at hl 1 rfl) ?_
  refine lv_iconst (v := 3) hx hb dX2_cell_5 (by decide) ?_
  refine lv_imul hx hb dX2_cell_6 ?_
  refine ml_eqi (nI (3 * j)) ((pk_mul j 3).trans (congrArg nI (Nat.mul_comm _ _))) ?_
  refine lv_iload_n hx hb dX2_cell_7 rfl (lv_at hl 2 rfl) ?_
  refine lv_iadd hx hb dX2_cell_8 ?_
  refine ml_eqi (nI (3 * j + k)) (nI_add (3 * j) k) ?_
  refine ml_iald hx hb hK hP 9 0 rfl rfl (3 * j + k) rfl (by omega) (Nat.le_of_ble_eq_true rfl) ((tX T) (3 * j + k)) rfl dX2_cell_9 ?_
  exact ml_ri () hx hb hr hlocks hP hK hD hS rfl rfl dX2_cell_10
set_option maxHeartbeats 4000000 in
set_option maxRecDepth 100000 in
theorem c_X2_setCell (l : Launch) (G : va_G) (cy : Nat → ClassId) (a : Nat → Nat) (sz : Nat) (T : TS) (tr : Nat → Int32) (j : Nat) (hj : j < 40) (k : Nat) (hk : k < 3) (x : Int32) : Met l yX2_setCell wsX2_setCell ({ frames := 0, cells := 0, slots := 0, locals := 0 } : Room) (ml_P G cy [.ref (a 2), .int (nI j), .int (nI k), .int x] (wC a cy T tr) sz) (va_Qv (fun (_ : Unit) => True) (ml_B G cy (va_A (wC a cy T tr) sz) (fun (_ : Unit) => (wC a cy (uX T (upd (tX T) (3 * j + k) x)) tr))) (va_A (wC a cy T tr) sz)) 0 0 (va_A (wC a cy T tr) sz) := by
  refine Met.ofW (cc := cX2_setCell) (maxL := 4) (ret := none) (by decide) rfl ?_
  intro p e s m args below meth c s₁ B hml hv
  obtain ⟨rfl, hsz, hP, hK, hD0, hN⟩ := hv
  have hx := B.exec
  have hb := B.bytes
  have hr := B.returns
  have hts := atoms_spec (ws := wsX2_setCell) B.pre
  have hown : s.vm.findClass RX2 = some m.cls := findClass_of_methodNamed B.named
  have hlocks := B.notSynchronized
  subst hsz
  have hD := hD0.self (sz := s.heap.size)
  generalize hAe : va_A (wC a cy T tr) s.heap.size = A at hD ⊢
  have hA : ∀ q : Nat, s.heap.size ≤ q → A q := fun q h => by rw [← hAe]; exact Or.inr h
  have hS : va_S A s.heap s.heap [] := va_S.rf
  have hP : va_P G vwCl (wC a cy T tr) s.heap := hP
  have hin_X2 : ∀ w ∈ wsX20, w ∈ wsX2_setCell := by decide +kernel
  have hl := lv_entry ([.ref (a 2), .int (nI j), .int (nI k), .int x]) (n := 4) (Nat.le_of_ble_eq_true rfl)
  rw [lg_entry_eq]
  generalize (lg_sl ([.ref (a 2), .int (nI j), .int (nI k), .int x]) ++ List.replicate (4 - (lg_sl ([.ref (a 2), .int (nI j), .int (nI k), .int x])).length) Slot.unset).toArray = ls at hl ⊢
  have hl : lv_has ls 4 [(0, .ref (a 2)), (1, .int (nI j)), (2, .int (nI k)), (3, .int x)] := hl
  refine lv_aload_n hx hb dX2_setCell_0 rfl (lv_at hl 0 rfl) ?_
  refine va_get (D := G) (ci := 2) (v := .ref (a 9)) (C := RX2) (T := TX2) (N := 2) hx hb hts hin_X2 hown hK hP 2 rfl rfl 0 (by decide) (hts (.fieldLink RX2 9 "Migrationledger$Table" "cells" "[I") (by decide +kernel)) (fun _ h9 => h9) rfl dX2_setCell_1 ?_
  refine lv_iload_n hx hb dX2_setCell_4 rfl (lv_at hl 1 rfl) ?_
  refine lv_iconst (v := 3) hx hb dX2_setCell_5 (by decide) ?_
  refine lv_imul hx hb dX2_setCell_6 ?_
  refine ml_eqi (nI (3 * j)) ((pk_mul j 3).trans (congrArg nI (Nat.mul_comm _ _))) ?_
  refine lv_iload_n hx hb dX2_setCell_7 rfl (lv_at hl 2 rfl) ?_
  refine lv_iadd hx hb dX2_setCell_8 ?_
  refine ml_eqi (nI (3 * j + k)) (nI_add (3 * j) k) ?_
  refine lv_iload_n hx hb dX2_setCell_9 rfl (lv_at hl 3 rfl) ?_
  refine ml_iast hx hb hK hP hD hS 9 0 rfl rfl (3 * j + k) rfl (by omega) (Nat.le_of_ble_eq_true rfl) dX2_setCell_10 (fun H locs hP hD hS => ?_)
  have hP : va_P G vwCl (wC a cy (uX T (upd (tX T) (3 * j + k) x)) tr) H := hP
  have hD : va_D A (wC a cy (uX T (upd (tX T) (3 * j + k) x)) tr) := hD
  exact ml_rv () hx hb hr hlocks hP hK hD hS rfl trivial dX2_setCell_11
set_option maxHeartbeats 4000000 in
set_option maxRecDepth 100000 in
theorem c_X2_copyRow (l : Launch) (G : va_G) (cy : Nat → ClassId) (a : Nat → Nat) (sz : Nat) (T : TS) (tr : Nat → Int32) (j : Nat) (hj : j < 40) : Met l yX2_copyRow wsX2_copyRow ({ frames := 1, cells := 0, slots := 0, locals := 22 } : Room) (ml_P G cy [.ref (a 2), .int (nI j), .ref (a 4)] (wC a cy T tr) sz) (va_Qv (fun (_ : Unit) => True) (ml_B G cy (va_A (wC a cy T tr) sz) (fun (_ : Unit) => (wC a cy T (upd (upd (upd tr 0 (tX T (3 * j + 0))) 1 (tX T (3 * j + 1))) 2 (tX T (3 * j + 2)))))) (va_A (wC a cy T tr) sz)) 0 0 (va_A (wC a cy T tr) sz) := by
  refine Met.ofW (cc := cX2_copyRow) (maxL := 4) (ret := none) (by decide) rfl ?_
  intro p e s m args below meth c s₁ B hml hv
  obtain ⟨rfl, hsz, hP, hK, hD0, hN⟩ := hv
  have hx := B.exec
  have hb := B.bytes
  have hr := B.returns
  have hts := atoms_spec (ws := wsX2_copyRow) B.pre
  have hown : s.vm.findClass RX2 = some m.cls := findClass_of_methodNamed B.named
  have hlocks := B.notSynchronized
  subst hsz
  have hD := hD0.self (sz := s.heap.size)
  generalize hAe : va_A (wC a cy T tr) s.heap.size = A at hD ⊢
  have hA : ∀ q : Nat, s.heap.size ≤ q → A q := fun q h => by rw [← hAe]; exact Or.inr h
  have hS : va_S A s.heap s.heap [] := va_S.rf
  have hP : va_P G vwCl (wC a cy T tr) s.heap := hP
  have hl := lv_entry ([.ref (a 2), .int (nI j), .ref (a 4)]) (n := 4) (Nat.le_of_ble_eq_true rfl)
  rw [lg_entry_eq]
  generalize (lg_sl ([.ref (a 2), .int (nI j), .ref (a 4)]) ++ List.replicate (4 - (lg_sl ([.ref (a 2), .int (nI j), .ref (a 4)])).length) Slot.unset).toArray = ls at hl ⊢
  have hl : lv_has ls 4 [(0, .ref (a 2)), (1, .int (nI j)), (2, .ref (a 4))] := hl
  refine lv_iconst (v := 0) hx hb dX2_copyRow_0 (by decide) ?_
  refine lv_istore_n (lv' := [(3, .int 0), (0, .ref (a 2)), (1, .int (nI j)), (2, .ref (a 4))]) hx hb dX2_copyRow_1 rfl hl (by decide) rfl (fun ls hl => ?_)
  refine lv_iload_n hx hb dX2_copyRow_2 rfl (lv_at hl 0 rfl) ?_
  refine lv_iconst (v := 3) hx hb dX2_copyRow_3 (by decide) ?_
  refine lv_icmp_ge (tgt := 22) hx hb dX2_copyRow_4 (by decide) (fun c_4 => False.elim (by revert c_4; decide)) (fun c_4 => ?_)
  refine lv_aload_n hx hb dX2_copyRow_7 rfl (lv_at hl 3 rfl) ?_
  refine lv_iload_n hx hb dX2_copyRow_8 rfl (lv_at hl 0 rfl) ?_
  refine lv_aload_n hx hb dX2_copyRow_9 rfl (lv_at hl 1 rfl) ?_
  refine lv_iload_n hx hb dX2_copyRow_10 rfl (lv_at hl 2 rfl) ?_
  refine lv_iload_n hx hb dX2_copyRow_11 rfl (lv_at hl 0 rfl) ?_
  refine ml_Vi (G := G) (As := [.int (nI j), .int 0]) (rest := [.int 0, .ref (a 4)]) ⟨hx, hb, hml, hown, hts⟩ (c_X2_cell l G cy a s.heap.size T tr j (by omega) 0 (by decide)) (cwV 2 hts gX2_copyRow_X2_cell rfl rfl rfl (by decide +kernel) ⟨Nat.le_of_ble_eq_true rfl, Nat.le_of_ble_eq_true rfl⟩) (va_recv hK hP (ci := 2) (q0 := 2) rfl rfl) hP hK hD hS hN hA rfl hl.1 (Nat.le_of_ble_eq_true rfl) dX2_copyRow_12 ⟨Nat.le_of_ble_eq_true rfl, Nat.le_of_ble_eq_true rfl⟩ (fun r_12 u_12 H locs hw hP hD hS => ?_)
  obtain rfl : r_12 = tX T (3 * j + 0) := hw
  have hP : va_P G vwCl (wC a cy T tr) H := hP
  have hD : va_D A (wC a cy T tr) := hD
  refine ml_iast hx hb hK hP hD hS 4 0 rfl rfl (0) rfl (by decide) (Nat.le_of_ble_eq_true rfl) dX2_copyRow_15 (fun H locs hP hD hS => ?_)
  have hP : va_P G vwCl (wC a cy T (upd tr 0 (tX T (3 * j + 0)))) H := hP
  have hD : va_D A (wC a cy T (upd tr 0 (tX T (3 * j + 0)))) := hD
  refine lv_iinc (v := 1) (lv' := [(3, .int 1), (0, .ref (a 2)), (1, .int (nI j)), (2, .ref (a 4))]) hx hb dX2_copyRow_16 hl (k := 0) rfl (by decide) (by decide) rfl (fun ls hl => ?_)
  refine lv_goto (tgt := 2) hx hb dX2_copyRow_19 (by decide) ?_
  refine lv_iload_n hx hb dX2_copyRow_2 rfl (lv_at hl 0 rfl) ?_
  refine lv_iconst (v := 3) hx hb dX2_copyRow_3 (by decide) ?_
  refine lv_icmp_ge (tgt := 22) hx hb dX2_copyRow_4 (by decide) (fun c_4 => False.elim (by revert c_4; decide)) (fun c_4 => ?_)
  refine lv_aload_n hx hb dX2_copyRow_7 rfl (lv_at hl 3 rfl) ?_
  refine lv_iload_n hx hb dX2_copyRow_8 rfl (lv_at hl 0 rfl) ?_
  refine lv_aload_n hx hb dX2_copyRow_9 rfl (lv_at hl 1 rfl) ?_
  refine lv_iload_n hx hb dX2_copyRow_10 rfl (lv_at hl 2 rfl) ?_
  refine lv_iload_n hx hb dX2_copyRow_11 rfl (lv_at hl 0 rfl) ?_
  refine ml_Vi (G := G) (As := [.int (nI j), .int 1]) (rest := [.int 1, .ref (a 4)]) ⟨hx, hb, hml, hown, hts⟩ (c_X2_cell l G cy a H.size T (upd tr 0 (tX T (3 * j + 0))) j (by omega) 1 (by decide)) (cwV 2 hts gX2_copyRow_X2_cell rfl rfl rfl (by decide +kernel) ⟨Nat.le_of_ble_eq_true rfl, Nat.le_of_ble_eq_true rfl⟩) (va_recv hK hP (ci := 2) (q0 := 2) rfl rfl) hP hK hD hS hN hA rfl hl.1 (Nat.le_of_ble_eq_true rfl) dX2_copyRow_12 ⟨Nat.le_of_ble_eq_true rfl, Nat.le_of_ble_eq_true rfl⟩ (fun r_12 u_12 H locs hw hP hD hS => ?_)
  obtain rfl : r_12 = tX T (3 * j + 1) := hw
  have hP : va_P G vwCl (wC a cy T (upd tr 0 (tX T (3 * j + 0)))) H := hP
  have hD : va_D A (wC a cy T (upd tr 0 (tX T (3 * j + 0)))) := hD
  refine ml_iast hx hb hK hP hD hS 4 0 rfl rfl (1) rfl (by decide) (Nat.le_of_ble_eq_true rfl) dX2_copyRow_15 (fun H locs hP hD hS => ?_)
  have hP : va_P G vwCl (wC a cy T (upd (upd tr 0 (tX T (3 * j + 0))) 1 (tX T (3 * j + 1)))) H := hP
  have hD : va_D A (wC a cy T (upd (upd tr 0 (tX T (3 * j + 0))) 1 (tX T (3 * j + 1)))) := hD
  refine lv_iinc (v := 2) (lv' := [(3, .int 2), (0, .ref (a 2)), (1, .int (nI j)), (2, .ref (a 4))]) hx hb dX2_copyRow_16 hl (k := 0) rfl (by decide) (by decide) rfl (fun ls hl => ?_)
  refine lv_goto (tgt := 2) hx hb dX2_copyRow_19 (by decide) ?_
  refine lv_iload_n hx hb dX2_copyRow_2 rfl (lv_at hl 0 rfl) ?_
  refine lv_iconst (v := 3) hx hb dX2_copyRow_3 (by decide) ?_
  refine lv_icmp_ge (tgt := 22) hx hb dX2_copyRow_4 (by decide) (fun c_4 => False.elim (by revert c_4; decide)) (fun c_4 => ?_)
  refine lv_aload_n hx hb dX2_copyRow_7 rfl (lv_at hl 3 rfl) ?_
  refine lv_iload_n hx hb dX2_copyRow_8 rfl (lv_at hl 0 rfl) ?_
  refine lv_aload_n hx hb dX2_copyRow_9 rfl (lv_at hl 1 rfl) ?_
  refine lv_iload_n hx hb dX2_copyRow_10 rfl (lv_at hl 2 rfl) ?_
  refine lv_iload_n hx hb dX2_copyRow_11 rfl (lv_at hl 0 rfl) ?_
  refine ml_Vi (G := G) (As := [.int (nI j), .int 2]) (rest := [.int 2, .ref (a 4)]) ⟨hx, hb, hml, hown, hts⟩ (c_X2_cell l G cy a H.size T (upd (upd tr 0 (tX T (3 * j + 0))) 1 (tX T (3 * j + 1))) j (by omega) 2 (by decide)) (cwV 2 hts gX2_copyRow_X2_cell rfl rfl rfl (by decide +kernel) ⟨Nat.le_of_ble_eq_true rfl, Nat.le_of_ble_eq_true rfl⟩) (va_recv hK hP (ci := 2) (q0 := 2) rfl rfl) hP hK hD hS hN hA rfl hl.1 (Nat.le_of_ble_eq_true rfl) dX2_copyRow_12 ⟨Nat.le_of_ble_eq_true rfl, Nat.le_of_ble_eq_true rfl⟩ (fun r_12 u_12 H locs hw hP hD hS => ?_)
  obtain rfl : r_12 = tX T (3 * j + 2) := hw
  have hP : va_P G vwCl (wC a cy T (upd (upd tr 0 (tX T (3 * j + 0))) 1 (tX T (3 * j + 1)))) H := hP
  have hD : va_D A (wC a cy T (upd (upd tr 0 (tX T (3 * j + 0))) 1 (tX T (3 * j + 1)))) := hD
  refine ml_iast hx hb hK hP hD hS 4 0 rfl rfl (2) rfl (by decide) (Nat.le_of_ble_eq_true rfl) dX2_copyRow_15 (fun H locs hP hD hS => ?_)
  have hP : va_P G vwCl (wC a cy T (upd (upd (upd tr 0 (tX T (3 * j + 0))) 1 (tX T (3 * j + 1))) 2 (tX T (3 * j + 2)))) H := hP
  have hD : va_D A (wC a cy T (upd (upd (upd tr 0 (tX T (3 * j + 0))) 1 (tX T (3 * j + 1))) 2 (tX T (3 * j + 2)))) := hD
  refine lv_iinc (v := 3) (lv' := [(3, .int 3), (0, .ref (a 2)), (1, .int (nI j)), (2, .ref (a 4))]) hx hb dX2_copyRow_16 hl (k := 0) rfl (by decide) (by decide) rfl (fun ls hl => ?_)
  refine lv_goto (tgt := 2) hx hb dX2_copyRow_19 (by decide) ?_
  refine lv_iload_n hx hb dX2_copyRow_2 rfl (lv_at hl 0 rfl) ?_
  refine lv_iconst (v := 3) hx hb dX2_copyRow_3 (by decide) ?_
  refine lv_icmp_ge (tgt := 22) hx hb dX2_copyRow_4 (by decide) (fun c_4 => ?_) (fun c_4 => False.elim (by revert c_4; decide))
  exact ml_rv () hx hb hr hlocks hP hK hD hS rfl trivial dX2_copyRow_22
set_option maxHeartbeats 4000000 in
set_option maxRecDepth 100000 in
theorem c_X2_storeRow (l : Launch) (G : va_G) (cy : Nat → ClassId) (a : Nat → Nat) (sz : Nat) (T : TS) (tr : Nat → Int32) (j : Nat) (hj : j < 40) : Met l yX2_storeRow wsX2_storeRow ({ frames := 1, cells := 0, slots := 0, locals := 23 } : Room) (ml_P G cy [.ref (a 2), .int (nI j), .ref (a 4)] (wC a cy T tr) sz) (va_Qv (fun (_ : Unit) => True) (ml_B G cy (va_A (wC a cy T tr) sz) (fun (_ : Unit) => (wC a cy (uX T (wrX (tX T) j tr)) tr))) (va_A (wC a cy T tr) sz)) 0 0 (va_A (wC a cy T tr) sz) := by
  refine Met.ofW (cc := cX2_storeRow) (maxL := 4) (ret := none) (by decide) rfl ?_
  intro p e s m args below meth c s₁ B hml hv
  obtain ⟨rfl, hsz, hP, hK, hD0, hN⟩ := hv
  have hx := B.exec
  have hb := B.bytes
  have hr := B.returns
  have hts := atoms_spec (ws := wsX2_storeRow) B.pre
  have hown : s.vm.findClass RX2 = some m.cls := findClass_of_methodNamed B.named
  have hlocks := B.notSynchronized
  subst hsz
  have hD := hD0.self (sz := s.heap.size)
  generalize hAe : va_A (wC a cy T tr) s.heap.size = A at hD ⊢
  have hA : ∀ q : Nat, s.heap.size ≤ q → A q := fun q h => by rw [← hAe]; exact Or.inr h
  have hS : va_S A s.heap s.heap [] := va_S.rf
  have hP : va_P G vwCl (wC a cy T tr) s.heap := hP
  have hl := lv_entry ([.ref (a 2), .int (nI j), .ref (a 4)]) (n := 4) (Nat.le_of_ble_eq_true rfl)
  rw [lg_entry_eq]
  generalize (lg_sl ([.ref (a 2), .int (nI j), .ref (a 4)]) ++ List.replicate (4 - (lg_sl ([.ref (a 2), .int (nI j), .ref (a 4)])).length) Slot.unset).toArray = ls at hl ⊢
  have hl : lv_has ls 4 [(0, .ref (a 2)), (1, .int (nI j)), (2, .ref (a 4))] := hl
  refine lv_iconst (v := 0) hx hb dX2_storeRow_0 (by decide) ?_
  refine lv_istore_n (lv' := [(3, .int 0), (0, .ref (a 2)), (1, .int (nI j)), (2, .ref (a 4))]) hx hb dX2_storeRow_1 rfl hl (by decide) rfl (fun ls hl => ?_)
  refine lv_iload_n hx hb dX2_storeRow_2 rfl (lv_at hl 0 rfl) ?_
  refine lv_iconst (v := 3) hx hb dX2_storeRow_3 (by decide) ?_
  refine lv_icmp_ge (tgt := 22) hx hb dX2_storeRow_4 (by decide) (fun c_4 => False.elim (by revert c_4; decide)) (fun c_4 => ?_)
  refine lv_aload_n hx hb dX2_storeRow_7 rfl (lv_at hl 1 rfl) ?_
  refine lv_iload_n hx hb dX2_storeRow_8 rfl (lv_at hl 2 rfl) ?_
  refine lv_iload_n hx hb dX2_storeRow_9 rfl (lv_at hl 0 rfl) ?_
  refine lv_aload_n hx hb dX2_storeRow_10 rfl (lv_at hl 3 rfl) ?_
  refine lv_iload_n hx hb dX2_storeRow_11 rfl (lv_at hl 0 rfl) ?_
  refine ml_iald hx hb hK hP 4 0 rfl rfl (0) rfl (by decide) (Nat.le_of_ble_eq_true rfl) (tr 0) rfl dX2_storeRow_12 ?_
  refine ml_Vv (G := G) (As := [.int (nI j), .int 0, .int (tr 0)]) (rest := []) ⟨hx, hb, hml, hown, hts⟩ (c_X2_setCell l G cy a s.heap.size T tr j (by omega) 0 (by decide) (tr 0)) (cwV 3 hts gX2_storeRow_X2_setCell rfl rfl rfl (by decide +kernel) ⟨Nat.le_of_ble_eq_true rfl, Nat.le_of_ble_eq_true rfl⟩) (va_recv hK hP (ci := 2) (q0 := 2) rfl rfl) hP hK hD hS hN hA rfl hl.1 (Nat.le_of_ble_eq_true rfl) dX2_storeRow_13 ⟨Nat.le_of_ble_eq_true rfl, Nat.le_of_ble_eq_true rfl⟩ (fun u_13 H locs hw hP hD hS => ?_)
  have hP : va_P G vwCl (wC a cy (uX T (upd (tX T) (3 * j + 0) (tr 0))) tr) H := hP
  have hD : va_D A (wC a cy (uX T (upd (tX T) (3 * j + 0) (tr 0))) tr) := hD
  refine lv_iinc (v := 1) (lv' := [(3, .int 1), (0, .ref (a 2)), (1, .int (nI j)), (2, .ref (a 4))]) hx hb dX2_storeRow_16 hl (k := 0) rfl (by decide) (by decide) rfl (fun ls hl => ?_)
  refine lv_goto (tgt := 2) hx hb dX2_storeRow_19 (by decide) ?_
  refine lv_iload_n hx hb dX2_storeRow_2 rfl (lv_at hl 0 rfl) ?_
  refine lv_iconst (v := 3) hx hb dX2_storeRow_3 (by decide) ?_
  refine lv_icmp_ge (tgt := 22) hx hb dX2_storeRow_4 (by decide) (fun c_4 => False.elim (by revert c_4; decide)) (fun c_4 => ?_)
  refine lv_aload_n hx hb dX2_storeRow_7 rfl (lv_at hl 1 rfl) ?_
  refine lv_iload_n hx hb dX2_storeRow_8 rfl (lv_at hl 2 rfl) ?_
  refine lv_iload_n hx hb dX2_storeRow_9 rfl (lv_at hl 0 rfl) ?_
  refine lv_aload_n hx hb dX2_storeRow_10 rfl (lv_at hl 3 rfl) ?_
  refine lv_iload_n hx hb dX2_storeRow_11 rfl (lv_at hl 0 rfl) ?_
  refine ml_iald hx hb hK hP 4 0 rfl rfl (1) rfl (by decide) (Nat.le_of_ble_eq_true rfl) (tr 1) rfl dX2_storeRow_12 ?_
  refine ml_Vv (G := G) (As := [.int (nI j), .int 1, .int (tr 1)]) (rest := []) ⟨hx, hb, hml, hown, hts⟩ (c_X2_setCell l G cy a H.size (uX T (upd (tX T) (3 * j + 0) (tr 0))) tr j (by omega) 1 (by decide) (tr 1)) (cwV 3 hts gX2_storeRow_X2_setCell rfl rfl rfl (by decide +kernel) ⟨Nat.le_of_ble_eq_true rfl, Nat.le_of_ble_eq_true rfl⟩) (va_recv hK hP (ci := 2) (q0 := 2) rfl rfl) hP hK hD hS hN hA rfl hl.1 (Nat.le_of_ble_eq_true rfl) dX2_storeRow_13 ⟨Nat.le_of_ble_eq_true rfl, Nat.le_of_ble_eq_true rfl⟩ (fun u_13 H locs hw hP hD hS => ?_)
  have hP : va_P G vwCl (wC a cy (uX (uX T (upd (tX T) (3 * j + 0) (tr 0))) (upd (tX (uX T (upd (tX T) (3 * j + 0) (tr 0)))) (3 * j + 1) (tr 1))) tr) H := hP
  have hD : va_D A (wC a cy (uX (uX T (upd (tX T) (3 * j + 0) (tr 0))) (upd (tX (uX T (upd (tX T) (3 * j + 0) (tr 0)))) (3 * j + 1) (tr 1))) tr) := hD
  refine lv_iinc (v := 2) (lv' := [(3, .int 2), (0, .ref (a 2)), (1, .int (nI j)), (2, .ref (a 4))]) hx hb dX2_storeRow_16 hl (k := 0) rfl (by decide) (by decide) rfl (fun ls hl => ?_)
  refine lv_goto (tgt := 2) hx hb dX2_storeRow_19 (by decide) ?_
  refine lv_iload_n hx hb dX2_storeRow_2 rfl (lv_at hl 0 rfl) ?_
  refine lv_iconst (v := 3) hx hb dX2_storeRow_3 (by decide) ?_
  refine lv_icmp_ge (tgt := 22) hx hb dX2_storeRow_4 (by decide) (fun c_4 => False.elim (by revert c_4; decide)) (fun c_4 => ?_)
  refine lv_aload_n hx hb dX2_storeRow_7 rfl (lv_at hl 1 rfl) ?_
  refine lv_iload_n hx hb dX2_storeRow_8 rfl (lv_at hl 2 rfl) ?_
  refine lv_iload_n hx hb dX2_storeRow_9 rfl (lv_at hl 0 rfl) ?_
  refine lv_aload_n hx hb dX2_storeRow_10 rfl (lv_at hl 3 rfl) ?_
  refine lv_iload_n hx hb dX2_storeRow_11 rfl (lv_at hl 0 rfl) ?_
  refine ml_iald hx hb hK hP 4 0 rfl rfl (2) rfl (by decide) (Nat.le_of_ble_eq_true rfl) (tr 2) rfl dX2_storeRow_12 ?_
  refine ml_Vv (G := G) (As := [.int (nI j), .int 2, .int (tr 2)]) (rest := []) ⟨hx, hb, hml, hown, hts⟩ (c_X2_setCell l G cy a H.size (uX (uX T (upd (tX T) (3 * j + 0) (tr 0))) (upd (tX (uX T (upd (tX T) (3 * j + 0) (tr 0)))) (3 * j + 1) (tr 1))) tr j (by omega) 2 (by decide) (tr 2)) (cwV 3 hts gX2_storeRow_X2_setCell rfl rfl rfl (by decide +kernel) ⟨Nat.le_of_ble_eq_true rfl, Nat.le_of_ble_eq_true rfl⟩) (va_recv hK hP (ci := 2) (q0 := 2) rfl rfl) hP hK hD hS hN hA rfl hl.1 (Nat.le_of_ble_eq_true rfl) dX2_storeRow_13 ⟨Nat.le_of_ble_eq_true rfl, Nat.le_of_ble_eq_true rfl⟩ (fun u_13 H locs hw hP hD hS => ?_)
  have hP : va_P G vwCl (wC a cy (uX (uX (uX T (upd (tX T) (3 * j + 0) (tr 0))) (upd (tX (uX T (upd (tX T) (3 * j + 0) (tr 0)))) (3 * j + 1) (tr 1))) (upd (tX (uX (uX T (upd (tX T) (3 * j + 0) (tr 0))) (upd (tX (uX T (upd (tX T) (3 * j + 0) (tr 0)))) (3 * j + 1) (tr 1)))) (3 * j + 2) (tr 2))) tr) H := hP
  have hD : va_D A (wC a cy (uX (uX (uX T (upd (tX T) (3 * j + 0) (tr 0))) (upd (tX (uX T (upd (tX T) (3 * j + 0) (tr 0)))) (3 * j + 1) (tr 1))) (upd (tX (uX (uX T (upd (tX T) (3 * j + 0) (tr 0))) (upd (tX (uX T (upd (tX T) (3 * j + 0) (tr 0)))) (3 * j + 1) (tr 1)))) (3 * j + 2) (tr 2))) tr) := hD
  refine lv_iinc (v := 3) (lv' := [(3, .int 3), (0, .ref (a 2)), (1, .int (nI j)), (2, .ref (a 4))]) hx hb dX2_storeRow_16 hl (k := 0) rfl (by decide) (by decide) rfl (fun ls hl => ?_)
  refine lv_goto (tgt := 2) hx hb dX2_storeRow_19 (by decide) ?_
  refine lv_iload_n hx hb dX2_storeRow_2 rfl (lv_at hl 0 rfl) ?_
  refine lv_iconst (v := 3) hx hb dX2_storeRow_3 (by decide) ?_
  refine lv_icmp_ge (tgt := 22) hx hb dX2_storeRow_4 (by decide) (fun c_4 => ?_) (fun c_4 => False.elim (by revert c_4; decide))
  exact ml_rv () hx hb hr hlocks hP hK hD hS rfl trivial dX2_storeRow_22
set_option maxHeartbeats 4000000 in
set_option maxRecDepth 100000 in
theorem c_X2_countWithVersion (l : Launch) (G : va_G) (cy : Nat → ClassId) (a : Nat → Nat) (sz : Nat) (T : TS) (tr : Nat → Int32) (x : Int32) : Met l yX2_countWithVersion wsX2_countWithVersion ({ frames := 0, cells := 0, slots := 0, locals := 0 } : Room) (ml_P G cy [.ref (a 2), .int x] (wC a cy T tr) sz) (va_Qi (fun (r : Int32) (_ : Unit) => r = nI (cntV (tV T) (fun y => y = x) 40)) (ml_B G cy (va_A (wC a cy T tr) sz) (fun (_ : Unit) => (wC a cy T tr))) (va_A (wC a cy T tr) sz)) 0 0 (va_A (wC a cy T tr) sz) := by
  refine Met.ofW (cc := cX2_countWithVersion) (maxL := 4) (ret := (some .int)) (by decide) rfl ?_
  intro p e s m args below meth c s₁ B hml hv
  obtain ⟨rfl, hsz, hP, hK, hD0, hN⟩ := hv
  have hx := B.exec
  have hb := B.bytes
  have hr := B.returns
  have hts := atoms_spec (ws := wsX2_countWithVersion) B.pre
  have hown : s.vm.findClass RX2 = some m.cls := findClass_of_methodNamed B.named
  have hlocks := B.notSynchronized
  subst hsz
  have hD := hD0.self (sz := s.heap.size)
  generalize hAe : va_A (wC a cy T tr) s.heap.size = A at hD ⊢
  have hA : ∀ q : Nat, s.heap.size ≤ q → A q := fun q h => by rw [← hAe]; exact Or.inr h
  have hS : va_S A s.heap s.heap [] := va_S.rf
  have hP : va_P G vwCl (wC a cy T tr) s.heap := hP
  have hin_X2 : ∀ w ∈ wsX20, w ∈ wsX2_countWithVersion := by decide +kernel
  have hl := lv_entry ([.ref (a 2), .int x]) (n := 4) (Nat.le_of_ble_eq_true rfl)
  rw [lg_entry_eq]
  generalize (lg_sl ([.ref (a 2), .int x]) ++ List.replicate (4 - (lg_sl ([.ref (a 2), .int x])).length) Slot.unset).toArray = ls at hl ⊢
  have hl : lv_has ls 4 [(0, .ref (a 2)), (1, .int x)] := hl
  refine lv_iconst (v := 0) hx hb dX2_countWithVersion_0 (by decide) ?_
  refine lv_istore_n (lv' := [(2, .int 0), (0, .ref (a 2)), (1, .int x)]) hx hb dX2_countWithVersion_1 rfl hl (by decide) rfl (fun ls hl => ?_)
  refine lv_iconst (v := 0) hx hb dX2_countWithVersion_2 (by decide) ?_
  refine lv_istore_n (lv' := [(3, .int 0), (2, .int 0), (0, .ref (a 2)), (1, .int x)]) hx hb dX2_countWithVersion_3 rfl hl (by decide) rfl (fun ls hl => ?_)
  have LOOP : ∀ (r : Nat) (i w : Nat) (hi : i + r = 40) (hw9 : w = cntV (tV T) (fun y => y = x) i) (H : Heap) (locs : List Loc) (ls : Array Slot), va_P G vwCl (wC a cy T tr) H → va_D A (wC a cy T tr) → va_S A s.heap H locs → lv_has ls 4 [(0, .ref (a 2)), (1, .int x), (2, .int (nI w)), (3, .int (nI i))] → W p l e (headSpec wsX2_countWithVersion ({ frames := 0, cells := 0, slots := 0, locals := 0 } : Room)).room s m (#[.ref (a 2), .int x] : Array Value) below meth c H locs 0 0 (MQ below (va_Qi (fun (r : Int32) (_ : Unit) => r = nI (cntV (tV T) (fun y => y = x) 40)) (ml_B G cy A (fun (_ : Unit) => (wC a cy T tr))) A) (#[.ref (a 2), .int x] : Array Value) s 0 0 A) (F0 m 4 ls []) := by
    intro r
    induction r with
    | zero =>
      intro i w hi hw9 H locs ls hP hD hS hl
      refine lv_iload_n hx hb dX2_countWithVersion_4 rfl (lv_at hl 3 rfl) ?_
      refine lv_bipush (v := 40) hx hb dX2_countWithVersion_5 (by decide) ?_
      refine lv_icmp_ge (tgt := 29) hx hb dX2_countWithVersion_7 (by decide) (fun c_7 => ?_) (fun c_7 => False.elim (c_7 (nI_leI (a := 40) (by decide) (by omega) |>.mpr (by omega))))
      refine lv_iload_n hx hb dX2_countWithVersion_29 rfl (lv_at hl 2 rfl) ?_
      exact ml_ri () hx hb hr hlocks hP hK hD hS rfl (by rw [hw9, show i = 40 by omega]) dX2_countWithVersion_30
    | succ r ih =>
      intro i w hi hw9 H locs ls hP hD hS hl
      refine lv_iload_n hx hb dX2_countWithVersion_4 rfl (lv_at hl 3 rfl) ?_
      refine lv_bipush (v := 40) hx hb dX2_countWithVersion_5 (by decide) ?_
      refine lv_icmp_ge (tgt := 29) hx hb dX2_countWithVersion_7 (by decide) (fun c_7 => False.elim (absurd ((nI_leI (a := 40) (by decide) (by omega)).mp c_7) (by omega))) (fun c_7 => ?_)
      refine lv_aload_n hx hb dX2_countWithVersion_10 rfl (lv_at hl 0 rfl) ?_
      refine va_get (D := G) (ci := 2) (v := .ref (a 10)) (C := RX2) (T := TX2) (N := 2) hx hb hts hin_X2 hown hK hP 2 rfl rfl 1 (by decide) (hts (.fieldLink RX2 15 "Migrationledger$Table" "versions" "[I") (by decide +kernel)) (fun _ h9 => h9) rfl dX2_countWithVersion_11 ?_
      refine lv_iload_n hx hb dX2_countWithVersion_14 rfl (lv_at hl 3 rfl) ?_
      refine ml_iald hx hb hK hP 10 0 rfl rfl (i) rfl (by omega) (Nat.le_of_ble_eq_true rfl) ((tV T) i) rfl dX2_countWithVersion_15 ?_
      refine lv_iload_n hx hb dX2_countWithVersion_16 rfl (lv_at hl 1 rfl) ?_
      refine lv_icmp_ne (tgt := 23) hx hb dX2_countWithVersion_17 (by decide) (fun c_17 => ?_) (fun c_17 => ?_)
      · refine lv_iinc (v := nI (i + 1)) (lv' := [(3, .int (nI (i + 1))), (0, .ref (a 2)), (1, .int x), (2, .int (nI w))]) hx hb dX2_countWithVersion_23 hl (k := 3) rfl (nI_1 _) (by decide) rfl (fun ls hl => ?_)
        refine lv_goto (tgt := 4) hx hb dX2_countWithVersion_26 (by decide) ?_
        exact ih (i + 1) w (by omega) (by rw [hw9]; exact (cntV_f c_17).symm) _ _ _ hP hD hS (lv_sub hl [1, 2, 3, 0] rfl)
      · refine lv_iinc (v := nI (w + 1)) (lv' := [(2, .int (nI (w + 1))), (0, .ref (a 2)), (1, .int x), (3, .int (nI i))]) hx hb dX2_countWithVersion_20 hl (k := 2) rfl (nI_1 _) (by decide) rfl (fun ls hl => ?_)
        refine lv_iinc (v := nI (i + 1)) (lv' := [(3, .int (nI (i + 1))), (2, .int (nI (w + 1))), (0, .ref (a 2)), (1, .int x)]) hx hb dX2_countWithVersion_23 hl (k := 3) rfl (nI_1 _) (by decide) rfl (fun ls hl => ?_)
        refine lv_goto (tgt := 4) hx hb dX2_countWithVersion_26 (by decide) ?_
        exact ih (i + 1) (w + 1) (by omega) (by rw [hw9]; exact (cntV_t c_17).symm) _ _ _ hP hD hS (lv_sub hl [2, 3, 1, 0] rfl)
  exact LOOP 40 0 0 (by omega) rfl _ _ _ hP hD hS (lv_sub hl [2, 3, 1, 0] rfl)
