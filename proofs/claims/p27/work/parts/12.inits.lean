/-! the constructors -/
abbrev vI (i : Nat) : Nat → Int32 := fun j => if j < i then -1 else 0
abbrev z0 : Nat → Int32 := fun _ => 0
abbrev zL : Nat → Int64 := fun _ => 0
theorem vI_0 : z0 = vI 0 := by
  funext j
  simp [vI]
theorem vI_s (i : Nat) : upd (vI i) i (-1) = vI (i + 1) := by
  funext j
  unfold upd vI
  by_cases h : j = i
  · rw [if_pos h, if_pos (by omega)]
  · rw [if_neg h]
    by_cases h2 : j < i
    · rw [if_pos h2, if_pos (by omega)]
    · rw [if_neg h2, if_neg (by omega)]
/-- the state at the start -/
abbrev TSI : TS := mkT z0 z0 z0 z0 (vI 40) z0 z0 0 0 0 0 0 (-1) 0
theorem ml_cy {G : va_G} {cy : Nat → ClassId} {s : State} {cA : ClassId} {ty : FieldType} (hK : va_K G vwCl (tyA cy ++ [(cA, ty)]) s) (k j : Nat) (hk : k < 2) (hc : (tyA cy)[k]? = some (cy j, ty)) (ht : ty = .int ∨ ty = .long ∨ ty = .boolean ∨ ty = .double) : cA = cy j := by
  have h1 := (hK.2 2 (cA, ty) rfl).2
  have h2 := (hK.2 k (cy j, ty) (by rw [List.getElem?_append_left (by exact hk)]; exact hc)).2
  rcases ht with rfl | rfl | rfl | rfl <;> exact Option.some.inj ((show s.vm.findClass _ = some cA from h1).symm.trans (show s.vm.findClass _ = some (cy j) from h2))
section MLNA
variable {p : Program} {l : Launch} {e : Env} {R : Room} {s : State} {m : MethodId} {args : Array Value} {below : List Frame} {meth : Method} {c : Code} {H : Heap} {locs : List Loc} {cells slots : Nat} {Q : State → Prop}
variable {cc : ByteArray} {pc : Nat} {ls : Array Slot} {rest : List Value} {A : Nat → Prop} {ws : va_W} {H0 : Heap} {G : va_G} {cy : Nat → ClassId}
theorem ml_newa (hx : p.tables.exec = Jvm.exec) (hb : c.code = cc) {atype : ArrayType} (harr : (Cond.arrayClass (newarray.typeOf atype)).before args s = true) {ty : FieldType} (hty : newarray.typeOf atype = ty) (ht : ty = .int ∨ ty = .long ∨ ty = .boolean ∨ ty = .double) (k j : Nat) (hk : k < 2) (hc : (tyA cy)[k]? = some (cy j, ty)) (hK : va_K G vwCl (tyA cy) s) (hP : va_P G vwCl ws H) (hD : va_D A ws) (hS : va_S A H0 H locs) (hA : ∀ q, H0.size ≤ q → A q)
    {n : Int32} {N' : Nat} {a0 : vp_A} (ha : ∀ cA : ClassId, vp_cell cA a0 = arrV cA N' (fun _ => defaultValue ty)) (hn : ¬ n < 0) (hN : n.toNatClampNeg = N') (hbytes : N' * componentBytes ty ≤ 536870912) (hcells : cells + 1 ≤ R.cells) (hslots : slots + N' ≤ R.slots) (hdg : decode cc pc = .ok (.newarray atype, 2))
    (kk : ∀ (q : Nat) (H1 : Heap), va_P G vwCl (ws ++ [(q, .inl (cy j, a0))]) H1 → va_D A (ws ++ [(q, .inl (cy j, a0))]) → va_S A H0 H1 locs →
      W p l e R s m args below meth c H1 locs (cells + 1) (slots + N') Q (F0 m (pc + 2) ls (.ref q :: rest))) : W p l e R s m args below meth c H locs cells slots Q (F0 m pc ls (.int n :: rest)) :=
  va_newa hx hb harr hty hK hP hD hS hA ha hn hN hbytes hcells hslots hdg (fun q cA H1 hK1 hP1 hD1 hS1 => by
    obtain rfl := ml_cy hK1 k j hk hc ht
    exact kk q H1 hP1 hD1 hS1)
end MLNA

set_option maxHeartbeats 4000000 in
set_option maxRecDepth 100000 in
theorem c_X0_init (l : Launch) (G : va_G) (cy : Nat → ClassId) (h0 : Nat) (sz : Nat) : Met l yX0_init wsX0_init ({ frames := 1, cells := 4, slots := 48, locals := 12 } : Room) (ml_P G cy [.ref h0] [(h0, .inr (0, [.null, .null, .null, .null, .int 0]))] sz) (va_Qv (fun u : Nat × Nat × Nat × Nat => True) (fun (u : Nat × Nat × Nat × Nat) (t : State) => va_P G vwCl [(h0, .inr (0, [.ref u.1, .ref u.2.1, .ref u.2.2.1, .ref u.2.2.2, .int 0])), (u.1, .inl (cy 0, 12, .inl (fun _ => (0 : Int32)))), (u.2.1, .inl (cy 0, 12, .inl (fun _ => (0 : Int32)))), (u.2.2.1, .inl (cy 0, 12, .inl (fun _ => (0 : Int32)))), (u.2.2.2, .inl (cy 0, 12, .inl (fun _ => (0 : Int32))))] t.heap ∧ va_K G vwCl (tyA cy) t ∧ va_D (va_A [(h0, .inr (0, [.null, .null, .null, .null, .int 0]))] sz) [(h0, .inr (0, [.ref u.1, .ref u.2.1, .ref u.2.2.1, .ref u.2.2.2, .int 0])), (u.1, .inl (cy 0, 12, .inl (fun _ => (0 : Int32)))), (u.2.1, .inl (cy 0, 12, .inl (fun _ => (0 : Int32)))), (u.2.2.1, .inl (cy 0, 12, .inl (fun _ => (0 : Int32)))), (u.2.2.2, .inl (cy 0, 12, .inl (fun _ => (0 : Int32))))]) (va_A [(h0, .inr (0, [.null, .null, .null, .null, .int 0]))] sz)) 4 48 (va_A [(h0, .inr (0, [.null, .null, .null, .null, .int 0]))] sz) := by
  refine Met.ofW (cc := cX0_init) (maxL := 1) (ret := none) (by decide) rfl ?_
  intro p e s m args below meth c s₁ B hml hv
  obtain ⟨rfl, hsz, hP, hK, hD0, hN⟩ := hv
  have hx := B.exec
  have hb := B.bytes
  have hr := B.returns
  have hts := atoms_spec (ws := wsX0_init) B.pre
  have hown : s.vm.findClass RX0 = some m.cls := findClass_of_methodNamed B.named
  have hlocks := B.notSynchronized
  have hin : meth.name = "<init>" := (name_of_methodNamed B.named B.method).1
  subst hsz
  have hD := hD0.self (sz := s.heap.size)
  generalize hAe : va_A [(h0, .inr (0, [.null, .null, .null, .null, .int 0]))] s.heap.size = A at hD ⊢
  have hA : ∀ q : Nat, s.heap.size ≤ q → A q := fun q h => by rw [← hAe]; exact Or.inr h
  have hS : va_S A s.heap s.heap [] := va_S.rf
  have hP : va_P G vwCl [(h0, .inr (0, [.null, .null, .null, .null, .int 0]))] s.heap := hP
  have hin_X0 : ∀ w ∈ wsX00, w ∈ wsX0_init := by decide +kernel
  have hl := lv_entry ([.ref h0]) (n := 1) (Nat.le_of_ble_eq_true rfl)
  rw [lg_entry_eq]
  generalize (lg_sl ([.ref h0]) ++ List.replicate (1 - (lg_sl ([.ref h0])).length) Slot.unset).toArray = ls at hl ⊢
  have hl : lv_has ls 1 [(0, .ref h0)] := hl
  refine lv_aload_n hx hb dX0_init_0 rfl (lv_at hl 0 rfl) ?_
  refine W.objInit hx hb hown (hts (.methodLink RX0 3 objectInit) (by decide +kernel)) (hts (.instanceMethod objectInit) (by decide +kernel)) (hts _ (List.mem_cons_of_mem _ (List.mem_append_left _ (List.mem_of_getElem? (i := 2) rfl)))) rfl (by rw [hml]; exact hl.1) rfl dX0_init_1 (Nat.le_of_ble_eq_true rfl) (Nat.le_of_ble_eq_true rfl) ?_
  refine W.eq (g2 := F0 m 4 ls []) rfl ?_
  refine lv_aload_n hx hb dX0_init_4 rfl (lv_at hl 0 rfl) ?_
  refine lv_bipush (v := 12) hx hb dX0_init_5 (by decide) ?_
  refine ml_newa (atype := .int) (a0 := (12, .inl (fun _ => (0 : Int32)))) hx hb (hts (.arrayClass .int) (by decide +kernel)) rfl (Or.inl rfl) 0 0 (by decide) rfl hK hP hD hS hA (fun _ => rfl) (by decide) (N' := 12) (by decide) (Nat.le_of_ble_eq_true rfl) (Nat.le_of_ble_eq_true rfl) (Nat.le_of_ble_eq_true rfl) dX0_init_7 (fun q7 H hP hD hS => ?_)
  have hP : va_P G vwCl [(h0, .inr (0, [.null, .null, .null, .null, .int 0])), (q7, .inl (cy 0, 12, .inl (fun _ => (0 : Int32))))] H := hP
  have hD : va_D A [(h0, .inr (0, [.null, .null, .null, .null, .int 0])), (q7, .inl (cy 0, 12, .inl (fun _ => (0 : Int32))))] := hD
  refine W.widen (k := 1) (n := 12) (Nat.le_of_ble_eq_true rfl) (Nat.le_of_ble_eq_true rfl) ?_
  refine va_putF (D := G) (ci := 0) (v := .ref q7) (ty := .array .int) (C := RX0) (T := TX0) (N := 5) hx hb hts hin_X0 tyX0 tyX0_ok nmX0 hown hK hP hD hS 0 rfl rfl 0 (by decide) (hts (.fieldLink RX0 9 "Migrationledger$ChangeList" "kinds" "[I") (by decide +kernel)) (fun _ h9 => h9) rfl hin rfl (by decide +kernel) rfl rfl (Nat.le_of_ble_eq_true rfl) dX0_init_9 (fun H locs hP hD hS => ?_)
  have hP : va_P G vwCl [(h0, .inr (0, [.ref q7, .null, .null, .null, .int 0])), (q7, .inl (cy 0, 12, .inl (fun _ => (0 : Int32))))] H := hP
  have hD : va_D A [(h0, .inr (0, [.ref q7, .null, .null, .null, .int 0])), (q7, .inl (cy 0, 12, .inl (fun _ => (0 : Int32))))] := hD
  refine lv_aload_n hx hb dX0_init_12 rfl (lv_at hl 0 rfl) ?_
  refine lv_bipush (v := 12) hx hb dX0_init_13 (by decide) ?_
  refine ml_newa (atype := .int) (a0 := (12, .inl (fun _ => (0 : Int32)))) hx hb (hts (.arrayClass .int) (by decide +kernel)) rfl (Or.inl rfl) 0 0 (by decide) rfl hK hP hD hS hA (fun _ => rfl) (by decide) (N' := 12) (by decide) (Nat.le_of_ble_eq_true rfl) (Nat.le_of_ble_eq_true rfl) (Nat.le_of_ble_eq_true rfl) dX0_init_15 (fun q15 H hP hD hS => ?_)
  have hP : va_P G vwCl [(h0, .inr (0, [.ref q7, .null, .null, .null, .int 0])), (q7, .inl (cy 0, 12, .inl (fun _ => (0 : Int32)))), (q15, .inl (cy 0, 12, .inl (fun _ => (0 : Int32))))] H := hP
  have hD : va_D A [(h0, .inr (0, [.ref q7, .null, .null, .null, .int 0])), (q7, .inl (cy 0, 12, .inl (fun _ => (0 : Int32)))), (q15, .inl (cy 0, 12, .inl (fun _ => (0 : Int32))))] := hD
  refine W.widen (k := 2) (n := 24) (Nat.le_of_ble_eq_true rfl) (Nat.le_of_ble_eq_true rfl) ?_
  refine va_putF (D := G) (ci := 0) (v := .ref q15) (ty := .array .int) (C := RX0) (T := TX0) (N := 5) hx hb hts hin_X0 tyX0 tyX0_ok nmX0 hown hK hP hD hS 0 rfl rfl 1 (by decide) (hts (.fieldLink RX0 15 "Migrationledger$ChangeList" "columns" "[I") (by decide +kernel)) (fun _ h9 => h9) rfl hin rfl (by decide +kernel) rfl rfl (Nat.le_of_ble_eq_true rfl) dX0_init_17 (fun H locs hP hD hS => ?_)
  have hP : va_P G vwCl [(h0, .inr (0, [.ref q7, .ref q15, .null, .null, .int 0])), (q7, .inl (cy 0, 12, .inl (fun _ => (0 : Int32)))), (q15, .inl (cy 0, 12, .inl (fun _ => (0 : Int32))))] H := hP
  have hD : va_D A [(h0, .inr (0, [.ref q7, .ref q15, .null, .null, .int 0])), (q7, .inl (cy 0, 12, .inl (fun _ => (0 : Int32)))), (q15, .inl (cy 0, 12, .inl (fun _ => (0 : Int32))))] := hD
  refine lv_aload_n hx hb dX0_init_20 rfl (lv_at hl 0 rfl) ?_
  refine lv_bipush (v := 12) hx hb dX0_init_21 (by decide) ?_
  refine ml_newa (atype := .int) (a0 := (12, .inl (fun _ => (0 : Int32)))) hx hb (hts (.arrayClass .int) (by decide +kernel)) rfl (Or.inl rfl) 0 0 (by decide) rfl hK hP hD hS hA (fun _ => rfl) (by decide) (N' := 12) (by decide) (Nat.le_of_ble_eq_true rfl) (Nat.le_of_ble_eq_true rfl) (Nat.le_of_ble_eq_true rfl) dX0_init_23 (fun q23 H hP hD hS => ?_)
  have hP : va_P G vwCl [(h0, .inr (0, [.ref q7, .ref q15, .null, .null, .int 0])), (q7, .inl (cy 0, 12, .inl (fun _ => (0 : Int32)))), (q15, .inl (cy 0, 12, .inl (fun _ => (0 : Int32)))), (q23, .inl (cy 0, 12, .inl (fun _ => (0 : Int32))))] H := hP
  have hD : va_D A [(h0, .inr (0, [.ref q7, .ref q15, .null, .null, .int 0])), (q7, .inl (cy 0, 12, .inl (fun _ => (0 : Int32)))), (q15, .inl (cy 0, 12, .inl (fun _ => (0 : Int32)))), (q23, .inl (cy 0, 12, .inl (fun _ => (0 : Int32))))] := hD
  refine W.widen (k := 3) (n := 36) (Nat.le_of_ble_eq_true rfl) (Nat.le_of_ble_eq_true rfl) ?_
  refine va_putF (D := G) (ci := 0) (v := .ref q23) (ty := .array .int) (C := RX0) (T := TX0) (N := 5) hx hb hts hin_X0 tyX0 tyX0_ok nmX0 hown hK hP hD hS 0 rfl rfl 2 (by decide) (hts (.fieldLink RX0 18 "Migrationledger$ChangeList" "operands" "[I") (by decide +kernel)) (fun _ h9 => h9) rfl hin rfl (by decide +kernel) rfl rfl (Nat.le_of_ble_eq_true rfl) dX0_init_25 (fun H locs hP hD hS => ?_)
  have hP : va_P G vwCl [(h0, .inr (0, [.ref q7, .ref q15, .ref q23, .null, .int 0])), (q7, .inl (cy 0, 12, .inl (fun _ => (0 : Int32)))), (q15, .inl (cy 0, 12, .inl (fun _ => (0 : Int32)))), (q23, .inl (cy 0, 12, .inl (fun _ => (0 : Int32))))] H := hP
  have hD : va_D A [(h0, .inr (0, [.ref q7, .ref q15, .ref q23, .null, .int 0])), (q7, .inl (cy 0, 12, .inl (fun _ => (0 : Int32)))), (q15, .inl (cy 0, 12, .inl (fun _ => (0 : Int32)))), (q23, .inl (cy 0, 12, .inl (fun _ => (0 : Int32))))] := hD
  refine lv_aload_n hx hb dX0_init_28 rfl (lv_at hl 0 rfl) ?_
  refine lv_bipush (v := 12) hx hb dX0_init_29 (by decide) ?_
  refine ml_newa (atype := .int) (a0 := (12, .inl (fun _ => (0 : Int32)))) hx hb (hts (.arrayClass .int) (by decide +kernel)) rfl (Or.inl rfl) 0 0 (by decide) rfl hK hP hD hS hA (fun _ => rfl) (by decide) (N' := 12) (by decide) (Nat.le_of_ble_eq_true rfl) (Nat.le_of_ble_eq_true rfl) (Nat.le_of_ble_eq_true rfl) dX0_init_31 (fun q31 H hP hD hS => ?_)
  have hP : va_P G vwCl [(h0, .inr (0, [.ref q7, .ref q15, .ref q23, .null, .int 0])), (q7, .inl (cy 0, 12, .inl (fun _ => (0 : Int32)))), (q15, .inl (cy 0, 12, .inl (fun _ => (0 : Int32)))), (q23, .inl (cy 0, 12, .inl (fun _ => (0 : Int32)))), (q31, .inl (cy 0, 12, .inl (fun _ => (0 : Int32))))] H := hP
  have hD : va_D A [(h0, .inr (0, [.ref q7, .ref q15, .ref q23, .null, .int 0])), (q7, .inl (cy 0, 12, .inl (fun _ => (0 : Int32)))), (q15, .inl (cy 0, 12, .inl (fun _ => (0 : Int32)))), (q23, .inl (cy 0, 12, .inl (fun _ => (0 : Int32)))), (q31, .inl (cy 0, 12, .inl (fun _ => (0 : Int32))))] := hD
  refine W.widen (k := 4) (n := 48) (Nat.le_of_ble_eq_true rfl) (Nat.le_of_ble_eq_true rfl) ?_
  refine va_putF (D := G) (ci := 0) (v := .ref q31) (ty := .array .int) (C := RX0) (T := TX0) (N := 5) hx hb hts hin_X0 tyX0 tyX0_ok nmX0 hown hK hP hD hS 0 rfl rfl 3 (by decide) (hts (.fieldLink RX0 21 "Migrationledger$ChangeList" "recorded" "[I") (by decide +kernel)) (fun _ h9 => h9) rfl hin rfl (by decide +kernel) rfl rfl (Nat.le_of_ble_eq_true rfl) dX0_init_33 (fun H locs hP hD hS => ?_)
  have hP : va_P G vwCl [(h0, .inr (0, [.ref q7, .ref q15, .ref q23, .ref q31, .int 0])), (q7, .inl (cy 0, 12, .inl (fun _ => (0 : Int32)))), (q15, .inl (cy 0, 12, .inl (fun _ => (0 : Int32)))), (q23, .inl (cy 0, 12, .inl (fun _ => (0 : Int32)))), (q31, .inl (cy 0, 12, .inl (fun _ => (0 : Int32))))] H := hP
  have hD : va_D A [(h0, .inr (0, [.ref q7, .ref q15, .ref q23, .ref q31, .int 0])), (q7, .inl (cy 0, 12, .inl (fun _ => (0 : Int32)))), (q15, .inl (cy 0, 12, .inl (fun _ => (0 : Int32)))), (q23, .inl (cy 0, 12, .inl (fun _ => (0 : Int32)))), (q31, .inl (cy 0, 12, .inl (fun _ => (0 : Int32))))] := hD
  have hP9 := hP.sub (ws' := [(h0, .inr (0, [.ref q7, .ref q15, .ref q23, .ref q31, .int 0])), (q7, .inl (cy 0, 12, .inl (fun _ => (0 : Int32)))), (q15, .inl (cy 0, 12, .inl (fun _ => (0 : Int32)))), (q23, .inl (cy 0, 12, .inl (fun _ => (0 : Int32)))), (q31, .inl (cy 0, 12, .inl (fun _ => (0 : Int32))))]) [0, 1, 2, 3, 4] rfl
  have hD9 := hD.sub (ws' := [(h0, .inr (0, [.ref q7, .ref q15, .ref q23, .ref q31, .int 0])), (q7, .inl (cy 0, 12, .inl (fun _ => (0 : Int32)))), (q15, .inl (cy 0, 12, .inl (fun _ => (0 : Int32)))), (q23, .inl (cy 0, 12, .inl (fun _ => (0 : Int32)))), (q31, .inl (cy 0, 12, .inl (fun _ => (0 : Int32))))]) [0, 1, 2, 3, 4] (by decide) rfl
  exact W.vret hx hb hr (fun t ht hW => ⟨⟨(q7, q15, q23, q31), rfl, trivial, by rw [ht]; exact hP9, va_K.moved hW.alike hK, hD9⟩, hS.F ht⟩) hS.2.2 dX0_init_36
set_option maxHeartbeats 4000000 in
set_option maxRecDepth 100000 in
theorem c_X1_init (l : Launch) (G : va_G) (cy : Nat → ClassId) (h0 : Nat) (sz : Nat) : Met l yX1_init wsX1_init ({ frames := 1, cells := 1, slots := 4, locals := 12 } : Room) (ml_P G cy [.ref h0] [(h0, .inr (1, [.null, .int 0, .int 0, .int 0]))] sz) (va_Qv (fun u : Nat => True) (fun (u : Nat) (t : State) => va_P G vwCl [(h0, .inr (1, [.ref u, .int 0, .int (-1), .int 0])), (u, .inl (cy 2, 4, .inl z0))] t.heap ∧ va_K G vwCl (tyA cy) t ∧ va_D (va_A [(h0, .inr (1, [.null, .int 0, .int 0, .int 0]))] sz) [(h0, .inr (1, [.ref u, .int 0, .int (-1), .int 0])), (u, .inl (cy 2, 4, .inl z0))]) (va_A [(h0, .inr (1, [.null, .int 0, .int 0, .int 0]))] sz)) 1 4 (va_A [(h0, .inr (1, [.null, .int 0, .int 0, .int 0]))] sz) := by
  refine Met.ofW (cc := cX1_init) (maxL := 1) (ret := none) (by decide) rfl ?_
  intro p e s m args below meth c s₁ B hml hv
  obtain ⟨rfl, hsz, hP, hK, hD0, hN⟩ := hv
  have hx := B.exec
  have hb := B.bytes
  have hr := B.returns
  have hts := atoms_spec (ws := wsX1_init) B.pre
  have hown : s.vm.findClass RX1 = some m.cls := findClass_of_methodNamed B.named
  have hlocks := B.notSynchronized
  have hin : meth.name = "<init>" := (name_of_methodNamed B.named B.method).1
  subst hsz
  have hD := hD0.self (sz := s.heap.size)
  generalize hAe : va_A [(h0, .inr (1, [.null, .int 0, .int 0, .int 0]))] s.heap.size = A at hD ⊢
  have hA : ∀ q : Nat, s.heap.size ≤ q → A q := fun q h => by rw [← hAe]; exact Or.inr h
  have hS : va_S A s.heap s.heap [] := va_S.rf
  have hP : va_P G vwCl [(h0, .inr (1, [.null, .int 0, .int 0, .int 0]))] s.heap := hP
  have hin_X1 : ∀ w ∈ wsX10, w ∈ wsX1_init := by decide +kernel
  have hl := lv_entry ([.ref h0]) (n := 1) (Nat.le_of_ble_eq_true rfl)
  rw [lg_entry_eq]
  generalize (lg_sl ([.ref h0]) ++ List.replicate (1 - (lg_sl ([.ref h0])).length) Slot.unset).toArray = ls at hl ⊢
  have hl : lv_has ls 1 [(0, .ref h0)] := hl
  refine lv_aload_n hx hb dX1_init_0 rfl (lv_at hl 0 rfl) ?_
  refine W.objInit hx hb hown (hts (.methodLink RX1 3 objectInit) (by decide +kernel)) (hts (.instanceMethod objectInit) (by decide +kernel)) (hts _ (List.mem_cons_of_mem _ (List.mem_append_left _ (List.mem_of_getElem? (i := 2) rfl)))) rfl (by rw [hml]; exact hl.1) rfl dX1_init_1 (Nat.le_of_ble_eq_true rfl) (Nat.le_of_ble_eq_true rfl) ?_
  refine W.eq (g2 := F0 m 4 ls []) rfl ?_
  refine lv_aload_n hx hb dX1_init_4 rfl (lv_at hl 0 rfl) ?_
  refine lv_iconst (v := 4) hx hb dX1_init_5 (by decide) ?_
  refine ml_newa (atype := .boolean) (a0 := (4, .inl z0)) hx hb (hts (.arrayClass .boolean) (by decide +kernel)) rfl (Or.inr (Or.inr (Or.inl rfl))) 1 2 (by decide) rfl hK hP hD hS hA (fun _ => rfl) (by decide) (N' := 4) (by decide) (Nat.le_of_ble_eq_true rfl) (Nat.le_of_ble_eq_true rfl) (Nat.le_of_ble_eq_true rfl) dX1_init_6 (fun q6 H hP hD hS => ?_)
  have hP : va_P G vwCl [(h0, .inr (1, [.null, .int 0, .int 0, .int 0])), (q6, .inl (cy 2, 4, .inl z0))] H := hP
  have hD : va_D A [(h0, .inr (1, [.null, .int 0, .int 0, .int 0])), (q6, .inl (cy 2, 4, .inl z0))] := hD
  refine W.widen (k := 1) (n := 4) (Nat.le_of_ble_eq_true rfl) (Nat.le_of_ble_eq_true rfl) ?_
  refine va_putF (D := G) (ci := 1) (v := .ref q6) (ty := .array .boolean) (C := RX1) (T := TX1) (N := 4) hx hb hts hin_X1 tyX1 tyX1_ok nmX1 hown hK hP hD hS 0 rfl rfl 0 (by decide) (hts (.fieldLink RX1 9 "Migrationledger$Lock" "crashed" "[Z") (by decide +kernel)) (fun _ h9 => h9) rfl hin rfl (by decide +kernel) rfl rfl (Nat.le_of_ble_eq_true rfl) dX1_init_8 (fun H locs hP hD hS => ?_)
  have hP : va_P G vwCl [(h0, .inr (1, [.ref q6, .int 0, .int 0, .int 0])), (q6, .inl (cy 2, 4, .inl z0))] H := hP
  have hD : va_D A [(h0, .inr (1, [.ref q6, .int 0, .int 0, .int 0])), (q6, .inl (cy 2, 4, .inl z0))] := hD
  refine lv_aload_n hx hb dX1_init_11 rfl (lv_at hl 0 rfl) ?_
  refine lv_iconst (v := (-1)) hx hb dX1_init_12 (by decide) ?_
  refine va_put (D := G) (ci := 1) (v := .int (-1)) (ty := .int) (C := RX1) (T := TX1) (N := 4) hx hb hts hin_X1 tyX1 tyX1_ok nmX1 hown hK hP hD hS 0 rfl rfl 2 (by decide) (hts (.fieldLink RX1 15 "Migrationledger$Lock" "taker" "I") (by decide +kernel)) (fun _ h9 => h9) rfl (by decide +kernel) rfl rfl (Nat.le_of_ble_eq_true rfl) dX1_init_13 (fun H locs hP hD hS => ?_)
  have hP : va_P G vwCl [(h0, .inr (1, [.ref q6, .int 0, .int (-1), .int 0])), (q6, .inl (cy 2, 4, .inl z0))] H := hP
  have hD : va_D A [(h0, .inr (1, [.ref q6, .int 0, .int (-1), .int 0])), (q6, .inl (cy 2, 4, .inl z0))] := hD
  have hP9 := hP.sub (ws' := [(h0, .inr (1, [.ref q6, .int 0, .int (-1), .int 0])), (q6, .inl (cy 2, 4, .inl z0))]) [0, 1] rfl
  have hD9 := hD.sub (ws' := [(h0, .inr (1, [.ref q6, .int 0, .int (-1), .int 0])), (q6, .inl (cy 2, 4, .inl z0))]) [0, 1] (by decide) rfl
  exact W.vret hx hb hr (fun t ht hW => ⟨⟨q6, rfl, trivial, by rw [ht]; exact hP9, va_K.moved hW.alike hK, hD9⟩, hS.F ht⟩) hS.2.2 dX1_init_16
set_option maxHeartbeats 4000000 in
set_option maxRecDepth 100000 in
theorem c_X2_init (l : Launch) (G : va_G) (cy : Nat → ClassId) (h0 : Nat) (sz : Nat) : Met l yX2_init wsX2_init ({ frames := 1, cells := 2, slots := 160, locals := 13 } : Room) (ml_P G cy [.ref h0] [(h0, .inr (2, [.null, .null]))] sz) (va_Qv (fun u : Nat × Nat => True) (fun (u : Nat × Nat) (t : State) => va_P G vwCl [(h0, .inr (2, [.ref u.1, .ref u.2])), (u.1, .inl (cy 0, 120, .inl (fun _ => (0 : Int32)))), (u.2, .inl (cy 0, 40, .inl (vI 40)))] t.heap ∧ va_K G vwCl (tyA cy) t ∧ va_D (va_A [(h0, .inr (2, [.null, .null]))] sz) [(h0, .inr (2, [.ref u.1, .ref u.2])), (u.1, .inl (cy 0, 120, .inl (fun _ => (0 : Int32)))), (u.2, .inl (cy 0, 40, .inl (vI 40)))]) (va_A [(h0, .inr (2, [.null, .null]))] sz)) 2 160 (va_A [(h0, .inr (2, [.null, .null]))] sz) := by
  refine Met.ofW (cc := cX2_init) (maxL := 2) (ret := none) (by decide) rfl ?_
  intro p e s m args below meth c s₁ B hml hv
  obtain ⟨rfl, hsz, hP, hK, hD0, hN⟩ := hv
  have hx := B.exec
  have hb := B.bytes
  have hr := B.returns
  have hts := atoms_spec (ws := wsX2_init) B.pre
  have hown : s.vm.findClass RX2 = some m.cls := findClass_of_methodNamed B.named
  have hlocks := B.notSynchronized
  have hin : meth.name = "<init>" := (name_of_methodNamed B.named B.method).1
  subst hsz
  have hD := hD0.self (sz := s.heap.size)
  generalize hAe : va_A [(h0, .inr (2, [.null, .null]))] s.heap.size = A at hD ⊢
  have hA : ∀ q : Nat, s.heap.size ≤ q → A q := fun q h => by rw [← hAe]; exact Or.inr h
  have hS : va_S A s.heap s.heap [] := va_S.rf
  have hP : va_P G vwCl [(h0, .inr (2, [.null, .null]))] s.heap := hP
  have hin_X2 : ∀ w ∈ wsX20, w ∈ wsX2_init := by decide +kernel
  have hl := lv_entry ([.ref h0]) (n := 2) (Nat.le_of_ble_eq_true rfl)
  rw [lg_entry_eq]
  generalize (lg_sl ([.ref h0]) ++ List.replicate (2 - (lg_sl ([.ref h0])).length) Slot.unset).toArray = ls at hl ⊢
  have hl : lv_has ls 2 [(0, .ref h0)] := hl
  refine lv_aload_n hx hb dX2_init_0 rfl (lv_at hl 0 rfl) ?_
  refine W.objInit hx hb hown (hts (.methodLink RX2 3 objectInit) (by decide +kernel)) (hts (.instanceMethod objectInit) (by decide +kernel)) (hts _ (List.mem_cons_of_mem _ (List.mem_append_left _ (List.mem_of_getElem? (i := 2) rfl)))) rfl (by rw [hml]; exact hl.1) rfl dX2_init_1 (Nat.le_of_ble_eq_true rfl) (Nat.le_of_ble_eq_true rfl) ?_
  refine W.eq (g2 := F0 m 4 ls []) rfl ?_
  refine lv_aload_n hx hb dX2_init_4 rfl (lv_at hl 0 rfl) ?_
  refine lv_bipush (v := 120) hx hb dX2_init_5 (by decide) ?_
  refine ml_newa (atype := .int) (a0 := (120, .inl (fun _ => (0 : Int32)))) hx hb (hts (.arrayClass .int) (by decide +kernel)) rfl (Or.inl rfl) 0 0 (by decide) rfl hK hP hD hS hA (fun _ => rfl) (by decide) (N' := 120) (by decide) (Nat.le_of_ble_eq_true rfl) (Nat.le_of_ble_eq_true rfl) (Nat.le_of_ble_eq_true rfl) dX2_init_7 (fun q7 H hP hD hS => ?_)
  have hP : va_P G vwCl [(h0, .inr (2, [.null, .null])), (q7, .inl (cy 0, 120, .inl (fun _ => (0 : Int32))))] H := hP
  have hD : va_D A [(h0, .inr (2, [.null, .null])), (q7, .inl (cy 0, 120, .inl (fun _ => (0 : Int32))))] := hD
  refine W.widen (k := 1) (n := 120) (Nat.le_of_ble_eq_true rfl) (Nat.le_of_ble_eq_true rfl) ?_
  refine va_putF (D := G) (ci := 2) (v := .ref q7) (ty := .array .int) (C := RX2) (T := TX2) (N := 2) hx hb hts hin_X2 tyX2 tyX2_ok nmX2 hown hK hP hD hS 0 rfl rfl 0 (by decide) (hts (.fieldLink RX2 9 "Migrationledger$Table" "cells" "[I") (by decide +kernel)) (fun _ h9 => h9) rfl hin rfl (by decide +kernel) rfl rfl (Nat.le_of_ble_eq_true rfl) dX2_init_9 (fun H locs hP hD hS => ?_)
  have hP : va_P G vwCl [(h0, .inr (2, [.ref q7, .null])), (q7, .inl (cy 0, 120, .inl (fun _ => (0 : Int32))))] H := hP
  have hD : va_D A [(h0, .inr (2, [.ref q7, .null])), (q7, .inl (cy 0, 120, .inl (fun _ => (0 : Int32))))] := hD
  refine lv_aload_n hx hb dX2_init_12 rfl (lv_at hl 0 rfl) ?_
  refine lv_bipush (v := 40) hx hb dX2_init_13 (by decide) ?_
  refine ml_newa (atype := .int) (a0 := (40, .inl (fun _ => (0 : Int32)))) hx hb (hts (.arrayClass .int) (by decide +kernel)) rfl (Or.inl rfl) 0 0 (by decide) rfl hK hP hD hS hA (fun _ => rfl) (by decide) (N' := 40) (by decide) (Nat.le_of_ble_eq_true rfl) (Nat.le_of_ble_eq_true rfl) (Nat.le_of_ble_eq_true rfl) dX2_init_15 (fun q15 H hP hD hS => ?_)
  have hP : va_P G vwCl [(h0, .inr (2, [.ref q7, .null])), (q7, .inl (cy 0, 120, .inl (fun _ => (0 : Int32)))), (q15, .inl (cy 0, 40, .inl (fun _ => (0 : Int32))))] H := hP
  have hD : va_D A [(h0, .inr (2, [.ref q7, .null])), (q7, .inl (cy 0, 120, .inl (fun _ => (0 : Int32)))), (q15, .inl (cy 0, 40, .inl (fun _ => (0 : Int32))))] := hD
  refine W.widen (k := 2) (n := 160) (Nat.le_of_ble_eq_true rfl) (Nat.le_of_ble_eq_true rfl) ?_
  refine va_putF (D := G) (ci := 2) (v := .ref q15) (ty := .array .int) (C := RX2) (T := TX2) (N := 2) hx hb hts hin_X2 tyX2 tyX2_ok nmX2 hown hK hP hD hS 0 rfl rfl 1 (by decide) (hts (.fieldLink RX2 15 "Migrationledger$Table" "versions" "[I") (by decide +kernel)) (fun _ h9 => h9) rfl hin rfl (by decide +kernel) rfl rfl (Nat.le_of_ble_eq_true rfl) dX2_init_17 (fun H locs hP hD hS => ?_)
  have hP : va_P G vwCl [(h0, .inr (2, [.ref q7, .ref q15])), (q7, .inl (cy 0, 120, .inl (fun _ => (0 : Int32)))), (q15, .inl (cy 0, 40, .inl (fun _ => (0 : Int32))))] H := hP
  have hD : va_D A [(h0, .inr (2, [.ref q7, .ref q15])), (q7, .inl (cy 0, 120, .inl (fun _ => (0 : Int32)))), (q15, .inl (cy 0, 40, .inl (fun _ => (0 : Int32))))] := hD
  refine lv_iconst (v := 0) hx hb dX2_init_20 (by decide) ?_
  refine lv_istore_n (lv' := [(1, .int 0), (0, .ref h0)]) hx hb dX2_init_21 rfl hl (by decide) rfl (fun ls hl => ?_)
  have LOOP : ∀ (r : Nat) (i : Nat) (hi : i + r = 40) (H : Heap) (locs : List Loc) (ls : Array Slot), va_P G vwCl [(h0, .inr (2, [.ref q7, .ref q15])), (q7, .inl (cy 0, 120, .inl (fun _ => (0 : Int32)))), (q15, .inl (cy 0, 40, .inl (vI i)))] H → va_D A [(h0, .inr (2, [.ref q7, .ref q15])), (q7, .inl (cy 0, 120, .inl (fun _ => (0 : Int32)))), (q15, .inl (cy 0, 40, .inl (vI i)))] → va_S A s.heap H locs → lv_has ls 2 [(1, .int (nI i)), (0, .ref h0)] → W p l e (headSpec wsX2_init ({ frames := 1, cells := 2, slots := 160, locals := 13 } : Room)).room s m (#[.ref h0] : Array Value) below meth c H locs 2 160 (MQ below (va_Qv (fun u : Nat × Nat => True) (fun (u : Nat × Nat) (t : State) => va_P G vwCl [(h0, .inr (2, [.ref u.1, .ref u.2])), (u.1, .inl (cy 0, 120, .inl (fun _ => (0 : Int32)))), (u.2, .inl (cy 0, 40, .inl (vI 40)))] t.heap ∧ va_K G vwCl (tyA cy) t ∧ va_D A [(h0, .inr (2, [.ref u.1, .ref u.2])), (u.1, .inl (cy 0, 120, .inl (fun _ => (0 : Int32)))), (u.2, .inl (cy 0, 40, .inl (vI 40)))]) A) (#[.ref h0] : Array Value) s 2 160 A) (F0 m 22 ls []) := by
    intro r
    induction r with
    | zero =>
      intro i hi H locs ls hP hD hS hl
      obtain rfl : i = 40 := by omega
      refine lv_iload_n hx hb dX2_init_22 rfl (lv_at hl 0 rfl) ?_
      refine lv_bipush (v := 40) hx hb dX2_init_23 (by decide) ?_
      refine lv_icmp_ge (tgt := 41) hx hb dX2_init_25 (by decide) (fun c_9 => ?_) (fun c_9 => False.elim (c_9 (nI_le (Nat.le_refl 40) (by decide))))
      have hP9 := hP.sub (ws' := [(h0, .inr (2, [.ref q7, .ref q15])), (q7, .inl (cy 0, 120, .inl (fun _ => (0 : Int32)))), (q15, .inl (cy 0, 40, .inl (vI 40)))]) [0, 1, 2] rfl
      have hD9 := hD.sub (ws' := [(h0, .inr (2, [.ref q7, .ref q15])), (q7, .inl (cy 0, 120, .inl (fun _ => (0 : Int32)))), (q15, .inl (cy 0, 40, .inl (vI 40)))]) [0, 1, 2] (by decide) rfl
      exact W.vret hx hb hr (fun t ht hW => ⟨⟨(q7, q15), rfl, trivial, by rw [ht]; exact hP9, va_K.moved hW.alike hK, hD9⟩, hS.F ht⟩) hS.2.2 dX2_init_41
    | succ r ih =>
      intro i hi H locs ls hP hD hS hl
      refine lv_iload_n hx hb dX2_init_22 rfl (lv_at hl 0 rfl) ?_
      refine lv_bipush (v := 40) hx hb dX2_init_23 (by decide) ?_
      refine lv_icmp_ge (tgt := 41) hx hb dX2_init_25 (by decide) (fun c_9 => absurd (show nI 40 ≤ nI i from c_9) (nI_ge (a := i) (b := 40) (by omega) (by decide))) (fun c_9 => ?_)
      refine lv_aload_n hx hb dX2_init_28 rfl (lv_at hl 1 rfl) ?_
      refine va_get (D := G) (ci := 2) (v := .ref q15) (C := RX2) (T := TX2) (N := 2) hx hb hts hin_X2 hown hK hP 0 rfl rfl 1 (by decide) (hts (.fieldLink RX2 15 "Migrationledger$Table" "versions" "[I") (by decide +kernel)) (fun _ h9 => h9) rfl dX2_init_29 ?_
      refine lv_iload_n hx hb dX2_init_32 rfl (lv_at hl 0 rfl) ?_
      refine lv_iconst (v := (-1)) hx hb dX2_init_33 (by decide) ?_
      refine ml_iast hx hb hK hP hD hS 2 0 rfl rfl i rfl (by omega) (Nat.le_of_ble_eq_true rfl) dX2_init_34 (fun H locs hP hD hS => ?_)
      rw [vI_s] at hP hD
      have hP : va_P G vwCl [(h0, .inr (2, [.ref q7, .ref q15])), (q7, .inl (cy 0, 120, .inl (fun _ => (0 : Int32)))), (q15, .inl (cy 0, 40, .inl (vI (i + 1))))] H := hP
      have hD : va_D A [(h0, .inr (2, [.ref q7, .ref q15])), (q7, .inl (cy 0, 120, .inl (fun _ => (0 : Int32)))), (q15, .inl (cy 0, 40, .inl (vI (i + 1))))] := hD
      refine lv_iinc (v := nI (i + 1)) (lv' := [(1, .int (nI (i + 1))), (0, .ref h0)]) hx hb dX2_init_35 hl (k := 0) rfl (nI_1 i) (by decide) rfl (fun ls hl => ?_)
      refine lv_goto (tgt := 22) hx hb dX2_init_38 (by decide) ?_
      exact ih (i + 1) (by omega) H locs ls hP hD hS hl
  exact LOOP 40 0 (by omega) _ _ _ (by rw [← vI_0]; exact hP) (by rw [← vI_0]; exact hD) hS hl
set_option maxHeartbeats 4000000 in
set_option maxRecDepth 100000 in
theorem c_X3_init (l : Launch) (G : va_G) (cy : Nat → ClassId) (h0 : Nat) (sz : Nat) : Met l yX3_init wsX3_init ({ frames := 2, cells := 11, slots := 226, locals := 34 } : Room) (ml_P G cy [.ref h0] [(h0, .inr (3, [.null, .null, .null, .null, .int 0, .int 0, .int 0]))] sz) (va_Qv (fun u : Nat → Nat => u 0 = h0) (fun (u : Nat → Nat) (t : State) => va_P G vwCl (wC u cy TSI z0) t.heap ∧ va_K G vwCl (tyA cy) t ∧ va_D (va_A [(h0, .inr (3, [.null, .null, .null, .null, .int 0, .int 0, .int 0]))] sz) (wC u cy TSI z0)) (va_A [(h0, .inr (3, [.null, .null, .null, .null, .int 0, .int 0, .int 0]))] sz)) 11 226 (va_A [(h0, .inr (3, [.null, .null, .null, .null, .int 0, .int 0, .int 0]))] sz) := by
  refine Met.ofW (cc := cX3_init) (maxL := 1) (ret := none) (by decide) rfl ?_
  intro p e s m args below meth c s₁ B hml hv
  obtain ⟨rfl, hsz, hP, hK, hD0, hN⟩ := hv
  have hx := B.exec
  have hb := B.bytes
  have hr := B.returns
  have hts := atoms_spec (ws := wsX3_init) B.pre
  have hown : s.vm.findClass RX3 = some m.cls := findClass_of_methodNamed B.named
  have hlocks := B.notSynchronized
  have hin : meth.name = "<init>" := (name_of_methodNamed B.named B.method).1
  subst hsz
  have hD := hD0.self (sz := s.heap.size)
  generalize hAe : va_A [(h0, .inr (3, [.null, .null, .null, .null, .int 0, .int 0, .int 0]))] s.heap.size = A at hD ⊢
  have hA : ∀ q : Nat, s.heap.size ≤ q → A q := fun q h => by rw [← hAe]; exact Or.inr h
  have hS : va_S A s.heap s.heap [] := va_S.rf
  have hP : va_P G vwCl [(h0, .inr (3, [.null, .null, .null, .null, .int 0, .int 0, .int 0]))] s.heap := hP
  have hin_X0 : ∀ w ∈ wsX00, w ∈ wsX3_init := by decide +kernel
  have hin_X1 : ∀ w ∈ wsX10, w ∈ wsX3_init := by decide +kernel
  have hin_X2 : ∀ w ∈ wsX20, w ∈ wsX3_init := by decide +kernel
  have hin_X3 : ∀ w ∈ wsX30, w ∈ wsX3_init := by decide +kernel
  have hl := lv_entry ([.ref h0]) (n := 1) (Nat.le_of_ble_eq_true rfl)
  rw [lg_entry_eq]
  generalize (lg_sl ([.ref h0]) ++ List.replicate (1 - (lg_sl ([.ref h0])).length) Slot.unset).toArray = ls at hl ⊢
  have hl : lv_has ls 1 [(0, .ref h0)] := hl
  refine lv_aload_n hx hb dX3_init_0 rfl (lv_at hl 0 rfl) ?_
  refine W.objInit hx hb hown (hts (.methodLink RX3 1 objectInit) (by decide +kernel)) (hts (.instanceMethod objectInit) (by decide +kernel)) (hts _ (List.mem_cons_of_mem _ (List.mem_append_left _ (List.mem_append_left _ (List.mem_append_left _ (List.mem_append_left _ (List.mem_append_left _ (List.mem_of_getElem? (i := 2) rfl)))))))) rfl (by rw [hml]; exact hl.1) rfl dX3_init_1 (Nat.le_of_ble_eq_true rfl) (Nat.le_of_ble_eq_true rfl) ?_
  refine W.eq (g2 := F0 m 4 ls []) rfl ?_
  refine lv_aload_n hx hb dX3_init_4 rfl (lv_at hl 0 rfl) ?_
  refine va_new (ci := 0) (fs := [.null, .null, .null, .null, .int 0]) (C := RX0) (T := TX0) (N := 5) hx hb hts hin_X0 tyX0 tyX0_ok hown (hts (.classLink RX3 7 RX0) (by decide +kernel)) (hts (.instantiable RX0 5) (by decide +kernel)) (hts (.initialized RX0) (by decide +kernel)) hK hP hD hS hA rfl (fun j hj => by rcases (show j = 0 ∨ j = 1 ∨ j = 2 ∨ j = 3 ∨ j = 4 by omega) with rfl | rfl | rfl | rfl | rfl <;> rfl) (Nat.le_of_ble_eq_true rfl) (Nat.le_of_ble_eq_true rfl) dX3_init_5 (fun q5 H hP hD hS => ?_)
  have hP : va_P G vwCl [(h0, .inr (3, [.null, .null, .null, .null, .int 0, .int 0, .int 0])), (q5, .inr (0, [.null, .null, .null, .null, .int 0]))] H := hP
  have hD : va_D A [(h0, .inr (3, [.null, .null, .null, .null, .int 0, .int 0, .int 0])), (q5, .inr (0, [.null, .null, .null, .null, .int 0]))] := hD
  refine W.widen (k := 1) (n := 5) (Nat.le_of_ble_eq_true rfl) (Nat.le_of_ble_eq_true rfl) ?_
  refine lv_dup hx hb dX3_init_8 rfl ?_
  have hPc := hP.sub (ws' := [(q5, .inr (0, [.null, .null, .null, .null, .int 0]))]) [1] rfl
  have hDc := hD.sub (ws' := [(q5, .inr (0, [.null, .null, .null, .null, .int 0]))]) [1] (by decide) rfl
  have hFc := va_free (wc := [(q5, .inr (0, [.null, .null, .null, .null, .int 0]))]) hD hS hA [1] rfl
  refine va_callv (va_runIN (As := []) (rest := [.ref q5, .ref h0]) ⟨hx, hb, hml, hown, hts⟩ (c_X0_init l G cy q5 H.size) ⟨va_cnB 0 hts gX3_init_X0_init_n9 rfl rfl rfl hN.2.1 (hts (.initialized RX0) (by decide +kernel)) (by decide +kernel) ⟨Nat.le_of_ble_eq_true rfl, Nat.le_of_ble_eq_true rfl⟩, rfl, hts (.instanceMethod yX0_init) (by decide +kernel)⟩ ⟨ml_blind, fun U hU hW => ⟨rfl, by rw [hU], by rw [hU]; exact hPc, va_K.moved hW.alike hK, hDc.weaken (fun _ _ _ _ => trivial), ml_N.warm hW hN⟩⟩ rfl rfl hl.1 rfl (lv_room (Nat.le_of_ble_eq_true rfl)) dX3_init_9 ⟨Nat.le_of_ble_eq_true rfl, Nat.le_of_ble_eq_true rfl⟩) hS (fun q _ h => hFc q h) hFc (fun u9 t H1 locs ht hvm hw hB hz1 hk1 hS => ?_)
  obtain ⟨v9_0, v9_1, v9_2, v9_3⟩ := u9
  obtain ⟨hP1, hK1, hD1⟩ := hB
  rw [ht] at hP1
  obtain ⟨hP, hD⟩ := va_join (wr := [(h0, .inr (3, [.null, .null, .null, .null, .int 0, .int 0, .int 0]))]) (w1 := [(q5, .inr (0, [.ref v9_0, .ref v9_1, .ref v9_2, .ref v9_3, .int 0])), (v9_0, .inl (cy 0, 12, .inl (fun _ => (0 : Int32)))), (v9_1, .inl (cy 0, 12, .inl (fun _ => (0 : Int32)))), (v9_2, .inl (cy 0, 12, .inl (fun _ => (0 : Int32)))), (v9_3, .inl (cy 0, 12, .inl (fun _ => (0 : Int32))))]) hP hD [1] [0] rfl rfl (by decide) (by decide) hk1 hFc hP1 hD1
  generalize H1 = H at hP hS ⊢
  have hP : va_P G vwCl [(h0, .inr (3, [.null, .null, .null, .null, .int 0, .int 0, .int 0])), (q5, .inr (0, [.ref v9_0, .ref v9_1, .ref v9_2, .ref v9_3, .int 0])), (v9_0, .inl (cy 0, 12, .inl (fun _ => (0 : Int32)))), (v9_1, .inl (cy 0, 12, .inl (fun _ => (0 : Int32)))), (v9_2, .inl (cy 0, 12, .inl (fun _ => (0 : Int32)))), (v9_3, .inl (cy 0, 12, .inl (fun _ => (0 : Int32))))] H := hP
  have hD : va_D A [(h0, .inr (3, [.null, .null, .null, .null, .int 0, .int 0, .int 0])), (q5, .inr (0, [.ref v9_0, .ref v9_1, .ref v9_2, .ref v9_3, .int 0])), (v9_0, .inl (cy 0, 12, .inl (fun _ => (0 : Int32)))), (v9_1, .inl (cy 0, 12, .inl (fun _ => (0 : Int32)))), (v9_2, .inl (cy 0, 12, .inl (fun _ => (0 : Int32)))), (v9_3, .inl (cy 0, 12, .inl (fun _ => (0 : Int32))))] := hD
  refine W.widen (k := 5) (n := 53) (Nat.le_of_ble_eq_true rfl) (Nat.le_of_ble_eq_true rfl) ?_
  refine va_putF (D := G) (ci := 3) (v := .ref q5) (ty := .object "Migrationledger$ChangeList") (C := RX3) (T := TX3) (N := 7) hx hb hts hin_X3 tyX3 tyX3_ok nmX3 hown hK hP hD hS 0 rfl rfl 0 (by decide) (hts (.fieldLink RX3 10 "Migrationledger" "list" "LMigrationledger$ChangeList;") (by decide +kernel)) (fun _ h9 => h9) rfl hin rfl (by decide +kernel) rfl rfl (Nat.le_of_ble_eq_true rfl) dX3_init_12 (fun H locs hP hD hS => ?_)
  have hP : va_P G vwCl [(h0, .inr (3, [.ref q5, .null, .null, .null, .int 0, .int 0, .int 0])), (q5, .inr (0, [.ref v9_0, .ref v9_1, .ref v9_2, .ref v9_3, .int 0])), (v9_0, .inl (cy 0, 12, .inl (fun _ => (0 : Int32)))), (v9_1, .inl (cy 0, 12, .inl (fun _ => (0 : Int32)))), (v9_2, .inl (cy 0, 12, .inl (fun _ => (0 : Int32)))), (v9_3, .inl (cy 0, 12, .inl (fun _ => (0 : Int32))))] H := hP
  have hD : va_D A [(h0, .inr (3, [.ref q5, .null, .null, .null, .int 0, .int 0, .int 0])), (q5, .inr (0, [.ref v9_0, .ref v9_1, .ref v9_2, .ref v9_3, .int 0])), (v9_0, .inl (cy 0, 12, .inl (fun _ => (0 : Int32)))), (v9_1, .inl (cy 0, 12, .inl (fun _ => (0 : Int32)))), (v9_2, .inl (cy 0, 12, .inl (fun _ => (0 : Int32)))), (v9_3, .inl (cy 0, 12, .inl (fun _ => (0 : Int32))))] := hD
  refine lv_aload_n hx hb dX3_init_15 rfl (lv_at hl 0 rfl) ?_
  refine va_new (ci := 2) (fs := [.null, .null]) (C := RX2) (T := TX2) (N := 2) hx hb hts hin_X2 tyX2 tyX2_ok hown (hts (.classLink RX3 16 RX2) (by decide +kernel)) (hts (.instantiable RX2 2) (by decide +kernel)) (hts (.initialized RX2) (by decide +kernel)) hK hP hD hS hA rfl (fun j hj => by rcases (show j = 0 ∨ j = 1 by omega) with rfl | rfl <;> rfl) (Nat.le_of_ble_eq_true rfl) (Nat.le_of_ble_eq_true rfl) dX3_init_16 (fun q16 H hP hD hS => ?_)
  have hP : va_P G vwCl [(h0, .inr (3, [.ref q5, .null, .null, .null, .int 0, .int 0, .int 0])), (q5, .inr (0, [.ref v9_0, .ref v9_1, .ref v9_2, .ref v9_3, .int 0])), (v9_0, .inl (cy 0, 12, .inl (fun _ => (0 : Int32)))), (v9_1, .inl (cy 0, 12, .inl (fun _ => (0 : Int32)))), (v9_2, .inl (cy 0, 12, .inl (fun _ => (0 : Int32)))), (v9_3, .inl (cy 0, 12, .inl (fun _ => (0 : Int32)))), (q16, .inr (2, [.null, .null]))] H := hP
  have hD : va_D A [(h0, .inr (3, [.ref q5, .null, .null, .null, .int 0, .int 0, .int 0])), (q5, .inr (0, [.ref v9_0, .ref v9_1, .ref v9_2, .ref v9_3, .int 0])), (v9_0, .inl (cy 0, 12, .inl (fun _ => (0 : Int32)))), (v9_1, .inl (cy 0, 12, .inl (fun _ => (0 : Int32)))), (v9_2, .inl (cy 0, 12, .inl (fun _ => (0 : Int32)))), (v9_3, .inl (cy 0, 12, .inl (fun _ => (0 : Int32)))), (q16, .inr (2, [.null, .null]))] := hD
  refine W.widen (k := 6) (n := 55) (Nat.le_of_ble_eq_true rfl) (Nat.le_of_ble_eq_true rfl) ?_
  refine lv_dup hx hb dX3_init_19 rfl ?_
  have hPc := hP.sub (ws' := [(q16, .inr (2, [.null, .null]))]) [6] rfl
  have hDc := hD.sub (ws' := [(q16, .inr (2, [.null, .null]))]) [6] (by decide) rfl
  have hFc := va_free (wc := [(q16, .inr (2, [.null, .null]))]) hD hS hA [6] rfl
  refine va_callv (va_runI (As := []) (rest := [.ref q16, .ref h0]) ⟨hx, hb, hml, hown, hts⟩ (c_X2_init l G cy q16 H.size) (cwI 0 hts gX3_init_X2_init rfl rfl rfl (hts (.initialized RX2) (by decide +kernel)) (hts (.methodLink RX3 18 yX2_init) (by decide +kernel)) (hts (.instanceMethod yX2_init) (by decide +kernel)) rfl (by decide +kernel) ⟨Nat.le_of_ble_eq_true rfl, Nat.le_of_ble_eq_true rfl⟩) ⟨ml_blind, fun U hU hW => ⟨rfl, by rw [hU], by rw [hU]; exact hPc, va_K.moved hW.alike hK, hDc.weaken (fun _ _ _ _ => trivial), ml_N.warm hW hN⟩⟩ rfl rfl hl.1 rfl (lv_room (Nat.le_of_ble_eq_true rfl)) dX3_init_20 ⟨Nat.le_of_ble_eq_true rfl, Nat.le_of_ble_eq_true rfl⟩) hS (fun q _ h => hFc q h) hFc (fun u20 t H1 locs ht hvm hw hB hz1 hk1 hS => ?_)
  obtain ⟨v20_0, v20_1⟩ := u20
  obtain ⟨hP1, hK1, hD1⟩ := hB
  rw [ht] at hP1
  obtain ⟨hP, hD⟩ := va_join (wr := [(h0, .inr (3, [.ref q5, .null, .null, .null, .int 0, .int 0, .int 0])), (q5, .inr (0, [.ref v9_0, .ref v9_1, .ref v9_2, .ref v9_3, .int 0])), (v9_0, .inl (cy 0, 12, .inl (fun _ => (0 : Int32)))), (v9_1, .inl (cy 0, 12, .inl (fun _ => (0 : Int32)))), (v9_2, .inl (cy 0, 12, .inl (fun _ => (0 : Int32)))), (v9_3, .inl (cy 0, 12, .inl (fun _ => (0 : Int32))))]) (w1 := [(q16, .inr (2, [.ref v20_0, .ref v20_1])), (v20_0, .inl (cy 0, 120, .inl (fun _ => (0 : Int32)))), (v20_1, .inl (cy 0, 40, .inl (vI 40)))]) hP hD [6] [0, 1, 2, 3, 4, 5] rfl rfl (by decide) (by decide) hk1 hFc hP1 hD1
  generalize H1 = H at hP hS ⊢
  have hP : va_P G vwCl [(h0, .inr (3, [.ref q5, .null, .null, .null, .int 0, .int 0, .int 0])), (q5, .inr (0, [.ref v9_0, .ref v9_1, .ref v9_2, .ref v9_3, .int 0])), (v9_0, .inl (cy 0, 12, .inl (fun _ => (0 : Int32)))), (v9_1, .inl (cy 0, 12, .inl (fun _ => (0 : Int32)))), (v9_2, .inl (cy 0, 12, .inl (fun _ => (0 : Int32)))), (v9_3, .inl (cy 0, 12, .inl (fun _ => (0 : Int32)))), (q16, .inr (2, [.ref v20_0, .ref v20_1])), (v20_0, .inl (cy 0, 120, .inl (fun _ => (0 : Int32)))), (v20_1, .inl (cy 0, 40, .inl (vI 40)))] H := hP
  have hD : va_D A [(h0, .inr (3, [.ref q5, .null, .null, .null, .int 0, .int 0, .int 0])), (q5, .inr (0, [.ref v9_0, .ref v9_1, .ref v9_2, .ref v9_3, .int 0])), (v9_0, .inl (cy 0, 12, .inl (fun _ => (0 : Int32)))), (v9_1, .inl (cy 0, 12, .inl (fun _ => (0 : Int32)))), (v9_2, .inl (cy 0, 12, .inl (fun _ => (0 : Int32)))), (v9_3, .inl (cy 0, 12, .inl (fun _ => (0 : Int32)))), (q16, .inr (2, [.ref v20_0, .ref v20_1])), (v20_0, .inl (cy 0, 120, .inl (fun _ => (0 : Int32)))), (v20_1, .inl (cy 0, 40, .inl (vI 40)))] := hD
  refine W.widen (k := 8) (n := 215) (Nat.le_of_ble_eq_true rfl) (Nat.le_of_ble_eq_true rfl) ?_
  refine va_putF (D := G) (ci := 3) (v := .ref q16) (ty := .object "Migrationledger$Table") (C := RX3) (T := TX3) (N := 7) hx hb hts hin_X3 tyX3 tyX3_ok nmX3 hown hK hP hD hS 0 rfl rfl 1 (by decide) (hts (.fieldLink RX3 19 "Migrationledger" "table" "LMigrationledger$Table;") (by decide +kernel)) (fun _ h9 => h9) rfl hin rfl (by decide +kernel) rfl rfl (Nat.le_of_ble_eq_true rfl) dX3_init_23 (fun H locs hP hD hS => ?_)
  have hP : va_P G vwCl [(h0, .inr (3, [.ref q5, .ref q16, .null, .null, .int 0, .int 0, .int 0])), (q5, .inr (0, [.ref v9_0, .ref v9_1, .ref v9_2, .ref v9_3, .int 0])), (v9_0, .inl (cy 0, 12, .inl (fun _ => (0 : Int32)))), (v9_1, .inl (cy 0, 12, .inl (fun _ => (0 : Int32)))), (v9_2, .inl (cy 0, 12, .inl (fun _ => (0 : Int32)))), (v9_3, .inl (cy 0, 12, .inl (fun _ => (0 : Int32)))), (q16, .inr (2, [.ref v20_0, .ref v20_1])), (v20_0, .inl (cy 0, 120, .inl (fun _ => (0 : Int32)))), (v20_1, .inl (cy 0, 40, .inl (vI 40)))] H := hP
  have hD : va_D A [(h0, .inr (3, [.ref q5, .ref q16, .null, .null, .int 0, .int 0, .int 0])), (q5, .inr (0, [.ref v9_0, .ref v9_1, .ref v9_2, .ref v9_3, .int 0])), (v9_0, .inl (cy 0, 12, .inl (fun _ => (0 : Int32)))), (v9_1, .inl (cy 0, 12, .inl (fun _ => (0 : Int32)))), (v9_2, .inl (cy 0, 12, .inl (fun _ => (0 : Int32)))), (v9_3, .inl (cy 0, 12, .inl (fun _ => (0 : Int32)))), (q16, .inr (2, [.ref v20_0, .ref v20_1])), (v20_0, .inl (cy 0, 120, .inl (fun _ => (0 : Int32)))), (v20_1, .inl (cy 0, 40, .inl (vI 40)))] := hD
  refine lv_aload_n hx hb dX3_init_26 rfl (lv_at hl 0 rfl) ?_
  refine va_new (ci := 1) (fs := [.null, .int 0, .int 0, .int 0]) (C := RX1) (T := TX1) (N := 4) hx hb hts hin_X1 tyX1 tyX1_ok hown (hts (.classLink RX3 23 RX1) (by decide +kernel)) (hts (.instantiable RX1 4) (by decide +kernel)) (hts (.initialized RX1) (by decide +kernel)) hK hP hD hS hA rfl (fun j hj => by rcases (show j = 0 ∨ j = 1 ∨ j = 2 ∨ j = 3 by omega) with rfl | rfl | rfl | rfl <;> rfl) (Nat.le_of_ble_eq_true rfl) (Nat.le_of_ble_eq_true rfl) dX3_init_27 (fun q27 H hP hD hS => ?_)
  have hP : va_P G vwCl [(h0, .inr (3, [.ref q5, .ref q16, .null, .null, .int 0, .int 0, .int 0])), (q5, .inr (0, [.ref v9_0, .ref v9_1, .ref v9_2, .ref v9_3, .int 0])), (v9_0, .inl (cy 0, 12, .inl (fun _ => (0 : Int32)))), (v9_1, .inl (cy 0, 12, .inl (fun _ => (0 : Int32)))), (v9_2, .inl (cy 0, 12, .inl (fun _ => (0 : Int32)))), (v9_3, .inl (cy 0, 12, .inl (fun _ => (0 : Int32)))), (q16, .inr (2, [.ref v20_0, .ref v20_1])), (v20_0, .inl (cy 0, 120, .inl (fun _ => (0 : Int32)))), (v20_1, .inl (cy 0, 40, .inl (vI 40))), (q27, .inr (1, [.null, .int 0, .int 0, .int 0]))] H := hP
  have hD : va_D A [(h0, .inr (3, [.ref q5, .ref q16, .null, .null, .int 0, .int 0, .int 0])), (q5, .inr (0, [.ref v9_0, .ref v9_1, .ref v9_2, .ref v9_3, .int 0])), (v9_0, .inl (cy 0, 12, .inl (fun _ => (0 : Int32)))), (v9_1, .inl (cy 0, 12, .inl (fun _ => (0 : Int32)))), (v9_2, .inl (cy 0, 12, .inl (fun _ => (0 : Int32)))), (v9_3, .inl (cy 0, 12, .inl (fun _ => (0 : Int32)))), (q16, .inr (2, [.ref v20_0, .ref v20_1])), (v20_0, .inl (cy 0, 120, .inl (fun _ => (0 : Int32)))), (v20_1, .inl (cy 0, 40, .inl (vI 40))), (q27, .inr (1, [.null, .int 0, .int 0, .int 0]))] := hD
  refine W.widen (k := 9) (n := 219) (Nat.le_of_ble_eq_true rfl) (Nat.le_of_ble_eq_true rfl) ?_
  refine lv_dup hx hb dX3_init_30 rfl ?_
  have hPc := hP.sub (ws' := [(q27, .inr (1, [.null, .int 0, .int 0, .int 0]))]) [9] rfl
  have hDc := hD.sub (ws' := [(q27, .inr (1, [.null, .int 0, .int 0, .int 0]))]) [9] (by decide) rfl
  have hFc := va_free (wc := [(q27, .inr (1, [.null, .int 0, .int 0, .int 0]))]) hD hS hA [9] rfl
  refine va_callv (va_runIN (As := []) (rest := [.ref q27, .ref h0]) ⟨hx, hb, hml, hown, hts⟩ (c_X1_init l G cy q27 H.size) ⟨va_cnB 0 hts gX3_init_X1_init_n25 rfl rfl rfl hN.2.2 (hts (.initialized RX1) (by decide +kernel)) (by decide +kernel) ⟨Nat.le_of_ble_eq_true rfl, Nat.le_of_ble_eq_true rfl⟩, rfl, hts (.instanceMethod yX1_init) (by decide +kernel)⟩ ⟨ml_blind, fun U hU hW => ⟨rfl, by rw [hU], by rw [hU]; exact hPc, va_K.moved hW.alike hK, hDc.weaken (fun _ _ _ _ => trivial), ml_N.warm hW hN⟩⟩ rfl rfl hl.1 rfl (lv_room (Nat.le_of_ble_eq_true rfl)) dX3_init_31 ⟨Nat.le_of_ble_eq_true rfl, Nat.le_of_ble_eq_true rfl⟩) hS (fun q _ h => hFc q h) hFc (fun u31 t H1 locs ht hvm hw hB hz1 hk1 hS => ?_)
  obtain ⟨hP1, hK1, hD1⟩ := hB
  rw [ht] at hP1
  obtain ⟨hP, hD⟩ := va_join (wr := [(h0, .inr (3, [.ref q5, .ref q16, .null, .null, .int 0, .int 0, .int 0])), (q5, .inr (0, [.ref v9_0, .ref v9_1, .ref v9_2, .ref v9_3, .int 0])), (v9_0, .inl (cy 0, 12, .inl (fun _ => (0 : Int32)))), (v9_1, .inl (cy 0, 12, .inl (fun _ => (0 : Int32)))), (v9_2, .inl (cy 0, 12, .inl (fun _ => (0 : Int32)))), (v9_3, .inl (cy 0, 12, .inl (fun _ => (0 : Int32)))), (q16, .inr (2, [.ref v20_0, .ref v20_1])), (v20_0, .inl (cy 0, 120, .inl (fun _ => (0 : Int32)))), (v20_1, .inl (cy 0, 40, .inl (vI 40)))]) (w1 := [(q27, .inr (1, [.ref u31, .int 0, .int (-1), .int 0])), (u31, .inl (cy 2, 4, .inl z0))]) hP hD [9] [0, 1, 2, 3, 4, 5, 6, 7, 8] rfl rfl (by decide) (by decide) hk1 hFc hP1 hD1
  generalize H1 = H at hP hS ⊢
  have hP : va_P G vwCl [(h0, .inr (3, [.ref q5, .ref q16, .null, .null, .int 0, .int 0, .int 0])), (q5, .inr (0, [.ref v9_0, .ref v9_1, .ref v9_2, .ref v9_3, .int 0])), (v9_0, .inl (cy 0, 12, .inl (fun _ => (0 : Int32)))), (v9_1, .inl (cy 0, 12, .inl (fun _ => (0 : Int32)))), (v9_2, .inl (cy 0, 12, .inl (fun _ => (0 : Int32)))), (v9_3, .inl (cy 0, 12, .inl (fun _ => (0 : Int32)))), (q16, .inr (2, [.ref v20_0, .ref v20_1])), (v20_0, .inl (cy 0, 120, .inl (fun _ => (0 : Int32)))), (v20_1, .inl (cy 0, 40, .inl (vI 40))), (q27, .inr (1, [.ref u31, .int 0, .int (-1), .int 0])), (u31, .inl (cy 2, 4, .inl z0))] H := hP
  have hD : va_D A [(h0, .inr (3, [.ref q5, .ref q16, .null, .null, .int 0, .int 0, .int 0])), (q5, .inr (0, [.ref v9_0, .ref v9_1, .ref v9_2, .ref v9_3, .int 0])), (v9_0, .inl (cy 0, 12, .inl (fun _ => (0 : Int32)))), (v9_1, .inl (cy 0, 12, .inl (fun _ => (0 : Int32)))), (v9_2, .inl (cy 0, 12, .inl (fun _ => (0 : Int32)))), (v9_3, .inl (cy 0, 12, .inl (fun _ => (0 : Int32)))), (q16, .inr (2, [.ref v20_0, .ref v20_1])), (v20_0, .inl (cy 0, 120, .inl (fun _ => (0 : Int32)))), (v20_1, .inl (cy 0, 40, .inl (vI 40))), (q27, .inr (1, [.ref u31, .int 0, .int (-1), .int 0])), (u31, .inl (cy 2, 4, .inl z0))] := hD
  refine W.widen (k := 10) (n := 223) (Nat.le_of_ble_eq_true rfl) (Nat.le_of_ble_eq_true rfl) ?_
  refine va_putF (D := G) (ci := 3) (v := .ref q27) (ty := .object "Migrationledger$Lock") (C := RX3) (T := TX3) (N := 7) hx hb hts hin_X3 tyX3 tyX3_ok nmX3 hown hK hP hD hS 0 rfl rfl 2 (by decide) (hts (.fieldLink RX3 26 "Migrationledger" "lock" "LMigrationledger$Lock;") (by decide +kernel)) (fun _ h9 => h9) rfl hin rfl (by decide +kernel) rfl rfl (Nat.le_of_ble_eq_true rfl) dX3_init_34 (fun H locs hP hD hS => ?_)
  have hP : va_P G vwCl [(h0, .inr (3, [.ref q5, .ref q16, .ref q27, .null, .int 0, .int 0, .int 0])), (q5, .inr (0, [.ref v9_0, .ref v9_1, .ref v9_2, .ref v9_3, .int 0])), (v9_0, .inl (cy 0, 12, .inl (fun _ => (0 : Int32)))), (v9_1, .inl (cy 0, 12, .inl (fun _ => (0 : Int32)))), (v9_2, .inl (cy 0, 12, .inl (fun _ => (0 : Int32)))), (v9_3, .inl (cy 0, 12, .inl (fun _ => (0 : Int32)))), (q16, .inr (2, [.ref v20_0, .ref v20_1])), (v20_0, .inl (cy 0, 120, .inl (fun _ => (0 : Int32)))), (v20_1, .inl (cy 0, 40, .inl (vI 40))), (q27, .inr (1, [.ref u31, .int 0, .int (-1), .int 0])), (u31, .inl (cy 2, 4, .inl z0))] H := hP
  have hD : va_D A [(h0, .inr (3, [.ref q5, .ref q16, .ref q27, .null, .int 0, .int 0, .int 0])), (q5, .inr (0, [.ref v9_0, .ref v9_1, .ref v9_2, .ref v9_3, .int 0])), (v9_0, .inl (cy 0, 12, .inl (fun _ => (0 : Int32)))), (v9_1, .inl (cy 0, 12, .inl (fun _ => (0 : Int32)))), (v9_2, .inl (cy 0, 12, .inl (fun _ => (0 : Int32)))), (v9_3, .inl (cy 0, 12, .inl (fun _ => (0 : Int32)))), (q16, .inr (2, [.ref v20_0, .ref v20_1])), (v20_0, .inl (cy 0, 120, .inl (fun _ => (0 : Int32)))), (v20_1, .inl (cy 0, 40, .inl (vI 40))), (q27, .inr (1, [.ref u31, .int 0, .int (-1), .int 0])), (u31, .inl (cy 2, 4, .inl z0))] := hD
  refine lv_aload_n hx hb dX3_init_37 rfl (lv_at hl 0 rfl) ?_
  refine lv_iconst (v := 3) hx hb dX3_init_38 (by decide) ?_
  refine ml_newa (atype := .int) (a0 := (3, .inl (fun _ => (0 : Int32)))) hx hb (hts (.arrayClass .int) (by decide +kernel)) rfl (Or.inl rfl) 0 0 (by decide) rfl hK hP hD hS hA (fun _ => rfl) (by decide) (N' := 3) (by decide) (Nat.le_of_ble_eq_true rfl) (Nat.le_of_ble_eq_true rfl) (Nat.le_of_ble_eq_true rfl) dX3_init_39 (fun q39 H hP hD hS => ?_)
  have hP : va_P G vwCl [(h0, .inr (3, [.ref q5, .ref q16, .ref q27, .null, .int 0, .int 0, .int 0])), (q5, .inr (0, [.ref v9_0, .ref v9_1, .ref v9_2, .ref v9_3, .int 0])), (v9_0, .inl (cy 0, 12, .inl (fun _ => (0 : Int32)))), (v9_1, .inl (cy 0, 12, .inl (fun _ => (0 : Int32)))), (v9_2, .inl (cy 0, 12, .inl (fun _ => (0 : Int32)))), (v9_3, .inl (cy 0, 12, .inl (fun _ => (0 : Int32)))), (q16, .inr (2, [.ref v20_0, .ref v20_1])), (v20_0, .inl (cy 0, 120, .inl (fun _ => (0 : Int32)))), (v20_1, .inl (cy 0, 40, .inl (vI 40))), (q27, .inr (1, [.ref u31, .int 0, .int (-1), .int 0])), (u31, .inl (cy 2, 4, .inl z0)), (q39, .inl (cy 0, 3, .inl (fun _ => (0 : Int32))))] H := hP
  have hD : va_D A [(h0, .inr (3, [.ref q5, .ref q16, .ref q27, .null, .int 0, .int 0, .int 0])), (q5, .inr (0, [.ref v9_0, .ref v9_1, .ref v9_2, .ref v9_3, .int 0])), (v9_0, .inl (cy 0, 12, .inl (fun _ => (0 : Int32)))), (v9_1, .inl (cy 0, 12, .inl (fun _ => (0 : Int32)))), (v9_2, .inl (cy 0, 12, .inl (fun _ => (0 : Int32)))), (v9_3, .inl (cy 0, 12, .inl (fun _ => (0 : Int32)))), (q16, .inr (2, [.ref v20_0, .ref v20_1])), (v20_0, .inl (cy 0, 120, .inl (fun _ => (0 : Int32)))), (v20_1, .inl (cy 0, 40, .inl (vI 40))), (q27, .inr (1, [.ref u31, .int 0, .int (-1), .int 0])), (u31, .inl (cy 2, 4, .inl z0)), (q39, .inl (cy 0, 3, .inl (fun _ => (0 : Int32))))] := hD
  refine W.widen (k := 11) (n := 226) (Nat.le_of_ble_eq_true rfl) (Nat.le_of_ble_eq_true rfl) ?_
  refine va_putF (D := G) (ci := 3) (v := .ref q39) (ty := .array .int) (C := RX3) (T := TX3) (N := 7) hx hb hts hin_X3 tyX3 tyX3_ok nmX3 hown hK hP hD hS 0 rfl rfl 3 (by decide) (hts (.fieldLink RX3 30 "Migrationledger" "tried" "[I") (by decide +kernel)) (fun _ h9 => h9) rfl hin rfl (by decide +kernel) rfl rfl (Nat.le_of_ble_eq_true rfl) dX3_init_41 (fun H locs hP hD hS => ?_)
  have hP : va_P G vwCl [(h0, .inr (3, [.ref q5, .ref q16, .ref q27, .ref q39, .int 0, .int 0, .int 0])), (q5, .inr (0, [.ref v9_0, .ref v9_1, .ref v9_2, .ref v9_3, .int 0])), (v9_0, .inl (cy 0, 12, .inl (fun _ => (0 : Int32)))), (v9_1, .inl (cy 0, 12, .inl (fun _ => (0 : Int32)))), (v9_2, .inl (cy 0, 12, .inl (fun _ => (0 : Int32)))), (v9_3, .inl (cy 0, 12, .inl (fun _ => (0 : Int32)))), (q16, .inr (2, [.ref v20_0, .ref v20_1])), (v20_0, .inl (cy 0, 120, .inl (fun _ => (0 : Int32)))), (v20_1, .inl (cy 0, 40, .inl (vI 40))), (q27, .inr (1, [.ref u31, .int 0, .int (-1), .int 0])), (u31, .inl (cy 2, 4, .inl z0)), (q39, .inl (cy 0, 3, .inl (fun _ => (0 : Int32))))] H := hP
  have hD : va_D A [(h0, .inr (3, [.ref q5, .ref q16, .ref q27, .ref q39, .int 0, .int 0, .int 0])), (q5, .inr (0, [.ref v9_0, .ref v9_1, .ref v9_2, .ref v9_3, .int 0])), (v9_0, .inl (cy 0, 12, .inl (fun _ => (0 : Int32)))), (v9_1, .inl (cy 0, 12, .inl (fun _ => (0 : Int32)))), (v9_2, .inl (cy 0, 12, .inl (fun _ => (0 : Int32)))), (v9_3, .inl (cy 0, 12, .inl (fun _ => (0 : Int32)))), (q16, .inr (2, [.ref v20_0, .ref v20_1])), (v20_0, .inl (cy 0, 120, .inl (fun _ => (0 : Int32)))), (v20_1, .inl (cy 0, 40, .inl (vI 40))), (q27, .inr (1, [.ref u31, .int 0, .int (-1), .int 0])), (u31, .inl (cy 2, 4, .inl z0)), (q39, .inl (cy 0, 3, .inl (fun _ => (0 : Int32))))] := hD
  refine lv_aload_n hx hb dX3_init_44 rfl (lv_at hl 0 rfl) ?_
  refine lv_iconst (v := 0) hx hb dX3_init_45 (by decide) ?_
  refine va_put (D := G) (ci := 3) (v := .int 0) (ty := .int) (C := RX3) (T := TX3) (N := 7) hx hb hts hin_X3 tyX3 tyX3_ok nmX3 hown hK hP hD hS 0 rfl rfl 5 (by decide) (hts (.fieldLink RX3 34 "Migrationledger" "phase" "I") (by decide +kernel)) (fun _ h9 => h9) rfl (by decide +kernel) rfl rfl (Nat.le_of_ble_eq_true rfl) dX3_init_46 (fun H locs hP hD hS => ?_)
  have hP : va_P G vwCl [(h0, .inr (3, [.ref q5, .ref q16, .ref q27, .ref q39, .int 0, .int 0, .int 0])), (q5, .inr (0, [.ref v9_0, .ref v9_1, .ref v9_2, .ref v9_3, .int 0])), (v9_0, .inl (cy 0, 12, .inl (fun _ => (0 : Int32)))), (v9_1, .inl (cy 0, 12, .inl (fun _ => (0 : Int32)))), (v9_2, .inl (cy 0, 12, .inl (fun _ => (0 : Int32)))), (v9_3, .inl (cy 0, 12, .inl (fun _ => (0 : Int32)))), (q16, .inr (2, [.ref v20_0, .ref v20_1])), (v20_0, .inl (cy 0, 120, .inl (fun _ => (0 : Int32)))), (v20_1, .inl (cy 0, 40, .inl (vI 40))), (q27, .inr (1, [.ref u31, .int 0, .int (-1), .int 0])), (u31, .inl (cy 2, 4, .inl z0)), (q39, .inl (cy 0, 3, .inl (fun _ => (0 : Int32))))] H := hP
  have hD : va_D A [(h0, .inr (3, [.ref q5, .ref q16, .ref q27, .ref q39, .int 0, .int 0, .int 0])), (q5, .inr (0, [.ref v9_0, .ref v9_1, .ref v9_2, .ref v9_3, .int 0])), (v9_0, .inl (cy 0, 12, .inl (fun _ => (0 : Int32)))), (v9_1, .inl (cy 0, 12, .inl (fun _ => (0 : Int32)))), (v9_2, .inl (cy 0, 12, .inl (fun _ => (0 : Int32)))), (v9_3, .inl (cy 0, 12, .inl (fun _ => (0 : Int32)))), (q16, .inr (2, [.ref v20_0, .ref v20_1])), (v20_0, .inl (cy 0, 120, .inl (fun _ => (0 : Int32)))), (v20_1, .inl (cy 0, 40, .inl (vI 40))), (q27, .inr (1, [.ref u31, .int 0, .int (-1), .int 0])), (u31, .inl (cy 2, 4, .inl z0)), (q39, .inl (cy 0, 3, .inl (fun _ => (0 : Int32))))] := hD
  have hP9 := hP.sub (ws' := (wC (fun k => [h0, q5, q16, q27, q39, v9_0, v9_1, v9_2, v9_3, v20_0, v20_1, u31].getD k 0) cy TSI z0)) [0, 1, 6, 9, 11, 2, 3, 4, 5, 7, 8, 10] rfl
  have hD9 := hD.sub (ws' := (wC (fun k => [h0, q5, q16, q27, q39, v9_0, v9_1, v9_2, v9_3, v20_0, v20_1, u31].getD k 0) cy TSI z0)) [0, 1, 6, 9, 11, 2, 3, 4, 5, 7, 8, 10] (by decide) rfl
  exact W.vret hx hb hr (fun t ht hW => ⟨⟨(fun k => [h0, q5, q16, q27, q39, v9_0, v9_1, v9_2, v9_3, v20_0, v20_1, u31].getD k 0), rfl, rfl, by rw [ht]; exact hP9, va_K.moved hW.alike hK, hD9⟩, hS.F ht⟩) hS.2.2 dX3_init_49
