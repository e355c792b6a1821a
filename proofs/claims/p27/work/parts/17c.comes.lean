set_option maxHeartbeats 8000000 in
set_option maxRecDepth 100000 in
theorem c_L_comes (l : Launch) (hlt : l.stackTraces = false) (G : va_G) (cy : Nat → ClassId) (a : Nat → Nat) (sz : Nat) (T : TS) (tr : Nat → Int32) (x : Int32) (y : Int32) (hI : Inv T) : Met l yL_comes wsL_comes ({ frames := 10, cells := 2401, slots := 14406, locals := 189 } : Room) (ml_PX G cy [.ref (a 0), .int x, .int y] (wC a cy T tr) sz) (va_Qi (fun (r : Int32) (u : TS × (Nat → Int32)) => Inv u.1) (ml_BZ G cy (va_A (wC a cy T tr) sz) (fun u : TS × (Nat → Int32) => (wC a cy u.1 u.2)) sz (fun _ => 0)) (va_A (wC a cy T tr) sz)) 2401 14406 (va_A (wC a cy T tr) sz) := by
  refine Met.ofW (cc := cL_comes) (maxL := 15) (ret := some .int) (by decide) rfl ?_
  intro p e s m args below meth c s₁ B hml hv
  obtain ⟨rfl, hsz, hP, hK, hD0, hN, hE⟩ := hv
  have hx := B.exec
  have hb := B.bytes
  have hr := B.returns
  have hts := atoms_spec (ws := wsL_comes) B.pre
  have hown : s.vm.findClass RL = some m.cls := findClass_of_methodNamed B.named
  have hlocks := B.notSynchronized
  subst hsz
  have hD := hD0.self (sz := s.heap.size)
  generalize hAe : va_A (wC a cy T tr) s.heap.size = A at hD hE ⊢
  have hA : ∀ q : Nat, s.heap.size ≤ q → A q := fun q h => by rw [← hAe]; exact Or.inr h
  have hS : va_S A s.heap s.heap [] := va_S.rf
  have hP : va_P G vwCl (wC a cy T tr) s.heap := hP
  have hl := lv_entry ([.ref (a 0), .int x, .int y]) (n := 15) (Nat.le_of_ble_eq_true rfl)
  rw [lg_entry_eq]
  generalize (lg_sl ([.ref (a 0), .int x, .int y]) ++ List.replicate (15 - (lg_sl ([.ref (a 0), .int x, .int y])).length) Slot.unset).toArray = ls at hl ⊢
  have hl : lv_has ls 15 [(0, .ref (a 0)), (1, .int x), (2, .int y)] := hl
  have hz : s.heap.size + 0 ≤ s.heap.size := Nat.le_refl _
  refine lv_iconst (v := 0) hx hb dL_comes_0 (by decide) ?_
  refine lv_istore_n (lv' := [(3, .int 0), (0, .ref (a 0)), (1, .int x), (2, .int y)]) hx hb dL_comes_1 rfl hl (by decide) rfl (fun ls hl => ?_)
  refine lv_iload_n hx hb dL_comes_2 rfl (lv_at hl 2 rfl) ?_
  refine lv_istore (lv' := [(4, .int x), (3, .int 0), (0, .ref (a 0)), (1, .int x), (2, .int y)]) hx hb dL_comes_3 hl (by decide) rfl (fun ls hl => ?_)
  refine lv_aload_n hx hb dL_comes_5 rfl (lv_at hl 2 rfl) ?_
  refine mo_SWz (G := G) (wr := ([] : va_W)) (As := [.ref (a 0)]) (rest := []) ⟨hx, hb, hml, hown, hts⟩ (c_L_cursor l hlt G cy a s.heap.size T tr hI) (vx_cwSW 1 hts gL_comes_L_cursor rfl rfl rfl (by decide +kernel) ⟨Nat.le_of_ble_eq_true rfl, Nat.le_of_ble_eq_true rfl⟩) hP hD hP hK hD hS hA [0, 1, 2, 3, 4, 5, 6, 7, 8, 9, 10, 11] [] rfl rfl (by decide) (by decide) hN hE rfl hl.1 (Nat.le_of_ble_eq_true rfl) dL_comes_6 ⟨by show _ ≤ (2401 : Nat); omega, by show _ ≤ (14406 : Nat); omega⟩ (fun r_6 u_6 H locs hw hP hD hS hz9 => ?_)
  obtain ⟨T_6, hT9⟩ : ∃ z, z = (sp_cursor T).2.2 := ⟨_, rfl⟩
  rw [← hT9] at hP hD
  have hI_6 : Inv T_6 := by rw [hT9]; exact inv_cursor hI
  have hP : va_P G vwCl (wC a cy T_6 u_6) H := hP
  have hD : va_D A (wC a cy T_6 u_6) := hD
  have hz : s.heap.size + 0 ≤ H.size := rz_0 hz hz9
  refine lv_istore (lv' := [(5, .int r_6), (4, .int x), (3, .int 0), (0, .ref (a 0)), (1, .int x), (2, .int y)]) hx hb dL_comes_9 hl (by decide) rfl (fun ls hl => ?_)
  refine lv_iconst (v := 0) hx hb dL_comes_11 (by decide) ?_
  refine lv_istore (lv' := [(6, .int 0), (5, .int r_6), (4, .int x), (3, .int 0), (0, .ref (a 0)), (1, .int x), (2, .int y)]) hx hb dL_comes_12 hl (by decide) rfl (fun ls hl => ?_)
  have LOOP14 : ∀ (r : Nat) (i : Nat) (T_1 : TS) (tr_2 : Nat → Int32) (hI_3 : Inv T_1) (v3 : Int32) (v4 : Int32) (v5 : Int32) (hi : i + r = 300) (H : Heap) (locs : List Loc) (ls : Array Slot), va_P G vwCl (wC a cy T_1 tr_2) H → va_D A (wC a cy T_1 tr_2) → va_S A s.heap H locs → s.heap.size + 0 ≤ H.size → lv_has ls 15 [(0, .ref (a 0)), (1, .int x), (2, .int y), (6, .int (nI i)), (3, .int v3), (4, .int v4), (5, .int v5)] → W p l e (headSpec wsL_comes ({ frames := 10, cells := 2401, slots := 14406, locals := 189 } : Room)).room s m (#[.ref (a 0), .int x, .int y] : Array Value) below meth c H locs (1 + 8 * i) (6 * (1 + 8 * i) + 0) (MQ below (va_Qi (fun (r : Int32) (u : TS × (Nat → Int32)) => Inv u.1) (ml_BZ G cy A (fun u : TS × (Nat → Int32) => (wC a cy u.1 u.2)) s.heap.size (fun _ => 0)) A) (#[.ref (a 0), .int x, .int y] : Array Value) s 2401 14406 A) (F0 m 14 ls []) := by
    intro r
    induction r with
    | zero =>
      intro i T_1 tr_2 hI_3 v3 v4 v5 hi H locs ls hP hD hS hz hl
      obtain rfl : i = 300 := by omega
      refine lv_iload hx hb dL_comes_14 (lv_at hl 3 rfl) ?_
      refine lv_sipush (v := 300) hx hb dL_comes_16 (by decide) ?_
      refine lv_icmp_ge (tgt := 283) hx hb dL_comes_19 (by decide) (fun c_19 => ?_) (fun c_19 => False.elim (c_19 ((nI_leI (a := 300) (b := 300) (by decide) (by decide)).mpr (Nat.le_refl 300))))
      refine lv_iload hx hb dL_comes_283 (lv_at hl 6 rfl) ?_
      refine lv_ldc hx hb hown (hts (.constant RL 18 (-2000000003)) (by decide +kernel)) dL_comes_285 ?_
      refine lv_icmp_ne (tgt := 294) hx hb dL_comes_287 (by decide) (fun c_287 => ?_) (fun c_287 => ?_)
      · refine lv_iconst (v := (-1)) hx hb dL_comes_294 (by decide) ?_
        refine W.widen (k := 2401) (n := 14406) (by omega) (by omega) ?_
        exact ml_riz (T_1, tr_2) hx hb hr hlocks hP hK hD hS rfl hI_3 (by show s.heap.size + 0 ≤ H.size; omega) dL_comes_295
      · refine lv_iload_n hx hb dL_comes_290 rfl (lv_at hl 4 rfl) ?_
        refine lv_goto (tgt := 295) hx hb dL_comes_291 (by decide) ?_
        refine W.widen (k := 2401) (n := 14406) (by omega) (by omega) ?_
        exact ml_riz (T_1, tr_2) hx hb hr hlocks hP hK hD hS rfl hI_3 (by show s.heap.size + 0 ≤ H.size; omega) dL_comes_295
    | succ r ih =>
      intro i T_1 tr_2 hI_3 v3 v4 v5 hi H locs ls hP hD hS hz hl
      refine lv_iload hx hb dL_comes_14 (lv_at hl 3 rfl) ?_
      refine lv_sipush (v := 300) hx hb dL_comes_16 (by decide) ?_
      refine lv_icmp_ge (tgt := 283) hx hb dL_comes_19 (by decide) (fun c_19 => False.elim (absurd ((nI_leI (a := 300) (by decide) (by omega)).mp c_19) (by omega))) (fun c_19 => ?_)
      refine lv_aload_n hx hb dL_comes_22 rfl (lv_at hl 0 rfl) ?_
      refine mo_SWz (G := G) (wr := ([] : va_W)) (As := [.ref (a 0)]) (rest := []) ⟨hx, hb, hml, hown, hts⟩ (c_L_cursor l hlt G cy a H.size T_1 tr_2 hI_3) (vx_cwSW 1 hts gL_comes_L_cursor rfl rfl rfl (by decide +kernel) ⟨Nat.le_of_ble_eq_true rfl, Nat.le_of_ble_eq_true rfl⟩) hP hD hP hK hD hS hA [0, 1, 2, 3, 4, 5, 6, 7, 8, 9, 10, 11] [] rfl rfl (by decide) (by decide) hN hE rfl hl.1 (Nat.le_of_ble_eq_true rfl) dL_comes_23 ⟨by show _ ≤ (2401 : Nat); omega, by show _ ≤ (14406 : Nat); omega⟩ (fun r_23 u_23 H locs hw hP hD hS hz9 => ?_)
      obtain ⟨T_23, hT9⟩ : ∃ z, z = (sp_cursor T_1).2.2 := ⟨_, rfl⟩
      rw [← hT9] at hP hD
      have hI_23 : Inv T_23 := by rw [hT9]; exact inv_cursor hI_3
      have hP : va_P G vwCl (wC a cy T_23 u_23) H := hP
      have hD : va_D A (wC a cy T_23 u_23) := hD
      have hz : s.heap.size + 0 ≤ H.size := rz_0 hz hz9
      refine lv_ldc hx hb hown (hts (.constant RL 18 (-2000000003)) (by decide +kernel)) dL_comes_26 ?_
      refine lv_icmp_ne (tgt := 33) hx hb dL_comes_28 (by decide) (fun c_28 => ?_) (fun c_28 => ?_)
      · refine lv_iload hx hb dL_comes_33 (lv_at hl 5 rfl) ?_
        refine lv_sipush (v := 1103) hx hb dL_comes_35 (by decide) ?_
        refine lv_imul hx hb dL_comes_38 ?_
        refine lv_sipush (v := 12345) hx hb dL_comes_39 (by decide) ?_
        refine lv_iadd hx hb dL_comes_42 ?_
        refine lv_ldc hx hb hown (hts (.constant RL 88 (2147483647)) (by decide +kernel)) dL_comes_43 ?_
        refine lv_iand hx hb dL_comes_45 ?_
        refine lv_istore (lv' := [(4, .int (((v4 * 1103) + 12345) &&& 2147483647)), (0, .ref (a 0)), (1, .int x), (2, .int y), (6, .int (nI i)), (3, .int v3), (5, .int v5)]) hx hb dL_comes_46 hl (by decide) rfl (fun ls hl => ?_)
        refine lv_aload_n hx hb dL_comes_48 rfl (lv_at hl 1 rfl) ?_
        refine mo_Ve (G := G) (wr := ([] : va_W)) (As := []) (rest := []) ⟨hx, hb, hml, hown, hts⟩ (c_X3_holder l G cy a H.size T_23 u_23 hI_23) (cwV 0 hts gL_comes_X3_holder rfl rfl rfl (by decide +kernel) ⟨Nat.le_of_ble_eq_true rfl, Nat.le_of_ble_eq_true rfl⟩) (va_recv hK hP (ci := 3) (q0 := 0) rfl rfl) hP hD hP hK hD hS hA [0, 1, 2, 3, 4, 5, 6, 7, 8, 9, 10, 11] [] rfl rfl (by decide) (by decide) hN rfl hl.1 (Nat.le_of_ble_eq_true rfl) dL_comes_49 ⟨by show _ ≤ (2401 : Nat); omega, by show _ ≤ (14406 : Nat); omega⟩ (fun r_49 u_49 H locs hw hP hD hS hz9 => ?_)
        have hP : va_P G vwCl (wC a cy T_23 u_23) H := hP
        have hD : va_D A (wC a cy T_23 u_23) := hD
        have hz : s.heap.size + 0 ≤ H.size := Nat.le_trans hz hz9
        obtain rfl : r_49 = owner T_23 := hw
        refine lv_istore (lv' := [(7, .int (owner T_23)), (4, .int (((v4 * 1103) + 12345) &&& 2147483647)), (0, .ref (a 0)), (1, .int x), (2, .int y), (6, .int (nI i)), (3, .int v3), (5, .int v5)]) hx hb dL_comes_52 hl (by decide) rfl (fun ls hl => ?_)
        refine lv_iload hx hb dL_comes_54 (lv_at hl 0 rfl) ?_
        have J92 : ∀ (T_4 : TS) (tr_5 : Nat → Int32) (hI_6 : Inv T_4) (v7 : Int32) (w4 : Int32) (H : Heap) (locs : List Loc) (ls : Array Slot), va_P G vwCl (wC a cy T_4 tr_5) H → va_D A (wC a cy T_4 tr_5) → va_S A s.heap H locs → s.heap.size + 0 ≤ H.size → lv_has ls 15 [(0, .ref (a 0)), (1, .int x), (2, .int y), (6, .int (nI i)), (3, .int v3), (5, .int v5), (7, .int v7), (4, .int w4)] → W p l e (headSpec wsL_comes ({ frames := 10, cells := 2401, slots := 14406, locals := 189 } : Room)).room s m (#[.ref (a 0), .int x, .int y] : Array Value) below meth c H locs (1 + 8 * i + 3) (6 * (1 + 8 * i + 3) + 0) (MQ below (va_Qi (fun (r : Int32) (u : TS × (Nat → Int32)) => Inv u.1) (ml_BZ G cy A (fun u : TS × (Nat → Int32) => (wC a cy u.1 u.2)) s.heap.size (fun _ => 0)) A) (#[.ref (a 0), .int x, .int y] : Array Value) s 2401 14406 A) (F0 m 92 ls []) := by
          intro T_4 tr_5 hI_6 v7 w4 H locs ls hP hD hS hz hl
          refine lv_iconst (v := 1) hx hb dL_comes_92 (by decide) ?_
          refine lv_iload hx hb dL_comes_93 (lv_at hl 7 rfl) ?_
          refine lv_sipush (v := 512) hx hb dL_comes_95 (by decide) ?_
          refine lv_idiv hx hb dL_comes_98 (by decide) ?_
          refine lv_bipush (v := 9) hx hb dL_comes_99 (by decide) ?_
          refine lv_irem hx hb dL_comes_101 (by decide) ?_
          refine lv_iadd hx hb dL_comes_102 ?_
          refine lv_istore (lv' := [(8, .int (1 + ((w4 / 512) - (w4 / 512) / 9 * 9))), (0, .ref (a 0)), (1, .int x), (2, .int y), (6, .int (nI i)), (3, .int v3), (5, .int v5), (7, .int v7), (4, .int w4)]) hx hb dL_comes_103 hl (by decide) rfl (fun ls hl => ?_)
          refine lv_iload hx hb dL_comes_105 (lv_at hl 8 rfl) ?_
          refine lv_sipush (v := 8192) hx hb dL_comes_107 (by decide) ?_
          refine lv_idiv hx hb dL_comes_110 (by decide) ?_
          refine lv_iconst (v := 3) hx hb dL_comes_111 (by decide) ?_
          refine lv_irem hx hb dL_comes_112 (by decide) ?_
          have J130 : ∀ (v8 : Int32) (v9 : Int32) (H : Heap) (locs : List Loc) (ls : Array Slot), va_P G vwCl (wC a cy T_4 tr_5) H → va_D A (wC a cy T_4 tr_5) → va_S A s.heap H locs → s.heap.size + 0 ≤ H.size → lv_has ls 15 [(0, .ref (a 0)), (1, .int x), (2, .int y), (6, .int (nI i)), (3, .int v3), (5, .int v5), (7, .int v7), (4, .int w4), (8, .int v8)] → W p l e (headSpec wsL_comes ({ frames := 10, cells := 2401, slots := 14406, locals := 189 } : Room)).room s m (#[.ref (a 0), .int x, .int y] : Array Value) below meth c H locs (1 + 8 * i + 3) (6 * (1 + 8 * i + 3) + 0) (MQ below (va_Qi (fun (r : Int32) (u : TS × (Nat → Int32)) => Inv u.1) (ml_BZ G cy A (fun u : TS × (Nat → Int32) => (wC a cy u.1 u.2)) s.heap.size (fun _ => 0)) A) (#[.ref (a 0), .int x, .int y] : Array Value) s 2401 14406 A) (F0 m 130 ls [.int v9]) := by
            intro v8 v9 H locs ls hP hD hS hz hl
            refine lv_istore (lv' := [(9, .int v9), (0, .ref (a 0)), (1, .int x), (2, .int y), (6, .int (nI i)), (3, .int v3), (5, .int v5), (7, .int v7), (4, .int w4), (8, .int v8)]) hx hb dL_comes_130 hl (by decide) rfl (fun ls hl => ?_)
            refine lv_aload_n hx hb dL_comes_132 rfl (lv_at hl 1 rfl) ?_
            refine mo_SWz (G := G) (wr := ([] : va_W)) (As := [.ref (a 0)]) (rest := []) ⟨hx, hb, hml, hown, hts⟩ (c_L_cursor l hlt G cy a H.size T_4 tr_5 hI_6) (vx_cwSW 1 hts gL_comes_L_cursor rfl rfl rfl (by decide +kernel) ⟨Nat.le_of_ble_eq_true rfl, Nat.le_of_ble_eq_true rfl⟩) hP hD hP hK hD hS hA [0, 1, 2, 3, 4, 5, 6, 7, 8, 9, 10, 11] [] rfl rfl (by decide) (by decide) hN hE rfl hl.1 (Nat.le_of_ble_eq_true rfl) dL_comes_133 ⟨by show _ ≤ (2401 : Nat); omega, by show _ ≤ (14406 : Nat); omega⟩ (fun r_133 u_133 H locs hw hP hD hS hz9 => ?_)
            obtain ⟨T_133, hT9⟩ : ∃ z, z = (sp_cursor T_4).2.2 := ⟨_, rfl⟩
            rw [← hT9] at hP hD
            have hI_133 : Inv T_133 := by rw [hT9]; exact inv_cursor hI_6
            have hP : va_P G vwCl (wC a cy T_133 u_133) H := hP
            have hD : va_D A (wC a cy T_133 u_133) := hD
            have hz : s.heap.size + 0 ≤ H.size := rz_0 hz hz9
            refine lv_istore (lv' := [(10, .int r_133), (9, .int v9), (0, .ref (a 0)), (1, .int x), (2, .int y), (6, .int (nI i)), (3, .int v3), (5, .int v5), (7, .int v7), (4, .int w4), (8, .int v8)]) hx hb dL_comes_136 hl (by decide) rfl (fun ls hl => ?_)
            refine lv_aload_n hx hb dL_comes_138 rfl (lv_at hl 2 rfl) ?_
            refine lv_iload hx hb dL_comes_139 (lv_at hl 8 rfl) ?_
            refine lv_iload hx hb dL_comes_141 (lv_at hl 10 rfl) ?_
            refine lv_iload hx hb dL_comes_143 (lv_at hl 1 rfl) ?_
            refine mo_SWz (G := G) (wr := ([] : va_W)) (As := [.ref (a 0), .int v7, .int v8, .int v9]) (rest := []) ⟨hx, hb, hml, hown, hts⟩ (c_L_steps l hlt G cy a H.size T_133 u_133 v7 v8 v9 hI_133) (vx_cwSW 4 hts gL_comes_L_steps rfl rfl rfl (by decide +kernel) ⟨Nat.le_of_ble_eq_true rfl, Nat.le_of_ble_eq_true rfl⟩) hP hD hP hK hD hS hA [0, 1, 2, 3, 4, 5, 6, 7, 8, 9, 10, 11] [] rfl rfl (by decide) (by decide) hN hE rfl hl.1 (Nat.le_of_ble_eq_true rfl) dL_comes_145 ⟨by show _ ≤ (2401 : Nat); omega, by show _ ≤ (14406 : Nat); omega⟩ (fun r_145 u_145 H locs hw hP hD hS hz9 => ?_)
            obtain ⟨T_145, hT9⟩ : ∃ z, z = (sp_step T_133 v7 v8 v9).2.2 := ⟨_, rfl⟩
            rw [← hT9] at hP hD
            have hI_145 : Inv T_145 := by rw [hT9]; exact inv_step hI_133 v7 v8 v9
            have hP : va_P G vwCl (wC a cy T_145 u_145) H := hP
            have hD : va_D A (wC a cy T_145 u_145) := hD
            have hz : s.heap.size + 0 ≤ H.size := rz_0 hz hz9
            refine lv_istore (lv' := [(11, .int r_145), (10, .int r_133), (9, .int v9), (0, .ref (a 0)), (1, .int x), (2, .int y), (6, .int (nI i)), (3, .int v3), (5, .int v5), (7, .int v7), (4, .int w4), (8, .int v8)]) hx hb dL_comes_148 hl (by decide) rfl (fun ls hl => ?_)
            refine lv_aload_n hx hb dL_comes_150 rfl (lv_at hl 3 rfl) ?_
            refine mo_SWz (G := G) (wr := ([] : va_W)) (As := [.ref (a 0)]) (rest := []) ⟨hx, hb, hml, hown, hts⟩ (c_L_cursor l hlt G cy a H.size T_145 u_145 hI_145) (vx_cwSW 1 hts gL_comes_L_cursor rfl rfl rfl (by decide +kernel) ⟨Nat.le_of_ble_eq_true rfl, Nat.le_of_ble_eq_true rfl⟩) hP hD hP hK hD hS hA [0, 1, 2, 3, 4, 5, 6, 7, 8, 9, 10, 11] [] rfl rfl (by decide) (by decide) hN hE rfl hl.1 (Nat.le_of_ble_eq_true rfl) dL_comes_151 ⟨by show _ ≤ (2401 : Nat); omega, by show _ ≤ (14406 : Nat); omega⟩ (fun r_151 u_151 H locs hw hP hD hS hz9 => ?_)
            obtain ⟨T_151, hT9⟩ : ∃ z, z = (sp_cursor T_145).2.2 := ⟨_, rfl⟩
            rw [← hT9] at hP hD
            have hI_151 : Inv T_151 := by rw [hT9]; exact inv_cursor hI_145
            have hP : va_P G vwCl (wC a cy T_151 u_151) H := hP
            have hD : va_D A (wC a cy T_151 u_151) := hD
            have hz : s.heap.size + 0 ≤ H.size := rz_0 hz hz9
            refine lv_istore (lv' := [(12, .int r_151), (11, .int r_145), (10, .int r_133), (9, .int v9), (0, .ref (a 0)), (1, .int x), (2, .int y), (6, .int (nI i)), (3, .int v3), (5, .int v5), (7, .int v7), (4, .int w4), (8, .int v8)]) hx hb dL_comes_154 hl (by decide) rfl (fun ls hl => ?_)
            refine lv_iload hx hb dL_comes_156 (lv_at hl 3 rfl) ?_
            have J173 : ∀ (v13 : Int32) (H : Heap) (locs : List Loc) (ls : Array Slot), va_P G vwCl (wC a cy T_151 u_151) H → va_D A (wC a cy T_151 u_151) → va_S A s.heap H locs → s.heap.size + 0 ≤ H.size → lv_has ls 15 [(12, .int r_151), (11, .int r_145), (10, .int r_133), (9, .int v9), (0, .ref (a 0)), (1, .int x), (2, .int y), (6, .int (nI i)), (3, .int v3), (5, .int v5), (7, .int v7), (4, .int w4), (8, .int v8)] → W p l e (headSpec wsL_comes ({ frames := 10, cells := 2401, slots := 14406, locals := 189 } : Room)).room s m (#[.ref (a 0), .int x, .int y] : Array Value) below meth c H locs (1 + 8 * i + 6) (6 * (1 + 8 * i + 6) + 0) (MQ below (va_Qi (fun (r : Int32) (u : TS × (Nat → Int32)) => Inv u.1) (ml_BZ G cy A (fun u : TS × (Nat → Int32) => (wC a cy u.1 u.2)) s.heap.size (fun _ => 0)) A) (#[.ref (a 0), .int x, .int y] : Array Value) s 2401 14406 A) (F0 m 173 ls [.int v13]) := by
              intro v13 H locs ls hP hD hS hz hl
              refine lv_istore (lv' := [(13, .int v13), (12, .int r_151), (11, .int r_145), (10, .int r_133), (9, .int v9), (0, .ref (a 0)), (1, .int x), (2, .int y), (6, .int (nI i)), (3, .int v3), (5, .int v5), (7, .int v7), (4, .int w4), (8, .int v8)]) hx hb dL_comes_173 hl (by decide) rfl (fun ls hl => ?_)
              refine lv_iload hx hb dL_comes_175 (lv_at hl 1 rfl) ?_
              refine lv_ldc hx hb hown (hts (.constant RL 18 (-2000000003)) (by decide +kernel)) dL_comes_177 ?_
              have J208 : ∀ (v14 : Int32) (H : Heap) (locs : List Loc) (ls : Array Slot), va_P G vwCl (wC a cy T_151 u_151) H → va_D A (wC a cy T_151 u_151) → va_S A s.heap H locs → s.heap.size + 0 ≤ H.size → lv_has ls 15 [(13, .int v13), (12, .int r_151), (11, .int r_145), (10, .int r_133), (9, .int v9), (0, .ref (a 0)), (1, .int x), (2, .int y), (6, .int (nI i)), (3, .int v3), (5, .int v5), (7, .int v7), (4, .int w4), (8, .int v8)] → W p l e (headSpec wsL_comes ({ frames := 10, cells := 2401, slots := 14406, locals := 189 } : Room)).room s m (#[.ref (a 0), .int x, .int y] : Array Value) below meth c H locs (1 + 8 * i + 6) (6 * (1 + 8 * i + 6) + 0) (MQ below (va_Qi (fun (r : Int32) (u : TS × (Nat → Int32)) => Inv u.1) (ml_BZ G cy A (fun u : TS × (Nat → Int32) => (wC a cy u.1 u.2)) s.heap.size (fun _ => 0)) A) (#[.ref (a 0), .int x, .int y] : Array Value) s 2401 14406 A) (F0 m 208 ls [.int v14]) := by
                intro v14 H locs ls hP hD hS hz hl
                refine lv_istore (lv' := [(14, .int v14), (13, .int v13), (12, .int r_151), (11, .int r_145), (10, .int r_133), (9, .int v9), (0, .ref (a 0)), (1, .int x), (2, .int y), (6, .int (nI i)), (3, .int v3), (5, .int v5), (7, .int v7), (4, .int w4), (8, .int v8)]) hx hb dL_comes_208 hl (by decide) rfl (fun ls hl => ?_)
                refine lv_iload hx hb dL_comes_210 (lv_at hl 3 rfl) ?_
                have J252 : ∀ (T_7 : TS) (tr_8 : Nat → Int32) (hI_9 : Inv T_7) (H : Heap) (locs : List Loc) (ls : Array Slot), va_P G vwCl (wC a cy T_7 tr_8) H → va_D A (wC a cy T_7 tr_8) → va_S A s.heap H locs → s.heap.size + 0 ≤ H.size → lv_has ls 15 [(14, .int v14), (13, .int v13), (12, .int r_151), (11, .int r_145), (10, .int r_133), (9, .int v9), (0, .ref (a 0)), (1, .int x), (2, .int y), (6, .int (nI i)), (3, .int v3), (5, .int v5), (7, .int v7), (4, .int w4), (8, .int v8)] → W p l e (headSpec wsL_comes ({ frames := 10, cells := 2401, slots := 14406, locals := 189 } : Room)).room s m (#[.ref (a 0), .int x, .int y] : Array Value) below meth c H locs (1 + 8 * i + 7) (6 * (1 + 8 * i + 7) + 0) (MQ below (va_Qi (fun (r : Int32) (u : TS × (Nat → Int32)) => Inv u.1) (ml_BZ G cy A (fun u : TS × (Nat → Int32) => (wC a cy u.1 u.2)) s.heap.size (fun _ => 0)) A) (#[.ref (a 0), .int x, .int y] : Array Value) s 2401 14406 A) (F0 m 252 ls []) := by
                  intro T_7 tr_8 hI_9 H locs ls hP hD hS hz hl
                  refine lv_iconst (v := (-1)) hx hb dL_comes_252 (by decide) ?_
                  refine W.widen (k := 2401) (n := 14406) (by omega) (by omega) ?_
                  exact ml_riz (T_7, tr_8) hx hb hr hlocks hP hK hD hS rfl hI_9 (by show s.heap.size + 0 ≤ H.size; omega) dL_comes_253
                have J254 : ∀ (T_10 : TS) (tr_11 : Nat → Int32) (hI_12 : Inv T_10) (H : Heap) (locs : List Loc) (ls : Array Slot), va_P G vwCl (wC a cy T_10 tr_11) H → va_D A (wC a cy T_10 tr_11) → va_S A s.heap H locs → s.heap.size + 0 ≤ H.size → lv_has ls 15 [(14, .int v14), (13, .int v13), (12, .int r_151), (11, .int r_145), (10, .int r_133), (9, .int v9), (0, .ref (a 0)), (1, .int x), (2, .int y), (6, .int (nI i)), (3, .int v3), (5, .int v5), (7, .int v7), (4, .int w4), (8, .int v8)] → W p l e (headSpec wsL_comes ({ frames := 10, cells := 2401, slots := 14406, locals := 189 } : Room)).room s m (#[.ref (a 0), .int x, .int y] : Array Value) below meth c H locs (1 + 8 * i + 7) (6 * (1 + 8 * i + 7) + 0) (MQ below (va_Qi (fun (r : Int32) (u : TS × (Nat → Int32)) => Inv u.1) (ml_BZ G cy A (fun u : TS × (Nat → Int32) => (wC a cy u.1 u.2)) s.heap.size (fun _ => 0)) A) (#[.ref (a 0), .int x, .int y] : Array Value) s 2401 14406 A) (F0 m 254 ls []) := by
                  intro T_10 tr_11 hI_12 H locs ls hP hD hS hz hl
                  refine lv_iload_n hx hb dL_comes_254 rfl (lv_at hl 10 rfl) ?_
                  refine lv_iload hx hb dL_comes_255 (lv_at hl 3 rfl) ?_
                  refine lv_iadd hx hb dL_comes_257 ?_
                  refine lv_istore_n (lv' := [(3, .int (v3 + r_145)), (14, .int v14), (13, .int v13), (12, .int r_151), (11, .int r_145), (10, .int r_133), (9, .int v9), (0, .ref (a 0)), (1, .int x), (2, .int y), (6, .int (nI i)), (5, .int v5), (7, .int v7), (4, .int w4), (8, .int v8)]) hx hb dL_comes_258 rfl hl (by decide) rfl (fun ls hl => ?_)
                  refine lv_iload hx hb dL_comes_259 (lv_at hl 3 rfl) ?_
                  refine lv_istore (lv' := [(5, .int r_151), (3, .int (v3 + r_145)), (14, .int v14), (13, .int v13), (12, .int r_151), (11, .int r_145), (10, .int r_133), (9, .int v9), (0, .ref (a 0)), (1, .int x), (2, .int y), (6, .int (nI i)), (7, .int v7), (4, .int w4), (8, .int v8)]) hx hb dL_comes_261 hl (by decide) rfl (fun ls hl => ?_)
                  refine lv_aload_n hx hb dL_comes_263 rfl (lv_at hl 8 rfl) ?_
                  refine lv_iconst (v := 1) hx hb dL_comes_264 (by decide) ?_
                  refine lv_iload hx hb dL_comes_265 (lv_at hl 13 rfl) ?_
                  refine lv_ldc hx hb hown (hts (.constant RL 161 (131072)) (by decide +kernel)) dL_comes_267 ?_
                  refine lv_idiv hx hb dL_comes_269 (by decide) ?_
                  refine lv_iconst (v := 4) hx hb dL_comes_270 (by decide) ?_
                  refine lv_irem hx hb dL_comes_271 (by decide) ?_
                  refine lv_iadd hx hb dL_comes_272 ?_
                  refine mo_SWz (G := G) (wr := ([] : va_W)) (As := [.ref (a 0), .int (1 + ((w4 / 131072) - (w4 / 131072) / 4 * 4))]) (rest := []) ⟨hx, hb, hml, hown, hts⟩ (c_L_passes l hlt G cy a H.size T_10 tr_11 (1 + ((w4 / 131072) - (w4 / 131072) / 4 * 4)) hI_12) (vx_cwSW 2 hts gL_comes_L_passes rfl rfl rfl (by decide +kernel) ⟨Nat.le_of_ble_eq_true rfl, Nat.le_of_ble_eq_true rfl⟩) hP hD hP hK hD hS hA [0, 1, 2, 3, 4, 5, 6, 7, 8, 9, 10, 11] [] rfl rfl (by decide) (by decide) hN hE rfl hl.1 (Nat.le_of_ble_eq_true rfl) dL_comes_273 ⟨by show _ ≤ (2401 : Nat); omega, by show _ ≤ (14406 : Nat); omega⟩ (fun r_273 u_273 H locs hw hP hD hS hz9 => ?_)
                  obtain ⟨T_273, hT9⟩ : ∃ z, z = (sp_pass T_10 (1 + ((w4 / 131072) - (w4 / 131072) / 4 * 4))).2.2 := ⟨_, rfl⟩
                  rw [← hT9] at hP hD
                  have hI_273 : Inv T_273 := by rw [hT9]; exact inv_pass hI_12 (1 + ((w4 / 131072) - (w4 / 131072) / 4 * 4))
                  have hP : va_P G vwCl (wC a cy T_273 u_273) H := hP
                  have hD : va_D A (wC a cy T_273 u_273) := hD
                  have hz : s.heap.size + 0 ≤ H.size := rz_0 hz hz9
                  refine lv_pop hx hb dL_comes_276 rfl ?_
                  refine lv_iinc (v := nI (i + 1)) (lv' := [(6, .int (nI (i + 1))), (5, .int r_151), (3, .int (v3 + r_145)), (14, .int v14), (13, .int v13), (12, .int r_151), (11, .int r_145), (10, .int r_133), (9, .int v9), (0, .ref (a 0)), (1, .int x), (2, .int y), (7, .int v7), (4, .int w4), (8, .int v8)]) hx hb dL_comes_277 hl (k := 11) rfl (nI_1 _) (by decide) rfl (fun ls hl => ?_)
                  refine lv_goto (tgt := 14) hx hb dL_comes_280 (by decide) ?_
                  refine W.widen (k := 1 + 8 * (i + 1)) (n := 6 * (1 + 8 * (i + 1)) + 0) (by omega) (by omega) ?_
                  exact ih (i + 1) T_273 u_273 hI_273 (v3 + r_145) w4 r_151 (by omega) _ _ _ hP hD hS hz (lv_sub hl [9, 10, 11, 0, 2, 13, 1] rfl)
                refine lv_if_lt (tgt := 252) hx hb dL_comes_212 (by decide) (fun c_212 => ?_) (fun c_212 => ?_)
                · refine W.widen (k := 1 + 8 * i + 7) (n := 6 * (1 + 8 * i + 7) + 0) (by omega) (by omega) ?_
                  exact J252 T_151 u_151 hI_151 _ _ _ hP hD hS hz (lv_sub hl [0, 1, 2, 3, 4, 5, 6, 7, 8, 9, 10, 11, 12, 13, 14] rfl)
                · refine lv_iload hx hb dL_comes_215 (lv_at hl 1 rfl) ?_
                  refine lv_if_eq (tgt := 227) hx hb dL_comes_217 (by decide) (fun c_217 => ?_) (fun c_217 => ?_)
                  · refine lv_iload hx hb dL_comes_227 (lv_at hl 1 rfl) ?_
                    refine lv_if_ne (tgt := 237) hx hb dL_comes_229 (by decide) (fun c_229 => ?_) (fun c_229 => ?_)
                    · refine lv_iload hx hb dL_comes_237 (lv_at hl 1 rfl) ?_
                      refine lv_if_eq (tgt := 254) hx hb dL_comes_239 (by decide) (fun c_239 => ?_) (fun c_239 => ?_)
                      · refine W.widen (k := 1 + 8 * i + 7) (n := 6 * (1 + 8 * i + 7) + 0) (by omega) (by omega) ?_
                        exact J254 T_151 u_151 hI_151 _ _ _ hP hD hS hz (lv_sub hl [0, 1, 2, 3, 4, 5, 6, 7, 8, 9, 10, 11, 12, 13, 14] rfl)
                      · refine lv_aload_n hx hb dL_comes_242 rfl (lv_at hl 6 rfl) ?_
                        refine lv_iload hx hb dL_comes_243 (lv_at hl 12 rfl) ?_
                        refine mo_SWz (G := G) (wr := ([] : va_W)) (As := [.ref (a 0), .int v7]) (rest := []) ⟨hx, hb, hml, hown, hts⟩ (c_L_restarts l hlt G cy a H.size T_151 u_151 v7 hI_151) (vx_cwSW 2 hts gL_comes_L_restarts rfl rfl rfl (by decide +kernel) ⟨Nat.le_of_ble_eq_true rfl, Nat.le_of_ble_eq_true rfl⟩) hP hD hP hK hD hS hA [0, 1, 2, 3, 4, 5, 6, 7, 8, 9, 10, 11] [] rfl rfl (by decide) (by decide) hN hE rfl hl.1 (Nat.le_of_ble_eq_true rfl) dL_comes_245 ⟨by show _ ≤ (2401 : Nat); omega, by show _ ≤ (14406 : Nat); omega⟩ (fun r_245 u_245 H locs hw hP hD hS hz9 => ?_)
                        obtain ⟨T_245, hT9⟩ : ∃ z, z = (sp_restart T_151 v7).2.2 := ⟨_, rfl⟩
                        rw [← hT9] at hP hD
                        have hI_245 : Inv T_245 := by rw [hT9]; exact inv_restart hI_151 v7
                        have hP : va_P G vwCl (wC a cy T_245 u_245) H := hP
                        have hD : va_D A (wC a cy T_245 u_245) := hD
                        have hz : s.heap.size + 0 ≤ H.size := rz_0 hz hz9
                        refine lv_iconst (v := 1) hx hb dL_comes_248 (by decide) ?_
                        refine lv_icmp_eq (tgt := 254) hx hb dL_comes_249 (by decide) (fun c_249 => ?_) (fun c_249 => ?_)
                        · refine W.widen (k := 1 + 8 * i + 7) (n := 6 * (1 + 8 * i + 7) + 0) (by omega) (by omega) ?_
                          exact J254 T_245 u_245 hI_245 _ _ _ hP hD hS hz (lv_sub hl [0, 1, 2, 3, 4, 5, 6, 7, 8, 9, 10, 11, 12, 13, 14] rfl)
                        · refine W.widen (k := 1 + 8 * i + 7) (n := 6 * (1 + 8 * i + 7) + 0) (by omega) (by omega) ?_
                          exact J252 T_245 u_245 hI_245 _ _ _ hP hD hS hz (lv_sub hl [0, 1, 2, 3, 4, 5, 6, 7, 8, 9, 10, 11, 12, 13, 14] rfl)
                    · refine lv_iload hx hb dL_comes_232 (lv_at hl 0 rfl) ?_
                      refine lv_if_eq (tgt := 252) hx hb dL_comes_234 (by decide) (fun c_234 => ?_) (fun c_234 => ?_)
                      · refine W.widen (k := 1 + 8 * i + 7) (n := 6 * (1 + 8 * i + 7) + 0) (by omega) (by omega) ?_
                        exact J252 T_151 u_151 hI_151 _ _ _ hP hD hS hz (lv_sub hl [0, 1, 2, 3, 4, 5, 6, 7, 8, 9, 10, 11, 12, 13, 14] rfl)
                      · refine lv_iload hx hb dL_comes_237 (lv_at hl 1 rfl) ?_
                        refine lv_if_eq (tgt := 254) hx hb dL_comes_239 (by decide) (fun c_239 => ?_) (fun c_239 => ?_)
                        · refine W.widen (k := 1 + 8 * i + 7) (n := 6 * (1 + 8 * i + 7) + 0) (by omega) (by omega) ?_
                          exact J254 T_151 u_151 hI_151 _ _ _ hP hD hS hz (lv_sub hl [0, 1, 2, 3, 4, 5, 6, 7, 8, 9, 10, 11, 12, 13, 14] rfl)
                        · refine lv_aload_n hx hb dL_comes_242 rfl (lv_at hl 6 rfl) ?_
                          refine lv_iload hx hb dL_comes_243 (lv_at hl 12 rfl) ?_
                          refine mo_SWz (G := G) (wr := ([] : va_W)) (As := [.ref (a 0), .int v7]) (rest := []) ⟨hx, hb, hml, hown, hts⟩ (c_L_restarts l hlt G cy a H.size T_151 u_151 v7 hI_151) (vx_cwSW 2 hts gL_comes_L_restarts rfl rfl rfl (by decide +kernel) ⟨Nat.le_of_ble_eq_true rfl, Nat.le_of_ble_eq_true rfl⟩) hP hD hP hK hD hS hA [0, 1, 2, 3, 4, 5, 6, 7, 8, 9, 10, 11] [] rfl rfl (by decide) (by decide) hN hE rfl hl.1 (Nat.le_of_ble_eq_true rfl) dL_comes_245 ⟨by show _ ≤ (2401 : Nat); omega, by show _ ≤ (14406 : Nat); omega⟩ (fun r_245 u_245 H locs hw hP hD hS hz9 => ?_)
                          obtain ⟨T_245, hT9⟩ : ∃ z, z = (sp_restart T_151 v7).2.2 := ⟨_, rfl⟩
                          rw [← hT9] at hP hD
                          have hI_245 : Inv T_245 := by rw [hT9]; exact inv_restart hI_151 v7
                          have hP : va_P G vwCl (wC a cy T_245 u_245) H := hP
                          have hD : va_D A (wC a cy T_245 u_245) := hD
                          have hz : s.heap.size + 0 ≤ H.size := rz_0 hz hz9
                          refine lv_iconst (v := 1) hx hb dL_comes_248 (by decide) ?_
                          refine lv_icmp_eq (tgt := 254) hx hb dL_comes_249 (by decide) (fun c_249 => ?_) (fun c_249 => ?_)
                          · refine W.widen (k := 1 + 8 * i + 7) (n := 6 * (1 + 8 * i + 7) + 0) (by omega) (by omega) ?_
                            exact J254 T_245 u_245 hI_245 _ _ _ hP hD hS hz (lv_sub hl [0, 1, 2, 3, 4, 5, 6, 7, 8, 9, 10, 11, 12, 13, 14] rfl)
                          · refine W.widen (k := 1 + 8 * i + 7) (n := 6 * (1 + 8 * i + 7) + 0) (by omega) (by omega) ?_
                            exact J252 T_245 u_245 hI_245 _ _ _ hP hD hS hz (lv_sub hl [0, 1, 2, 3, 4, 5, 6, 7, 8, 9, 10, 11, 12, 13, 14] rfl)
                  · refine lv_iload hx hb dL_comes_220 (lv_at hl 2 rfl) ?_
                    refine lv_iload hx hb dL_comes_222 (lv_at hl 4 rfl) ?_
                    refine lv_icmp_ne (tgt := 252) hx hb dL_comes_224 (by decide) (fun c_224 => ?_) (fun c_224 => ?_)
                    · refine W.widen (k := 1 + 8 * i + 7) (n := 6 * (1 + 8 * i + 7) + 0) (by omega) (by omega) ?_
                      exact J252 T_151 u_151 hI_151 _ _ _ hP hD hS hz (lv_sub hl [0, 1, 2, 3, 4, 5, 6, 7, 8, 9, 10, 11, 12, 13, 14] rfl)
                    · refine lv_iload hx hb dL_comes_227 (lv_at hl 1 rfl) ?_
                      refine lv_if_ne (tgt := 237) hx hb dL_comes_229 (by decide) (fun c_229 => ?_) (fun c_229 => ?_)
                      · refine lv_iload hx hb dL_comes_237 (lv_at hl 1 rfl) ?_
                        refine lv_if_eq (tgt := 254) hx hb dL_comes_239 (by decide) (fun c_239 => ?_) (fun c_239 => ?_)
                        · refine W.widen (k := 1 + 8 * i + 7) (n := 6 * (1 + 8 * i + 7) + 0) (by omega) (by omega) ?_
                          exact J254 T_151 u_151 hI_151 _ _ _ hP hD hS hz (lv_sub hl [0, 1, 2, 3, 4, 5, 6, 7, 8, 9, 10, 11, 12, 13, 14] rfl)
                        · refine lv_aload_n hx hb dL_comes_242 rfl (lv_at hl 6 rfl) ?_
                          refine lv_iload hx hb dL_comes_243 (lv_at hl 12 rfl) ?_
                          refine mo_SWz (G := G) (wr := ([] : va_W)) (As := [.ref (a 0), .int v7]) (rest := []) ⟨hx, hb, hml, hown, hts⟩ (c_L_restarts l hlt G cy a H.size T_151 u_151 v7 hI_151) (vx_cwSW 2 hts gL_comes_L_restarts rfl rfl rfl (by decide +kernel) ⟨Nat.le_of_ble_eq_true rfl, Nat.le_of_ble_eq_true rfl⟩) hP hD hP hK hD hS hA [0, 1, 2, 3, 4, 5, 6, 7, 8, 9, 10, 11] [] rfl rfl (by decide) (by decide) hN hE rfl hl.1 (Nat.le_of_ble_eq_true rfl) dL_comes_245 ⟨by show _ ≤ (2401 : Nat); omega, by show _ ≤ (14406 : Nat); omega⟩ (fun r_245 u_245 H locs hw hP hD hS hz9 => ?_)
                          obtain ⟨T_245, hT9⟩ : ∃ z, z = (sp_restart T_151 v7).2.2 := ⟨_, rfl⟩
                          rw [← hT9] at hP hD
                          have hI_245 : Inv T_245 := by rw [hT9]; exact inv_restart hI_151 v7
                          have hP : va_P G vwCl (wC a cy T_245 u_245) H := hP
                          have hD : va_D A (wC a cy T_245 u_245) := hD
                          have hz : s.heap.size + 0 ≤ H.size := rz_0 hz hz9
                          refine lv_iconst (v := 1) hx hb dL_comes_248 (by decide) ?_
                          refine lv_icmp_eq (tgt := 254) hx hb dL_comes_249 (by decide) (fun c_249 => ?_) (fun c_249 => ?_)
                          · refine W.widen (k := 1 + 8 * i + 7) (n := 6 * (1 + 8 * i + 7) + 0) (by omega) (by omega) ?_
                            exact J254 T_245 u_245 hI_245 _ _ _ hP hD hS hz (lv_sub hl [0, 1, 2, 3, 4, 5, 6, 7, 8, 9, 10, 11, 12, 13, 14] rfl)
                          · refine W.widen (k := 1 + 8 * i + 7) (n := 6 * (1 + 8 * i + 7) + 0) (by omega) (by omega) ?_
                            exact J252 T_245 u_245 hI_245 _ _ _ hP hD hS hz (lv_sub hl [0, 1, 2, 3, 4, 5, 6, 7, 8, 9, 10, 11, 12, 13, 14] rfl)
                      · refine lv_iload hx hb dL_comes_232 (lv_at hl 0 rfl) ?_
                        refine lv_if_eq (tgt := 252) hx hb dL_comes_234 (by decide) (fun c_234 => ?_) (fun c_234 => ?_)
                        · refine W.widen (k := 1 + 8 * i + 7) (n := 6 * (1 + 8 * i + 7) + 0) (by omega) (by omega) ?_
                          exact J252 T_151 u_151 hI_151 _ _ _ hP hD hS hz (lv_sub hl [0, 1, 2, 3, 4, 5, 6, 7, 8, 9, 10, 11, 12, 13, 14] rfl)
                        · refine lv_iload hx hb dL_comes_237 (lv_at hl 1 rfl) ?_
                          refine lv_if_eq (tgt := 254) hx hb dL_comes_239 (by decide) (fun c_239 => ?_) (fun c_239 => ?_)
                          · refine W.widen (k := 1 + 8 * i + 7) (n := 6 * (1 + 8 * i + 7) + 0) (by omega) (by omega) ?_
                            exact J254 T_151 u_151 hI_151 _ _ _ hP hD hS hz (lv_sub hl [0, 1, 2, 3, 4, 5, 6, 7, 8, 9, 10, 11, 12, 13, 14] rfl)
                          · refine lv_aload_n hx hb dL_comes_242 rfl (lv_at hl 6 rfl) ?_
                            refine lv_iload hx hb dL_comes_243 (lv_at hl 12 rfl) ?_
                            refine mo_SWz (G := G) (wr := ([] : va_W)) (As := [.ref (a 0), .int v7]) (rest := []) ⟨hx, hb, hml, hown, hts⟩ (c_L_restarts l hlt G cy a H.size T_151 u_151 v7 hI_151) (vx_cwSW 2 hts gL_comes_L_restarts rfl rfl rfl (by decide +kernel) ⟨Nat.le_of_ble_eq_true rfl, Nat.le_of_ble_eq_true rfl⟩) hP hD hP hK hD hS hA [0, 1, 2, 3, 4, 5, 6, 7, 8, 9, 10, 11] [] rfl rfl (by decide) (by decide) hN hE rfl hl.1 (Nat.le_of_ble_eq_true rfl) dL_comes_245 ⟨by show _ ≤ (2401 : Nat); omega, by show _ ≤ (14406 : Nat); omega⟩ (fun r_245 u_245 H locs hw hP hD hS hz9 => ?_)
                            obtain ⟨T_245, hT9⟩ : ∃ z, z = (sp_restart T_151 v7).2.2 := ⟨_, rfl⟩
                            rw [← hT9] at hP hD
                            have hI_245 : Inv T_245 := by rw [hT9]; exact inv_restart hI_151 v7
                            have hP : va_P G vwCl (wC a cy T_245 u_245) H := hP
                            have hD : va_D A (wC a cy T_245 u_245) := hD
                            have hz : s.heap.size + 0 ≤ H.size := rz_0 hz hz9
                            refine lv_iconst (v := 1) hx hb dL_comes_248 (by decide) ?_
                            refine lv_icmp_eq (tgt := 254) hx hb dL_comes_249 (by decide) (fun c_249 => ?_) (fun c_249 => ?_)
                            · refine W.widen (k := 1 + 8 * i + 7) (n := 6 * (1 + 8 * i + 7) + 0) (by omega) (by omega) ?_
                              exact J254 T_245 u_245 hI_245 _ _ _ hP hD hS hz (lv_sub hl [0, 1, 2, 3, 4, 5, 6, 7, 8, 9, 10, 11, 12, 13, 14] rfl)
                            · refine W.widen (k := 1 + 8 * i + 7) (n := 6 * (1 + 8 * i + 7) + 0) (by omega) (by omega) ?_
                              exact J252 T_245 u_245 hI_245 _ _ _ hP hD hS hz (lv_sub hl [0, 1, 2, 3, 4, 5, 6, 7, 8, 9, 10, 11, 12, 13, 14] rfl)
              refine lv_icmp_eq (tgt := 203) hx hb dL_comes_179 (by decide) (fun c_179 => ?_) (fun c_179 => ?_)
              · refine lv_iconst (v := 1) hx hb dL_comes_203 (by decide) ?_
                refine lv_goto (tgt := 208) hx hb dL_comes_204 (by decide) ?_
                refine W.widen (k := 1 + 8 * i + 6) (n := 6 * (1 + 8 * i + 6) + 0) (by omega) (by omega) ?_
                exact J208 1 _ _ _ hP hD hS hz (lv_sub hl [0, 1, 2, 3, 4, 5, 6, 7, 8, 9, 10, 11, 12, 13] rfl)
              · refine lv_iload_n hx hb dL_comes_182 rfl (lv_at hl 7 rfl) ?_
                refine lv_if_eq (tgt := 196) hx hb dL_comes_183 (by decide) (fun c_183 => ?_) (fun c_183 => ?_)
                · refine lv_iload hx hb dL_comes_196 (lv_at hl 1 rfl) ?_
                  refine lv_iload hx hb dL_comes_198 (lv_at hl 3 rfl) ?_
                  refine lv_icmp_le (tgt := 207) hx hb dL_comes_200 (by decide) (fun c_200 => ?_) (fun c_200 => ?_)
                  · refine lv_iconst (v := 0) hx hb dL_comes_207 (by decide) ?_
                    refine W.widen (k := 1 + 8 * i + 6) (n := 6 * (1 + 8 * i + 6) + 0) (by omega) (by omega) ?_
                    exact J208 0 _ _ _ hP hD hS hz (lv_sub hl [0, 1, 2, 3, 4, 5, 6, 7, 8, 9, 10, 11, 12, 13] rfl)
                  · refine lv_iconst (v := 1) hx hb dL_comes_203 (by decide) ?_
                    refine lv_goto (tgt := 208) hx hb dL_comes_204 (by decide) ?_
                    refine W.widen (k := 1 + 8 * i + 6) (n := 6 * (1 + 8 * i + 6) + 0) (by omega) (by omega) ?_
                    exact J208 1 _ _ _ hP hD hS hz (lv_sub hl [0, 1, 2, 3, 4, 5, 6, 7, 8, 9, 10, 11, 12, 13] rfl)
                · refine lv_iload hx hb dL_comes_186 (lv_at hl 1 rfl) ?_
                  refine lv_iload hx hb dL_comes_188 (lv_at hl 3 rfl) ?_
                  refine lv_icmp_ge (tgt := 207) hx hb dL_comes_190 (by decide) (fun c_190 => ?_) (fun c_190 => ?_)
                  · refine lv_iconst (v := 0) hx hb dL_comes_207 (by decide) ?_
                    refine W.widen (k := 1 + 8 * i + 6) (n := 6 * (1 + 8 * i + 6) + 0) (by omega) (by omega) ?_
                    exact J208 0 _ _ _ hP hD hS hz (lv_sub hl [0, 1, 2, 3, 4, 5, 6, 7, 8, 9, 10, 11, 12, 13] rfl)
                  · refine lv_goto (tgt := 203) hx hb dL_comes_193 (by decide) ?_
                    refine lv_iconst (v := 1) hx hb dL_comes_203 (by decide) ?_
                    refine lv_goto (tgt := 208) hx hb dL_comes_204 (by decide) ?_
                    refine W.widen (k := 1 + 8 * i + 6) (n := 6 * (1 + 8 * i + 6) + 0) (by omega) (by omega) ?_
                    exact J208 1 _ _ _ hP hD hS hz (lv_sub hl [0, 1, 2, 3, 4, 5, 6, 7, 8, 9, 10, 11, 12, 13] rfl)
            refine lv_if_le (tgt := 172) hx hb dL_comes_158 (by decide) (fun c_158 => ?_) (fun c_158 => ?_)
            · refine lv_iconst (v := 0) hx hb dL_comes_172 (by decide) ?_
              refine W.widen (k := 1 + 8 * i + 6) (n := 6 * (1 + 8 * i + 6) + 0) (by omega) (by omega) ?_
              exact J173 0 _ _ _ hP hD hS hz (lv_sub hl [0, 1, 2, 3, 4, 5, 6, 7, 8, 9, 10, 11, 12] rfl)
            · refine lv_iload hx hb dL_comes_161 (lv_at hl 1 rfl) ?_
              refine lv_iload hx hb dL_comes_163 (lv_at hl 3 rfl) ?_
              refine lv_icmp_ne (tgt := 172) hx hb dL_comes_165 (by decide) (fun c_165 => ?_) (fun c_165 => ?_)
              · refine lv_iconst (v := 0) hx hb dL_comes_172 (by decide) ?_
                refine W.widen (k := 1 + 8 * i + 6) (n := 6 * (1 + 8 * i + 6) + 0) (by omega) (by omega) ?_
                exact J173 0 _ _ _ hP hD hS hz (lv_sub hl [0, 1, 2, 3, 4, 5, 6, 7, 8, 9, 10, 11, 12] rfl)
              · refine lv_iconst (v := 1) hx hb dL_comes_168 (by decide) ?_
                refine lv_goto (tgt := 173) hx hb dL_comes_169 (by decide) ?_
                refine W.widen (k := 1 + 8 * i + 6) (n := 6 * (1 + 8 * i + 6) + 0) (by omega) (by omega) ?_
                exact J173 1 _ _ _ hP hD hS hz (lv_sub hl [0, 1, 2, 3, 4, 5, 6, 7, 8, 9, 10, 11, 12] rfl)
          refine lv_if_ne (tgt := 129) hx hb dL_comes_113 (by decide) (fun c_113 => ?_) (fun c_113 => ?_)
          · refine lv_iconst (v := 0) hx hb dL_comes_129 (by decide) ?_
            refine W.widen (k := 1 + 8 * i + 3) (n := 6 * (1 + 8 * i + 3) + 0) (by omega) (by omega) ?_
            exact J130 (1 + ((w4 / 512) - (w4 / 512) / 9 * 9)) 0 _ _ _ hP hD hS hz (lv_sub hl [1, 2, 3, 4, 5, 6, 7, 8, 0] rfl)
          · refine lv_iconst (v := 1) hx hb dL_comes_116 (by decide) ?_
            refine lv_iload hx hb dL_comes_117 (lv_at hl 8 rfl) ?_
            refine lv_sipush (v := 16384) hx hb dL_comes_119 (by decide) ?_
            refine lv_idiv hx hb dL_comes_122 (by decide) ?_
            refine lv_iconst (v := 3) hx hb dL_comes_123 (by decide) ?_
            refine lv_irem hx hb dL_comes_124 (by decide) ?_
            refine lv_iadd hx hb dL_comes_125 ?_
            refine lv_goto (tgt := 130) hx hb dL_comes_126 (by decide) ?_
            refine W.widen (k := 1 + 8 * i + 3) (n := 6 * (1 + 8 * i + 3) + 0) (by omega) (by omega) ?_
            exact J130 (1 + ((w4 / 512) - (w4 / 512) / 9 * 9)) (1 + ((w4 / 16384) - (w4 / 16384) / 3 * 3)) _ _ _ hP hD hS hz (lv_sub hl [1, 2, 3, 4, 5, 6, 7, 8, 0] rfl)
        refine lv_if_ge (tgt := 92) hx hb dL_comes_56 (by decide) (fun c_56 => ?_) (fun c_56 => ?_)
        · refine W.widen (k := 1 + 8 * i + 3) (n := 6 * (1 + 8 * i + 3) + 0) (by omega) (by omega) ?_
          exact J92 T_23 u_23 hI_23 (owner T_23) (((v4 * 1103) + 12345) &&& 2147483647) _ _ _ hP hD hS hz (lv_sub hl [2, 3, 4, 5, 6, 7, 0, 1] rfl)
        · refine lv_iload hx hb dL_comes_59 (lv_at hl 1 rfl) ?_
          refine lv_bipush (v := 16) hx hb dL_comes_61 (by decide) ?_
          refine lv_idiv hx hb dL_comes_63 (by decide) ?_
          refine lv_iconst (v := 4) hx hb dL_comes_64 (by decide) ?_
          refine lv_irem hx hb dL_comes_65 (by decide) ?_
          refine lv_istore (lv' := [(7, .int (((((v4 * 1103) + 12345) &&& 2147483647) / 16) - ((((v4 * 1103) + 12345) &&& 2147483647) / 16) / 4 * 4)), (4, .int (((v4 * 1103) + 12345) &&& 2147483647)), (0, .ref (a 0)), (1, .int x), (2, .int y), (6, .int (nI i)), (3, .int v3), (5, .int v5)]) hx hb dL_comes_66 hl (by decide) rfl (fun ls hl => ?_)
          refine lv_aload_n hx hb dL_comes_68 rfl (lv_at hl 2 rfl) ?_
          refine lv_iload hx hb dL_comes_69 (lv_at hl 0 rfl) ?_
          refine mo_SWz (G := G) (wr := ([] : va_W)) (As := [.ref (a 0), .int (((((v4 * 1103) + 12345) &&& 2147483647) / 16) - ((((v4 * 1103) + 12345) &&& 2147483647) / 16) / 4 * 4)]) (rest := []) ⟨hx, hb, hml, hown, hts⟩ (c_L_restarts l hlt G cy a H.size T_23 u_23 (((((v4 * 1103) + 12345) &&& 2147483647) / 16) - ((((v4 * 1103) + 12345) &&& 2147483647) / 16) / 4 * 4) hI_23) (vx_cwSW 2 hts gL_comes_L_restarts rfl rfl rfl (by decide +kernel) ⟨Nat.le_of_ble_eq_true rfl, Nat.le_of_ble_eq_true rfl⟩) hP hD hP hK hD hS hA [0, 1, 2, 3, 4, 5, 6, 7, 8, 9, 10, 11] [] rfl rfl (by decide) (by decide) hN hE rfl hl.1 (Nat.le_of_ble_eq_true rfl) dL_comes_71 ⟨by show _ ≤ (2401 : Nat); omega, by show _ ≤ (14406 : Nat); omega⟩ (fun r_71 u_71 H locs hw hP hD hS hz9 => ?_)
          obtain ⟨T_71, hT9⟩ : ∃ z, z = (sp_restart T_23 (((((v4 * 1103) + 12345) &&& 2147483647) / 16) - ((((v4 * 1103) + 12345) &&& 2147483647) / 16) / 4 * 4)).2.2 := ⟨_, rfl⟩
          rw [← hT9] at hP hD
          have hI_71 : Inv T_71 := by rw [hT9]; exact inv_restart hI_23 (((((v4 * 1103) + 12345) &&& 2147483647) / 16) - ((((v4 * 1103) + 12345) &&& 2147483647) / 16) / 4 * 4)
          have hP : va_P G vwCl (wC a cy T_71 u_71) H := hP
          have hD : va_D A (wC a cy T_71 u_71) := hD
          have hz : s.heap.size + 0 ≤ H.size := rz_0 hz hz9
          refine lv_pop hx hb dL_comes_74 rfl ?_
          refine lv_aload_n hx hb dL_comes_75 rfl (lv_at hl 2 rfl) ?_
          refine lv_iload hx hb dL_comes_76 (lv_at hl 0 rfl) ?_
          refine lv_iconst (v := 1) hx hb dL_comes_78 (by decide) ?_
          refine lv_iload hx hb dL_comes_79 (lv_at hl 1 rfl) ?_
          refine lv_bipush (v := 64) hx hb dL_comes_81 (by decide) ?_
          refine lv_idiv hx hb dL_comes_83 (by decide) ?_
          refine lv_bipush (v := 9) hx hb dL_comes_84 (by decide) ?_
          refine lv_irem hx hb dL_comes_86 (by decide) ?_
          refine lv_iadd hx hb dL_comes_87 ?_
          refine mo_SWz (G := G) (wr := ([] : va_W)) (As := [.ref (a 0), .int (((((v4 * 1103) + 12345) &&& 2147483647) / 16) - ((((v4 * 1103) + 12345) &&& 2147483647) / 16) / 4 * 4), .int (1 + (((((v4 * 1103) + 12345) &&& 2147483647) / 64) - ((((v4 * 1103) + 12345) &&& 2147483647) / 64) / 9 * 9))]) (rest := []) ⟨hx, hb, hml, hown, hts⟩ (c_L_takes l hlt G cy a H.size T_71 u_71 (((((v4 * 1103) + 12345) &&& 2147483647) / 16) - ((((v4 * 1103) + 12345) &&& 2147483647) / 16) / 4 * 4) (1 + (((((v4 * 1103) + 12345) &&& 2147483647) / 64) - ((((v4 * 1103) + 12345) &&& 2147483647) / 64) / 9 * 9)) hI_71) (vx_cwSW 3 hts gL_comes_L_takes rfl rfl rfl (by decide +kernel) ⟨Nat.le_of_ble_eq_true rfl, Nat.le_of_ble_eq_true rfl⟩) hP hD hP hK hD hS hA [0, 1, 2, 3, 4, 5, 6, 7, 8, 9, 10, 11] [] rfl rfl (by decide) (by decide) hN hE rfl hl.1 (Nat.le_of_ble_eq_true rfl) dL_comes_88 ⟨by show _ ≤ (2401 : Nat); omega, by show _ ≤ (14406 : Nat); omega⟩ (fun r_88 u_88 H locs hw hP hD hS hz9 => ?_)
          obtain ⟨T_88, hT9⟩ : ∃ z, z = (sp_take T_71 (((((v4 * 1103) + 12345) &&& 2147483647) / 16) - ((((v4 * 1103) + 12345) &&& 2147483647) / 16) / 4 * 4) (1 + (((((v4 * 1103) + 12345) &&& 2147483647) / 64) - ((((v4 * 1103) + 12345) &&& 2147483647) / 64) / 9 * 9))).2.2 := ⟨_, rfl⟩
          rw [← hT9] at hP hD
          have hI_88 : Inv T_88 := by rw [hT9]; exact inv_take hI_71 (((((v4 * 1103) + 12345) &&& 2147483647) / 16) - ((((v4 * 1103) + 12345) &&& 2147483647) / 16) / 4 * 4) (1 + (((((v4 * 1103) + 12345) &&& 2147483647) / 64) - ((((v4 * 1103) + 12345) &&& 2147483647) / 64) / 9 * 9))
          have hP : va_P G vwCl (wC a cy T_88 u_88) H := hP
          have hD : va_D A (wC a cy T_88 u_88) := hD
          have hz : s.heap.size + 0 ≤ H.size := rz_0 hz hz9
          refine lv_pop hx hb dL_comes_91 rfl ?_
          refine W.widen (k := 1 + 8 * i + 3) (n := 6 * (1 + 8 * i + 3) + 0) (by omega) (by omega) ?_
          exact J92 T_88 u_88 hI_88 (((((v4 * 1103) + 12345) &&& 2147483647) / 16) - ((((v4 * 1103) + 12345) &&& 2147483647) / 16) / 4 * 4) (((v4 * 1103) + 12345) &&& 2147483647) _ _ _ hP hD hS hz (lv_sub hl [2, 3, 4, 5, 6, 7, 0, 1] rfl)
      · refine lv_iload_n hx hb dL_comes_31 rfl (lv_at hl 4 rfl) ?_
        refine W.widen (k := 2401) (n := 14406) (by omega) (by omega) ?_
        exact ml_riz (T_23, u_23) hx hb hr hlocks hP hK hD hS rfl hI_23 (by show s.heap.size + 0 ≤ H.size; omega) dL_comes_32
  refine W.widen (k := 1 + 8 * 0) (n := 6 * (1 + 8 * 0) + 0) (by omega) (by omega) ?_
  exact LOOP14 300 0 T_6 u_6 hI_6 0 x r_6 (by omega) _ _ _ hP hD hS hz (lv_sub hl [4, 5, 6, 0, 3, 2, 1] rfl)
