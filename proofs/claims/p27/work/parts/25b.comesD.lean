set_option maxHeartbeats 8000000 in
set_option maxRecDepth 100000 in
theorem c_L_comesD (l : Launch) (hlt : l.stackTraces = false) (G : va_G) (cy : Nat → ClassId) (a : Nat → Nat) (sz : Nat) (T0 : TS) (tr : Nat → Int32) (x : Int32) (K C O X0 : Nat → Int32) (pr : Nat → Prop) (n : Nat) (t0 : Nat) (hp : Pln K C O X0 pr n) (ht0 : t0 ≤ 100000) (hy : tac T0 = 3) (hci0 : CI K C O X0 pr n T0 t0 0 T0 0) : Met l yL_comes wsL_comes ({ frames := 10, cells := 660, slots := 3960, locals := 189 } : Room) (ml_PX G cy [.ref (a 0), .int x, .int 1] (wC a cy T0 tr) sz) (va_Qi (fun (r : Int32) (u : TS × (Nat → Int32)) => r = nI (NP pr) ∧ ∃ i v, i ≤ 81 ∧ CI K C O X0 pr n T0 t0 i u.1 v ∧ tac u.1 = 0) (ml_BZ G cy (va_A (wC a cy T0 tr) sz) (fun u : TS × (Nat → Int32) => (wC a cy u.1 u.2)) sz (fun _ => 0)) (va_A (wC a cy T0 tr) sz)) 660 3960 (va_A (wC a cy T0 tr) sz) := by
  refine Met.ofW (cc := cL_comes) (maxL := 15) (ret := some .int) (by decide) rfl ?_
  intro p e s m args below meth c s₁ B hml hv
  obtain ⟨rfl, hsz, hP, hK, hD0, hN, hE⟩ := hv
  have hx := B.exec
  have hb := B.bytes
  have hr := B.returns
  have hts := atoms_spec (ws := wsL_comes) B.pre
  have hown : s.vm.findClass RL = some m.cls := findClass_of_methodNamed B.named
  have hlocks := B.notSynchronized
  subst hsz
  have hD := hD0.self (sz := s.heap.size)
  generalize hAe : va_A (wC a cy T0 tr) s.heap.size = A at hD hE ⊢
  have hA : ∀ q : Nat, s.heap.size ≤ q → A q := fun q h => by rw [← hAe]; exact Or.inr h
  have hS : va_S A s.heap s.heap [] := va_S.rf
  have hP : va_P G vwCl (wC a cy T0 tr) s.heap := hP
  have hl := lv_entry ([.ref (a 0), .int x, .int 1]) (n := 15) (Nat.le_of_ble_eq_true rfl)
  rw [lg_entry_eq]
  generalize (lg_sl ([.ref (a 0), .int x, .int 1]) ++ List.replicate (15 - (lg_sl ([.ref (a 0), .int x, .int 1])).length) Slot.unset).toArray = ls at hl ⊢
  have hl : lv_has ls 15 [(0, .ref (a 0)), (1, .int x), (2, .int 1)] := hl
  have hz : s.heap.size + 0 ≤ s.heap.size := Nat.le_refl _
  have hT0 : tac T0 ≠ 0 := by rw [hy]; decide
  refine lv_iconst (v := 0) hx hb dL_comes_0 (by decide) ?_
  refine lv_istore_n (lv' := [(3, .int 0), (0, .ref (a 0)), (1, .int x), (2, .int 1)]) hx hb dL_comes_1 rfl hl (by decide) rfl (fun ls hl => ?_)
  refine lv_iload_n hx hb dL_comes_2 rfl (lv_at hl 2 rfl) ?_
  refine lv_istore (lv' := [(4, .int x), (3, .int 0), (0, .ref (a 0)), (1, .int x), (2, .int 1)]) hx hb dL_comes_3 hl (by decide) rfl (fun ls hl => ?_)
  refine lv_aload_n hx hb dL_comes_5 rfl (lv_at hl 2 rfl) ?_
  refine mo_SWz (G := G) (wr := ([] : va_W)) (As := [.ref (a 0)]) (rest := []) ⟨hx, hb, hml, hown, hts⟩ (c_L_cursor l hlt G cy a s.heap.size T0 tr hci0.1) (vx_cwSW 1 hts gL_comes_L_cursor rfl rfl rfl (by decide +kernel) ⟨Nat.le_of_ble_eq_true rfl, Nat.le_of_ble_eq_true rfl⟩) hP hD hP hK hD hS hA [0, 1, 2, 3, 4, 5, 6, 7, 8, 9, 10, 11] [] rfl rfl (by decide) (by decide) hN hE rfl hl.1 (Nat.le_of_ble_eq_true rfl) dL_comes_6 ⟨by show _ ≤ (660 : Nat); omega, by show _ ≤ (3960 : Nat); omega⟩ (fun r_6 u_6 H locs hw hP hD hS hz9 => ?_)
  have e9 : (sp_cursor T0) = (0, nI (tcu T0), T0) := q0_cursor hT0
  rw [e9] at hP hD
  have hP : va_P G vwCl (wC a cy T0 u_6) H := hP
  have hD : va_D A (wC a cy T0 u_6) := hD
  have hz : s.heap.size + 0 ≤ H.size := rz_0 hz hz9
  obtain rfl : r_6 = nI (tcu T0) := rf_0 e9 hw
  refine lv_istore (lv' := [(5, .int (nI (tcu T0))), (4, .int x), (3, .int 0), (0, .ref (a 0)), (1, .int x), (2, .int 1)]) hx hb dL_comes_9 hl (by decide) rfl (fun ls hl => ?_)
  refine lv_iconst (v := 0) hx hb dL_comes_11 (by decide) ?_
  refine lv_istore (lv' := [(6, .int 0), (5, .int (nI (tcu T0))), (4, .int x), (3, .int 0), (0, .ref (a 0)), (1, .int x), (2, .int 1)]) hx hb dL_comes_12 hl (by decide) rfl (fun ls hl => ?_)
  have LOOP14 : ∀ (r : Nat) (i : Nat) (T_1 : TS) (tr_2 : Nat → Int32) (hI_3 : Inv T_1) (v3 : Int32) (v4 : Int32) (v5 : Int32) (hi : i + r = 300) (hci : CI K C O X0 pr n T0 t0 i T_1 v3) (H : Heap) (locs : List Loc) (ls : Array Slot), va_P G vwCl (wC a cy T_1 tr_2) H → va_D A (wC a cy T_1 tr_2) → va_S A s.heap H locs → s.heap.size + 0 ≤ H.size → lv_has ls 15 [(0, .ref (a 0)), (1, .int x), (2, .int 1), (6, .int (nI i)), (3, .int v3), (4, .int v4), (5, .int v5)] → W p l e (headSpec wsL_comes ({ frames := 10, cells := 660, slots := 3960, locals := 189 } : Room)).room s m (#[.ref (a 0), .int x, .int 1] : Array Value) below meth c H locs (1 + 8 * i) (6 * (1 + 8 * i) + 0) (MQ below (va_Qi (fun (r : Int32) (u : TS × (Nat → Int32)) => r = nI (NP pr) ∧ ∃ i v, i ≤ 81 ∧ CI K C O X0 pr n T0 t0 i u.1 v ∧ tac u.1 = 0) (ml_BZ G cy A (fun u : TS × (Nat → Int32) => (wC a cy u.1 u.2)) s.heap.size (fun _ => 0)) A) (#[.ref (a 0), .int x, .int 1] : Array Value) s 660 3960 A) (F0 m 14 ls []) := by
    intro r
    induction r with
    | zero =>
      intro i T_1 tr_2 hI_3 v3 v4 v5 hi hci H locs ls hP hD hS hz hl
      exact absurd (ci_i hci hT0) (by omega)
    | succ r ih =>
      intro i T_1 tr_2 hI_3 v3 v4 v5 hi hci H locs ls hP hD hS hz hl
      have hi81 := ci_i hci hT0
      refine lv_iload hx hb dL_comes_14 (lv_at hl 3 rfl) ?_
      refine lv_sipush (v := 300) hx hb dL_comes_16 (by decide) ?_
      refine lv_icmp_ge (tgt := 283) hx hb dL_comes_19 (by decide) (fun c_19 => False.elim (absurd ((nI_leI (a := 300) (by decide) (by omega)).mp c_19) (by omega))) (fun c_19 => ?_)
      by_cases hta : tac T_1 = 0
      · refine lv_aload_n hx hb dL_comes_22 rfl (lv_at hl 0 rfl) ?_
        refine mo_SWz (G := G) (wr := ([] : va_W)) (As := [.ref (a 0)]) (rest := []) ⟨hx, hb, hml, hown, hts⟩ (c_L_cursor l hlt G cy a H.size T_1 tr_2 hI_3) (vx_cwSW 1 hts gL_comes_L_cursor rfl rfl rfl (by decide +kernel) ⟨Nat.le_of_ble_eq_true rfl, Nat.le_of_ble_eq_true rfl⟩) hP hD hP hK hD hS hA [0, 1, 2, 3, 4, 5, 6, 7, 8, 9, 10, 11] [] rfl rfl (by decide) (by decide) hN hE rfl hl.1 (Nat.le_of_ble_eq_true rfl) dL_comes_23 ⟨by show _ ≤ (660 : Nat); omega, by show _ ≤ (3960 : Nat); omega⟩ (fun r_23 u_23 H locs hw hP hD hS hz9 => ?_)
        have e9 : (sp_cursor T_1) = (1, 0, T_1) := q1_cursor hta
        rw [e9] at hP hD
        have hP : va_P G vwCl (wC a cy T_1 u_23) H := hP
        have hD : va_D A (wC a cy T_1 u_23) := hD
        have hz := rz_k e9 (by decide) hz hz9
        have hz : s.heap.size + 1 ≤ H.size := hz
        obtain rfl : r_23 = (-2000000003) := rf_1 e9 hw
        refine lv_ldc hx hb hown (hts (.constant RL 18 (-2000000003)) (by decide +kernel)) dL_comes_26 ?_
        refine lv_icmp_ne (tgt := 33) hx hb dL_comes_28 (by decide) (fun c_28 => False.elim (by revert c_28; decide)) (fun c_28 => ?_)
        refine lv_iload_n hx hb dL_comes_31 rfl (lv_at hl 4 rfl) ?_
        refine W.widen (k := 660) (n := 3960) (by omega) (by omega) ?_
        exact ml_riz (T_1, u_23) hx hb hr hlocks hP hK hD hS rfl ⟨ci_done hci hT0 hta, i, _, ci_i hci hT0, hci, hta⟩ (by show s.heap.size + 0 ≤ H.size; omega) dL_comes_32
      · refine lv_aload_n hx hb dL_comes_22 rfl (lv_at hl 0 rfl) ?_
        refine mo_SWz (G := G) (wr := ([] : va_W)) (As := [.ref (a 0)]) (rest := []) ⟨hx, hb, hml, hown, hts⟩ (c_L_cursor l hlt G cy a H.size T_1 tr_2 hI_3) (vx_cwSW 1 hts gL_comes_L_cursor rfl rfl rfl (by decide +kernel) ⟨Nat.le_of_ble_eq_true rfl, Nat.le_of_ble_eq_true rfl⟩) hP hD hP hK hD hS hA [0, 1, 2, 3, 4, 5, 6, 7, 8, 9, 10, 11] [] rfl rfl (by decide) (by decide) hN hE rfl hl.1 (Nat.le_of_ble_eq_true rfl) dL_comes_23 ⟨by show _ ≤ (660 : Nat); omega, by show _ ≤ (3960 : Nat); omega⟩ (fun r_23 u_23 H locs hw hP hD hS hz9 => ?_)
        have e9 : (sp_cursor T_1) = (0, nI (tcu T_1), T_1) := q0_cursor hta
        rw [e9] at hP hD
        have hP : va_P G vwCl (wC a cy T_1 u_23) H := hP
        have hD : va_D A (wC a cy T_1 u_23) := hD
        have hz : s.heap.size + 0 ≤ H.size := rz_0 hz hz9
        obtain rfl : r_23 = nI (tcu T_1) := rf_0 e9 hw
        refine lv_ldc hx hb hown (hts (.constant RL 18 (-2000000003)) (by decide +kernel)) dL_comes_26 ?_
        refine lv_icmp_ne (tgt := 33) hx hb dL_comes_28 (by decide) (fun c_28 => ?_) (fun c_28 => False.elim (cu_ne _ hci.1.1.2.2 c_28))
        refine lv_iload hx hb dL_comes_33 (lv_at hl 5 rfl) ?_
        refine lv_sipush (v := 1103) hx hb dL_comes_35 (by decide) ?_
        refine lv_imul hx hb dL_comes_38 ?_
        refine lv_sipush (v := 12345) hx hb dL_comes_39 (by decide) ?_
        refine lv_iadd hx hb dL_comes_42 ?_
        refine lv_ldc hx hb hown (hts (.constant RL 88 (2147483647)) (by decide +kernel)) dL_comes_43 ?_
        refine lv_iand hx hb dL_comes_45 ?_
        obtain ⟨xx, hxx, exx⟩ := pk_andE (((v4 * 1103) + 12345)) (m := 2147483647) 31 (by decide)
        refine ml_eqi (nI xx) exx ?_
        refine lv_istore (lv' := [(4, .int (nI xx)), (0, .ref (a 0)), (1, .int x), (2, .int 1), (6, .int (nI i)), (3, .int v3), (5, .int v5)]) hx hb dL_comes_46 hl (by decide) rfl (fun ls hl => ?_)
        refine lv_aload_n hx hb dL_comes_48 rfl (lv_at hl 1 rfl) ?_
        refine mo_Ve (G := G) (wr := ([] : va_W)) (As := []) (rest := []) ⟨hx, hb, hml, hown, hts⟩ (c_X3_holder l G cy a H.size T_1 u_23 hI_3) (cwV 0 hts gL_comes_X3_holder rfl rfl rfl (by decide +kernel) ⟨Nat.le_of_ble_eq_true rfl, Nat.le_of_ble_eq_true rfl⟩) (va_recv hK hP (ci := 3) (q0 := 0) rfl rfl) hP hD hP hK hD hS hA [0, 1, 2, 3, 4, 5, 6, 7, 8, 9, 10, 11] [] rfl rfl (by decide) (by decide) hN rfl hl.1 (Nat.le_of_ble_eq_true rfl) dL_comes_49 ⟨by show _ ≤ (660 : Nat); omega, by show _ ≤ (3960 : Nat); omega⟩ (fun r_49 u_49 H locs hw hP hD hS hz9 => ?_)
        have hP : va_P G vwCl (wC a cy T_1 u_23) H := hP
        have hD : va_D A (wC a cy T_1 u_23) := hD
        have hz : s.heap.size + 0 ≤ H.size := Nat.le_trans hz hz9
        obtain rfl : r_49 = owner T_1 := hw
        refine lv_istore (lv' := [(7, .int (owner T_1)), (4, .int (nI xx)), (0, .ref (a 0)), (1, .int x), (2, .int 1), (6, .int (nI i)), (3, .int v3), (5, .int v5)]) hx hb dL_comes_52 hl (by decide) rfl (fun ls hl => ?_)
        refine lv_iload hx hb dL_comes_54 (lv_at hl 0 rfl) ?_
        have J92 : ∀ (T_4 : TS) (tr_5 : Nat → Int32) (hI_6 : Inv T_4) (v7 : Int32) (hci2 : CI K C O X0 pr n T0 t0 i T_4 v3) (hta2 : tac T_4 ≠ 0) (hw2 : ∃ w, w < 4 ∧ v7 = nI w ∧ has T_4 (nI w)) (H : Heap) (locs : List Loc) (ls : Array Slot), va_P G vwCl (wC a cy T_4 tr_5) H → va_D A (wC a cy T_4 tr_5) → va_S A s.heap H locs → s.heap.size + 0 ≤ H.size → lv_has ls 15 [(4, .int (nI xx)), (0, .ref (a 0)), (1, .int x), (2, .int 1), (6, .int (nI i)), (3, .int v3), (5, .int v5), (7, .int v7)] → W p l e (headSpec wsL_comes ({ frames := 10, cells := 660, slots := 3960, locals := 189 } : Room)).room s m (#[.ref (a 0), .int x, .int 1] : Array Value) below meth c H locs (1 + 8 * i + 3) (6 * (1 + 8 * i + 3) + 0) (MQ below (va_Qi (fun (r : Int32) (u : TS × (Nat → Int32)) => r = nI (NP pr) ∧ ∃ i v, i ≤ 81 ∧ CI K C O X0 pr n T0 t0 i u.1 v ∧ tac u.1 = 0) (ml_BZ G cy A (fun u : TS × (Nat → Int32) => (wC a cy u.1 u.2)) s.heap.size (fun _ => 0)) A) (#[.ref (a 0), .int x, .int 1] : Array Value) s 660 3960 A) (F0 m 92 ls []) := by
          intro T_4 tr_5 hI_6 v7 hci2 hta2 hw2 H locs ls hP hD hS hz hl
          obtain ⟨w, hw4, rfl, hh⟩ := hw2
          refine lv_iconst (v := 1) hx hb dL_comes_92 (by decide) ?_
          refine lv_iload hx hb dL_comes_93 (lv_at hl 0 rfl) ?_
          refine lv_sipush (v := 512) hx hb dL_comes_95 (by decide) ?_
          refine lv_idiv hx hb dL_comes_98 (by decide) ?_
          refine ml_eqi (nI (xx / 512)) (pk_div (a := xx) (d := 512) (by omega) (by decide) (by decide)) ?_
          refine lv_bipush (v := 9) hx hb dL_comes_99 (by decide) ?_
          refine lv_irem hx hb dL_comes_101 (by decide) ?_
          refine ml_eqi (nI (xx / 512 % 9)) (pk_rem (a := xx / 512) (d := 9) (by omega) (by decide) (by decide)) ?_
          refine lv_iadd hx hb dL_comes_102 ?_
          refine ml_eqi (nI (1 + xx / 512 % 9)) (nI_add 1 (xx / 512 % 9)) ?_
          refine lv_istore (lv' := [(8, .int (nI (1 + xx / 512 % 9))), (4, .int (nI xx)), (0, .ref (a 0)), (1, .int x), (2, .int 1), (6, .int (nI i)), (3, .int v3), (5, .int v5), (7, .int (nI w))]) hx hb dL_comes_103 hl (by decide) rfl (fun ls hl => ?_)
          refine lv_iload hx hb dL_comes_105 (lv_at hl 1 rfl) ?_
          refine lv_sipush (v := 8192) hx hb dL_comes_107 (by decide) ?_
          refine lv_idiv hx hb dL_comes_110 (by decide) ?_
          refine ml_eqi (nI (xx / 8192)) (pk_div (a := xx) (d := 8192) (by omega) (by decide) (by decide)) ?_
          refine lv_iconst (v := 3) hx hb dL_comes_111 (by decide) ?_
          refine lv_irem hx hb dL_comes_112 (by decide) ?_
          refine ml_eqi (nI (xx / 8192 % 3)) (pk_rem (a := xx / 8192) (d := 3) (by omega) (by decide) (by decide)) ?_
          have J130 : ∀ (v9 : Int32) (hc3 : ∃ c, c ≤ 3 ∧ v9 = nI c) (H : Heap) (locs : List Loc) (ls : Array Slot), va_P G vwCl (wC a cy T_4 tr_5) H → va_D A (wC a cy T_4 tr_5) → va_S A s.heap H locs → s.heap.size + 0 ≤ H.size → lv_has ls 15 [(8, .int (nI (1 + xx / 512 % 9))), (4, .int (nI xx)), (0, .ref (a 0)), (1, .int x), (2, .int 1), (6, .int (nI i)), (3, .int v3), (5, .int v5), (7, .int (nI w))] → W p l e (headSpec wsL_comes ({ frames := 10, cells := 660, slots := 3960, locals := 189 } : Room)).room s m (#[.ref (a 0), .int x, .int 1] : Array Value) below meth c H locs (1 + 8 * i + 3) (6 * (1 + 8 * i + 3) + 0) (MQ below (va_Qi (fun (r : Int32) (u : TS × (Nat → Int32)) => r = nI (NP pr) ∧ ∃ i v, i ≤ 81 ∧ CI K C O X0 pr n T0 t0 i u.1 v ∧ tac u.1 = 0) (ml_BZ G cy A (fun u : TS × (Nat → Int32) => (wC a cy u.1 u.2)) s.heap.size (fun _ => 0)) A) (#[.ref (a 0), .int x, .int 1] : Array Value) s 660 3960 A) (F0 m 130 ls [.int v9]) := by
            intro v9 hc3 H locs ls hP hD hS hz hl
            obtain ⟨c9, hc9, rfl⟩ := hc3
            refine lv_istore (lv' := [(9, .int (nI c9)), (8, .int (nI (1 + xx / 512 % 9))), (4, .int (nI xx)), (0, .ref (a 0)), (1, .int x), (2, .int 1), (6, .int (nI i)), (3, .int v3), (5, .int v5), (7, .int (nI w))]) hx hb dL_comes_130 hl (by decide) rfl (fun ls hl => ?_)
            refine lv_aload_n hx hb dL_comes_132 rfl (lv_at hl 3 rfl) ?_
            refine mo_SWz (G := G) (wr := ([] : va_W)) (As := [.ref (a 0)]) (rest := []) ⟨hx, hb, hml, hown, hts⟩ (c_L_cursor l hlt G cy a H.size T_4 tr_5 hI_6) (vx_cwSW 1 hts gL_comes_L_cursor rfl rfl rfl (by decide +kernel) ⟨Nat.le_of_ble_eq_true rfl, Nat.le_of_ble_eq_true rfl⟩) hP hD hP hK hD hS hA [0, 1, 2, 3, 4, 5, 6, 7, 8, 9, 10, 11] [] rfl rfl (by decide) (by decide) hN hE rfl hl.1 (Nat.le_of_ble_eq_true rfl) dL_comes_133 ⟨by show _ ≤ (660 : Nat); omega, by show _ ≤ (3960 : Nat); omega⟩ (fun r_133 u_133 H locs hw hP hD hS hz9 => ?_)
            have e9 : (sp_cursor T_4) = (0, nI (tcu T_4), T_4) := q0_cursor hta2
            rw [e9] at hP hD
            have hP : va_P G vwCl (wC a cy T_4 u_133) H := hP
            have hD : va_D A (wC a cy T_4 u_133) := hD
            have hz : s.heap.size + 0 ≤ H.size := rz_0 hz hz9
            obtain rfl : r_133 = nI (tcu T_4) := rf_0 e9 hw
            refine lv_istore (lv' := [(10, .int (nI (tcu T_4))), (9, .int (nI c9)), (8, .int (nI (1 + xx / 512 % 9))), (4, .int (nI xx)), (0, .ref (a 0)), (1, .int x), (2, .int 1), (6, .int (nI i)), (3, .int v3), (5, .int v5), (7, .int (nI w))]) hx hb dL_comes_136 hl (by decide) rfl (fun ls hl => ?_)
            refine lv_aload_n hx hb dL_comes_138 rfl (lv_at hl 4 rfl) ?_
            refine lv_iload hx hb dL_comes_139 (lv_at hl 10 rfl) ?_
            refine lv_iload hx hb dL_comes_141 (lv_at hl 2 rfl) ?_
            refine lv_iload hx hb dL_comes_143 (lv_at hl 1 rfl) ?_
            obtain ⟨ch, T2, es, hI2, hc2, hk2, hch40, hcl2, hcase⟩ := step_all hp hci2.2.1 hci2.1 hci2.2.2.1 hta2 hw4 (b := 1 + xx / 512 % 9) (c := c9) (by omega) (by omega) (hci2.2.2.2.1.1 w hw4) hh
            refine mo_SWz (G := G) (wr := ([] : va_W)) (As := [.ref (a 0), .int (nI w), .int (nI (1 + xx / 512 % 9)), .int (nI c9)]) (rest := []) ⟨hx, hb, hml, hown, hts⟩ (c_L_steps l hlt G cy a H.size T_4 u_133 (nI w) (nI (1 + xx / 512 % 9)) (nI c9) hI_6) (vx_cwSW 4 hts gL_comes_L_steps rfl rfl rfl (by decide +kernel) ⟨Nat.le_of_ble_eq_true rfl, Nat.le_of_ble_eq_true rfl⟩) hP hD hP hK hD hS hA [0, 1, 2, 3, 4, 5, 6, 7, 8, 9, 10, 11] [] rfl rfl (by decide) (by decide) hN hE rfl hl.1 (Nat.le_of_ble_eq_true rfl) dL_comes_145 ⟨by show _ ≤ (660 : Nat); omega, by show _ ≤ (3960 : Nat); omega⟩ (fun r_145 u_145 H locs hw hP hD hS hz9 => ?_)
            have e9 : (sp_step T_4 (nI w) (nI (1 + xx / 512 % 9)) (nI c9)) = (0, nI ch, T2) := es
            rw [e9] at hP hD
            have hP : va_P G vwCl (wC a cy T2 u_145) H := hP
            have hD : va_D A (wC a cy T2 u_145) := hD
            have hz : s.heap.size + 0 ≤ H.size := rz_0 hz hz9
            obtain rfl : r_145 = nI ch := rf_0 e9 hw
            rcases hcase with ⟨q1, q2, q3, q4, q5, q6⟩ | ⟨q1, q2, ⟨q3, q4, q5⟩ | ⟨q3, q4, q5, q6⟩⟩
            · refine lv_istore (lv' := [(11, .int (nI ch)), (10, .int (nI (tcu T_4))), (9, .int (nI c9)), (8, .int (nI (1 + xx / 512 % 9))), (4, .int (nI xx)), (0, .ref (a 0)), (1, .int x), (2, .int 1), (6, .int (nI i)), (3, .int v3), (5, .int v5), (7, .int (nI w))]) hx hb dL_comes_148 hl (by decide) rfl (fun ls hl => ?_)
              refine lv_aload_n hx hb dL_comes_150 rfl (lv_at hl 5 rfl) ?_
              refine mo_SWz (G := G) (wr := ([] : va_W)) (As := [.ref (a 0)]) (rest := []) ⟨hx, hb, hml, hown, hts⟩ (c_L_cursor l hlt G cy a H.size T2 u_145 hI2) (vx_cwSW 1 hts gL_comes_L_cursor rfl rfl rfl (by decide +kernel) ⟨Nat.le_of_ble_eq_true rfl, Nat.le_of_ble_eq_true rfl⟩) hP hD hP hK hD hS hA [0, 1, 2, 3, 4, 5, 6, 7, 8, 9, 10, 11] [] rfl rfl (by decide) (by decide) hN hE rfl hl.1 (Nat.le_of_ble_eq_true rfl) dL_comes_151 ⟨by show _ ≤ (660 : Nat); omega, by show _ ≤ (3960 : Nat); omega⟩ (fun r_151 u_151 H locs hw hP hD hS hz9 => ?_)
              have e9 : (sp_cursor T2) = (0, nI (tcu T2), T2) := q0_cursor (by rw [q3]; exact hta2)
              rw [e9] at hP hD
              have hP : va_P G vwCl (wC a cy T2 u_151) H := hP
              have hD : va_D A (wC a cy T2 u_151) := hD
              have hz : s.heap.size + 0 ≤ H.size := rz_0 hz hz9
              obtain rfl : r_151 = nI (tcu T2) := rf_0 e9 hw
              refine lv_istore (lv' := [(12, .int (nI (tcu T2))), (11, .int (nI ch)), (10, .int (nI (tcu T_4))), (9, .int (nI c9)), (8, .int (nI (1 + xx / 512 % 9))), (4, .int (nI xx)), (0, .ref (a 0)), (1, .int x), (2, .int 1), (6, .int (nI i)), (3, .int v3), (5, .int v5), (7, .int (nI w))]) hx hb dL_comes_154 hl (by decide) rfl (fun ls hl => ?_)
              refine lv_iload hx hb dL_comes_156 (lv_at hl 3 rfl) ?_
              refine lv_if_le (tgt := 172) hx hb dL_comes_158 (by decide) (fun c_158 => False.elim (nI_nle q1 (by omega) c_158)) (fun c_158 => ?_)
              refine lv_iload hx hb dL_comes_161 (lv_at hl 1 rfl) ?_
              refine lv_iload hx hb dL_comes_163 (lv_at hl 3 rfl) ?_
              refine lv_icmp_ne (tgt := 172) hx hb dL_comes_165 (by decide) (fun c_165 => False.elim (c_165 (by rw [q2]))) (fun c_165 => ?_)
              refine lv_iconst (v := 1) hx hb dL_comes_168 (by decide) ?_
              refine lv_goto (tgt := 173) hx hb dL_comes_169 (by decide) ?_
              refine lv_istore (lv' := [(13, .int 1), (12, .int (nI (tcu T2))), (11, .int (nI ch)), (10, .int (nI (tcu T_4))), (9, .int (nI c9)), (8, .int (nI (1 + xx / 512 % 9))), (4, .int (nI xx)), (0, .ref (a 0)), (1, .int x), (2, .int 1), (6, .int (nI i)), (3, .int v3), (5, .int v5), (7, .int (nI w))]) hx hb dL_comes_173 hl (by decide) rfl (fun ls hl => ?_)
              refine lv_iload hx hb dL_comes_175 (lv_at hl 1 rfl) ?_
              refine lv_ldc hx hb hown (hts (.constant RL 18 (-2000000003)) (by decide +kernel)) dL_comes_177 ?_
              refine lv_icmp_eq (tgt := 203) hx hb dL_comes_179 (by decide) (fun c_179 => False.elim (cu_ne _ hI2.1.2.2 c_179)) (fun c_179 => ?_)
              refine lv_iload_n hx hb dL_comes_182 rfl (lv_at hl 9 rfl) ?_
              refine lv_if_eq (tgt := 196) hx hb dL_comes_183 (by decide) (fun c_183 => False.elim (by revert c_183; decide)) (fun c_183 => ?_)
              refine lv_iload hx hb dL_comes_186 (lv_at hl 1 rfl) ?_
              refine lv_iload hx hb dL_comes_188 (lv_at hl 3 rfl) ?_
              have hact := ci_act hci2 hta2
              refine lv_icmp_ge (tgt := 207) hx hb dL_comes_190 (by decide) (fun c_190 => ?_) (fun c_190 => False.elim (c_190 (by rw [q4]; exact Int32.le_refl _)))
              refine lv_iconst (v := 0) hx hb dL_comes_207 (by decide) ?_
              refine lv_istore (lv' := [(14, .int 0), (13, .int 1), (12, .int (nI (tcu T2))), (11, .int (nI ch)), (10, .int (nI (tcu T_4))), (9, .int (nI c9)), (8, .int (nI (1 + xx / 512 % 9))), (4, .int (nI xx)), (0, .ref (a 0)), (1, .int x), (2, .int 1), (6, .int (nI i)), (3, .int v3), (5, .int v5), (7, .int (nI w))]) hx hb dL_comes_208 hl (by decide) rfl (fun ls hl => ?_)
              refine lv_iload hx hb dL_comes_210 (lv_at hl 3 rfl) ?_
              refine lv_if_lt (tgt := 252) hx hb dL_comes_212 (by decide) (fun c_212 => False.elim (nI_pos (by omega) c_212)) (fun c_212 => ?_)
              refine lv_iload hx hb dL_comes_215 (lv_at hl 1 rfl) ?_
              refine lv_if_eq (tgt := 227) hx hb dL_comes_217 (by decide) (fun c_217 => False.elim (by revert c_217; decide)) (fun c_217 => ?_)
              refine lv_iload hx hb dL_comes_220 (lv_at hl 2 rfl) ?_
              refine lv_iload hx hb dL_comes_222 (lv_at hl 4 rfl) ?_
              refine lv_icmp_ne (tgt := 252) hx hb dL_comes_224 (by decide) (fun c_224 => False.elim (c_224 (by rw [q4]))) (fun c_224 => ?_)
              refine lv_iload hx hb dL_comes_227 (lv_at hl 1 rfl) ?_
              refine lv_if_ne (tgt := 237) hx hb dL_comes_229 (by decide) (fun c_229 => ?_) (fun c_229 => False.elim (by revert c_229; decide))
              refine lv_iload hx hb dL_comes_237 (lv_at hl 1 rfl) ?_
              refine lv_if_eq (tgt := 254) hx hb dL_comes_239 (by decide) (fun c_239 => False.elim (by revert c_239; decide)) (fun c_239 => ?_)
              have hI3 : Inv (ucr T2 (upd (tcr T2) w 0)) := inv_ucr hI2 w (Or.inl rfl)
              refine lv_aload_n hx hb dL_comes_242 rfl (lv_at hl 8 rfl) ?_
              refine lv_iload hx hb dL_comes_243 (lv_at hl 14 rfl) ?_
              refine mo_SWz (G := G) (wr := ([] : va_W)) (As := [.ref (a 0), .int (nI w)]) (rest := []) ⟨hx, hb, hml, hown, hts⟩ (c_L_restarts l hlt G cy a H.size T2 u_151 (nI w) hI2) (vx_cwSW 2 hts gL_comes_L_restarts rfl rfl rfl (by decide +kernel) ⟨Nat.le_of_ble_eq_true rfl, Nat.le_of_ble_eq_true rfl⟩) hP hD hP hK hD hS hA [0, 1, 2, 3, 4, 5, 6, 7, 8, 9, 10, 11] [] rfl rfl (by decide) (by decide) hN hE rfl hl.1 (Nat.le_of_ble_eq_true rfl) dL_comes_245 ⟨by show _ ≤ (660 : Nat); omega, by show _ ≤ (3960 : Nat); omega⟩ (fun r_245 u_245 H locs hw hP hD hS hz9 => ?_)
              have e9 : (sp_restart T2 (nI w)) = (0, 1, (ucr T2 (upd (tcr T2) w 0))) := q0_restart hw4 (by rw [q6, pk_us]; decide) (has_keep hk2 hh)
              rw [e9] at hP hD
              have hP : va_P G vwCl (wC a cy (ucr T2 (upd (tcr T2) w 0)) u_245) H := hP
              have hD : va_D A (wC a cy (ucr T2 (upd (tcr T2) w 0)) u_245) := hD
              have hz : s.heap.size + 0 ≤ H.size := rz_0 hz hz9
              obtain rfl : r_245 = 1 := rf_0 e9 hw
              refine lv_iconst (v := 1) hx hb dL_comes_248 (by decide) ?_
              refine lv_icmp_eq (tgt := 254) hx hb dL_comes_249 (by decide) (fun c_249 => ?_) (fun c_249 => False.elim (by revert c_249; decide))
              refine lv_iload_n hx hb dL_comes_254 rfl (lv_at hl 12 rfl) ?_
              refine lv_iload hx hb dL_comes_255 (lv_at hl 3 rfl) ?_
              refine lv_iadd hx hb dL_comes_257 ?_
              refine lv_istore_n (lv' := [(3, .int (v3 + (nI ch))), (14, .int 0), (13, .int 1), (12, .int (nI (tcu T2))), (11, .int (nI ch)), (10, .int (nI (tcu T_4))), (9, .int (nI c9)), (8, .int (nI (1 + xx / 512 % 9))), (4, .int (nI xx)), (0, .ref (a 0)), (1, .int x), (2, .int 1), (6, .int (nI i)), (5, .int v5), (7, .int (nI w))]) hx hb dL_comes_258 rfl hl (by decide) rfl (fun ls hl => ?_)
              refine lv_iload hx hb dL_comes_259 (lv_at hl 3 rfl) ?_
              refine lv_istore (lv' := [(5, .int (nI (tcu T2))), (3, .int (v3 + (nI ch))), (14, .int 0), (13, .int 1), (12, .int (nI (tcu T2))), (11, .int (nI ch)), (10, .int (nI (tcu T_4))), (9, .int (nI c9)), (8, .int (nI (1 + xx / 512 % 9))), (4, .int (nI xx)), (0, .ref (a 0)), (1, .int x), (2, .int 1), (6, .int (nI i)), (7, .int (nI w))]) hx hb dL_comes_261 hl (by decide) rfl (fun ls hl => ?_)
              refine lv_aload_n hx hb dL_comes_263 rfl (lv_at hl 10 rfl) ?_
              refine lv_iconst (v := 1) hx hb dL_comes_264 (by decide) ?_
              refine lv_iload hx hb dL_comes_265 (lv_at hl 9 rfl) ?_
              refine lv_ldc hx hb hown (hts (.constant RL 161 (131072)) (by decide +kernel)) dL_comes_267 ?_
              refine lv_idiv hx hb dL_comes_269 (by decide) ?_
              refine ml_eqi (nI (xx / 131072)) (pk_div (a := xx) (d := 131072) (by omega) (by decide) (by decide)) ?_
              refine lv_iconst (v := 4) hx hb dL_comes_270 (by decide) ?_
              refine lv_irem hx hb dL_comes_271 (by decide) ?_
              refine ml_eqi (nI (xx / 131072 % 4)) (pk_rem (a := xx / 131072) (d := 4) (by omega) (by decide) (by decide)) ?_
              refine lv_iadd hx hb dL_comes_272 ?_
              refine ml_eqi (nI (1 + xx / 131072 % 4)) (nI_add 1 (xx / 131072 % 4)) ?_
              have hci9 := ci_cr hci2 hta2 hI2 hI3 hc2 hk2 hcl2 (by omega) q3 q4 q5 q6 (p := 1 + xx / 131072 % 4) (by omega)
              refine mo_SWz (G := G) (wr := ([] : va_W)) (As := [.ref (a 0), .int (nI (1 + xx / 131072 % 4))]) (rest := []) ⟨hx, hb, hml, hown, hts⟩ (c_L_passes l hlt G cy a H.size (ucr T2 (upd (tcr T2) w 0)) u_245 (nI (1 + xx / 131072 % 4)) hI3) (vx_cwSW 2 hts gL_comes_L_passes rfl rfl rfl (by decide +kernel) ⟨Nat.le_of_ble_eq_true rfl, Nat.le_of_ble_eq_true rfl⟩) hP hD hP hK hD hS hA [0, 1, 2, 3, 4, 5, 6, 7, 8, 9, 10, 11] [] rfl rfl (by decide) (by decide) hN hE rfl hl.1 (Nat.le_of_ble_eq_true rfl) dL_comes_273 ⟨by show _ ≤ (660 : Nat); omega, by show _ ≤ (3960 : Nat); omega⟩ (fun r_273 u_273 H locs hw hP hD hS hz9 => ?_)
              have e9 : (sp_pass (ucr T2 (upd (tcr T2) w 0)) (nI (1 + xx / 131072 % 4))) = (0, ttm (ucr T2 (upd (tcr T2) w 0)) + nI (1 + xx / 131072 % 4), (utm (ucr T2 (upd (tcr T2) w 0)) (ttm T2 + nI (1 + xx / 131072 % 4)))) := q0_pass (by omega)
              rw [e9] at hP hD
              have hP : va_P G vwCl (wC a cy (utm (ucr T2 (upd (tcr T2) w 0)) (ttm T2 + nI (1 + xx / 131072 % 4))) u_273) H := hP
              have hD : va_D A (wC a cy (utm (ucr T2 (upd (tcr T2) w 0)) (ttm T2 + nI (1 + xx / 131072 % 4))) u_273) := hD
              have hz : s.heap.size + 0 ≤ H.size := rz_0 hz hz9
              obtain rfl : r_273 = ttm (ucr T2 (upd (tcr T2) w 0)) + nI (1 + xx / 131072 % 4) := rf_0 e9 hw
              refine lv_pop hx hb dL_comes_276 rfl ?_
              refine lv_iinc (v := nI (i + 1)) (lv' := [(6, .int (nI (i + 1))), (5, .int (nI (tcu T2))), (3, .int (v3 + (nI ch))), (14, .int 0), (13, .int 1), (12, .int (nI (tcu T2))), (11, .int (nI ch)), (10, .int (nI (tcu T_4))), (9, .int (nI c9)), (8, .int (nI (1 + xx / 512 % 9))), (4, .int (nI xx)), (0, .ref (a 0)), (1, .int x), (2, .int 1), (7, .int (nI w))]) hx hb dL_comes_277 hl (k := 13) rfl (nI_1 _) (by decide) rfl (fun ls hl => ?_)
              refine lv_goto (tgt := 14) hx hb dL_comes_280 (by decide) ?_
              refine W.widen (k := 1 + 8 * (i + 1)) (n := 6 * (1 + 8 * (i + 1)) + 0) (by omega) (by omega) ?_
              exact ih (i + 1) (utm (ucr T2 (upd (tcr T2) w 0)) (ttm T2 + nI (1 + xx / 131072 % 4))) u_273 hci9.1 (v3 + (nI ch)) (nI xx) (nI (tcu T2)) (by omega) hci9 _ _ _ hP hD hS (by omega) (lv_sub hl [11, 12, 13, 0, 2, 10, 1] rfl)
            · refine lv_istore (lv' := [(11, .int (nI ch)), (10, .int (nI (tcu T_4))), (9, .int (nI c9)), (8, .int (nI (1 + xx / 512 % 9))), (4, .int (nI xx)), (0, .ref (a 0)), (1, .int x), (2, .int 1), (6, .int (nI i)), (3, .int v3), (5, .int v5), (7, .int (nI w))]) hx hb dL_comes_148 hl (by decide) rfl (fun ls hl => ?_)
              refine lv_aload_n hx hb dL_comes_150 rfl (lv_at hl 5 rfl) ?_
              refine mo_SWz (G := G) (wr := ([] : va_W)) (As := [.ref (a 0)]) (rest := []) ⟨hx, hb, hml, hown, hts⟩ (c_L_cursor l hlt G cy a H.size T2 u_145 hI2) (vx_cwSW 1 hts gL_comes_L_cursor rfl rfl rfl (by decide +kernel) ⟨Nat.le_of_ble_eq_true rfl, Nat.le_of_ble_eq_true rfl⟩) hP hD hP hK hD hS hA [0, 1, 2, 3, 4, 5, 6, 7, 8, 9, 10, 11] [] rfl rfl (by decide) (by decide) hN hE rfl hl.1 (Nat.le_of_ble_eq_true rfl) dL_comes_151 ⟨by show _ ≤ (660 : Nat); omega, by show _ ≤ (3960 : Nat); omega⟩ (fun r_151 u_151 H locs hw hP hD hS hz9 => ?_)
              have e9 : (sp_cursor T2) = (1, 0, T2) := q1_cursor q3
              rw [e9] at hP hD
              have hP : va_P G vwCl (wC a cy T2 u_151) H := hP
              have hD : va_D A (wC a cy T2 u_151) := hD
              have hz := rz_k e9 (by decide) hz hz9
              have hz : s.heap.size + 1 ≤ H.size := hz
              obtain rfl : r_151 = (-2000000003) := rf_1 e9 hw
              refine lv_istore (lv' := [(12, .int (-2000000003)), (11, .int (nI ch)), (10, .int (nI (tcu T_4))), (9, .int (nI c9)), (8, .int (nI (1 + xx / 512 % 9))), (4, .int (nI xx)), (0, .ref (a 0)), (1, .int x), (2, .int 1), (6, .int (nI i)), (3, .int v3), (5, .int v5), (7, .int (nI w))]) hx hb dL_comes_154 hl (by decide) rfl (fun ls hl => ?_)
              refine lv_iload hx hb dL_comes_156 (lv_at hl 3 rfl) ?_
              have J173 : ∀ (H : Heap) (locs : List Loc) (ls : Array Slot), va_P G vwCl (wC a cy T2 u_151) H → va_D A (wC a cy T2 u_151) → va_S A s.heap H locs → s.heap.size + 1 ≤ H.size → lv_has ls 15 [(12, .int (-2000000003)), (11, .int (nI ch)), (10, .int (nI (tcu T_4))), (9, .int (nI c9)), (8, .int (nI (1 + xx / 512 % 9))), (4, .int (nI xx)), (0, .ref (a 0)), (1, .int x), (2, .int 1), (6, .int (nI i)), (3, .int v3), (5, .int v5), (7, .int (nI w))] → W p l e (headSpec wsL_comes ({ frames := 10, cells := 660, slots := 3960, locals := 189 } : Room)).room s m (#[.ref (a 0), .int x, .int 1] : Array Value) below meth c H locs (1 + 8 * i + 6) (6 * (1 + 8 * i + 6) + 0) (MQ below (va_Qi (fun (r : Int32) (u : TS × (Nat → Int32)) => r = nI (NP pr) ∧ ∃ i v, i ≤ 81 ∧ CI K C O X0 pr n T0 t0 i u.1 v ∧ tac u.1 = 0) (ml_BZ G cy A (fun u : TS × (Nat → Int32) => (wC a cy u.1 u.2)) s.heap.size (fun _ => 0)) A) (#[.ref (a 0), .int x, .int 1] : Array Value) s 660 3960 A) (F0 m 173 ls [.int 0]) := by
                intro  H locs ls hP hD hS hz hl
                refine lv_istore (lv' := [(13, .int 0), (12, .int (-2000000003)), (11, .int (nI ch)), (10, .int (nI (tcu T_4))), (9, .int (nI c9)), (8, .int (nI (1 + xx / 512 % 9))), (4, .int (nI xx)), (0, .ref (a 0)), (1, .int x), (2, .int 1), (6, .int (nI i)), (3, .int v3), (5, .int v5), (7, .int (nI w))]) hx hb dL_comes_173 hl (by decide) rfl (fun ls hl => ?_)
                refine lv_iload hx hb dL_comes_175 (lv_at hl 1 rfl) ?_
                refine lv_ldc hx hb hown (hts (.constant RL 18 (-2000000003)) (by decide +kernel)) dL_comes_177 ?_
                refine lv_icmp_eq (tgt := 203) hx hb dL_comes_179 (by decide) (fun c_179 => ?_) (fun c_179 => False.elim (by revert c_179; decide))
                refine lv_iconst (v := 1) hx hb dL_comes_203 (by decide) ?_
                refine lv_goto (tgt := 208) hx hb dL_comes_204 (by decide) ?_
                refine lv_istore (lv' := [(14, .int 1), (13, .int 0), (12, .int (-2000000003)), (11, .int (nI ch)), (10, .int (nI (tcu T_4))), (9, .int (nI c9)), (8, .int (nI (1 + xx / 512 % 9))), (4, .int (nI xx)), (0, .ref (a 0)), (1, .int x), (2, .int 1), (6, .int (nI i)), (3, .int v3), (5, .int v5), (7, .int (nI w))]) hx hb dL_comes_208 hl (by decide) rfl (fun ls hl => ?_)
                refine lv_iload hx hb dL_comes_210 (lv_at hl 3 rfl) ?_
                refine lv_if_lt (tgt := 252) hx hb dL_comes_212 (by decide) (fun c_212 => False.elim (nI_pos (by omega) c_212)) (fun c_212 => ?_)
                refine lv_iload hx hb dL_comes_215 (lv_at hl 1 rfl) ?_
                refine lv_if_eq (tgt := 227) hx hb dL_comes_217 (by decide) (fun c_217 => ?_) (fun c_217 => False.elim (by revert c_217; decide))
                refine lv_iload hx hb dL_comes_227 (lv_at hl 1 rfl) ?_
                refine lv_if_ne (tgt := 237) hx hb dL_comes_229 (by decide) (fun c_229 => False.elim (by revert c_229; decide)) (fun c_229 => ?_)
                refine lv_iload hx hb dL_comes_232 (lv_at hl 0 rfl) ?_
                refine lv_if_eq (tgt := 252) hx hb dL_comes_234 (by decide) (fun c_234 => False.elim (by revert c_234; decide)) (fun c_234 => ?_)
                refine lv_iload hx hb dL_comes_237 (lv_at hl 1 rfl) ?_
                refine lv_if_eq (tgt := 254) hx hb dL_comes_239 (by decide) (fun c_239 => ?_) (fun c_239 => False.elim (by revert c_239; decide))
                refine lv_iload_n hx hb dL_comes_254 rfl (lv_at hl 12 rfl) ?_
                refine lv_iload hx hb dL_comes_255 (lv_at hl 3 rfl) ?_
                refine lv_iadd hx hb dL_comes_257 ?_
                refine lv_istore_n (lv' := [(3, .int (v3 + (nI ch))), (14, .int 1), (13, .int 0), (12, .int (-2000000003)), (11, .int (nI ch)), (10, .int (nI (tcu T_4))), (9, .int (nI c9)), (8, .int (nI (1 + xx / 512 % 9))), (4, .int (nI xx)), (0, .ref (a 0)), (1, .int x), (2, .int 1), (6, .int (nI i)), (5, .int v5), (7, .int (nI w))]) hx hb dL_comes_258 rfl hl (by decide) rfl (fun ls hl => ?_)
                refine lv_iload hx hb dL_comes_259 (lv_at hl 3 rfl) ?_
                refine lv_istore (lv' := [(5, .int (-2000000003)), (3, .int (v3 + (nI ch))), (14, .int 1), (13, .int 0), (12, .int (-2000000003)), (11, .int (nI ch)), (10, .int (nI (tcu T_4))), (9, .int (nI c9)), (8, .int (nI (1 + xx / 512 % 9))), (4, .int (nI xx)), (0, .ref (a 0)), (1, .int x), (2, .int 1), (6, .int (nI i)), (7, .int (nI w))]) hx hb dL_comes_261 hl (by decide) rfl (fun ls hl => ?_)
                refine lv_aload_n hx hb dL_comes_263 rfl (lv_at hl 10 rfl) ?_
                refine lv_iconst (v := 1) hx hb dL_comes_264 (by decide) ?_
                refine lv_iload hx hb dL_comes_265 (lv_at hl 9 rfl) ?_
                refine lv_ldc hx hb hown (hts (.constant RL 161 (131072)) (by decide +kernel)) dL_comes_267 ?_
                refine lv_idiv hx hb dL_comes_269 (by decide) ?_
                refine ml_eqi (nI (xx / 131072)) (pk_div (a := xx) (d := 131072) (by omega) (by decide) (by decide)) ?_
                refine lv_iconst (v := 4) hx hb dL_comes_270 (by decide) ?_
                refine lv_irem hx hb dL_comes_271 (by decide) ?_
                refine ml_eqi (nI (xx / 131072 % 4)) (pk_rem (a := xx / 131072) (d := 4) (by omega) (by decide) (by decide)) ?_
                refine lv_iadd hx hb dL_comes_272 ?_
                refine ml_eqi (nI (1 + xx / 131072 % 4)) (nI_add 1 (xx / 131072 % 4)) ?_
                have hci9 := ci_nx hci2 hta2 (b := 1 + xx / 512 % 9) (by omega) hI2 hc2 hk2 hcl2 q2 (Or.inl ⟨q3, q4, q5⟩) (p := 1 + xx / 131072 % 4) (by omega)
                refine mo_SWz (G := G) (wr := ([] : va_W)) (As := [.ref (a 0), .int (nI (1 + xx / 131072 % 4))]) (rest := []) ⟨hx, hb, hml, hown, hts⟩ (c_L_passes l hlt G cy a H.size T2 u_151 (nI (1 + xx / 131072 % 4)) hI2) (vx_cwSW 2 hts gL_comes_L_passes rfl rfl rfl (by decide +kernel) ⟨Nat.le_of_ble_eq_true rfl, Nat.le_of_ble_eq_true rfl⟩) hP hD hP hK hD hS hA [0, 1, 2, 3, 4, 5, 6, 7, 8, 9, 10, 11] [] rfl rfl (by decide) (by decide) hN hE rfl hl.1 (Nat.le_of_ble_eq_true rfl) dL_comes_273 ⟨by show _ ≤ (660 : Nat); omega, by show _ ≤ (3960 : Nat); omega⟩ (fun r_273 u_273 H locs hw hP hD hS hz9 => ?_)
                have e9 : (sp_pass T2 (nI (1 + xx / 131072 % 4))) = (0, ttm T2 + nI (1 + xx / 131072 % 4), (utm T2 (ttm T2 + nI (1 + xx / 131072 % 4)))) := q0_pass (by omega)
                rw [e9] at hP hD
                have hP : va_P G vwCl (wC a cy (utm T2 (ttm T2 + nI (1 + xx / 131072 % 4))) u_273) H := hP
                have hD : va_D A (wC a cy (utm T2 (ttm T2 + nI (1 + xx / 131072 % 4))) u_273) := hD
                have hz : s.heap.size + 1 ≤ H.size := rz_0 hz hz9
                obtain rfl : r_273 = ttm T2 + nI (1 + xx / 131072 % 4) := rf_0 e9 hw
                refine lv_pop hx hb dL_comes_276 rfl ?_
                refine lv_iinc (v := nI (i + 1)) (lv' := [(6, .int (nI (i + 1))), (5, .int (-2000000003)), (3, .int (v3 + (nI ch))), (14, .int 1), (13, .int 0), (12, .int (-2000000003)), (11, .int (nI ch)), (10, .int (nI (tcu T_4))), (9, .int (nI c9)), (8, .int (nI (1 + xx / 512 % 9))), (4, .int (nI xx)), (0, .ref (a 0)), (1, .int x), (2, .int 1), (7, .int (nI w))]) hx hb dL_comes_277 hl (k := 13) rfl (nI_1 _) (by decide) rfl (fun ls hl => ?_)
                refine lv_goto (tgt := 14) hx hb dL_comes_280 (by decide) ?_
                refine W.widen (k := 1 + 8 * (i + 1)) (n := 6 * (1 + 8 * (i + 1)) + 0) (by omega) (by omega) ?_
                exact ih (i + 1) (utm T2 (ttm T2 + nI (1 + xx / 131072 % 4))) u_273 hci9.1 (v3 + (nI ch)) (nI xx) (-2000000003) (by omega) hci9 _ _ _ hP hD hS (by omega) (lv_sub hl [11, 12, 13, 0, 2, 10, 1] rfl)
              refine lv_if_le (tgt := 172) hx hb dL_comes_158 (by decide) (fun c_158 => ?_) (fun c_158 => ?_)
              · refine lv_iconst (v := 0) hx hb dL_comes_172 (by decide) ?_
                refine W.widen (k := 1 + 8 * i + 6) (n := 6 * (1 + 8 * i + 6) + 0) (by omega) (by omega) ?_
                exact J173  _ _ _ hP hD hS hz (lv_sub hl [0, 1, 2, 3, 4, 5, 6, 7, 8, 9, 10, 11, 12] rfl)
              · refine lv_iload hx hb dL_comes_161 (lv_at hl 1 rfl) ?_
                refine lv_iload hx hb dL_comes_163 (lv_at hl 3 rfl) ?_
                refine lv_icmp_ne (tgt := 172) hx hb dL_comes_165 (by decide) (fun c_165 => ?_) (fun c_165 => False.elim (nc_165 q1 (by omega) hch40 c_158 c_165))
                refine lv_iconst (v := 0) hx hb dL_comes_172 (by decide) ?_
                refine W.widen (k := 1 + 8 * i + 6) (n := 6 * (1 + 8 * i + 6) + 0) (by omega) (by omega) ?_
                exact J173  _ _ _ hP hD hS hz (lv_sub hl [0, 1, 2, 3, 4, 5, 6, 7, 8, 9, 10, 11, 12] rfl)
            · refine lv_istore (lv' := [(11, .int (nI ch)), (10, .int (nI (tcu T_4))), (9, .int (nI c9)), (8, .int (nI (1 + xx / 512 % 9))), (4, .int (nI xx)), (0, .ref (a 0)), (1, .int x), (2, .int 1), (6, .int (nI i)), (3, .int v3), (5, .int v5), (7, .int (nI w))]) hx hb dL_comes_148 hl (by decide) rfl (fun ls hl => ?_)
              refine lv_aload_n hx hb dL_comes_150 rfl (lv_at hl 5 rfl) ?_
              refine mo_SWz (G := G) (wr := ([] : va_W)) (As := [.ref (a 0)]) (rest := []) ⟨hx, hb, hml, hown, hts⟩ (c_L_cursor l hlt G cy a H.size T2 u_145 hI2) (vx_cwSW 1 hts gL_comes_L_cursor rfl rfl rfl (by decide +kernel) ⟨Nat.le_of_ble_eq_true rfl, Nat.le_of_ble_eq_true rfl⟩) hP hD hP hK hD hS hA [0, 1, 2, 3, 4, 5, 6, 7, 8, 9, 10, 11] [] rfl rfl (by decide) (by decide) hN hE rfl hl.1 (Nat.le_of_ble_eq_true rfl) dL_comes_151 ⟨by show _ ≤ (660 : Nat); omega, by show _ ≤ (3960 : Nat); omega⟩ (fun r_151 u_151 H locs hw hP hD hS hz9 => ?_)
              have e9 : (sp_cursor T2) = (0, nI (tcu T2), T2) := q0_cursor (by rw [q3]; exact hta2)
              rw [e9] at hP hD
              have hP : va_P G vwCl (wC a cy T2 u_151) H := hP
              have hD : va_D A (wC a cy T2 u_151) := hD
              have hz : s.heap.size + 0 ≤ H.size := rz_0 hz hz9
              obtain rfl : r_151 = nI (tcu T2) := rf_0 e9 hw
              refine lv_istore (lv' := [(12, .int (nI (tcu T2))), (11, .int (nI ch)), (10, .int (nI (tcu T_4))), (9, .int (nI c9)), (8, .int (nI (1 + xx / 512 % 9))), (4, .int (nI xx)), (0, .ref (a 0)), (1, .int x), (2, .int 1), (6, .int (nI i)), (3, .int v3), (5, .int v5), (7, .int (nI w))]) hx hb dL_comes_154 hl (by decide) rfl (fun ls hl => ?_)
              refine lv_iload hx hb dL_comes_156 (lv_at hl 3 rfl) ?_
              have J173 : ∀ (H : Heap) (locs : List Loc) (ls : Array Slot), va_P G vwCl (wC a cy T2 u_151) H → va_D A (wC a cy T2 u_151) → va_S A s.heap H locs → s.heap.size + 0 ≤ H.size → lv_has ls 15 [(12, .int (nI (tcu T2))), (11, .int (nI ch)), (10, .int (nI (tcu T_4))), (9, .int (nI c9)), (8, .int (nI (1 + xx / 512 % 9))), (4, .int (nI xx)), (0, .ref (a 0)), (1, .int x), (2, .int 1), (6, .int (nI i)), (3, .int v3), (5, .int v5), (7, .int (nI w))] → W p l e (headSpec wsL_comes ({ frames := 10, cells := 660, slots := 3960, locals := 189 } : Room)).room s m (#[.ref (a 0), .int x, .int 1] : Array Value) below meth c H locs (1 + 8 * i + 6) (6 * (1 + 8 * i + 6) + 0) (MQ below (va_Qi (fun (r : Int32) (u : TS × (Nat → Int32)) => r = nI (NP pr) ∧ ∃ i v, i ≤ 81 ∧ CI K C O X0 pr n T0 t0 i u.1 v ∧ tac u.1 = 0) (ml_BZ G cy A (fun u : TS × (Nat → Int32) => (wC a cy u.1 u.2)) s.heap.size (fun _ => 0)) A) (#[.ref (a 0), .int x, .int 1] : Array Value) s 660 3960 A) (F0 m 173 ls [.int 0]) := by
                intro  H locs ls hP hD hS hz hl
                refine lv_istore (lv' := [(13, .int 0), (12, .int (nI (tcu T2))), (11, .int (nI ch)), (10, .int (nI (tcu T_4))), (9, .int (nI c9)), (8, .int (nI (1 + xx / 512 % 9))), (4, .int (nI xx)), (0, .ref (a 0)), (1, .int x), (2, .int 1), (6, .int (nI i)), (3, .int v3), (5, .int v5), (7, .int (nI w))]) hx hb dL_comes_173 hl (by decide) rfl (fun ls hl => ?_)
                refine lv_iload hx hb dL_comes_175 (lv_at hl 1 rfl) ?_
                refine lv_ldc hx hb hown (hts (.constant RL 18 (-2000000003)) (by decide +kernel)) dL_comes_177 ?_
                refine lv_icmp_eq (tgt := 203) hx hb dL_comes_179 (by decide) (fun c_179 => False.elim (cu_ne _ hI2.1.2.2 c_179)) (fun c_179 => ?_)
                refine lv_iload_n hx hb dL_comes_182 rfl (lv_at hl 9 rfl) ?_
                refine lv_if_eq (tgt := 196) hx hb dL_comes_183 (by decide) (fun c_183 => False.elim (by revert c_183; decide)) (fun c_183 => ?_)
                refine lv_iload hx hb dL_comes_186 (lv_at hl 1 rfl) ?_
                refine lv_iload hx hb dL_comes_188 (lv_at hl 3 rfl) ?_
                have hact := ci_act hci2 hta2
                refine lv_icmp_ge (tgt := 207) hx hb dL_comes_190 (by decide) (fun c_190 => False.elim (po_dn (by rw [hact.1, hy]) hci2.1.1.2.2 (by omega) q5 q6 c_190)) (fun c_190 => ?_)
                refine lv_goto (tgt := 203) hx hb dL_comes_193 (by decide) ?_
                refine lv_iconst (v := 1) hx hb dL_comes_203 (by decide) ?_
                refine lv_goto (tgt := 208) hx hb dL_comes_204 (by decide) ?_
                refine lv_istore (lv' := [(14, .int 1), (13, .int 0), (12, .int (nI (tcu T2))), (11, .int (nI ch)), (10, .int (nI (tcu T_4))), (9, .int (nI c9)), (8, .int (nI (1 + xx / 512 % 9))), (4, .int (nI xx)), (0, .ref (a 0)), (1, .int x), (2, .int 1), (6, .int (nI i)), (3, .int v3), (5, .int v5), (7, .int (nI w))]) hx hb dL_comes_208 hl (by decide) rfl (fun ls hl => ?_)
                refine lv_iload hx hb dL_comes_210 (lv_at hl 3 rfl) ?_
                refine lv_if_lt (tgt := 252) hx hb dL_comes_212 (by decide) (fun c_212 => False.elim (nI_pos (by omega) c_212)) (fun c_212 => ?_)
                refine lv_iload hx hb dL_comes_215 (lv_at hl 1 rfl) ?_
                refine lv_if_eq (tgt := 227) hx hb dL_comes_217 (by decide) (fun c_217 => ?_) (fun c_217 => False.elim (by revert c_217; decide))
                refine lv_iload hx hb dL_comes_227 (lv_at hl 1 rfl) ?_
                refine lv_if_ne (tgt := 237) hx hb dL_comes_229 (by decide) (fun c_229 => False.elim (by revert c_229; decide)) (fun c_229 => ?_)
                refine lv_iload hx hb dL_comes_232 (lv_at hl 0 rfl) ?_
                refine lv_if_eq (tgt := 252) hx hb dL_comes_234 (by decide) (fun c_234 => False.elim (by revert c_234; decide)) (fun c_234 => ?_)
                refine lv_iload hx hb dL_comes_237 (lv_at hl 1 rfl) ?_
                refine lv_if_eq (tgt := 254) hx hb dL_comes_239 (by decide) (fun c_239 => ?_) (fun c_239 => False.elim (by revert c_239; decide))
                refine lv_iload_n hx hb dL_comes_254 rfl (lv_at hl 12 rfl) ?_
                refine lv_iload hx hb dL_comes_255 (lv_at hl 3 rfl) ?_
                refine lv_iadd hx hb dL_comes_257 ?_
                refine lv_istore_n (lv' := [(3, .int (v3 + (nI ch))), (14, .int 1), (13, .int 0), (12, .int (nI (tcu T2))), (11, .int (nI ch)), (10, .int (nI (tcu T_4))), (9, .int (nI c9)), (8, .int (nI (1 + xx / 512 % 9))), (4, .int (nI xx)), (0, .ref (a 0)), (1, .int x), (2, .int 1), (6, .int (nI i)), (5, .int v5), (7, .int (nI w))]) hx hb dL_comes_258 rfl hl (by decide) rfl (fun ls hl => ?_)
                refine lv_iload hx hb dL_comes_259 (lv_at hl 3 rfl) ?_
                refine lv_istore (lv' := [(5, .int (nI (tcu T2))), (3, .int (v3 + (nI ch))), (14, .int 1), (13, .int 0), (12, .int (nI (tcu T2))), (11, .int (nI ch)), (10, .int (nI (tcu T_4))), (9, .int (nI c9)), (8, .int (nI (1 + xx / 512 % 9))), (4, .int (nI xx)), (0, .ref (a 0)), (1, .int x), (2, .int 1), (6, .int (nI i)), (7, .int (nI w))]) hx hb dL_comes_261 hl (by decide) rfl (fun ls hl => ?_)
                refine lv_aload_n hx hb dL_comes_263 rfl (lv_at hl 10 rfl) ?_
                refine lv_iconst (v := 1) hx hb dL_comes_264 (by decide) ?_
                refine lv_iload hx hb dL_comes_265 (lv_at hl 9 rfl) ?_
                refine lv_ldc hx hb hown (hts (.constant RL 161 (131072)) (by decide +kernel)) dL_comes_267 ?_
                refine lv_idiv hx hb dL_comes_269 (by decide) ?_
                refine ml_eqi (nI (xx / 131072)) (pk_div (a := xx) (d := 131072) (by omega) (by decide) (by decide)) ?_
                refine lv_iconst (v := 4) hx hb dL_comes_270 (by decide) ?_
                refine lv_irem hx hb dL_comes_271 (by decide) ?_
                refine ml_eqi (nI (xx / 131072 % 4)) (pk_rem (a := xx / 131072) (d := 4) (by omega) (by decide) (by decide)) ?_
                refine lv_iadd hx hb dL_comes_272 ?_
                refine ml_eqi (nI (1 + xx / 131072 % 4)) (nI_add 1 (xx / 131072 % 4)) ?_
                have hci9 := ci_nx hci2 hta2 (b := 1 + xx / 512 % 9) (by omega) hI2 hc2 hk2 hcl2 q2 (Or.inr ⟨q3, q4, q5, q6⟩) (p := 1 + xx / 131072 % 4) (by omega)
                refine mo_SWz (G := G) (wr := ([] : va_W)) (As := [.ref (a 0), .int (nI (1 + xx / 131072 % 4))]) (rest := []) ⟨hx, hb, hml, hown, hts⟩ (c_L_passes l hlt G cy a H.size T2 u_151 (nI (1 + xx / 131072 % 4)) hI2) (vx_cwSW 2 hts gL_comes_L_passes rfl rfl rfl (by decide +kernel) ⟨Nat.le_of_ble_eq_true rfl, Nat.le_of_ble_eq_true rfl⟩) hP hD hP hK hD hS hA [0, 1, 2, 3, 4, 5, 6, 7, 8, 9, 10, 11] [] rfl rfl (by decide) (by decide) hN hE rfl hl.1 (Nat.le_of_ble_eq_true rfl) dL_comes_273 ⟨by show _ ≤ (660 : Nat); omega, by show _ ≤ (3960 : Nat); omega⟩ (fun r_273 u_273 H locs hw hP hD hS hz9 => ?_)
                have e9 : (sp_pass T2 (nI (1 + xx / 131072 % 4))) = (0, ttm T2 + nI (1 + xx / 131072 % 4), (utm T2 (ttm T2 + nI (1 + xx / 131072 % 4)))) := q0_pass (by omega)
                rw [e9] at hP hD
                have hP : va_P G vwCl (wC a cy (utm T2 (ttm T2 + nI (1 + xx / 131072 % 4))) u_273) H := hP
                have hD : va_D A (wC a cy (utm T2 (ttm T2 + nI (1 + xx / 131072 % 4))) u_273) := hD
                have hz : s.heap.size + 0 ≤ H.size := rz_0 hz hz9
                obtain rfl : r_273 = ttm T2 + nI (1 + xx / 131072 % 4) := rf_0 e9 hw
                refine lv_pop hx hb dL_comes_276 rfl ?_
                refine lv_iinc (v := nI (i + 1)) (lv' := [(6, .int (nI (i + 1))), (5, .int (nI (tcu T2))), (3, .int (v3 + (nI ch))), (14, .int 1), (13, .int 0), (12, .int (nI (tcu T2))), (11, .int (nI ch)), (10, .int (nI (tcu T_4))), (9, .int (nI c9)), (8, .int (nI (1 + xx / 512 % 9))), (4, .int (nI xx)), (0, .ref (a 0)), (1, .int x), (2, .int 1), (7, .int (nI w))]) hx hb dL_comes_277 hl (k := 13) rfl (nI_1 _) (by decide) rfl (fun ls hl => ?_)
                refine lv_goto (tgt := 14) hx hb dL_comes_280 (by decide) ?_
                refine W.widen (k := 1 + 8 * (i + 1)) (n := 6 * (1 + 8 * (i + 1)) + 0) (by omega) (by omega) ?_
                exact ih (i + 1) (utm T2 (ttm T2 + nI (1 + xx / 131072 % 4))) u_273 hci9.1 (v3 + (nI ch)) (nI xx) (nI (tcu T2)) (by omega) hci9 _ _ _ hP hD hS (by omega) (lv_sub hl [11, 12, 13, 0, 2, 10, 1] rfl)
              refine lv_if_le (tgt := 172) hx hb dL_comes_158 (by decide) (fun c_158 => ?_) (fun c_158 => ?_)
              · refine lv_iconst (v := 0) hx hb dL_comes_172 (by decide) ?_
                refine W.widen (k := 1 + 8 * i + 6) (n := 6 * (1 + 8 * i + 6) + 0) (by omega) (by omega) ?_
                exact J173  _ _ _ hP hD hS hz (lv_sub hl [0, 1, 2, 3, 4, 5, 6, 7, 8, 9, 10, 11, 12] rfl)
              · refine lv_iload hx hb dL_comes_161 (lv_at hl 1 rfl) ?_
                refine lv_iload hx hb dL_comes_163 (lv_at hl 3 rfl) ?_
                refine lv_icmp_ne (tgt := 172) hx hb dL_comes_165 (by decide) (fun c_165 => ?_) (fun c_165 => False.elim (nc_165 q1 (by omega) hch40 c_158 c_165))
                refine lv_iconst (v := 0) hx hb dL_comes_172 (by decide) ?_
                refine W.widen (k := 1 + 8 * i + 6) (n := 6 * (1 + 8 * i + 6) + 0) (by omega) (by omega) ?_
                exact J173  _ _ _ hP hD hS hz (lv_sub hl [0, 1, 2, 3, 4, 5, 6, 7, 8, 9, 10, 11, 12] rfl)
          refine lv_if_ne (tgt := 129) hx hb dL_comes_113 (by decide) (fun c_113 => ?_) (fun c_113 => ?_)
          · refine lv_iconst (v := 0) hx hb dL_comes_129 (by decide) ?_
            refine W.widen (k := 1 + 8 * i + 3) (n := 6 * (1 + 8 * i + 3) + 0) (by omega) (by omega) ?_
            exact J130 0 (⟨0, by decide, rfl⟩) _ _ _ hP hD hS hz (lv_sub hl [0, 1, 2, 3, 4, 5, 6, 7, 8] rfl)
          · refine lv_iconst (v := 1) hx hb dL_comes_116 (by decide) ?_
            refine lv_iload hx hb dL_comes_117 (lv_at hl 1 rfl) ?_
            refine lv_sipush (v := 16384) hx hb dL_comes_119 (by decide) ?_
            refine lv_idiv hx hb dL_comes_122 (by decide) ?_
            refine ml_eqi (nI (xx / 16384)) (pk_div (a := xx) (d := 16384) (by omega) (by decide) (by decide)) ?_
            refine lv_iconst (v := 3) hx hb dL_comes_123 (by decide) ?_
            refine lv_irem hx hb dL_comes_124 (by decide) ?_
            refine ml_eqi (nI (xx / 16384 % 3)) (pk_rem (a := xx / 16384) (d := 3) (by omega) (by decide) (by decide)) ?_
            refine lv_iadd hx hb dL_comes_125 ?_
            refine ml_eqi (nI (1 + xx / 16384 % 3)) (nI_add 1 (xx / 16384 % 3)) ?_
            refine lv_goto (tgt := 130) hx hb dL_comes_126 (by decide) ?_
            refine W.widen (k := 1 + 8 * i + 3) (n := 6 * (1 + 8 * i + 3) + 0) (by omega) (by omega) ?_
            exact J130 (nI (1 + xx / 16384 % 3)) (⟨1 + xx / 16384 % 3, by omega, rfl⟩) _ _ _ hP hD hS hz (lv_sub hl [0, 1, 2, 3, 4, 5, 6, 7, 8] rfl)
        refine lv_if_ge (tgt := 92) hx hb dL_comes_56 (by decide) (fun c_56 => ?_) (fun c_56 => ?_)
        · have hown := lk_own hci.2.2.2.1 (Int32.not_lt.mpr c_56)
          refine W.widen (k := 1 + 8 * i + 3) (n := 6 * (1 + 8 * i + 3) + 0) (by omega) (by omega) ?_
          exact J92 T_1 u_23 hI_3 (owner T_1) hci hta hown _ _ _ hP hD hS (by omega) (lv_sub hl [1, 2, 3, 4, 5, 6, 7, 0] rfl)
        · refine lv_iload hx hb dL_comes_59 (lv_at hl 1 rfl) ?_
          refine lv_bipush (v := 16) hx hb dL_comes_61 (by decide) ?_
          refine lv_idiv hx hb dL_comes_63 (by decide) ?_
          refine ml_eqi (nI (xx / 16)) (pk_div (a := xx) (d := 16) (by omega) (by decide) (by decide)) ?_
          refine lv_iconst (v := 4) hx hb dL_comes_64 (by decide) ?_
          refine lv_irem hx hb dL_comes_65 (by decide) ?_
          refine ml_eqi (nI (xx / 16 % 4)) (pk_rem (a := xx / 16) (d := 4) (by omega) (by decide) (by decide)) ?_
          refine lv_istore (lv' := [(7, .int (nI (xx / 16 % 4))), (4, .int (nI xx)), (0, .ref (a 0)), (1, .int x), (2, .int 1), (6, .int (nI i)), (3, .int v3), (5, .int v5)]) hx hb dL_comes_66 hl (by decide) rfl (fun ls hl => ?_)
          refine lv_aload_n hx hb dL_comes_68 rfl (lv_at hl 2 rfl) ?_
          refine lv_iload hx hb dL_comes_69 (lv_at hl 0 rfl) ?_
          refine mo_SWz (G := G) (wr := ([] : va_W)) (As := [.ref (a 0), .int (nI (xx / 16 % 4))]) (rest := []) ⟨hx, hb, hml, hown, hts⟩ (c_L_restarts l hlt G cy a H.size T_1 u_23 (nI (xx / 16 % 4)) hI_3) (vx_cwSW 2 hts gL_comes_L_restarts rfl rfl rfl (by decide +kernel) ⟨Nat.le_of_ble_eq_true rfl, Nat.le_of_ble_eq_true rfl⟩) hP hD hP hK hD hS hA [0, 1, 2, 3, 4, 5, 6, 7, 8, 9, 10, 11] [] rfl rfl (by decide) (by decide) hN hE rfl hl.1 (Nat.le_of_ble_eq_true rfl) dL_comes_71 ⟨by show _ ≤ (660 : Nat); omega, by show _ ≤ (3960 : Nat); omega⟩ (fun r_71 u_71 H locs hw hP hD hS hz9 => ?_)
          have e9 : (sp_restart T_1 (nI (xx / 16 % 4))) = (2, 0, T_1) := q2_restart (id3 _ (by omega)) (lk_crd hci.2.2.2.1 (by omega))
          rw [e9] at hP hD
          have hP : va_P G vwCl (wC a cy T_1 u_71) H := hP
          have hD : va_D A (wC a cy T_1 u_71) := hD
          have hz := rz_k e9 (by decide) hz hz9
          have hz : s.heap.size + 1 ≤ H.size := hz
          obtain rfl : r_71 = (-2000000003) := rf_2 e9 hw
          refine lv_pop hx hb dL_comes_74 rfl ?_
          refine lv_aload_n hx hb dL_comes_75 rfl (lv_at hl 2 rfl) ?_
          refine lv_iload hx hb dL_comes_76 (lv_at hl 0 rfl) ?_
          refine lv_iconst (v := 1) hx hb dL_comes_78 (by decide) ?_
          refine lv_iload hx hb dL_comes_79 (lv_at hl 1 rfl) ?_
          refine lv_bipush (v := 64) hx hb dL_comes_81 (by decide) ?_
          refine lv_idiv hx hb dL_comes_83 (by decide) ?_
          refine ml_eqi (nI (xx / 64)) (pk_div (a := xx) (d := 64) (by omega) (by decide) (by decide)) ?_
          refine lv_bipush (v := 9) hx hb dL_comes_84 (by decide) ?_
          refine lv_irem hx hb dL_comes_86 (by decide) ?_
          refine ml_eqi (nI (xx / 64 % 9)) (pk_rem (a := xx / 64) (d := 9) (by omega) (by decide) (by decide)) ?_
          refine lv_iadd hx hb dL_comes_87 ?_
          refine ml_eqi (nI (1 + xx / 64 % 9)) (nI_add 1 (xx / 64 % 9)) ?_
          obtain ⟨T_88, v88, et9, hci9, hta9, hh9⟩ := ci_take2 hci ht0 (by omega) hta (Int32.not_le.mp c_56) (w := xx / 16 % 4) (e := 1 + xx / 64 % 9) (by omega) (by omega)
          refine mo_SWz (G := G) (wr := ([] : va_W)) (As := [.ref (a 0), .int (nI (xx / 16 % 4)), .int (nI (1 + xx / 64 % 9))]) (rest := []) ⟨hx, hb, hml, hown, hts⟩ (c_L_takes l hlt G cy a H.size T_1 u_71 (nI (xx / 16 % 4)) (nI (1 + xx / 64 % 9)) hI_3) (vx_cwSW 3 hts gL_comes_L_takes rfl rfl rfl (by decide +kernel) ⟨Nat.le_of_ble_eq_true rfl, Nat.le_of_ble_eq_true rfl⟩) hP hD hP hK hD hS hA [0, 1, 2, 3, 4, 5, 6, 7, 8, 9, 10, 11] [] rfl rfl (by decide) (by decide) hN hE rfl hl.1 (Nat.le_of_ble_eq_true rfl) dL_comes_88 ⟨by show _ ≤ (660 : Nat); omega, by show _ ≤ (3960 : Nat); omega⟩ (fun r_88 u_88 H locs hw hP hD hS hz9 => ?_)
          have e9 : (sp_take T_1 (nI (xx / 16 % 4)) (nI (1 + xx / 64 % 9))) = (0, v88, T_88) := et9
          rw [e9] at hP hD
          have hP : va_P G vwCl (wC a cy T_88 u_88) H := hP
          have hD : va_D A (wC a cy T_88 u_88) := hD
          have hz : s.heap.size + 1 ≤ H.size := rz_0 hz hz9
          obtain rfl : r_88 = v88 := rf_0 e9 hw
          refine lv_pop hx hb dL_comes_91 rfl ?_
          refine W.widen (k := 1 + 8 * i + 3) (n := 6 * (1 + 8 * i + 3) + 0) (by omega) (by omega) ?_
          exact J92 T_88 u_88 hci9.1 (nI (xx / 16 % 4)) hci9 hta9 (⟨_, by omega, rfl, hh9⟩) _ _ _ hP hD hS (by omega) (lv_sub hl [1, 2, 3, 4, 5, 6, 7, 0] rfl)
  refine W.widen (k := 1 + 8 * 0) (n := 6 * (1 + 8 * 0) + 0) (by omega) (by omega) ?_
  exact LOOP14 300 0 T0 u_6 hci0.1 0 x (nI (tcu T0)) (by omega) hci0 _ _ _ hP hD hS (by omega) (lv_sub hl [4, 5, 6, 0, 3, 2, 1] rfl)
