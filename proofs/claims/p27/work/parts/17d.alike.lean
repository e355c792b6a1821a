set_option maxHeartbeats 8000000 in
set_option maxRecDepth 100000 in
theorem c_L_alike (l : Launch) (hlt : l.stackTraces = false) (G : va_G) (cy : Nat → ClassId) (a b : Nat → Nat) (sz : Nat) (T : TS) (tr : Nat → Int32) (S : TS) (ts : Nat → Int32) (hI : Inv T) (hJ : Inv S) : Met l yL_alike wsL_alike ({ frames := 9, cells := 320, slots := 1920, locals := 148 } : Room) (ml_PX G cy [.ref (a 0), .ref (b 0)] (wC a cy T tr ++ wC b cy S ts) sz) (va_Qi (fun (r : Int32) (u : (TS × (Nat → Int32)) × (TS × (Nat → Int32))) => Inv u.1.1 ∧ Inv u.2.1) (ml_BZ G cy (va_A (wC a cy T tr ++ wC b cy S ts) sz) (fun u : (TS × (Nat → Int32)) × (TS × (Nat → Int32)) => (wC a cy u.1.1 u.1.2 ++ wC b cy u.2.1 u.2.2)) sz (fun _ => 0)) (va_A (wC a cy T tr ++ wC b cy S ts) sz)) 320 1920 (va_A (wC a cy T tr ++ wC b cy S ts) sz) := by
  refine Met.ofW (cc := cL_alike) (maxL := 4) (ret := some .boolean) (by decide) rfl ?_
  intro p e s m args below meth c s₁ B hml hv
  obtain ⟨rfl, hsz, hP, hK, hD0, hN, hE⟩ := hv
  have hx := B.exec
  have hb := B.bytes
  have hr := B.returns
  have hts := atoms_spec (ws := wsL_alike) B.pre
  have hown : s.vm.findClass RL = some m.cls := findClass_of_methodNamed B.named
  have hlocks := B.notSynchronized
  subst hsz
  have hD := hD0.self (sz := s.heap.size)
  generalize hAe : va_A (wC a cy T tr ++ wC b cy S ts) s.heap.size = A at hD hE ⊢
  have hA : ∀ q : Nat, s.heap.size ≤ q → A q := fun q h => by rw [← hAe]; exact Or.inr h
  have hS : va_S A s.heap s.heap [] := va_S.rf
  have hP : va_P G vwCl (wC a cy T tr ++ wC b cy S ts) s.heap := hP
  have hl := lv_entry ([.ref (a 0), .ref (b 0)]) (n := 4) (Nat.le_of_ble_eq_true rfl)
  rw [lg_entry_eq]
  generalize (lg_sl ([.ref (a 0), .ref (b 0)]) ++ List.replicate (4 - (lg_sl ([.ref (a 0), .ref (b 0)])).length) Slot.unset).toArray = ls at hl ⊢
  have hl : lv_has ls 4 [(0, .ref (a 0)), (1, .ref (b 0))] := hl
  have hz : s.heap.size + 0 ≤ s.heap.size := Nat.le_refl _
  refine lv_aload_n hx hb dL_alike_0 rfl (lv_at hl 0 rfl) ?_
  have hPc := hP.sub (ws' := (wC a cy T tr)) [0, 1, 2, 3, 4, 5, 6, 7, 8, 9, 10, 11] rfl
  have hDc := hD.sub (ws' := (wC a cy T tr)) [0, 1, 2, 3, 4, 5, 6, 7, 8, 9, 10, 11] (by decide) rfl
  refine mo_Ve (G := G) (wr := (wC b cy S ts)) (As := []) (rest := []) ⟨hx, hb, hml, hown, hts⟩ (c_X3_level l G cy a s.heap.size T tr hI) (cwV 0 hts gL_alike_X3_level rfl rfl rfl (by decide +kernel) ⟨Nat.le_of_ble_eq_true rfl, Nat.le_of_ble_eq_true rfl⟩) (va_recv hK hPc (ci := 3) (q0 := 0) rfl rfl) hPc hDc hP hK hD hS hA [0, 1, 2, 3, 4, 5, 6, 7, 8, 9, 10, 11] [12, 13, 14, 15, 16, 17, 18, 19, 20, 21, 22, 23] rfl rfl (by decide) (by decide) hN rfl hl.1 (Nat.le_of_ble_eq_true rfl) dL_alike_1 ⟨by show _ ≤ (320 : Nat); omega, by show _ ≤ (1920 : Nat); omega⟩ (fun r_1 u_1 H locs hw hP hD hS hz9 => ?_)
  have hP := hP.sub (ws' := (wC a cy T tr ++ wC b cy S ts)) [12, 13, 14, 15, 16, 17, 18, 19, 20, 21, 22, 23, 0, 1, 2, 3, 4, 5, 6, 7, 8, 9, 10, 11] rfl
  have hD := hD.sub (ws' := (wC a cy T tr ++ wC b cy S ts)) [12, 13, 14, 15, 16, 17, 18, 19, 20, 21, 22, 23, 0, 1, 2, 3, 4, 5, 6, 7, 8, 9, 10, 11] (by decide) rfl
  have hP : va_P G vwCl (wC a cy T tr ++ wC b cy S ts) H := hP
  have hD : va_D A (wC a cy T tr ++ wC b cy S ts) := hD
  have hz : s.heap.size + 0 ≤ H.size := Nat.le_trans hz hz9
  obtain rfl : r_1 = nI (tlv T) := hw
  refine lv_aload_n hx hb dL_alike_4 rfl (lv_at hl 1 rfl) ?_
  have hPc := hP.sub (ws' := (wC b cy S ts)) [12, 13, 14, 15, 16, 17, 18, 19, 20, 21, 22, 23] rfl
  have hDc := hD.sub (ws' := (wC b cy S ts)) [12, 13, 14, 15, 16, 17, 18, 19, 20, 21, 22, 23] (by decide) rfl
  refine mo_Ve (G := G) (wr := (wC a cy T tr)) (As := []) (rest := [.int (nI (tlv T))]) ⟨hx, hb, hml, hown, hts⟩ (c_X3_level l G cy b H.size S ts hJ) (cwV 0 hts gL_alike_X3_level rfl rfl rfl (by decide +kernel) ⟨Nat.le_of_ble_eq_true rfl, Nat.le_of_ble_eq_true rfl⟩) (va_recv hK hPc (ci := 3) (q0 := 0) rfl rfl) hPc hDc hP hK hD hS hA [12, 13, 14, 15, 16, 17, 18, 19, 20, 21, 22, 23] [0, 1, 2, 3, 4, 5, 6, 7, 8, 9, 10, 11] rfl rfl (by decide) (by decide) hN rfl hl.1 (Nat.le_of_ble_eq_true rfl) dL_alike_5 ⟨by show _ ≤ (320 : Nat); omega, by show _ ≤ (1920 : Nat); omega⟩ (fun r_5 u_5 H locs hw hP hD hS hz9 => ?_)
  have hP := hP.sub (ws' := (wC a cy T tr ++ wC b cy S ts)) [0, 1, 2, 3, 4, 5, 6, 7, 8, 9, 10, 11, 12, 13, 14, 15, 16, 17, 18, 19, 20, 21, 22, 23] rfl
  have hD := hD.sub (ws' := (wC a cy T tr ++ wC b cy S ts)) [0, 1, 2, 3, 4, 5, 6, 7, 8, 9, 10, 11, 12, 13, 14, 15, 16, 17, 18, 19, 20, 21, 22, 23] (by decide) rfl
  have hP : va_P G vwCl (wC a cy T tr ++ wC b cy S ts) H := hP
  have hD : va_D A (wC a cy T tr ++ wC b cy S ts) := hD
  have hz : s.heap.size + 0 ≤ H.size := Nat.le_trans hz hz9
  obtain rfl : r_5 = nI (tlv S) := hw
  have J38 : ∀ (v38 : Int32) (h38 : v38 = 0 ∨ v38 = 1) (H : Heap) (locs : List Loc) (ls : Array Slot), va_P G vwCl (wC a cy T tr ++ wC b cy S ts) H → va_D A (wC a cy T tr ++ wC b cy S ts) → va_S A s.heap H locs → s.heap.size + 0 ≤ H.size → lv_has ls 4 [(0, .ref (a 0)), (1, .ref (b 0))] → W p l e (headSpec wsL_alike ({ frames := 9, cells := 320, slots := 1920, locals := 148 } : Room)).room s m (#[.ref (a 0), .ref (b 0)] : Array Value) below meth c H locs (0) (6 * (0) + 0) (MQ below (va_Qi (fun (r : Int32) (u : (TS × (Nat → Int32)) × (TS × (Nat → Int32))) => Inv u.1.1 ∧ Inv u.2.1) (ml_BZ G cy A (fun u : (TS × (Nat → Int32)) × (TS × (Nat → Int32)) => (wC a cy u.1.1 u.1.2 ++ wC b cy u.2.1 u.2.2)) s.heap.size (fun _ => 0)) A) (#[.ref (a 0), .ref (b 0)] : Array Value) s 320 1920 A) (F0 m 38 ls [.int v38]) := by
    intro v38 h38 H locs ls hP hD hS hz hl
    refine lv_istore_n (lv' := [(2, .int v38), (0, .ref (a 0)), (1, .ref (b 0))]) hx hb dL_alike_38 rfl hl (by decide) rfl (fun ls hl => ?_)
    refine lv_iconst (v := 0) hx hb dL_alike_39 (by decide) ?_
    refine lv_istore_n (lv' := [(3, .int 0), (2, .int v38), (0, .ref (a 0)), (1, .ref (b 0))]) hx hb dL_alike_40 rfl hl (by decide) rfl (fun ls hl => ?_)
    have LOOP41 : ∀ (r : Nat) (i : Nat) (T_1 : TS) (tr_2 : Nat → Int32) (hI_3 : Inv T_1) (T_4 : TS) (tr_5 : Nat → Int32) (hI_6 : Inv T_4) (v2 : Int32) (hi : i + r = 40) (hb2 : v2 = 0 ∨ v2 = 1) (H : Heap) (locs : List Loc) (ls : Array Slot), va_P G vwCl (wC a cy T_1 tr_2 ++ wC b cy T_4 tr_5) H → va_D A (wC a cy T_1 tr_2 ++ wC b cy T_4 tr_5) → va_S A s.heap H locs → s.heap.size + 0 ≤ H.size → lv_has ls 4 [(0, .ref (a 0)), (1, .ref (b 0)), (3, .int (nI i)), (2, .int v2)] → W p l e (headSpec wsL_alike ({ frames := 9, cells := 320, slots := 1920, locals := 148 } : Room)).room s m (#[.ref (a 0), .ref (b 0)] : Array Value) below meth c H locs (0 + 8 * i) (6 * (0 + 8 * i) + 0) (MQ below (va_Qi (fun (r : Int32) (u : (TS × (Nat → Int32)) × (TS × (Nat → Int32))) => Inv u.1.1 ∧ Inv u.2.1) (ml_BZ G cy A (fun u : (TS × (Nat → Int32)) × (TS × (Nat → Int32)) => (wC a cy u.1.1 u.1.2 ++ wC b cy u.2.1 u.2.2)) s.heap.size (fun _ => 0)) A) (#[.ref (a 0), .ref (b 0)] : Array Value) s 320 1920 A) (F0 m 41 ls []) := by
      intro r
      induction r with
      | zero =>
        intro i T_1 tr_2 hI_3 T_4 tr_5 hI_6 v2 hi hb2 H locs ls hP hD hS hz hl
        obtain rfl : i = 40 := by omega
        refine lv_iload_n hx hb dL_alike_41 rfl (lv_at hl 2 rfl) ?_
        refine lv_bipush (v := 40) hx hb dL_alike_42 (by decide) ?_
        refine lv_icmp_ge (tgt := 121) hx hb dL_alike_44 (by decide) (fun c_44 => ?_) (fun c_44 => False.elim (c_44 ((nI_leI (a := 40) (b := 40) (by decide) (by decide)).mpr (Nat.le_refl 40))))
        refine lv_iload_n hx hb dL_alike_121 rfl (lv_at hl 3 rfl) ?_
        refine W.widen (k := 320) (n := 1920) (by omega) (by omega) ?_
        exact ml_rzz ((T_1, tr_2), (T_4, tr_5)) hx hb hr hlocks hP hK hD hS (nar01 hb2) rfl ⟨hI_3, hI_6⟩ (by show s.heap.size + 0 ≤ H.size; omega) dL_alike_122
      | succ r ih =>
        intro i T_1 tr_2 hI_3 T_4 tr_5 hI_6 v2 hi hb2 H locs ls hP hD hS hz hl
        refine lv_iload_n hx hb dL_alike_41 rfl (lv_at hl 2 rfl) ?_
        refine lv_bipush (v := 40) hx hb dL_alike_42 (by decide) ?_
        refine lv_icmp_ge (tgt := 121) hx hb dL_alike_44 (by decide) (fun c_44 => False.elim (absurd ((nI_leI (a := 40) (by decide) (by omega)).mp c_44) (by omega))) (fun c_44 => ?_)
        refine lv_iload_n hx hb dL_alike_47 rfl (lv_at hl 3 rfl) ?_
        refine lv_if_eq (tgt := 121) hx hb dL_alike_48 (by decide) (fun c_48 => ?_) (fun c_48 => ?_)
        · refine lv_iload_n hx hb dL_alike_121 rfl (lv_at hl 3 rfl) ?_
          refine W.widen (k := 320) (n := 1920) (by omega) (by omega) ?_
          exact ml_rzz ((T_1, tr_2), (T_4, tr_5)) hx hb hr hlocks hP hK hD hS (nar01 hb2) rfl ⟨hI_3, hI_6⟩ (by show s.heap.size + 0 ≤ H.size; omega) dL_alike_122
        · refine lv_aload_n hx hb dL_alike_51 rfl (lv_at hl 0 rfl) ?_
          refine lv_iload_n hx hb dL_alike_52 rfl (lv_at hl 2 rfl) ?_
          have hPc := hP.sub (ws' := (wC a cy T_1 tr_2)) [0, 1, 2, 3, 4, 5, 6, 7, 8, 9, 10, 11] rfl
          have hDc := hD.sub (ws' := (wC a cy T_1 tr_2)) [0, 1, 2, 3, 4, 5, 6, 7, 8, 9, 10, 11] (by decide) rfl
          refine mo_SWz (G := G) (wr := (wC b cy T_4 tr_5)) (As := [.ref (a 0), .int (nI i)]) (rest := []) ⟨hx, hb, hml, hown, hts⟩ (c_L_version l hlt G cy a H.size T_1 tr_2 (nI i) hI_3) (vx_cwSW 2 hts gL_alike_L_version rfl rfl rfl (by decide +kernel) ⟨Nat.le_of_ble_eq_true rfl, Nat.le_of_ble_eq_true rfl⟩) hPc hDc hP hK hD hS hA [0, 1, 2, 3, 4, 5, 6, 7, 8, 9, 10, 11] [12, 13, 14, 15, 16, 17, 18, 19, 20, 21, 22, 23] rfl rfl (by decide) (by decide) hN hE rfl hl.1 (Nat.le_of_ble_eq_true rfl) dL_alike_53 ⟨by show _ ≤ (320 : Nat); omega, by show _ ≤ (1920 : Nat); omega⟩ (fun r_53 u_53 H locs hw hP hD hS hz9 => ?_)
          obtain ⟨T_53, hT9⟩ : ∃ z, z = (sp_version T_1 (nI i)).2.2 := ⟨_, rfl⟩
          rw [← hT9] at hP hD
          have hI_53 : Inv T_53 := by rw [hT9]; exact inv_version hI_3 (nI i)
          have hP := hP.sub (ws' := (wC a cy T_53 u_53 ++ wC b cy T_4 tr_5)) [12, 13, 14, 15, 16, 17, 18, 19, 20, 21, 22, 23, 0, 1, 2, 3, 4, 5, 6, 7, 8, 9, 10, 11] rfl
          have hD := hD.sub (ws' := (wC a cy T_53 u_53 ++ wC b cy T_4 tr_5)) [12, 13, 14, 15, 16, 17, 18, 19, 20, 21, 22, 23, 0, 1, 2, 3, 4, 5, 6, 7, 8, 9, 10, 11] (by decide) rfl
          have hP : va_P G vwCl (wC a cy T_53 u_53 ++ wC b cy T_4 tr_5) H := hP
          have hD : va_D A (wC a cy T_53 u_53 ++ wC b cy T_4 tr_5) := hD
          have hz : s.heap.size + 0 ≤ H.size := rz_0 hz hz9
          refine lv_aload_n hx hb dL_alike_56 rfl (lv_at hl 1 rfl) ?_
          refine lv_iload_n hx hb dL_alike_57 rfl (lv_at hl 2 rfl) ?_
          have hPc := hP.sub (ws' := (wC b cy T_4 tr_5)) [12, 13, 14, 15, 16, 17, 18, 19, 20, 21, 22, 23] rfl
          have hDc := hD.sub (ws' := (wC b cy T_4 tr_5)) [12, 13, 14, 15, 16, 17, 18, 19, 20, 21, 22, 23] (by decide) rfl
          refine mo_SWz (G := G) (wr := (wC a cy T_53 u_53)) (As := [.ref (b 0), .int (nI i)]) (rest := [.int r_53]) ⟨hx, hb, hml, hown, hts⟩ (c_L_version l hlt G cy b H.size T_4 tr_5 (nI i) hI_6) (vx_cwSW 2 hts gL_alike_L_version rfl rfl rfl (by decide +kernel) ⟨Nat.le_of_ble_eq_true rfl, Nat.le_of_ble_eq_true rfl⟩) hPc hDc hP hK hD hS hA [12, 13, 14, 15, 16, 17, 18, 19, 20, 21, 22, 23] [0, 1, 2, 3, 4, 5, 6, 7, 8, 9, 10, 11] rfl rfl (by decide) (by decide) hN hE rfl hl.1 (Nat.le_of_ble_eq_true rfl) dL_alike_58 ⟨by show _ ≤ (320 : Nat); omega, by show _ ≤ (1920 : Nat); omega⟩ (fun r_58 u_58 H locs hw hP hD hS hz9 => ?_)
          obtain ⟨T_58, hT9⟩ : ∃ z, z = (sp_version T_4 (nI i)).2.2 := ⟨_, rfl⟩
          rw [← hT9] at hP hD
          have hI_58 : Inv T_58 := by rw [hT9]; exact inv_version hI_6 (nI i)
          have hP := hP.sub (ws' := (wC a cy T_53 u_53 ++ wC b cy T_58 u_58)) [0, 1, 2, 3, 4, 5, 6, 7, 8, 9, 10, 11, 12, 13, 14, 15, 16, 17, 18, 19, 20, 21, 22, 23] rfl
          have hD := hD.sub (ws' := (wC a cy T_53 u_53 ++ wC b cy T_58 u_58)) [0, 1, 2, 3, 4, 5, 6, 7, 8, 9, 10, 11, 12, 13, 14, 15, 16, 17, 18, 19, 20, 21, 22, 23] (by decide) rfl
          have hP : va_P G vwCl (wC a cy T_53 u_53 ++ wC b cy T_58 u_58) H := hP
          have hD : va_D A (wC a cy T_53 u_53 ++ wC b cy T_58 u_58) := hD
          have hz : s.heap.size + 0 ≤ H.size := rz_0 hz hz9
          have J114 : ∀ (T_7 : TS) (tr_8 : Nat → Int32) (hI_9 : Inv T_7) (T_10 : TS) (tr_11 : Nat → Int32) (hI_12 : Inv T_10) (g2 : Int32) (hg : g2 = 0 ∨ g2 = 1) (H : Heap) (locs : List Loc) (ls : Array Slot), va_P G vwCl (wC a cy T_7 tr_8 ++ wC b cy T_10 tr_11) H → va_D A (wC a cy T_7 tr_8 ++ wC b cy T_10 tr_11) → va_S A s.heap H locs → s.heap.size + 0 ≤ H.size → lv_has ls 4 [(0, .ref (a 0)), (1, .ref (b 0)), (3, .int (nI i)), (2, .int v2)] → W p l e (headSpec wsL_alike ({ frames := 9, cells := 320, slots := 1920, locals := 148 } : Room)).room s m (#[.ref (a 0), .ref (b 0)] : Array Value) below meth c H locs (0 + 8 * i + 8) (6 * (0 + 8 * i + 8) + 0) (MQ below (va_Qi (fun (r : Int32) (u : (TS × (Nat → Int32)) × (TS × (Nat → Int32))) => Inv u.1.1 ∧ Inv u.2.1) (ml_BZ G cy A (fun u : (TS × (Nat → Int32)) × (TS × (Nat → Int32)) => (wC a cy u.1.1 u.1.2 ++ wC b cy u.2.1 u.2.2)) s.heap.size (fun _ => 0)) A) (#[.ref (a 0), .ref (b 0)] : Array Value) s 320 1920 A) (F0 m 114 ls [.int g2]) := by
            intro T_7 tr_8 hI_9 T_10 tr_11 hI_12 g2 hg H locs ls hP hD hS hz hl
            refine lv_istore_n (lv' := [(2, .int g2), (0, .ref (a 0)), (1, .ref (b 0)), (3, .int (nI i))]) hx hb dL_alike_114 rfl hl (by decide) rfl (fun ls hl => ?_)
            refine lv_iinc (v := nI (i + 1)) (lv' := [(3, .int (nI (i + 1))), (2, .int g2), (0, .ref (a 0)), (1, .ref (b 0))]) hx hb dL_alike_115 hl (k := 3) rfl (nI_1 _) (by decide) rfl (fun ls hl => ?_)
            refine lv_goto (tgt := 41) hx hb dL_alike_118 (by decide) ?_
            refine W.widen (k := 0 + 8 * (i + 1)) (n := 6 * (0 + 8 * (i + 1)) + 0) (by omega) (by omega) ?_
            exact ih (i + 1) T_7 tr_8 hI_9 T_10 tr_11 hI_12 g2 (by omega) hg _ _ _ hP hD hS hz (lv_sub hl [2, 3, 0, 1] rfl)
          refine lv_icmp_ne (tgt := 113) hx hb dL_alike_61 (by decide) (fun c_61 => ?_) (fun c_61 => ?_)
          · refine lv_iconst (v := 0) hx hb dL_alike_113 (by decide) ?_
            refine W.widen (k := 0 + 8 * i + 8) (n := 6 * (0 + 8 * i + 8) + 0) (by omega) (by omega) ?_
            exact J114 T_53 u_53 hI_53 T_58 u_58 hI_58 0 (Or.inl rfl) _ _ _ hP hD hS hz (lv_sub hl [0, 1, 2, 3] rfl)
          · refine lv_aload_n hx hb dL_alike_64 rfl (lv_at hl 0 rfl) ?_
            refine lv_iload_n hx hb dL_alike_65 rfl (lv_at hl 2 rfl) ?_
            refine lv_iconst (v := 0) hx hb dL_alike_66 (by decide) ?_
            have hPc := hP.sub (ws' := (wC a cy T_53 u_53)) [0, 1, 2, 3, 4, 5, 6, 7, 8, 9, 10, 11] rfl
            have hDc := hD.sub (ws' := (wC a cy T_53 u_53)) [0, 1, 2, 3, 4, 5, 6, 7, 8, 9, 10, 11] (by decide) rfl
            refine mo_SWz (G := G) (wr := (wC b cy T_58 u_58)) (As := [.ref (a 0), .int (nI i), .int 0]) (rest := []) ⟨hx, hb, hml, hown, hts⟩ (c_L_value l hlt G cy a H.size T_53 u_53 (nI i) 0 hI_53) (vx_cwSW 3 hts gL_alike_L_value rfl rfl rfl (by decide +kernel) ⟨Nat.le_of_ble_eq_true rfl, Nat.le_of_ble_eq_true rfl⟩) hPc hDc hP hK hD hS hA [0, 1, 2, 3, 4, 5, 6, 7, 8, 9, 10, 11] [12, 13, 14, 15, 16, 17, 18, 19, 20, 21, 22, 23] rfl rfl (by decide) (by decide) hN hE rfl hl.1 (Nat.le_of_ble_eq_true rfl) dL_alike_67 ⟨by show _ ≤ (320 : Nat); omega, by show _ ≤ (1920 : Nat); omega⟩ (fun r_67 u_67 H locs hw hP hD hS hz9 => ?_)
            obtain ⟨T_67, hT9⟩ : ∃ z, z = (sp_value T_53 (nI i) 0).2.2 := ⟨_, rfl⟩
            rw [← hT9] at hP hD
            have hI_67 : Inv T_67 := by rw [hT9]; exact inv_value hI_53 (nI i) 0
            have hP := hP.sub (ws' := (wC a cy T_67 u_67 ++ wC b cy T_58 u_58)) [12, 13, 14, 15, 16, 17, 18, 19, 20, 21, 22, 23, 0, 1, 2, 3, 4, 5, 6, 7, 8, 9, 10, 11] rfl
            have hD := hD.sub (ws' := (wC a cy T_67 u_67 ++ wC b cy T_58 u_58)) [12, 13, 14, 15, 16, 17, 18, 19, 20, 21, 22, 23, 0, 1, 2, 3, 4, 5, 6, 7, 8, 9, 10, 11] (by decide) rfl
            have hP : va_P G vwCl (wC a cy T_67 u_67 ++ wC b cy T_58 u_58) H := hP
            have hD : va_D A (wC a cy T_67 u_67 ++ wC b cy T_58 u_58) := hD
            have hz : s.heap.size + 0 ≤ H.size := rz_0 hz hz9
            refine lv_aload_n hx hb dL_alike_70 rfl (lv_at hl 1 rfl) ?_
            refine lv_iload_n hx hb dL_alike_71 rfl (lv_at hl 2 rfl) ?_
            refine lv_iconst (v := 0) hx hb dL_alike_72 (by decide) ?_
            have hPc := hP.sub (ws' := (wC b cy T_58 u_58)) [12, 13, 14, 15, 16, 17, 18, 19, 20, 21, 22, 23] rfl
            have hDc := hD.sub (ws' := (wC b cy T_58 u_58)) [12, 13, 14, 15, 16, 17, 18, 19, 20, 21, 22, 23] (by decide) rfl
            refine mo_SWz (G := G) (wr := (wC a cy T_67 u_67)) (As := [.ref (b 0), .int (nI i), .int 0]) (rest := [.int r_67]) ⟨hx, hb, hml, hown, hts⟩ (c_L_value l hlt G cy b H.size T_58 u_58 (nI i) 0 hI_58) (vx_cwSW 3 hts gL_alike_L_value rfl rfl rfl (by decide +kernel) ⟨Nat.le_of_ble_eq_true rfl, Nat.le_of_ble_eq_true rfl⟩) hPc hDc hP hK hD hS hA [12, 13, 14, 15, 16, 17, 18, 19, 20, 21, 22, 23] [0, 1, 2, 3, 4, 5, 6, 7, 8, 9, 10, 11] rfl rfl (by decide) (by decide) hN hE rfl hl.1 (Nat.le_of_ble_eq_true rfl) dL_alike_73 ⟨by show _ ≤ (320 : Nat); omega, by show _ ≤ (1920 : Nat); omega⟩ (fun r_73 u_73 H locs hw hP hD hS hz9 => ?_)
            obtain ⟨T_73, hT9⟩ : ∃ z, z = (sp_value T_58 (nI i) 0).2.2 := ⟨_, rfl⟩
            rw [← hT9] at hP hD
            have hI_73 : Inv T_73 := by rw [hT9]; exact inv_value hI_58 (nI i) 0
            have hP := hP.sub (ws' := (wC a cy T_67 u_67 ++ wC b cy T_73 u_73)) [0, 1, 2, 3, 4, 5, 6, 7, 8, 9, 10, 11, 12, 13, 14, 15, 16, 17, 18, 19, 20, 21, 22, 23] rfl
            have hD := hD.sub (ws' := (wC a cy T_67 u_67 ++ wC b cy T_73 u_73)) [0, 1, 2, 3, 4, 5, 6, 7, 8, 9, 10, 11, 12, 13, 14, 15, 16, 17, 18, 19, 20, 21, 22, 23] (by decide) rfl
            have hP : va_P G vwCl (wC a cy T_67 u_67 ++ wC b cy T_73 u_73) H := hP
            have hD : va_D A (wC a cy T_67 u_67 ++ wC b cy T_73 u_73) := hD
            have hz : s.heap.size + 0 ≤ H.size := rz_0 hz hz9
            refine lv_icmp_ne (tgt := 113) hx hb dL_alike_76 (by decide) (fun c_76 => ?_) (fun c_76 => ?_)
            · refine lv_iconst (v := 0) hx hb dL_alike_113 (by decide) ?_
              refine W.widen (k := 0 + 8 * i + 8) (n := 6 * (0 + 8 * i + 8) + 0) (by omega) (by omega) ?_
              exact J114 T_67 u_67 hI_67 T_73 u_73 hI_73 0 (Or.inl rfl) _ _ _ hP hD hS hz (lv_sub hl [0, 1, 2, 3] rfl)
            · refine lv_aload_n hx hb dL_alike_79 rfl (lv_at hl 0 rfl) ?_
              refine lv_iload_n hx hb dL_alike_80 rfl (lv_at hl 2 rfl) ?_
              refine lv_iconst (v := 1) hx hb dL_alike_81 (by decide) ?_
              have hPc := hP.sub (ws' := (wC a cy T_67 u_67)) [0, 1, 2, 3, 4, 5, 6, 7, 8, 9, 10, 11] rfl
              have hDc := hD.sub (ws' := (wC a cy T_67 u_67)) [0, 1, 2, 3, 4, 5, 6, 7, 8, 9, 10, 11] (by decide) rfl
              refine mo_SWz (G := G) (wr := (wC b cy T_73 u_73)) (As := [.ref (a 0), .int (nI i), .int 1]) (rest := []) ⟨hx, hb, hml, hown, hts⟩ (c_L_value l hlt G cy a H.size T_67 u_67 (nI i) 1 hI_67) (vx_cwSW 3 hts gL_alike_L_value rfl rfl rfl (by decide +kernel) ⟨Nat.le_of_ble_eq_true rfl, Nat.le_of_ble_eq_true rfl⟩) hPc hDc hP hK hD hS hA [0, 1, 2, 3, 4, 5, 6, 7, 8, 9, 10, 11] [12, 13, 14, 15, 16, 17, 18, 19, 20, 21, 22, 23] rfl rfl (by decide) (by decide) hN hE rfl hl.1 (Nat.le_of_ble_eq_true rfl) dL_alike_82 ⟨by show _ ≤ (320 : Nat); omega, by show _ ≤ (1920 : Nat); omega⟩ (fun r_82 u_82 H locs hw hP hD hS hz9 => ?_)
              obtain ⟨T_82, hT9⟩ : ∃ z, z = (sp_value T_67 (nI i) 1).2.2 := ⟨_, rfl⟩
              rw [← hT9] at hP hD
              have hI_82 : Inv T_82 := by rw [hT9]; exact inv_value hI_67 (nI i) 1
              have hP := hP.sub (ws' := (wC a cy T_82 u_82 ++ wC b cy T_73 u_73)) [12, 13, 14, 15, 16, 17, 18, 19, 20, 21, 22, 23, 0, 1, 2, 3, 4, 5, 6, 7, 8, 9, 10, 11] rfl
              have hD := hD.sub (ws' := (wC a cy T_82 u_82 ++ wC b cy T_73 u_73)) [12, 13, 14, 15, 16, 17, 18, 19, 20, 21, 22, 23, 0, 1, 2, 3, 4, 5, 6, 7, 8, 9, 10, 11] (by decide) rfl
              have hP : va_P G vwCl (wC a cy T_82 u_82 ++ wC b cy T_73 u_73) H := hP
              have hD : va_D A (wC a cy T_82 u_82 ++ wC b cy T_73 u_73) := hD
              have hz : s.heap.size + 0 ≤ H.size := rz_0 hz hz9
              refine lv_aload_n hx hb dL_alike_85 rfl (lv_at hl 1 rfl) ?_
              refine lv_iload_n hx hb dL_alike_86 rfl (lv_at hl 2 rfl) ?_
              refine lv_iconst (v := 1) hx hb dL_alike_87 (by decide) ?_
              have hPc := hP.sub (ws' := (wC b cy T_73 u_73)) [12, 13, 14, 15, 16, 17, 18, 19, 20, 21, 22, 23] rfl
              have hDc := hD.sub (ws' := (wC b cy T_73 u_73)) [12, 13, 14, 15, 16, 17, 18, 19, 20, 21, 22, 23] (by decide) rfl
              refine mo_SWz (G := G) (wr := (wC a cy T_82 u_82)) (As := [.ref (b 0), .int (nI i), .int 1]) (rest := [.int r_82]) ⟨hx, hb, hml, hown, hts⟩ (c_L_value l hlt G cy b H.size T_73 u_73 (nI i) 1 hI_73) (vx_cwSW 3 hts gL_alike_L_value rfl rfl rfl (by decide +kernel) ⟨Nat.le_of_ble_eq_true rfl, Nat.le_of_ble_eq_true rfl⟩) hPc hDc hP hK hD hS hA [12, 13, 14, 15, 16, 17, 18, 19, 20, 21, 22, 23] [0, 1, 2, 3, 4, 5, 6, 7, 8, 9, 10, 11] rfl rfl (by decide) (by decide) hN hE rfl hl.1 (Nat.le_of_ble_eq_true rfl) dL_alike_88 ⟨by show _ ≤ (320 : Nat); omega, by show _ ≤ (1920 : Nat); omega⟩ (fun r_88 u_88 H locs hw hP hD hS hz9 => ?_)
              obtain ⟨T_88, hT9⟩ : ∃ z, z = (sp_value T_73 (nI i) 1).2.2 := ⟨_, rfl⟩
              rw [← hT9] at hP hD
              have hI_88 : Inv T_88 := by rw [hT9]; exact inv_value hI_73 (nI i) 1
              have hP := hP.sub (ws' := (wC a cy T_82 u_82 ++ wC b cy T_88 u_88)) [0, 1, 2, 3, 4, 5, 6, 7, 8, 9, 10, 11, 12, 13, 14, 15, 16, 17, 18, 19, 20, 21, 22, 23] rfl
              have hD := hD.sub (ws' := (wC a cy T_82 u_82 ++ wC b cy T_88 u_88)) [0, 1, 2, 3, 4, 5, 6, 7, 8, 9, 10, 11, 12, 13, 14, 15, 16, 17, 18, 19, 20, 21, 22, 23] (by decide) rfl
              have hP : va_P G vwCl (wC a cy T_82 u_82 ++ wC b cy T_88 u_88) H := hP
              have hD : va_D A (wC a cy T_82 u_82 ++ wC b cy T_88 u_88) := hD
              have hz : s.heap.size + 0 ≤ H.size := rz_0 hz hz9
              refine lv_icmp_ne (tgt := 113) hx hb dL_alike_91 (by decide) (fun c_91 => ?_) (fun c_91 => ?_)
              · refine lv_iconst (v := 0) hx hb dL_alike_113 (by decide) ?_
                refine W.widen (k := 0 + 8 * i + 8) (n := 6 * (0 + 8 * i + 8) + 0) (by omega) (by omega) ?_
                exact J114 T_82 u_82 hI_82 T_88 u_88 hI_88 0 (Or.inl rfl) _ _ _ hP hD hS hz (lv_sub hl [0, 1, 2, 3] rfl)
              · refine lv_aload_n hx hb dL_alike_94 rfl (lv_at hl 0 rfl) ?_
                refine lv_iload_n hx hb dL_alike_95 rfl (lv_at hl 2 rfl) ?_
                refine lv_iconst (v := 2) hx hb dL_alike_96 (by decide) ?_
                have hPc := hP.sub (ws' := (wC a cy T_82 u_82)) [0, 1, 2, 3, 4, 5, 6, 7, 8, 9, 10, 11] rfl
                have hDc := hD.sub (ws' := (wC a cy T_82 u_82)) [0, 1, 2, 3, 4, 5, 6, 7, 8, 9, 10, 11] (by decide) rfl
                refine mo_SWz (G := G) (wr := (wC b cy T_88 u_88)) (As := [.ref (a 0), .int (nI i), .int 2]) (rest := []) ⟨hx, hb, hml, hown, hts⟩ (c_L_value l hlt G cy a H.size T_82 u_82 (nI i) 2 hI_82) (vx_cwSW 3 hts gL_alike_L_value rfl rfl rfl (by decide +kernel) ⟨Nat.le_of_ble_eq_true rfl, Nat.le_of_ble_eq_true rfl⟩) hPc hDc hP hK hD hS hA [0, 1, 2, 3, 4, 5, 6, 7, 8, 9, 10, 11] [12, 13, 14, 15, 16, 17, 18, 19, 20, 21, 22, 23] rfl rfl (by decide) (by decide) hN hE rfl hl.1 (Nat.le_of_ble_eq_true rfl) dL_alike_97 ⟨by show _ ≤ (320 : Nat); omega, by show _ ≤ (1920 : Nat); omega⟩ (fun r_97 u_97 H locs hw hP hD hS hz9 => ?_)
                obtain ⟨T_97, hT9⟩ : ∃ z, z = (sp_value T_82 (nI i) 2).2.2 := ⟨_, rfl⟩
                rw [← hT9] at hP hD
                have hI_97 : Inv T_97 := by rw [hT9]; exact inv_value hI_82 (nI i) 2
                have hP := hP.sub (ws' := (wC a cy T_97 u_97 ++ wC b cy T_88 u_88)) [12, 13, 14, 15, 16, 17, 18, 19, 20, 21, 22, 23, 0, 1, 2, 3, 4, 5, 6, 7, 8, 9, 10, 11] rfl
                have hD := hD.sub (ws' := (wC a cy T_97 u_97 ++ wC b cy T_88 u_88)) [12, 13, 14, 15, 16, 17, 18, 19, 20, 21, 22, 23, 0, 1, 2, 3, 4, 5, 6, 7, 8, 9, 10, 11] (by decide) rfl
                have hP : va_P G vwCl (wC a cy T_97 u_97 ++ wC b cy T_88 u_88) H := hP
                have hD : va_D A (wC a cy T_97 u_97 ++ wC b cy T_88 u_88) := hD
                have hz : s.heap.size + 0 ≤ H.size := rz_0 hz hz9
                refine lv_aload_n hx hb dL_alike_100 rfl (lv_at hl 1 rfl) ?_
                refine lv_iload_n hx hb dL_alike_101 rfl (lv_at hl 2 rfl) ?_
                refine lv_iconst (v := 2) hx hb dL_alike_102 (by decide) ?_
                have hPc := hP.sub (ws' := (wC b cy T_88 u_88)) [12, 13, 14, 15, 16, 17, 18, 19, 20, 21, 22, 23] rfl
                have hDc := hD.sub (ws' := (wC b cy T_88 u_88)) [12, 13, 14, 15, 16, 17, 18, 19, 20, 21, 22, 23] (by decide) rfl
                refine mo_SWz (G := G) (wr := (wC a cy T_97 u_97)) (As := [.ref (b 0), .int (nI i), .int 2]) (rest := [.int r_97]) ⟨hx, hb, hml, hown, hts⟩ (c_L_value l hlt G cy b H.size T_88 u_88 (nI i) 2 hI_88) (vx_cwSW 3 hts gL_alike_L_value rfl rfl rfl (by decide +kernel) ⟨Nat.le_of_ble_eq_true rfl, Nat.le_of_ble_eq_true rfl⟩) hPc hDc hP hK hD hS hA [12, 13, 14, 15, 16, 17, 18, 19, 20, 21, 22, 23] [0, 1, 2, 3, 4, 5, 6, 7, 8, 9, 10, 11] rfl rfl (by decide) (by decide) hN hE rfl hl.1 (Nat.le_of_ble_eq_true rfl) dL_alike_103 ⟨by show _ ≤ (320 : Nat); omega, by show _ ≤ (1920 : Nat); omega⟩ (fun r_103 u_103 H locs hw hP hD hS hz9 => ?_)
                obtain ⟨T_103, hT9⟩ : ∃ z, z = (sp_value T_88 (nI i) 2).2.2 := ⟨_, rfl⟩
                rw [← hT9] at hP hD
                have hI_103 : Inv T_103 := by rw [hT9]; exact inv_value hI_88 (nI i) 2
                have hP := hP.sub (ws' := (wC a cy T_97 u_97 ++ wC b cy T_103 u_103)) [0, 1, 2, 3, 4, 5, 6, 7, 8, 9, 10, 11, 12, 13, 14, 15, 16, 17, 18, 19, 20, 21, 22, 23] rfl
                have hD := hD.sub (ws' := (wC a cy T_97 u_97 ++ wC b cy T_103 u_103)) [0, 1, 2, 3, 4, 5, 6, 7, 8, 9, 10, 11, 12, 13, 14, 15, 16, 17, 18, 19, 20, 21, 22, 23] (by decide) rfl
                have hP : va_P G vwCl (wC a cy T_97 u_97 ++ wC b cy T_103 u_103) H := hP
                have hD : va_D A (wC a cy T_97 u_97 ++ wC b cy T_103 u_103) := hD
                have hz : s.heap.size + 0 ≤ H.size := rz_0 hz hz9
                refine lv_icmp_ne (tgt := 113) hx hb dL_alike_106 (by decide) (fun c_106 => ?_) (fun c_106 => ?_)
                · refine lv_iconst (v := 0) hx hb dL_alike_113 (by decide) ?_
                  refine W.widen (k := 0 + 8 * i + 8) (n := 6 * (0 + 8 * i + 8) + 0) (by omega) (by omega) ?_
                  exact J114 T_97 u_97 hI_97 T_103 u_103 hI_103 0 (Or.inl rfl) _ _ _ hP hD hS hz (lv_sub hl [0, 1, 2, 3] rfl)
                · refine lv_iconst (v := 1) hx hb dL_alike_109 (by decide) ?_
                  refine lv_goto (tgt := 114) hx hb dL_alike_110 (by decide) ?_
                  refine W.widen (k := 0 + 8 * i + 8) (n := 6 * (0 + 8 * i + 8) + 0) (by omega) (by omega) ?_
                  exact J114 T_97 u_97 hI_97 T_103 u_103 hI_103 1 (Or.inr rfl) _ _ _ hP hD hS hz (lv_sub hl [0, 1, 2, 3] rfl)
    refine W.widen (k := 0 + 8 * 0) (n := 6 * (0 + 8 * 0) + 0) (by omega) (by omega) ?_
    exact LOOP41 40 0 T tr hI S ts hJ v38 (by omega) h38 _ _ _ hP hD hS hz (lv_sub hl [2, 3, 0, 1] rfl)
  refine lv_icmp_ne (tgt := 37) hx hb dL_alike_8 (by decide) (fun c_8 => ?_) (fun c_8 => ?_)
  · refine lv_iconst (v := 0) hx hb dL_alike_37 (by decide) ?_
    refine W.widen (k := 0) (n := 6 * (0) + 0) (by omega) (by omega) ?_
    exact J38 0 (Or.inl rfl) _ _ _ hP hD hS hz (lv_sub hl [0, 1] rfl)
  · refine lv_aload_n hx hb dL_alike_11 rfl (lv_at hl 0 rfl) ?_
    have hPc := hP.sub (ws' := (wC a cy T tr)) [0, 1, 2, 3, 4, 5, 6, 7, 8, 9, 10, 11] rfl
    have hDc := hD.sub (ws' := (wC a cy T tr)) [0, 1, 2, 3, 4, 5, 6, 7, 8, 9, 10, 11] (by decide) rfl
    refine mo_Ve (G := G) (wr := (wC b cy S ts)) (As := []) (rest := []) ⟨hx, hb, hml, hown, hts⟩ (c_X3_changes l G cy a H.size T tr hI) (cwV 0 hts gL_alike_X3_changes rfl rfl rfl (by decide +kernel) ⟨Nat.le_of_ble_eq_true rfl, Nat.le_of_ble_eq_true rfl⟩) (va_recv hK hPc (ci := 3) (q0 := 0) rfl rfl) hPc hDc hP hK hD hS hA [0, 1, 2, 3, 4, 5, 6, 7, 8, 9, 10, 11] [12, 13, 14, 15, 16, 17, 18, 19, 20, 21, 22, 23] rfl rfl (by decide) (by decide) hN rfl hl.1 (Nat.le_of_ble_eq_true rfl) dL_alike_12 ⟨by show _ ≤ (320 : Nat); omega, by show _ ≤ (1920 : Nat); omega⟩ (fun r_12 u_12 H locs hw hP hD hS hz9 => ?_)
    have hP := hP.sub (ws' := (wC a cy T tr ++ wC b cy S ts)) [12, 13, 14, 15, 16, 17, 18, 19, 20, 21, 22, 23, 0, 1, 2, 3, 4, 5, 6, 7, 8, 9, 10, 11] rfl
    have hD := hD.sub (ws' := (wC a cy T tr ++ wC b cy S ts)) [12, 13, 14, 15, 16, 17, 18, 19, 20, 21, 22, 23, 0, 1, 2, 3, 4, 5, 6, 7, 8, 9, 10, 11] (by decide) rfl
    have hP : va_P G vwCl (wC a cy T tr ++ wC b cy S ts) H := hP
    have hD : va_D A (wC a cy T tr ++ wC b cy S ts) := hD
    have hz : s.heap.size + 0 ≤ H.size := Nat.le_trans hz hz9
    obtain rfl : r_12 = nI (tn T) := hw
    refine lv_aload_n hx hb dL_alike_15 rfl (lv_at hl 1 rfl) ?_
    have hPc := hP.sub (ws' := (wC b cy S ts)) [12, 13, 14, 15, 16, 17, 18, 19, 20, 21, 22, 23] rfl
    have hDc := hD.sub (ws' := (wC b cy S ts)) [12, 13, 14, 15, 16, 17, 18, 19, 20, 21, 22, 23] (by decide) rfl
    refine mo_Ve (G := G) (wr := (wC a cy T tr)) (As := []) (rest := [.int (nI (tn T))]) ⟨hx, hb, hml, hown, hts⟩ (c_X3_changes l G cy b H.size S ts hJ) (cwV 0 hts gL_alike_X3_changes rfl rfl rfl (by decide +kernel) ⟨Nat.le_of_ble_eq_true rfl, Nat.le_of_ble_eq_true rfl⟩) (va_recv hK hPc (ci := 3) (q0 := 0) rfl rfl) hPc hDc hP hK hD hS hA [12, 13, 14, 15, 16, 17, 18, 19, 20, 21, 22, 23] [0, 1, 2, 3, 4, 5, 6, 7, 8, 9, 10, 11] rfl rfl (by decide) (by decide) hN rfl hl.1 (Nat.le_of_ble_eq_true rfl) dL_alike_16 ⟨by show _ ≤ (320 : Nat); omega, by show _ ≤ (1920 : Nat); omega⟩ (fun r_16 u_16 H locs hw hP hD hS hz9 => ?_)
    have hP := hP.sub (ws' := (wC a cy T tr ++ wC b cy S ts)) [0, 1, 2, 3, 4, 5, 6, 7, 8, 9, 10, 11, 12, 13, 14, 15, 16, 17, 18, 19, 20, 21, 22, 23] rfl
    have hD := hD.sub (ws' := (wC a cy T tr ++ wC b cy S ts)) [0, 1, 2, 3, 4, 5, 6, 7, 8, 9, 10, 11, 12, 13, 14, 15, 16, 17, 18, 19, 20, 21, 22, 23] (by decide) rfl
    have hP : va_P G vwCl (wC a cy T tr ++ wC b cy S ts) H := hP
    have hD : va_D A (wC a cy T tr ++ wC b cy S ts) := hD
    have hz : s.heap.size + 0 ≤ H.size := Nat.le_trans hz hz9
    obtain rfl : r_16 = nI (tn S) := hw
    refine lv_icmp_ne (tgt := 37) hx hb dL_alike_19 (by decide) (fun c_19 => ?_) (fun c_19 => ?_)
    · refine lv_iconst (v := 0) hx hb dL_alike_37 (by decide) ?_
      refine W.widen (k := 0) (n := 6 * (0) + 0) (by omega) (by omega) ?_
      exact J38 0 (Or.inl rfl) _ _ _ hP hD hS hz (lv_sub hl [0, 1] rfl)
    · refine lv_aload_n hx hb dL_alike_22 rfl (lv_at hl 0 rfl) ?_
      have hPc := hP.sub (ws' := (wC a cy T tr)) [0, 1, 2, 3, 4, 5, 6, 7, 8, 9, 10, 11] rfl
      have hDc := hD.sub (ws' := (wC a cy T tr)) [0, 1, 2, 3, 4, 5, 6, 7, 8, 9, 10, 11] (by decide) rfl
      refine mo_Ve (G := G) (wr := (wC b cy S ts)) (As := []) (rest := []) ⟨hx, hb, hml, hown, hts⟩ (c_X3_drifted l G cy a H.size T tr hI) (cwV 0 hts gL_alike_X3_drifted rfl rfl rfl (by decide +kernel) ⟨Nat.le_of_ble_eq_true rfl, Nat.le_of_ble_eq_true rfl⟩) (va_recv hK hPc (ci := 3) (q0 := 0) rfl rfl) hPc hDc hP hK hD hS hA [0, 1, 2, 3, 4, 5, 6, 7, 8, 9, 10, 11] [12, 13, 14, 15, 16, 17, 18, 19, 20, 21, 22, 23] rfl rfl (by decide) (by decide) hN rfl hl.1 (Nat.le_of_ble_eq_true rfl) dL_alike_23 ⟨by show _ ≤ (320 : Nat); omega, by show _ ≤ (1920 : Nat); omega⟩ (fun r_23 u_23 H locs hw hP hD hS hz9 => ?_)
      have hP := hP.sub (ws' := (wC a cy T tr ++ wC b cy S ts)) [12, 13, 14, 15, 16, 17, 18, 19, 20, 21, 22, 23, 0, 1, 2, 3, 4, 5, 6, 7, 8, 9, 10, 11] rfl
      have hD := hD.sub (ws' := (wC a cy T tr ++ wC b cy S ts)) [12, 13, 14, 15, 16, 17, 18, 19, 20, 21, 22, 23, 0, 1, 2, 3, 4, 5, 6, 7, 8, 9, 10, 11] (by decide) rfl
      have hP : va_P G vwCl (wC a cy T tr ++ wC b cy S ts) H := hP
      have hD : va_D A (wC a cy T tr ++ wC b cy S ts) := hD
      have hz : s.heap.size + 0 ≤ H.size := Nat.le_trans hz hz9
      obtain rfl : r_23 = fdr T := hw
      refine lv_aload_n hx hb dL_alike_26 rfl (lv_at hl 1 rfl) ?_
      have hPc := hP.sub (ws' := (wC b cy S ts)) [12, 13, 14, 15, 16, 17, 18, 19, 20, 21, 22, 23] rfl
      have hDc := hD.sub (ws' := (wC b cy S ts)) [12, 13, 14, 15, 16, 17, 18, 19, 20, 21, 22, 23] (by decide) rfl
      refine mo_Ve (G := G) (wr := (wC a cy T tr)) (As := []) (rest := [.int (fdr T)]) ⟨hx, hb, hml, hown, hts⟩ (c_X3_drifted l G cy b H.size S ts hJ) (cwV 0 hts gL_alike_X3_drifted rfl rfl rfl (by decide +kernel) ⟨Nat.le_of_ble_eq_true rfl, Nat.le_of_ble_eq_true rfl⟩) (va_recv hK hPc (ci := 3) (q0 := 0) rfl rfl) hPc hDc hP hK hD hS hA [12, 13, 14, 15, 16, 17, 18, 19, 20, 21, 22, 23] [0, 1, 2, 3, 4, 5, 6, 7, 8, 9, 10, 11] rfl rfl (by decide) (by decide) hN rfl hl.1 (Nat.le_of_ble_eq_true rfl) dL_alike_27 ⟨by show _ ≤ (320 : Nat); omega, by show _ ≤ (1920 : Nat); omega⟩ (fun r_27 u_27 H locs hw hP hD hS hz9 => ?_)
      have hP := hP.sub (ws' := (wC a cy T tr ++ wC b cy S ts)) [0, 1, 2, 3, 4, 5, 6, 7, 8, 9, 10, 11, 12, 13, 14, 15, 16, 17, 18, 19, 20, 21, 22, 23] rfl
      have hD := hD.sub (ws' := (wC a cy T tr ++ wC b cy S ts)) [0, 1, 2, 3, 4, 5, 6, 7, 8, 9, 10, 11, 12, 13, 14, 15, 16, 17, 18, 19, 20, 21, 22, 23] (by decide) rfl
      have hP : va_P G vwCl (wC a cy T tr ++ wC b cy S ts) H := hP
      have hD : va_D A (wC a cy T tr ++ wC b cy S ts) := hD
      have hz : s.heap.size + 0 ≤ H.size := Nat.le_trans hz hz9
      obtain rfl : r_27 = fdr S := hw
      refine lv_icmp_ne (tgt := 37) hx hb dL_alike_30 (by decide) (fun c_30 => ?_) (fun c_30 => ?_)
      · refine lv_iconst (v := 0) hx hb dL_alike_37 (by decide) ?_
        refine W.widen (k := 0) (n := 6 * (0) + 0) (by omega) (by omega) ?_
        exact J38 0 (Or.inl rfl) _ _ _ hP hD hS hz (lv_sub hl [0, 1] rfl)
      · refine lv_iconst (v := 1) hx hb dL_alike_33 (by decide) ?_
        refine lv_goto (tgt := 38) hx hb dL_alike_34 (by decide) ?_
        refine W.widen (k := 0) (n := 6 * (0) + 0) (by omega) (by omega) ?_
        exact J38 1 (Or.inr rfl) _ _ _ hP hD hS hz (lv_sub hl [0, 1] rfl)
