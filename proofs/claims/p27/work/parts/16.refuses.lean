set_option maxHeartbeats 8000000 in
set_option maxRecDepth 100000 in
theorem c_L_refuses (l : Launch) (hlt : l.stackTraces = false) (G : va_G) (cy : Nat → ClassId) (a : Nat → Nat) (sz : Nat) (T : TS) (tr : Nat → Int32) (n : Nat) (hn : n < 997) (hI : Inv T) : Met l yL_refuses wsL_refuses ({ frames := 10, cells := 70, slots := 420, locals := 189 } : Room) (ml_PX G cy [.ref (a 0), .int (nI n)] (wC a cy T tr) sz) (va_Qi (fun (r : Int32) (u : Nat → Int32) => r = 1) (ml_BZ G cy (va_A (wC a cy T tr) sz) (fun u : Nat → Int32 => (wC a cy T u)) sz (fun _ => 37)) (va_A (wC a cy T tr) sz)) 70 420 (va_A (wC a cy T tr) sz) := by
  refine Met.ofW (cc := cL_refuses) (maxL := 9) (ret := some .boolean) (by decide) rfl ?_
  intro p e s m args below meth c s₁ B hml hv
  obtain ⟨rfl, hsz, hP, hK, hD0, hN, hE⟩ := hv
  have hx := B.exec
  have hb := B.bytes
  have hr := B.returns
  have hts := atoms_spec (ws := wsL_refuses) B.pre
  have hown : s.vm.findClass RL = some m.cls := findClass_of_methodNamed B.named
  have hlocks := B.notSynchronized
  subst hsz
  have hD := hD0.self (sz := s.heap.size)
  generalize hAe : va_A (wC a cy T tr) s.heap.size = A at hD hE ⊢
  have hA : ∀ q : Nat, s.heap.size ≤ q → A q := fun q h => by rw [← hAe]; exact Or.inr h
  have hS : va_S A s.heap s.heap [] := va_S.rf
  have hP : va_P G vwCl (wC a cy T tr) s.heap := hP
  have hl := lv_entry ([.ref (a 0), .int (nI n)]) (n := 9) (Nat.le_of_ble_eq_true rfl)
  rw [lg_entry_eq]
  generalize (lg_sl ([.ref (a 0), .int (nI n)]) ++ List.replicate (9 - (lg_sl ([.ref (a 0), .int (nI n)])).length) Slot.unset).toArray = ls at hl ⊢
  have hl : lv_has ls 9 [(0, .ref (a 0)), (1, .int (nI n))] := hl
  have hz : s.heap.size + 0 ≤ s.heap.size := Nat.le_refl _
  have hk : tn T ≤ 12 := hI.1.1
  refine lv_iload_n hx hb dL_refuses_0 rfl (lv_at hl 1 rfl) ?_
  refine lv_iconst (v := 2) hx hb dL_refuses_1 (by decide) ?_
  refine lv_irem hx hb dL_refuses_2 (by decide) ?_
  have J22 : ∀ (no1 : Int32) (hno : ¬ inR no1 0 39) (H : Heap) (locs : List Loc) (ls : Array Slot), va_P G vwCl (wC a cy T tr) H → va_D A (wC a cy T tr) → va_S A s.heap H locs → s.heap.size + 0 ≤ H.size → lv_has ls 9 [(0, .ref (a 0)), (1, .int (nI n))] → W p l e (headSpec wsL_refuses ({ frames := 10, cells := 70, slots := 420, locals := 189 } : Room)).room s m (#[.ref (a 0), .int (nI n)] : Array Value) below meth c H locs (0) (6 * (0) + 0) (MQ below (va_Qi (fun (r : Int32) (u : Nat → Int32) => r = 1) (ml_BZ G cy A (fun u : Nat → Int32 => (wC a cy T u)) s.heap.size (fun _ => 37)) A) (#[.ref (a 0), .int (nI n)] : Array Value) s 70 420 A) (F0 m 22 ls [.int no1]) := by
    intro no1 hno H locs ls hP hD hS hz hl
    refine lv_istore_n (lv' := [(2, .int no1), (0, .ref (a 0)), (1, .int (nI n))]) hx hb dL_refuses_22 rfl hl (by decide) rfl (fun ls hl => ?_)
    refine lv_iload_n hx hb dL_refuses_23 rfl (lv_at hl 2 rfl) ?_
    refine lv_iconst (v := 2) hx hb dL_refuses_24 (by decide) ?_
    refine lv_irem hx hb dL_refuses_25 (by decide) ?_
    have J44 : ∀ (of1 : Int32) (hof : ¬ inR of1 0 2) (H : Heap) (locs : List Loc) (ls : Array Slot), va_P G vwCl (wC a cy T tr) H → va_D A (wC a cy T tr) → va_S A s.heap H locs → s.heap.size + 0 ≤ H.size → lv_has ls 9 [(2, .int no1), (0, .ref (a 0)), (1, .int (nI n))] → W p l e (headSpec wsL_refuses ({ frames := 10, cells := 70, slots := 420, locals := 189 } : Room)).room s m (#[.ref (a 0), .int (nI n)] : Array Value) below meth c H locs (0) (6 * (0) + 0) (MQ below (va_Qi (fun (r : Int32) (u : Nat → Int32) => r = 1) (ml_BZ G cy A (fun u : Nat → Int32 => (wC a cy T u)) s.heap.size (fun _ => 37)) A) (#[.ref (a 0), .int (nI n)] : Array Value) s 70 420 A) (F0 m 44 ls [.int of1]) := by
      intro of1 hof H locs ls hP hD hS hz hl
      refine lv_istore_n (lv' := [(3, .int of1), (2, .int no1), (0, .ref (a 0)), (1, .int (nI n))]) hx hb dL_refuses_44 rfl hl (by decide) rfl (fun ls hl => ?_)
      refine lv_aload_n hx hb dL_refuses_45 rfl (lv_at hl 2 rfl) ?_
      refine mo_Ve (G := G) (wr := ([] : va_W)) (As := []) (rest := []) ⟨hx, hb, hml, hown, hts⟩ (c_X3_changes l G cy a H.size T tr hI) (cwV 0 hts gL_refuses_X3_changes rfl rfl rfl (by decide +kernel) ⟨Nat.le_of_ble_eq_true rfl, Nat.le_of_ble_eq_true rfl⟩) (va_recv hK hP (ci := 3) (q0 := 0) rfl rfl) hP hD hP hK hD hS hA [0, 1, 2, 3, 4, 5, 6, 7, 8, 9, 10, 11] [] rfl rfl (by decide) (by decide) hN rfl hl.1 (Nat.le_of_ble_eq_true rfl) dL_refuses_46 ⟨by show _ ≤ (70 : Nat); omega, by show _ ≤ (420 : Nat); omega⟩ (fun r_46 u_46 H locs hw hP hD hS hz9 => ?_)
      have hP : va_P G vwCl (wC a cy T tr) H := hP
      have hD : va_D A (wC a cy T tr) := hD
      have hz : s.heap.size + 0 ≤ H.size := Nat.le_trans hz hz9
      obtain rfl : r_46 = nI (tn T) := hw
      refine lv_istore (lv' := [(4, .int (nI (tn T))), (3, .int of1), (2, .int no1), (0, .ref (a 0)), (1, .int (nI n))]) hx hb dL_refuses_49 hl (by decide) rfl (fun ls hl => ?_)
      refine lv_aload_n hx hb dL_refuses_51 rfl (lv_at hl 3 rfl) ?_
      refine lv_iload_n hx hb dL_refuses_52 rfl (lv_at hl 1 rfl) ?_
      refine lv_iconst (v := 0) hx hb dL_refuses_53 (by decide) ?_
      refine lv_iconst (v := 1) hx hb dL_refuses_54 (by decide) ?_
      refine mo_SWz (G := G) (wr := ([] : va_W)) (As := [.ref (a 0), .int of1, .int 0, .int 1]) (rest := []) ⟨hx, hb, hml, hown, hts⟩ (c_L_adds l hlt G cy a H.size T tr of1 0 1 hI) (vx_cwSW 4 hts gL_refuses_L_adds rfl rfl rfl (by decide +kernel) ⟨Nat.le_of_ble_eq_true rfl, Nat.le_of_ble_eq_true rfl⟩) hP hD hP hK hD hS hA [0, 1, 2, 3, 4, 5, 6, 7, 8, 9, 10, 11] [] rfl rfl (by decide) (by decide) hN hE rfl hl.1 (Nat.le_of_ble_eq_true rfl) dL_refuses_55 ⟨by show _ ≤ (70 : Nat); omega, by show _ ≤ (420 : Nat); omega⟩ (fun r_55 u_55 H locs hw hP hD hS hz9 => ?_)
      have e9 : (sp_addChange T of1 0 1) = (1, 0, T) := q1_addChange (aA6 hof)
      rw [e9] at hP hD
      have hP : va_P G vwCl (wC a cy T u_55) H := hP
      have hD : va_D A (wC a cy T u_55) := hD
      have hz := rz_k e9 (by decide) hz hz9
      have hz : s.heap.size + 1 ≤ H.size := hz
      obtain rfl : r_55 = (-2000000002) := rf_1 e9 hw
      refine lv_ldc hx hb hown (hts (.constant RL 15 (-2000000002)) (by decide +kernel)) dL_refuses_58 ?_
      refine lv_icmp_ne (tgt := 289) hx hb dL_refuses_60 (by decide) (fun c_60 => False.elim (by revert c_60; decide)) (fun c_60 => ?_)
      refine lv_aload_n hx hb dL_refuses_63 rfl (lv_at hl 3 rfl) ?_
      refine lv_iconst (v := 0) hx hb dL_refuses_64 (by decide) ?_
      refine lv_iload_n hx hb dL_refuses_65 rfl (lv_at hl 1 rfl) ?_
      refine lv_iconst (v := 1) hx hb dL_refuses_66 (by decide) ?_
      refine mo_SWz (G := G) (wr := ([] : va_W)) (As := [.ref (a 0), .int 0, .int of1, .int 1]) (rest := []) ⟨hx, hb, hml, hown, hts⟩ (c_L_adds l hlt G cy a H.size T u_55 0 of1 1 hI) (vx_cwSW 4 hts gL_refuses_L_adds rfl rfl rfl (by decide +kernel) ⟨Nat.le_of_ble_eq_true rfl, Nat.le_of_ble_eq_true rfl⟩) hP hD hP hK hD hS hA [0, 1, 2, 3, 4, 5, 6, 7, 8, 9, 10, 11] [] rfl rfl (by decide) (by decide) hN hE rfl hl.1 (Nat.le_of_ble_eq_true rfl) dL_refuses_67 ⟨by show _ ≤ (70 : Nat); omega, by show _ ≤ (420 : Nat); omega⟩ (fun r_67 u_67 H locs hw hP hD hS hz9 => ?_)
      have e9 : (sp_addChange T 0 of1 1) = (1, 0, T) := q1_addChange (aA7 hof)
      rw [e9] at hP hD
      have hP : va_P G vwCl (wC a cy T u_67) H := hP
      have hD : va_D A (wC a cy T u_67) := hD
      have hz := rz_k e9 (by decide) hz hz9
      have hz : s.heap.size + 2 ≤ H.size := hz
      obtain rfl : r_67 = (-2000000002) := rf_1 e9 hw
      refine lv_ldc hx hb hown (hts (.constant RL 15 (-2000000002)) (by decide +kernel)) dL_refuses_70 ?_
      refine lv_icmp_ne (tgt := 289) hx hb dL_refuses_72 (by decide) (fun c_72 => False.elim (by revert c_72; decide)) (fun c_72 => ?_)
      refine lv_aload_n hx hb dL_refuses_75 rfl (lv_at hl 3 rfl) ?_
      refine lv_iconst (v := 0) hx hb dL_refuses_76 (by decide) ?_
      refine lv_iconst (v := 0) hx hb dL_refuses_77 (by decide) ?_
      refine lv_sipush (v := 1001) hx hb dL_refuses_78 (by decide) ?_
      refine lv_iload_n hx hb dL_refuses_81 rfl (lv_at hl 4 rfl) ?_
      refine lv_iadd hx hb dL_refuses_82 ?_
      refine mo_SWz (G := G) (wr := ([] : va_W)) (As := [.ref (a 0), .int 0, .int 0, .int (1001 + (nI n))]) (rest := []) ⟨hx, hb, hml, hown, hts⟩ (c_L_adds l hlt G cy a H.size T u_67 0 0 (1001 + (nI n)) hI) (vx_cwSW 4 hts gL_refuses_L_adds rfl rfl rfl (by decide +kernel) ⟨Nat.le_of_ble_eq_true rfl, Nat.le_of_ble_eq_true rfl⟩) hP hD hP hK hD hS hA [0, 1, 2, 3, 4, 5, 6, 7, 8, 9, 10, 11] [] rfl rfl (by decide) (by decide) hN hE rfl hl.1 (Nat.le_of_ble_eq_true rfl) dL_refuses_83 ⟨by show _ ≤ (70 : Nat); omega, by show _ ≤ (420 : Nat); omega⟩ (fun r_83 u_83 H locs hw hP hD hS hz9 => ?_)
      have e9 : (sp_addChange T 0 0 (1001 + (nI n))) = (1, 0, T) := q1_addChange (aA1 n hn)
      rw [e9] at hP hD
      have hP : va_P G vwCl (wC a cy T u_83) H := hP
      have hD : va_D A (wC a cy T u_83) := hD
      have hz := rz_k e9 (by decide) hz hz9
      have hz : s.heap.size + 3 ≤ H.size := hz
      obtain rfl : r_83 = (-2000000002) := rf_1 e9 hw
      refine lv_ldc hx hb hown (hts (.constant RL 15 (-2000000002)) (by decide +kernel)) dL_refuses_86 ?_
      refine lv_icmp_ne (tgt := 289) hx hb dL_refuses_88 (by decide) (fun c_88 => False.elim (by revert c_88; decide)) (fun c_88 => ?_)
      refine lv_aload_n hx hb dL_refuses_91 rfl (lv_at hl 3 rfl) ?_
      refine lv_iconst (v := 1) hx hb dL_refuses_92 (by decide) ?_
      refine lv_iconst (v := 0) hx hb dL_refuses_93 (by decide) ?_
      refine lv_iconst (v := 0) hx hb dL_refuses_94 (by decide) ?_
      refine mo_SWz (G := G) (wr := ([] : va_W)) (As := [.ref (a 0), .int 1, .int 0, .int 0]) (rest := []) ⟨hx, hb, hml, hown, hts⟩ (c_L_adds l hlt G cy a H.size T u_83 1 0 0 hI) (vx_cwSW 4 hts gL_refuses_L_adds rfl rfl rfl (by decide +kernel) ⟨Nat.le_of_ble_eq_true rfl, Nat.le_of_ble_eq_true rfl⟩) hP hD hP hK hD hS hA [0, 1, 2, 3, 4, 5, 6, 7, 8, 9, 10, 11] [] rfl rfl (by decide) (by decide) hN hE rfl hl.1 (Nat.le_of_ble_eq_true rfl) dL_refuses_95 ⟨by show _ ≤ (70 : Nat); omega, by show _ ≤ (420 : Nat); omega⟩ (fun r_95 u_95 H locs hw hP hD hS hz9 => ?_)
      have e9 : (sp_addChange T 1 0 0) = (1, 0, T) := q1_addChange aA3
      rw [e9] at hP hD
      have hP : va_P G vwCl (wC a cy T u_95) H := hP
      have hD : va_D A (wC a cy T u_95) := hD
      have hz := rz_k e9 (by decide) hz hz9
      have hz : s.heap.size + 4 ≤ H.size := hz
      obtain rfl : r_95 = (-2000000002) := rf_1 e9 hw
      refine lv_ldc hx hb hown (hts (.constant RL 15 (-2000000002)) (by decide +kernel)) dL_refuses_98 ?_
      refine lv_icmp_ne (tgt := 289) hx hb dL_refuses_100 (by decide) (fun c_100 => False.elim (by revert c_100; decide)) (fun c_100 => ?_)
      refine lv_aload_n hx hb dL_refuses_103 rfl (lv_at hl 3 rfl) ?_
      refine lv_iconst (v := 1) hx hb dL_refuses_104 (by decide) ?_
      refine lv_iconst (v := 1) hx hb dL_refuses_105 (by decide) ?_
      refine lv_bipush (v := 10) hx hb dL_refuses_106 (by decide) ?_
      refine lv_iload_n hx hb dL_refuses_108 rfl (lv_at hl 4 rfl) ?_
      refine lv_iadd hx hb dL_refuses_109 ?_
      refine mo_SWz (G := G) (wr := ([] : va_W)) (As := [.ref (a 0), .int 1, .int 1, .int (10 + (nI n))]) (rest := []) ⟨hx, hb, hml, hown, hts⟩ (c_L_adds l hlt G cy a H.size T u_95 1 1 (10 + (nI n)) hI) (vx_cwSW 4 hts gL_refuses_L_adds rfl rfl rfl (by decide +kernel) ⟨Nat.le_of_ble_eq_true rfl, Nat.le_of_ble_eq_true rfl⟩) hP hD hP hK hD hS hA [0, 1, 2, 3, 4, 5, 6, 7, 8, 9, 10, 11] [] rfl rfl (by decide) (by decide) hN hE rfl hl.1 (Nat.le_of_ble_eq_true rfl) dL_refuses_110 ⟨by show _ ≤ (70 : Nat); omega, by show _ ≤ (420 : Nat); omega⟩ (fun r_110 u_110 H locs hw hP hD hS hz9 => ?_)
      have e9 : (sp_addChange T 1 1 (10 + (nI n))) = (1, 0, T) := q1_addChange (aA2 n hn)
      rw [e9] at hP hD
      have hP : va_P G vwCl (wC a cy T u_110) H := hP
      have hD : va_D A (wC a cy T u_110) := hD
      have hz := rz_k e9 (by decide) hz hz9
      have hz : s.heap.size + 5 ≤ H.size := hz
      obtain rfl : r_110 = (-2000000002) := rf_1 e9 hw
      refine lv_ldc hx hb hown (hts (.constant RL 15 (-2000000002)) (by decide +kernel)) dL_refuses_113 ?_
      refine lv_icmp_ne (tgt := 289) hx hb dL_refuses_115 (by decide) (fun c_115 => False.elim (by revert c_115; decide)) (fun c_115 => ?_)
      refine lv_aload_n hx hb dL_refuses_118 rfl (lv_at hl 3 rfl) ?_
      refine lv_iconst (v := 2) hx hb dL_refuses_119 (by decide) ?_
      refine lv_iconst (v := 1) hx hb dL_refuses_120 (by decide) ?_
      refine lv_iconst (v := 1) hx hb dL_refuses_121 (by decide) ?_
      refine mo_SWz (G := G) (wr := ([] : va_W)) (As := [.ref (a 0), .int 2, .int 1, .int 1]) (rest := []) ⟨hx, hb, hml, hown, hts⟩ (c_L_adds l hlt G cy a H.size T u_110 2 1 1 hI) (vx_cwSW 4 hts gL_refuses_L_adds rfl rfl rfl (by decide +kernel) ⟨Nat.le_of_ble_eq_true rfl, Nat.le_of_ble_eq_true rfl⟩) hP hD hP hK hD hS hA [0, 1, 2, 3, 4, 5, 6, 7, 8, 9, 10, 11] [] rfl rfl (by decide) (by decide) hN hE rfl hl.1 (Nat.le_of_ble_eq_true rfl) dL_refuses_122 ⟨by show _ ≤ (70 : Nat); omega, by show _ ≤ (420 : Nat); omega⟩ (fun r_122 u_122 H locs hw hP hD hS hz9 => ?_)
      have e9 : (sp_addChange T 2 1 1) = (1, 0, T) := q1_addChange aA4
      rw [e9] at hP hD
      have hP : va_P G vwCl (wC a cy T u_122) H := hP
      have hD : va_D A (wC a cy T u_122) := hD
      have hz := rz_k e9 (by decide) hz hz9
      have hz : s.heap.size + 6 ≤ H.size := hz
      obtain rfl : r_122 = (-2000000002) := rf_1 e9 hw
      refine lv_ldc hx hb hown (hts (.constant RL 15 (-2000000002)) (by decide +kernel)) dL_refuses_125 ?_
      refine lv_icmp_ne (tgt := 289) hx hb dL_refuses_127 (by decide) (fun c_127 => False.elim (by revert c_127; decide)) (fun c_127 => ?_)
      refine lv_aload_n hx hb dL_refuses_130 rfl (lv_at hl 3 rfl) ?_
      refine lv_iconst (v := 2) hx hb dL_refuses_131 (by decide) ?_
      refine lv_iconst (v := 1) hx hb dL_refuses_132 (by decide) ?_
      refine lv_iload_n hx hb dL_refuses_133 rfl (lv_at hl 1 rfl) ?_
      refine mo_SWz (G := G) (wr := ([] : va_W)) (As := [.ref (a 0), .int 2, .int 1, .int of1]) (rest := []) ⟨hx, hb, hml, hown, hts⟩ (c_L_adds l hlt G cy a H.size T u_122 2 1 of1 hI) (vx_cwSW 4 hts gL_refuses_L_adds rfl rfl rfl (by decide +kernel) ⟨Nat.le_of_ble_eq_true rfl, Nat.le_of_ble_eq_true rfl⟩) hP hD hP hK hD hS hA [0, 1, 2, 3, 4, 5, 6, 7, 8, 9, 10, 11] [] rfl rfl (by decide) (by decide) hN hE rfl hl.1 (Nat.le_of_ble_eq_true rfl) dL_refuses_134 ⟨by show _ ≤ (70 : Nat); omega, by show _ ≤ (420 : Nat); omega⟩ (fun r_134 u_134 H locs hw hP hD hS hz9 => ?_)
      have e9 : (sp_addChange T 2 1 of1) = (1, 0, T) := q1_addChange (aA5 hof)
      rw [e9] at hP hD
      have hP : va_P G vwCl (wC a cy T u_134) H := hP
      have hD : va_D A (wC a cy T u_134) := hD
      have hz := rz_k e9 (by decide) hz hz9
      have hz : s.heap.size + 7 ≤ H.size := hz
      obtain rfl : r_134 = (-2000000002) := rf_1 e9 hw
      refine lv_ldc hx hb hown (hts (.constant RL 15 (-2000000002)) (by decide +kernel)) dL_refuses_137 ?_
      refine lv_icmp_ne (tgt := 289) hx hb dL_refuses_139 (by decide) (fun c_139 => False.elim (by revert c_139; decide)) (fun c_139 => ?_)
      refine lv_iload hx hb dL_refuses_142 (lv_at hl 0 rfl) ?_
      refine lv_bipush (v := 12) hx hb dL_refuses_144 (by decide) ?_
      have J161 : ∀ (tr_1 : Nat → Int32) (H : Heap) (locs : List Loc) (ls : Array Slot), va_P G vwCl (wC a cy T tr_1) H → va_D A (wC a cy T tr_1) → va_S A s.heap H locs → s.heap.size + 7 ≤ H.size → lv_has ls 9 [(4, .int (nI (tn T))), (3, .int of1), (2, .int no1), (0, .ref (a 0)), (1, .int (nI n))] → W p l e (headSpec wsL_refuses ({ frames := 10, cells := 70, slots := 420, locals := 189 } : Room)).room s m (#[.ref (a 0), .int (nI n)] : Array Value) below meth c H locs (0 + 8) (6 * (0 + 8) + 0) (MQ below (va_Qi (fun (r : Int32) (u : Nat → Int32) => r = 1) (ml_BZ G cy A (fun u : Nat → Int32 => (wC a cy T u)) s.heap.size (fun _ => 37)) A) (#[.ref (a 0), .int (nI n)] : Array Value) s 70 420 A) (F0 m 161 ls []) := by
        intro tr_1 H locs ls hP hD hS hz hl
        refine lv_aload_n hx hb dL_refuses_161 rfl (lv_at hl 3 rfl) ?_
        refine lv_iload_n hx hb dL_refuses_162 rfl (lv_at hl 2 rfl) ?_
        refine lv_iconst (v := 2) hx hb dL_refuses_163 (by decide) ?_
        refine lv_iconst (v := 2) hx hb dL_refuses_164 (by decide) ?_
        refine lv_iconst (v := 2) hx hb dL_refuses_165 (by decide) ?_
        refine mo_SWz (G := G) (wr := ([] : va_W)) (As := [.ref (a 0), .int no1, .int 2, .int 2, .int 2]) (rest := []) ⟨hx, hb, hml, hown, hts⟩ (c_L_edits l hlt G cy a H.size T tr_1 no1 2 2 2 hI) (vx_cwSW 5 hts gL_refuses_L_edits rfl rfl rfl (by decide +kernel) ⟨Nat.le_of_ble_eq_true rfl, Nat.le_of_ble_eq_true rfl⟩) hP hD hP hK hD hS hA [0, 1, 2, 3, 4, 5, 6, 7, 8, 9, 10, 11] [] rfl rfl (by decide) (by decide) hN hE rfl hl.1 (Nat.le_of_ble_eq_true rfl) dL_refuses_166 ⟨by show _ ≤ (70 : Nat); omega, by show _ ≤ (420 : Nat); omega⟩ (fun r_166 u_166 H locs hw hP hD hS hz9 => ?_)
        have e9 : (sp_edit T no1 2 2 2) = (1, 0, T) := q1_edit aA8
        rw [e9] at hP hD
        have hP : va_P G vwCl (wC a cy T u_166) H := hP
        have hD : va_D A (wC a cy T u_166) := hD
        have hz := rz_k e9 (by decide) hz hz9
        have hz : s.heap.size + 8 ≤ H.size := hz
        obtain rfl : r_166 = (-2000000002) := rf_1 e9 hw
        refine lv_ldc hx hb hown (hts (.constant RL 15 (-2000000002)) (by decide +kernel)) dL_refuses_169 ?_
        refine lv_icmp_ne (tgt := 289) hx hb dL_refuses_171 (by decide) (fun c_171 => False.elim (by revert c_171; decide)) (fun c_171 => ?_)
        refine lv_aload_n hx hb dL_refuses_174 rfl (lv_at hl 3 rfl) ?_
        refine lv_iload hx hb dL_refuses_175 (lv_at hl 0 rfl) ?_
        refine lv_iconst (v := 1) hx hb dL_refuses_177 (by decide) ?_
        refine lv_iadd hx hb dL_refuses_178 ?_
        refine lv_iload_n hx hb dL_refuses_179 rfl (lv_at hl 4 rfl) ?_
        refine lv_iadd hx hb dL_refuses_180 ?_
        refine lv_iconst (v := 0) hx hb dL_refuses_181 (by decide) ?_
        refine lv_iconst (v := 0) hx hb dL_refuses_182 (by decide) ?_
        refine lv_iconst (v := 1) hx hb dL_refuses_183 (by decide) ?_
        refine mo_SWz (G := G) (wr := ([] : va_W)) (As := [.ref (a 0), .int (((nI (tn T)) + 1) + (nI n)), .int 0, .int 0, .int 1]) (rest := []) ⟨hx, hb, hml, hown, hts⟩ (c_L_edits l hlt G cy a H.size T u_166 (((nI (tn T)) + 1) + (nI n)) 0 0 1 hI) (vx_cwSW 5 hts gL_refuses_L_edits rfl rfl rfl (by decide +kernel) ⟨Nat.le_of_ble_eq_true rfl, Nat.le_of_ble_eq_true rfl⟩) hP hD hP hK hD hS hA [0, 1, 2, 3, 4, 5, 6, 7, 8, 9, 10, 11] [] rfl rfl (by decide) (by decide) hN hE rfl hl.1 (Nat.le_of_ble_eq_true rfl) dL_refuses_184 ⟨by show _ ≤ (70 : Nat); omega, by show _ ≤ (420 : Nat); omega⟩ (fun r_184 u_184 H locs hw hP hD hS hz9 => ?_)
        have e9 : (sp_edit T (((nI (tn T)) + 1) + (nI n)) 0 0 1) = (2, 0, T) := q2_edit aA9 (aE1 hk hn)
        rw [e9] at hP hD
        have hP : va_P G vwCl (wC a cy T u_184) H := hP
        have hD : va_D A (wC a cy T u_184) := hD
        have hz := rz_k e9 (by decide) hz hz9
        have hz : s.heap.size + 9 ≤ H.size := hz
        obtain rfl : r_184 = (-2000000001) := rf_2 e9 hw
        refine lv_ldc hx hb hown (hts (.constant RL 25 (-2000000001)) (by decide +kernel)) dL_refuses_187 ?_
        refine lv_icmp_ne (tgt := 289) hx hb dL_refuses_189 (by decide) (fun c_189 => False.elim (by revert c_189; decide)) (fun c_189 => ?_)
        refine lv_aload_n hx hb dL_refuses_192 rfl (lv_at hl 3 rfl) ?_
        refine lv_iload_n hx hb dL_refuses_193 rfl (lv_at hl 4 rfl) ?_
        refine lv_ineg hx hb dL_refuses_194 ?_
        refine lv_iconst (v := 0) hx hb dL_refuses_195 (by decide) ?_
        refine lv_iconst (v := 0) hx hb dL_refuses_196 (by decide) ?_
        refine lv_iconst (v := 1) hx hb dL_refuses_197 (by decide) ?_
        refine mo_SWz (G := G) (wr := ([] : va_W)) (As := [.ref (a 0), .int (-(nI n)), .int 0, .int 0, .int 1]) (rest := []) ⟨hx, hb, hml, hown, hts⟩ (c_L_edits l hlt G cy a H.size T u_184 (-(nI n)) 0 0 1 hI) (vx_cwSW 5 hts gL_refuses_L_edits rfl rfl rfl (by decide +kernel) ⟨Nat.le_of_ble_eq_true rfl, Nat.le_of_ble_eq_true rfl⟩) hP hD hP hK hD hS hA [0, 1, 2, 3, 4, 5, 6, 7, 8, 9, 10, 11] [] rfl rfl (by decide) (by decide) hN hE rfl hl.1 (Nat.le_of_ble_eq_true rfl) dL_refuses_198 ⟨by show _ ≤ (70 : Nat); omega, by show _ ≤ (420 : Nat); omega⟩ (fun r_198 u_198 H locs hw hP hD hS hz9 => ?_)
        have e9 : (sp_edit T (-(nI n)) 0 0 1) = (2, 0, T) := q2_edit aA9 (aE3 hn)
        rw [e9] at hP hD
        have hP : va_P G vwCl (wC a cy T u_198) H := hP
        have hD : va_D A (wC a cy T u_198) := hD
        have hz := rz_k e9 (by decide) hz hz9
        have hz : s.heap.size + 10 ≤ H.size := hz
        obtain rfl : r_198 = (-2000000001) := rf_2 e9 hw
        refine lv_ldc hx hb hown (hts (.constant RL 25 (-2000000001)) (by decide +kernel)) dL_refuses_201 ?_
        refine lv_icmp_ne (tgt := 289) hx hb dL_refuses_203 (by decide) (fun c_203 => False.elim (by revert c_203; decide)) (fun c_203 => ?_)
        refine lv_aload_n hx hb dL_refuses_206 rfl (lv_at hl 3 rfl) ?_
        refine lv_iload hx hb dL_refuses_207 (lv_at hl 0 rfl) ?_
        refine lv_iconst (v := 1) hx hb dL_refuses_209 (by decide) ?_
        refine lv_iadd hx hb dL_refuses_210 ?_
        refine mo_SWz (G := G) (wr := ([] : va_W)) (As := [.ref (a 0), .int ((nI (tn T)) + 1)]) (rest := []) ⟨hx, hb, hml, hown, hts⟩ (c_L_sum l hlt G cy a H.size T u_198 ((nI (tn T)) + 1) hI) (vx_cwSW 2 hts gL_refuses_L_sum rfl rfl rfl (by decide +kernel) ⟨Nat.le_of_ble_eq_true rfl, Nat.le_of_ble_eq_true rfl⟩) hP hD hP hK hD hS hA [0, 1, 2, 3, 4, 5, 6, 7, 8, 9, 10, 11] [] rfl rfl (by decide) (by decide) hN hE rfl hl.1 (Nat.le_of_ble_eq_true rfl) dL_refuses_211 ⟨by show _ ≤ (70 : Nat); omega, by show _ ≤ (420 : Nat); omega⟩ (fun r_211 u_211 H locs hw hP hD hS hz9 => ?_)
        have e9 : (sp_checksum T ((nI (tn T)) + 1)) = (1, 0, T) := q1_checksum (aS1 hk)
        rw [e9] at hP hD
        have hP : va_P G vwCl (wC a cy T u_211) H := hP
        have hD : va_D A (wC a cy T u_211) := hD
        have hz := rz_k e9 (by decide) hz hz9
        have hz : s.heap.size + 11 ≤ H.size := hz
        obtain rfl : r_211 = (-2000000001) := rf_1 e9 hw
        refine lv_ldc hx hb hown (hts (.constant RL 25 (-2000000001)) (by decide +kernel)) dL_refuses_214 ?_
        refine lv_icmp_ne (tgt := 289) hx hb dL_refuses_216 (by decide) (fun c_216 => False.elim (by revert c_216; decide)) (fun c_216 => ?_)
        refine lv_aload_n hx hb dL_refuses_219 rfl (lv_at hl 3 rfl) ?_
        refine lv_iconst (v := 0) hx hb dL_refuses_220 (by decide) ?_
        refine mo_SWz (G := G) (wr := ([] : va_W)) (As := [.ref (a 0), .int 0]) (rest := []) ⟨hx, hb, hml, hown, hts⟩ (c_L_sum l hlt G cy a H.size T u_211 0 hI) (vx_cwSW 2 hts gL_refuses_L_sum rfl rfl rfl (by decide +kernel) ⟨Nat.le_of_ble_eq_true rfl, Nat.le_of_ble_eq_true rfl⟩) hP hD hP hK hD hS hA [0, 1, 2, 3, 4, 5, 6, 7, 8, 9, 10, 11] [] rfl rfl (by decide) (by decide) hN hE rfl hl.1 (Nat.le_of_ble_eq_true rfl) dL_refuses_221 ⟨by show _ ≤ (70 : Nat); omega, by show _ ≤ (420 : Nat); omega⟩ (fun r_221 u_221 H locs hw hP hD hS hz9 => ?_)
        have e9 : (sp_checksum T 0) = (1, 0, T) := q1_checksum aS2
        rw [e9] at hP hD
        have hP : va_P G vwCl (wC a cy T u_221) H := hP
        have hD : va_D A (wC a cy T u_221) := hD
        have hz := rz_k e9 (by decide) hz hz9
        have hz : s.heap.size + 12 ≤ H.size := hz
        obtain rfl : r_221 = (-2000000001) := rf_1 e9 hw
        refine lv_ldc hx hb hown (hts (.constant RL 25 (-2000000001)) (by decide +kernel)) dL_refuses_224 ?_
        refine lv_icmp_ne (tgt := 289) hx hb dL_refuses_226 (by decide) (fun c_226 => False.elim (by revert c_226; decide)) (fun c_226 => ?_)
        refine lv_aload_n hx hb dL_refuses_229 rfl (lv_at hl 3 rfl) ?_
        refine lv_iload_n hx hb dL_refuses_230 rfl (lv_at hl 4 rfl) ?_
        refine lv_ineg hx hb dL_refuses_231 ?_
        refine mo_SWz (G := G) (wr := ([] : va_W)) (As := [.ref (a 0), .int (-(nI n))]) (rest := []) ⟨hx, hb, hml, hown, hts⟩ (c_L_state l hlt G cy a H.size T u_221 (-(nI n)) hI) (vx_cwSW 2 hts gL_refuses_L_state rfl rfl rfl (by decide +kernel) ⟨Nat.le_of_ble_eq_true rfl, Nat.le_of_ble_eq_true rfl⟩) hP hD hP hK hD hS hA [0, 1, 2, 3, 4, 5, 6, 7, 8, 9, 10, 11] [] rfl rfl (by decide) (by decide) hN hE rfl hl.1 (Nat.le_of_ble_eq_true rfl) dL_refuses_232 ⟨by show _ ≤ (70 : Nat); omega, by show _ ≤ (420 : Nat); omega⟩ (fun r_232 u_232 H locs hw hP hD hS hz9 => ?_)
        have e9 : (sp_state T (-(nI n))) = (1, 0, T) := q1_state (aE3 hn)
        rw [e9] at hP hD
        have hP : va_P G vwCl (wC a cy T u_232) H := hP
        have hD : va_D A (wC a cy T u_232) := hD
        have hz := rz_k e9 (by decide) hz hz9
        have hz : s.heap.size + 13 ≤ H.size := hz
        obtain rfl : r_232 = (-2000000001) := rf_1 e9 hw
        refine lv_ldc hx hb hown (hts (.constant RL 25 (-2000000001)) (by decide +kernel)) dL_refuses_235 ?_
        refine lv_icmp_ne (tgt := 289) hx hb dL_refuses_237 (by decide) (fun c_237 => False.elim (by revert c_237; decide)) (fun c_237 => ?_)
        refine lv_aload_n hx hb dL_refuses_240 rfl (lv_at hl 3 rfl) ?_
        refine lv_iload_n hx hb dL_refuses_241 rfl (lv_at hl 2 rfl) ?_
        refine lv_iconst (v := 1) hx hb dL_refuses_242 (by decide) ?_
        refine lv_iconst (v := 1) hx hb dL_refuses_243 (by decide) ?_
        refine lv_iconst (v := 1) hx hb dL_refuses_244 (by decide) ?_
        refine mo_SWz (G := G) (wr := ([] : va_W)) (As := [.ref (a 0), .int no1, .int 1, .int 1, .int 1]) (rest := []) ⟨hx, hb, hml, hown, hts⟩ (c_L_inserts l hlt G cy a H.size T u_232 no1 1 1 1 hI) (vx_cwSW 5 hts gL_refuses_L_inserts rfl rfl rfl (by decide +kernel) ⟨Nat.le_of_ble_eq_true rfl, Nat.le_of_ble_eq_true rfl⟩) hP hD hP hK hD hS hA [0, 1, 2, 3, 4, 5, 6, 7, 8, 9, 10, 11] [] rfl rfl (by decide) (by decide) hN hE rfl hl.1 (Nat.le_of_ble_eq_true rfl) dL_refuses_245 ⟨by show _ ≤ (70 : Nat); omega, by show _ ≤ (420 : Nat); omega⟩ (fun r_245 u_245 H locs hw hP hD hS hz9 => ?_)
        have e9 : (sp_insert T no1 1 1 1) = (1, 0, T) := q1_insert (fun q => hno q.1)
        rw [e9] at hP hD
        have hP : va_P G vwCl (wC a cy T u_245) H := hP
        have hD : va_D A (wC a cy T u_245) := hD
        have hz := rz_k e9 (by decide) hz hz9
        have hz : s.heap.size + 14 ≤ H.size := hz
        obtain rfl : r_245 = (-2000000002) := rf_1 e9 hw
        refine lv_ldc hx hb hown (hts (.constant RL 15 (-2000000002)) (by decide +kernel)) dL_refuses_248 ?_
        refine lv_icmp_ne (tgt := 289) hx hb dL_refuses_250 (by decide) (fun c_250 => False.elim (by revert c_250; decide)) (fun c_250 => ?_)
        refine lv_aload_n hx hb dL_refuses_253 rfl (lv_at hl 3 rfl) ?_
        refine lv_iconst (v := 1) hx hb dL_refuses_254 (by decide) ?_
        refine lv_ldc hx hb hown (hts (.constant RL 111 (1000000001)) (by decide +kernel)) dL_refuses_255 ?_
        refine lv_iload_n hx hb dL_refuses_257 rfl (lv_at hl 4 rfl) ?_
        refine lv_iadd hx hb dL_refuses_258 ?_
        refine lv_iconst (v := 1) hx hb dL_refuses_259 (by decide) ?_
        refine lv_iconst (v := 1) hx hb dL_refuses_260 (by decide) ?_
        refine mo_SWz (G := G) (wr := ([] : va_W)) (As := [.ref (a 0), .int 1, .int (1000000001 + (nI n)), .int 1, .int 1]) (rest := []) ⟨hx, hb, hml, hown, hts⟩ (c_L_inserts l hlt G cy a H.size T u_245 1 (1000000001 + (nI n)) 1 1 hI) (vx_cwSW 5 hts gL_refuses_L_inserts rfl rfl rfl (by decide +kernel) ⟨Nat.le_of_ble_eq_true rfl, Nat.le_of_ble_eq_true rfl⟩) hP hD hP hK hD hS hA [0, 1, 2, 3, 4, 5, 6, 7, 8, 9, 10, 11] [] rfl rfl (by decide) (by decide) hN hE rfl hl.1 (Nat.le_of_ble_eq_true rfl) dL_refuses_261 ⟨by show _ ≤ (70 : Nat); omega, by show _ ≤ (420 : Nat); omega⟩ (fun r_261 u_261 H locs hw hP hD hS hz9 => ?_)
        have e9 : (sp_insert T 1 (1000000001 + (nI n)) 1 1) = (1, 0, T) := q1_insert (fun q => aI1 n hn q.2.1)
        rw [e9] at hP hD
        have hP : va_P G vwCl (wC a cy T u_261) H := hP
        have hD : va_D A (wC a cy T u_261) := hD
        have hz := rz_k e9 (by decide) hz hz9
        have hz : s.heap.size + 15 ≤ H.size := hz
        obtain rfl : r_261 = (-2000000002) := rf_1 e9 hw
        refine lv_ldc hx hb hown (hts (.constant RL 15 (-2000000002)) (by decide +kernel)) dL_refuses_264 ?_
        refine lv_icmp_ne (tgt := 289) hx hb dL_refuses_266 (by decide) (fun c_266 => False.elim (by revert c_266; decide)) (fun c_266 => ?_)
        refine lv_aload_n hx hb dL_refuses_269 rfl (lv_at hl 3 rfl) ?_
        refine lv_iconst (v := 1) hx hb dL_refuses_270 (by decide) ?_
        refine lv_iconst (v := 1) hx hb dL_refuses_271 (by decide) ?_
        refine lv_iconst (v := 1) hx hb dL_refuses_272 (by decide) ?_
        refine lv_ldc hx hb hown (hts (.constant RL 112 (-1000000001)) (by decide +kernel)) dL_refuses_273 ?_
        refine lv_iload_n hx hb dL_refuses_275 rfl (lv_at hl 4 rfl) ?_
        refine lv_isub hx hb dL_refuses_276 ?_
        refine mo_SWz (G := G) (wr := ([] : va_W)) (As := [.ref (a 0), .int 1, .int 1, .int 1, .int ((-1000000001) - (nI n))]) (rest := []) ⟨hx, hb, hml, hown, hts⟩ (c_L_inserts l hlt G cy a H.size T u_261 1 1 1 ((-1000000001) - (nI n)) hI) (vx_cwSW 5 hts gL_refuses_L_inserts rfl rfl rfl (by decide +kernel) ⟨Nat.le_of_ble_eq_true rfl, Nat.le_of_ble_eq_true rfl⟩) hP hD hP hK hD hS hA [0, 1, 2, 3, 4, 5, 6, 7, 8, 9, 10, 11] [] rfl rfl (by decide) (by decide) hN hE rfl hl.1 (Nat.le_of_ble_eq_true rfl) dL_refuses_277 ⟨by show _ ≤ (70 : Nat); omega, by show _ ≤ (420 : Nat); omega⟩ (fun r_277 u_277 H locs hw hP hD hS hz9 => ?_)
        have e9 : (sp_insert T 1 1 1 ((-1000000001) - (nI n))) = (1, 0, T) := q1_insert (fun q => aI2 n hn q.2.2.2)
        rw [e9] at hP hD
        have hP : va_P G vwCl (wC a cy T u_277) H := hP
        have hD : va_D A (wC a cy T u_277) := hD
        have hz := rz_k e9 (by decide) hz hz9
        have hz : s.heap.size + 16 ≤ H.size := hz
        obtain rfl : r_277 = (-2000000002) := rf_1 e9 hw
        refine lv_ldc hx hb hown (hts (.constant RL 15 (-2000000002)) (by decide +kernel)) dL_refuses_280 ?_
        refine lv_icmp_ne (tgt := 289) hx hb dL_refuses_282 (by decide) (fun c_282 => False.elim (by revert c_282; decide)) (fun c_282 => ?_)
        refine lv_iconst (v := 1) hx hb dL_refuses_285 (by decide) ?_
        refine lv_goto (tgt := 290) hx hb dL_refuses_286 (by decide) ?_
        refine lv_istore (lv' := [(5, .int 1), (4, .int (nI (tn T))), (3, .int of1), (2, .int no1), (0, .ref (a 0)), (1, .int (nI n))]) hx hb dL_refuses_290 hl (by decide) rfl (fun ls hl => ?_)
        refine lv_iload hx hb dL_refuses_292 (lv_at hl 0 rfl) ?_
        refine lv_if_eq (tgt := 550) hx hb dL_refuses_294 (by decide) (fun c_294 => False.elim (by revert c_294; decide)) (fun c_294 => ?_)
        refine lv_aload_n hx hb dL_refuses_297 rfl (lv_at hl 4 rfl) ?_
        refine lv_iload_n hx hb dL_refuses_298 rfl (lv_at hl 3 rfl) ?_
        refine lv_iconst (v := 0) hx hb dL_refuses_299 (by decide) ?_
        refine lv_iconst (v := 0) hx hb dL_refuses_300 (by decide) ?_
        refine mo_SWz (G := G) (wr := ([] : va_W)) (As := [.ref (a 0), .int no1, .int 0, .int 0]) (rest := []) ⟨hx, hb, hml, hown, hts⟩ (c_L_writes l hlt G cy a H.size T u_277 no1 0 0 hI) (vx_cwSW 4 hts gL_refuses_L_writes rfl rfl rfl (by decide +kernel) ⟨Nat.le_of_ble_eq_true rfl, Nat.le_of_ble_eq_true rfl⟩) hP hD hP hK hD hS hA [0, 1, 2, 3, 4, 5, 6, 7, 8, 9, 10, 11] [] rfl rfl (by decide) (by decide) hN hE rfl hl.1 (Nat.le_of_ble_eq_true rfl) dL_refuses_301 ⟨by show _ ≤ (70 : Nat); omega, by show _ ≤ (420 : Nat); omega⟩ (fun r_301 u_301 H locs hw hP hD hS hz9 => ?_)
        have e9 : (sp_write T no1 0 0) = (1, 0, T) := q1_write (fun q => hno q.1)
        rw [e9] at hP hD
        have hP : va_P G vwCl (wC a cy T u_301) H := hP
        have hD : va_D A (wC a cy T u_301) := hD
        have hz := rz_k e9 (by decide) hz hz9
        have hz : s.heap.size + 17 ≤ H.size := hz
        obtain rfl : r_301 = (-2000000002) := rf_1 e9 hw
        refine lv_ldc hx hb hown (hts (.constant RL 15 (-2000000002)) (by decide +kernel)) dL_refuses_304 ?_
        refine lv_icmp_ne (tgt := 550) hx hb dL_refuses_306 (by decide) (fun c_306 => False.elim (by revert c_306; decide)) (fun c_306 => ?_)
        refine lv_aload_n hx hb dL_refuses_309 rfl (lv_at hl 4 rfl) ?_
        refine lv_iconst (v := 0) hx hb dL_refuses_310 (by decide) ?_
        refine lv_iload_n hx hb dL_refuses_311 rfl (lv_at hl 2 rfl) ?_
        refine lv_iconst (v := 0) hx hb dL_refuses_312 (by decide) ?_
        refine mo_SWz (G := G) (wr := ([] : va_W)) (As := [.ref (a 0), .int 0, .int of1, .int 0]) (rest := []) ⟨hx, hb, hml, hown, hts⟩ (c_L_writes l hlt G cy a H.size T u_301 0 of1 0 hI) (vx_cwSW 4 hts gL_refuses_L_writes rfl rfl rfl (by decide +kernel) ⟨Nat.le_of_ble_eq_true rfl, Nat.le_of_ble_eq_true rfl⟩) hP hD hP hK hD hS hA [0, 1, 2, 3, 4, 5, 6, 7, 8, 9, 10, 11] [] rfl rfl (by decide) (by decide) hN hE rfl hl.1 (Nat.le_of_ble_eq_true rfl) dL_refuses_313 ⟨by show _ ≤ (70 : Nat); omega, by show _ ≤ (420 : Nat); omega⟩ (fun r_313 u_313 H locs hw hP hD hS hz9 => ?_)
        have e9 : (sp_write T 0 of1 0) = (1, 0, T) := q1_write (fun q => hof q.2.1)
        rw [e9] at hP hD
        have hP : va_P G vwCl (wC a cy T u_313) H := hP
        have hD : va_D A (wC a cy T u_313) := hD
        have hz := rz_k e9 (by decide) hz hz9
        have hz : s.heap.size + 18 ≤ H.size := hz
        obtain rfl : r_313 = (-2000000002) := rf_1 e9 hw
        refine lv_ldc hx hb hown (hts (.constant RL 15 (-2000000002)) (by decide +kernel)) dL_refuses_316 ?_
        refine lv_icmp_ne (tgt := 550) hx hb dL_refuses_318 (by decide) (fun c_318 => False.elim (by revert c_318; decide)) (fun c_318 => ?_)
        refine lv_aload_n hx hb dL_refuses_321 rfl (lv_at hl 4 rfl) ?_
        refine lv_iconst (v := 0) hx hb dL_refuses_322 (by decide) ?_
        refine lv_iconst (v := 0) hx hb dL_refuses_323 (by decide) ?_
        refine lv_ldc hx hb hown (hts (.constant RL 111 (1000000001)) (by decide +kernel)) dL_refuses_324 ?_
        refine mo_SWz (G := G) (wr := ([] : va_W)) (As := [.ref (a 0), .int 0, .int 0, .int 1000000001]) (rest := []) ⟨hx, hb, hml, hown, hts⟩ (c_L_writes l hlt G cy a H.size T u_313 0 0 1000000001 hI) (vx_cwSW 4 hts gL_refuses_L_writes rfl rfl rfl (by decide +kernel) ⟨Nat.le_of_ble_eq_true rfl, Nat.le_of_ble_eq_true rfl⟩) hP hD hP hK hD hS hA [0, 1, 2, 3, 4, 5, 6, 7, 8, 9, 10, 11] [] rfl rfl (by decide) (by decide) hN hE rfl hl.1 (Nat.le_of_ble_eq_true rfl) dL_refuses_326 ⟨by show _ ≤ (70 : Nat); omega, by show _ ≤ (420 : Nat); omega⟩ (fun r_326 u_326 H locs hw hP hD hS hz9 => ?_)
        have e9 : (sp_write T 0 0 1000000001) = (1, 0, T) := q1_write (fun q => absurd q.2.2 (by decide))
        rw [e9] at hP hD
        have hP : va_P G vwCl (wC a cy T u_326) H := hP
        have hD : va_D A (wC a cy T u_326) := hD
        have hz := rz_k e9 (by decide) hz hz9
        have hz : s.heap.size + 19 ≤ H.size := hz
        obtain rfl : r_326 = (-2000000002) := rf_1 e9 hw
        refine lv_ldc hx hb hown (hts (.constant RL 15 (-2000000002)) (by decide +kernel)) dL_refuses_329 ?_
        refine lv_icmp_ne (tgt := 550) hx hb dL_refuses_331 (by decide) (fun c_331 => False.elim (by revert c_331; decide)) (fun c_331 => ?_)
        refine lv_aload_n hx hb dL_refuses_334 rfl (lv_at hl 4 rfl) ?_
        refine lv_iload_n hx hb dL_refuses_335 rfl (lv_at hl 3 rfl) ?_
        refine mo_SWz (G := G) (wr := ([] : va_W)) (As := [.ref (a 0), .int no1]) (rest := []) ⟨hx, hb, hml, hown, hts⟩ (c_L_deletes l hlt G cy a H.size T u_326 no1 hI) (vx_cwSW 2 hts gL_refuses_L_deletes rfl rfl rfl (by decide +kernel) ⟨Nat.le_of_ble_eq_true rfl, Nat.le_of_ble_eq_true rfl⟩) hP hD hP hK hD hS hA [0, 1, 2, 3, 4, 5, 6, 7, 8, 9, 10, 11] [] rfl rfl (by decide) (by decide) hN hE rfl hl.1 (Nat.le_of_ble_eq_true rfl) dL_refuses_336 ⟨by show _ ≤ (70 : Nat); omega, by show _ ≤ (420 : Nat); omega⟩ (fun r_336 u_336 H locs hw hP hD hS hz9 => ?_)
        have e9 : (sp_delete T no1) = (1, 0, T) := q1_delete hno
        rw [e9] at hP hD
        have hP : va_P G vwCl (wC a cy T u_336) H := hP
        have hD : va_D A (wC a cy T u_336) := hD
        have hz := rz_k e9 (by decide) hz hz9
        have hz : s.heap.size + 20 ≤ H.size := hz
        obtain rfl : r_336 = (-2000000002) := rf_1 e9 hw
        refine lv_ldc hx hb hown (hts (.constant RL 15 (-2000000002)) (by decide +kernel)) dL_refuses_339 ?_
        refine lv_icmp_ne (tgt := 550) hx hb dL_refuses_341 (by decide) (fun c_341 => False.elim (by revert c_341; decide)) (fun c_341 => ?_)
        refine lv_aload_n hx hb dL_refuses_344 rfl (lv_at hl 4 rfl) ?_
        refine lv_iconst (v := 0) hx hb dL_refuses_345 (by decide) ?_
        refine lv_iload_n hx hb dL_refuses_346 rfl (lv_at hl 2 rfl) ?_
        refine mo_SWz (G := G) (wr := ([] : va_W)) (As := [.ref (a 0), .int 0, .int of1]) (rest := []) ⟨hx, hb, hml, hown, hts⟩ (c_L_value l hlt G cy a H.size T u_336 0 of1 hI) (vx_cwSW 3 hts gL_refuses_L_value rfl rfl rfl (by decide +kernel) ⟨Nat.le_of_ble_eq_true rfl, Nat.le_of_ble_eq_true rfl⟩) hP hD hP hK hD hS hA [0, 1, 2, 3, 4, 5, 6, 7, 8, 9, 10, 11] [] rfl rfl (by decide) (by decide) hN hE rfl hl.1 (Nat.le_of_ble_eq_true rfl) dL_refuses_347 ⟨by show _ ≤ (70 : Nat); omega, by show _ ≤ (420 : Nat); omega⟩ (fun r_347 u_347 H locs hw hP hD hS hz9 => ?_)
        have e9 : (sp_value T 0 of1) = (1, 0, T) := q1_value (fun q => hof q.2)
        rw [e9] at hP hD
        have hP : va_P G vwCl (wC a cy T u_347) H := hP
        have hD : va_D A (wC a cy T u_347) := hD
        have hz := rz_k e9 (by decide) hz hz9
        have hz : s.heap.size + 21 ≤ H.size := hz
        obtain rfl : r_347 = (-2000000002) := rf_1 e9 hw
        refine lv_ldc hx hb hown (hts (.constant RL 15 (-2000000002)) (by decide +kernel)) dL_refuses_350 ?_
        refine lv_icmp_ne (tgt := 550) hx hb dL_refuses_352 (by decide) (fun c_352 => False.elim (by revert c_352; decide)) (fun c_352 => ?_)
        refine lv_aload_n hx hb dL_refuses_355 rfl (lv_at hl 4 rfl) ?_
        refine lv_iload_n hx hb dL_refuses_356 rfl (lv_at hl 3 rfl) ?_
        refine mo_SWz (G := G) (wr := ([] : va_W)) (As := [.ref (a 0), .int no1]) (rest := []) ⟨hx, hb, hml, hown, hts⟩ (c_L_version l hlt G cy a H.size T u_347 no1 hI) (vx_cwSW 2 hts gL_refuses_L_version rfl rfl rfl (by decide +kernel) ⟨Nat.le_of_ble_eq_true rfl, Nat.le_of_ble_eq_true rfl⟩) hP hD hP hK hD hS hA [0, 1, 2, 3, 4, 5, 6, 7, 8, 9, 10, 11] [] rfl rfl (by decide) (by decide) hN hE rfl hl.1 (Nat.le_of_ble_eq_true rfl) dL_refuses_357 ⟨by show _ ≤ (70 : Nat); omega, by show _ ≤ (420 : Nat); omega⟩ (fun r_357 u_357 H locs hw hP hD hS hz9 => ?_)
        have e9 : (sp_version T no1) = (1, 0, T) := q1_version hno
        rw [e9] at hP hD
        have hP : va_P G vwCl (wC a cy T u_357) H := hP
        have hD : va_D A (wC a cy T u_357) := hD
        have hz := rz_k e9 (by decide) hz hz9
        have hz : s.heap.size + 22 ≤ H.size := hz
        obtain rfl : r_357 = (-2000000002) := rf_1 e9 hw
        refine lv_ldc hx hb hown (hts (.constant RL 15 (-2000000002)) (by decide +kernel)) dL_refuses_360 ?_
        refine lv_icmp_ne (tgt := 550) hx hb dL_refuses_362 (by decide) (fun c_362 => False.elim (by revert c_362; decide)) (fun c_362 => ?_)
        refine lv_aload_n hx hb dL_refuses_365 rfl (lv_at hl 4 rfl) ?_
        refine lv_bipush (v := 13) hx hb dL_refuses_366 (by decide) ?_
        refine lv_iload_n hx hb dL_refuses_368 rfl (lv_at hl 5 rfl) ?_
        refine lv_iadd hx hb dL_refuses_369 ?_
        refine mo_SWz (G := G) (wr := ([] : va_W)) (As := [.ref (a 0), .int (13 + (nI n))]) (rest := []) ⟨hx, hb, hml, hown, hts⟩ (c_L_rowsAt l hlt G cy a H.size T u_357 (13 + (nI n)) hI) (vx_cwSW 2 hts gL_refuses_L_rowsAt rfl rfl rfl (by decide +kernel) ⟨Nat.le_of_ble_eq_true rfl, Nat.le_of_ble_eq_true rfl⟩) hP hD hP hK hD hS hA [0, 1, 2, 3, 4, 5, 6, 7, 8, 9, 10, 11] [] rfl rfl (by decide) (by decide) hN hE rfl hl.1 (Nat.le_of_ble_eq_true rfl) dL_refuses_370 ⟨by show _ ≤ (70 : Nat); omega, by show _ ≤ (420 : Nat); omega⟩ (fun r_370 u_370 H locs hw hP hD hS hz9 => ?_)
        have e9 : (sp_rowsAt T (13 + (nI n))) = (1, 0, T) := q1_rowsAt (aR1 n hn)
        rw [e9] at hP hD
        have hP : va_P G vwCl (wC a cy T u_370) H := hP
        have hD : va_D A (wC a cy T u_370) := hD
        have hz := rz_k e9 (by decide) hz hz9
        have hz : s.heap.size + 23 ≤ H.size := hz
        obtain rfl : r_370 = (-2000000002) := rf_1 e9 hw
        refine lv_ldc hx hb hown (hts (.constant RL 15 (-2000000002)) (by decide +kernel)) dL_refuses_373 ?_
        refine lv_icmp_ne (tgt := 550) hx hb dL_refuses_375 (by decide) (fun c_375 => False.elim (by revert c_375; decide)) (fun c_375 => ?_)
        refine lv_aload_n hx hb dL_refuses_378 rfl (lv_at hl 4 rfl) ?_
        refine lv_iconst (v := (-1)) hx hb dL_refuses_379 (by decide) ?_
        refine mo_SWz (G := G) (wr := ([] : va_W)) (As := [.ref (a 0), .int (-1)]) (rest := []) ⟨hx, hb, hml, hown, hts⟩ (c_L_rowsAt l hlt G cy a H.size T u_370 (-1) hI) (vx_cwSW 2 hts gL_refuses_L_rowsAt rfl rfl rfl (by decide +kernel) ⟨Nat.le_of_ble_eq_true rfl, Nat.le_of_ble_eq_true rfl⟩) hP hD hP hK hD hS hA [0, 1, 2, 3, 4, 5, 6, 7, 8, 9, 10, 11] [] rfl rfl (by decide) (by decide) hN hE rfl hl.1 (Nat.le_of_ble_eq_true rfl) dL_refuses_380 ⟨by show _ ≤ (70 : Nat); omega, by show _ ≤ (420 : Nat); omega⟩ (fun r_380 u_380 H locs hw hP hD hS hz9 => ?_)
        have e9 : (sp_rowsAt T (-1)) = (1, 0, T) := q1_rowsAt (by decide)
        rw [e9] at hP hD
        have hP : va_P G vwCl (wC a cy T u_380) H := hP
        have hD : va_D A (wC a cy T u_380) := hD
        have hz := rz_k e9 (by decide) hz hz9
        have hz : s.heap.size + 24 ≤ H.size := hz
        obtain rfl : r_380 = (-2000000002) := rf_1 e9 hw
        refine lv_ldc hx hb hown (hts (.constant RL 15 (-2000000002)) (by decide +kernel)) dL_refuses_383 ?_
        refine lv_icmp_ne (tgt := 550) hx hb dL_refuses_385 (by decide) (fun c_385 => False.elim (by revert c_385; decide)) (fun c_385 => ?_)
        refine lv_aload_n hx hb dL_refuses_388 rfl (lv_at hl 4 rfl) ?_
        refine lv_iconst (v := 0) hx hb dL_refuses_389 (by decide) ?_
        refine lv_iconst (v := 0) hx hb dL_refuses_390 (by decide) ?_
        refine lv_iload hx hb dL_refuses_391 (lv_at hl 1 rfl) ?_
        refine lv_iconst (v := 1) hx hb dL_refuses_393 (by decide) ?_
        refine lv_iadd hx hb dL_refuses_394 ?_
        refine mo_SWz (G := G) (wr := ([] : va_W)) (As := [.ref (a 0), .int 0, .int 0, .int ((nI (tn T)) + 1)]) (rest := []) ⟨hx, hb, hml, hown, hts⟩ (c_L_valueAt l hlt G cy a H.size T u_380 0 0 ((nI (tn T)) + 1) hI) (vx_cwSW 4 hts gL_refuses_L_valueAt rfl rfl rfl (by decide +kernel) ⟨Nat.le_of_ble_eq_true rfl, Nat.le_of_ble_eq_true rfl⟩) hP hD hP hK hD hS hA [0, 1, 2, 3, 4, 5, 6, 7, 8, 9, 10, 11] [] rfl rfl (by decide) (by decide) hN hE rfl hl.1 (Nat.le_of_ble_eq_true rfl) dL_refuses_395 ⟨by show _ ≤ (70 : Nat); omega, by show _ ≤ (420 : Nat); omega⟩ (fun r_395 u_395 H locs hw hP hD hS hz9 => ?_)
        have e9 : (sp_valueAt T 0 0 ((nI (tn T)) + 1)) = (1, 0, T) := q1_valueAt (fun q => aV1 hk q.2.2)
        rw [e9] at hP hD
        have hP : va_P G vwCl (wC a cy T u_395) H := hP
        have hD : va_D A (wC a cy T u_395) := hD
        have hz := rz_k e9 (by decide) hz hz9
        have hz : s.heap.size + 25 ≤ H.size := hz
        obtain rfl : r_395 = (-2000000002) := rf_1 e9 hw
        refine lv_ldc hx hb hown (hts (.constant RL 15 (-2000000002)) (by decide +kernel)) dL_refuses_398 ?_
        refine lv_icmp_ne (tgt := 550) hx hb dL_refuses_400 (by decide) (fun c_400 => False.elim (by revert c_400; decide)) (fun c_400 => ?_)
        refine lv_aload_n hx hb dL_refuses_403 rfl (lv_at hl 4 rfl) ?_
        refine lv_iload_n hx hb dL_refuses_404 rfl (lv_at hl 3 rfl) ?_
        refine lv_iconst (v := 0) hx hb dL_refuses_405 (by decide) ?_
        refine lv_iconst (v := 0) hx hb dL_refuses_406 (by decide) ?_
        refine mo_SWz (G := G) (wr := ([] : va_W)) (As := [.ref (a 0), .int no1, .int 0, .int 0]) (rest := []) ⟨hx, hb, hml, hown, hts⟩ (c_L_valueAt l hlt G cy a H.size T u_395 no1 0 0 hI) (vx_cwSW 4 hts gL_refuses_L_valueAt rfl rfl rfl (by decide +kernel) ⟨Nat.le_of_ble_eq_true rfl, Nat.le_of_ble_eq_true rfl⟩) hP hD hP hK hD hS hA [0, 1, 2, 3, 4, 5, 6, 7, 8, 9, 10, 11] [] rfl rfl (by decide) (by decide) hN hE rfl hl.1 (Nat.le_of_ble_eq_true rfl) dL_refuses_407 ⟨by show _ ≤ (70 : Nat); omega, by show _ ≤ (420 : Nat); omega⟩ (fun r_407 u_407 H locs hw hP hD hS hz9 => ?_)
        have e9 : (sp_valueAt T no1 0 0) = (1, 0, T) := q1_valueAt (fun q => hno q.1)
        rw [e9] at hP hD
        have hP : va_P G vwCl (wC a cy T u_407) H := hP
        have hD : va_D A (wC a cy T u_407) := hD
        have hz := rz_k e9 (by decide) hz hz9
        have hz : s.heap.size + 26 ≤ H.size := hz
        obtain rfl : r_407 = (-2000000002) := rf_1 e9 hw
        refine lv_ldc hx hb hown (hts (.constant RL 15 (-2000000002)) (by decide +kernel)) dL_refuses_410 ?_
        refine lv_icmp_ne (tgt := 550) hx hb dL_refuses_412 (by decide) (fun c_412 => False.elim (by revert c_412; decide)) (fun c_412 => ?_)
        refine lv_aload_n hx hb dL_refuses_415 rfl (lv_at hl 4 rfl) ?_
        refine lv_iconst (v := 4) hx hb dL_refuses_416 (by decide) ?_
        refine lv_iload_n hx hb dL_refuses_417 rfl (lv_at hl 5 rfl) ?_
        refine lv_iadd hx hb dL_refuses_418 ?_
        refine lv_iconst (v := 1) hx hb dL_refuses_419 (by decide) ?_
        refine mo_SWz (G := G) (wr := ([] : va_W)) (As := [.ref (a 0), .int (4 + (nI n)), .int 1]) (rest := []) ⟨hx, hb, hml, hown, hts⟩ (c_L_takes l hlt G cy a H.size T u_407 (4 + (nI n)) 1 hI) (vx_cwSW 3 hts gL_refuses_L_takes rfl rfl rfl (by decide +kernel) ⟨Nat.le_of_ble_eq_true rfl, Nat.le_of_ble_eq_true rfl⟩) hP hD hP hK hD hS hA [0, 1, 2, 3, 4, 5, 6, 7, 8, 9, 10, 11] [] rfl rfl (by decide) (by decide) hN hE rfl hl.1 (Nat.le_of_ble_eq_true rfl) dL_refuses_420 ⟨by show _ ≤ (70 : Nat); omega, by show _ ≤ (420 : Nat); omega⟩ (fun r_420 u_420 H locs hw hP hD hS hz9 => ?_)
        have e9 : (sp_take T (4 + (nI n)) 1) = (1, 0, T) := q1_take (fun q => aT1 n hn q.1)
        rw [e9] at hP hD
        have hP : va_P G vwCl (wC a cy T u_420) H := hP
        have hD : va_D A (wC a cy T u_420) := hD
        have hz := rz_k e9 (by decide) hz hz9
        have hz : s.heap.size + 27 ≤ H.size := hz
        obtain rfl : r_420 = (-2000000002) := rf_1 e9 hw
        refine lv_ldc hx hb hown (hts (.constant RL 15 (-2000000002)) (by decide +kernel)) dL_refuses_423 ?_
        refine lv_icmp_ne (tgt := 550) hx hb dL_refuses_425 (by decide) (fun c_425 => False.elim (by revert c_425; decide)) (fun c_425 => ?_)
        refine lv_aload_n hx hb dL_refuses_428 rfl (lv_at hl 4 rfl) ?_
        refine lv_iconst (v := 0) hx hb dL_refuses_429 (by decide) ?_
        refine lv_bipush (v := 101) hx hb dL_refuses_430 (by decide) ?_
        refine lv_iload_n hx hb dL_refuses_432 rfl (lv_at hl 5 rfl) ?_
        refine lv_iadd hx hb dL_refuses_433 ?_
        refine mo_SWz (G := G) (wr := ([] : va_W)) (As := [.ref (a 0), .int 0, .int (101 + (nI n))]) (rest := []) ⟨hx, hb, hml, hown, hts⟩ (c_L_takes l hlt G cy a H.size T u_420 0 (101 + (nI n)) hI) (vx_cwSW 3 hts gL_refuses_L_takes rfl rfl rfl (by decide +kernel) ⟨Nat.le_of_ble_eq_true rfl, Nat.le_of_ble_eq_true rfl⟩) hP hD hP hK hD hS hA [0, 1, 2, 3, 4, 5, 6, 7, 8, 9, 10, 11] [] rfl rfl (by decide) (by decide) hN hE rfl hl.1 (Nat.le_of_ble_eq_true rfl) dL_refuses_434 ⟨by show _ ≤ (70 : Nat); omega, by show _ ≤ (420 : Nat); omega⟩ (fun r_434 u_434 H locs hw hP hD hS hz9 => ?_)
        have e9 : (sp_take T 0 (101 + (nI n))) = (1, 0, T) := q1_take (fun q => aT2 n hn q.2)
        rw [e9] at hP hD
        have hP : va_P G vwCl (wC a cy T u_434) H := hP
        have hD : va_D A (wC a cy T u_434) := hD
        have hz := rz_k e9 (by decide) hz hz9
        have hz : s.heap.size + 28 ≤ H.size := hz
        obtain rfl : r_434 = (-2000000002) := rf_1 e9 hw
        refine lv_ldc hx hb hown (hts (.constant RL 15 (-2000000002)) (by decide +kernel)) dL_refuses_437 ?_
        refine lv_icmp_ne (tgt := 550) hx hb dL_refuses_439 (by decide) (fun c_439 => False.elim (by revert c_439; decide)) (fun c_439 => ?_)
        refine lv_aload_n hx hb dL_refuses_442 rfl (lv_at hl 4 rfl) ?_
        refine lv_iconst (v := (-1)) hx hb dL_refuses_443 (by decide) ?_
        refine mo_SWz (G := G) (wr := ([] : va_W)) (As := [.ref (a 0), .int (-1)]) (rest := []) ⟨hx, hb, hml, hown, hts⟩ (c_L_gives l hlt G cy a H.size T u_434 (-1) hI) (vx_cwSW 2 hts gL_refuses_L_gives rfl rfl rfl (by decide +kernel) ⟨Nat.le_of_ble_eq_true rfl, Nat.le_of_ble_eq_true rfl⟩) hP hD hP hK hD hS hA [0, 1, 2, 3, 4, 5, 6, 7, 8, 9, 10, 11] [] rfl rfl (by decide) (by decide) hN hE rfl hl.1 (Nat.le_of_ble_eq_true rfl) dL_refuses_444 ⟨by show _ ≤ (70 : Nat); omega, by show _ ≤ (420 : Nat); omega⟩ (fun r_444 u_444 H locs hw hP hD hS hz9 => ?_)
        have e9 : (sp_giveBack T (-1)) = (1, 0, T) := q1_giveBack (by decide)
        rw [e9] at hP hD
        have hP : va_P G vwCl (wC a cy T u_444) H := hP
        have hD : va_D A (wC a cy T u_444) := hD
        have hz := rz_k e9 (by decide) hz hz9
        have hz : s.heap.size + 29 ≤ H.size := hz
        obtain rfl : r_444 = (-2000000002) := rf_1 e9 hw
        refine lv_ldc hx hb hown (hts (.constant RL 15 (-2000000002)) (by decide +kernel)) dL_refuses_447 ?_
        refine lv_icmp_ne (tgt := 550) hx hb dL_refuses_449 (by decide) (fun c_449 => False.elim (by revert c_449; decide)) (fun c_449 => ?_)
        refine lv_aload_n hx hb dL_refuses_452 rfl (lv_at hl 4 rfl) ?_
        refine lv_iconst (v := 4) hx hb dL_refuses_453 (by decide) ?_
        refine mo_SWz (G := G) (wr := ([] : va_W)) (As := [.ref (a 0), .int 4]) (rest := []) ⟨hx, hb, hml, hown, hts⟩ (c_L_restarts l hlt G cy a H.size T u_444 4 hI) (vx_cwSW 2 hts gL_refuses_L_restarts rfl rfl rfl (by decide +kernel) ⟨Nat.le_of_ble_eq_true rfl, Nat.le_of_ble_eq_true rfl⟩) hP hD hP hK hD hS hA [0, 1, 2, 3, 4, 5, 6, 7, 8, 9, 10, 11] [] rfl rfl (by decide) (by decide) hN hE rfl hl.1 (Nat.le_of_ble_eq_true rfl) dL_refuses_454 ⟨by show _ ≤ (70 : Nat); omega, by show _ ≤ (420 : Nat); omega⟩ (fun r_454 u_454 H locs hw hP hD hS hz9 => ?_)
        have e9 : (sp_restart T 4) = (1, 0, T) := q1_restart (by decide)
        rw [e9] at hP hD
        have hP : va_P G vwCl (wC a cy T u_454) H := hP
        have hD : va_D A (wC a cy T u_454) := hD
        have hz := rz_k e9 (by decide) hz hz9
        have hz : s.heap.size + 30 ≤ H.size := hz
        obtain rfl : r_454 = (-2000000002) := rf_1 e9 hw
        refine lv_ldc hx hb hown (hts (.constant RL 15 (-2000000002)) (by decide +kernel)) dL_refuses_457 ?_
        refine lv_icmp_ne (tgt := 550) hx hb dL_refuses_459 (by decide) (fun c_459 => False.elim (by revert c_459; decide)) (fun c_459 => ?_)
        refine lv_aload_n hx hb dL_refuses_462 rfl (lv_at hl 4 rfl) ?_
        refine lv_iconst (v := 0) hx hb dL_refuses_463 (by decide) ?_
        refine mo_SWz (G := G) (wr := ([] : va_W)) (As := [.ref (a 0), .int 0]) (rest := []) ⟨hx, hb, hml, hown, hts⟩ (c_L_passes l hlt G cy a H.size T u_454 0 hI) (vx_cwSW 2 hts gL_refuses_L_passes rfl rfl rfl (by decide +kernel) ⟨Nat.le_of_ble_eq_true rfl, Nat.le_of_ble_eq_true rfl⟩) hP hD hP hK hD hS hA [0, 1, 2, 3, 4, 5, 6, 7, 8, 9, 10, 11] [] rfl rfl (by decide) (by decide) hN hE rfl hl.1 (Nat.le_of_ble_eq_true rfl) dL_refuses_464 ⟨by show _ ≤ (70 : Nat); omega, by show _ ≤ (420 : Nat); omega⟩ (fun r_464 u_464 H locs hw hP hD hS hz9 => ?_)
        have e9 : (sp_pass T 0) = (1, 0, T) := q1_pass (by decide)
        rw [e9] at hP hD
        have hP : va_P G vwCl (wC a cy T u_464) H := hP
        have hD : va_D A (wC a cy T u_464) := hD
        have hz := rz_k e9 (by decide) hz hz9
        have hz : s.heap.size + 31 ≤ H.size := hz
        obtain rfl : r_464 = (-2000000002) := rf_1 e9 hw
        refine lv_ldc hx hb hown (hts (.constant RL 15 (-2000000002)) (by decide +kernel)) dL_refuses_467 ?_
        refine lv_icmp_ne (tgt := 550) hx hb dL_refuses_469 (by decide) (fun c_469 => False.elim (by revert c_469; decide)) (fun c_469 => ?_)
        refine lv_aload_n hx hb dL_refuses_472 rfl (lv_at hl 4 rfl) ?_
        refine lv_sipush (v := 1001) hx hb dL_refuses_473 (by decide) ?_
        refine lv_iload_n hx hb dL_refuses_476 rfl (lv_at hl 5 rfl) ?_
        refine lv_iadd hx hb dL_refuses_477 ?_
        refine mo_SWz (G := G) (wr := ([] : va_W)) (As := [.ref (a 0), .int (1001 + (nI n))]) (rest := []) ⟨hx, hb, hml, hown, hts⟩ (c_L_passes l hlt G cy a H.size T u_464 (1001 + (nI n)) hI) (vx_cwSW 2 hts gL_refuses_L_passes rfl rfl rfl (by decide +kernel) ⟨Nat.le_of_ble_eq_true rfl, Nat.le_of_ble_eq_true rfl⟩) hP hD hP hK hD hS hA [0, 1, 2, 3, 4, 5, 6, 7, 8, 9, 10, 11] [] rfl rfl (by decide) (by decide) hN hE rfl hl.1 (Nat.le_of_ble_eq_true rfl) dL_refuses_478 ⟨by show _ ≤ (70 : Nat); omega, by show _ ≤ (420 : Nat); omega⟩ (fun r_478 u_478 H locs hw hP hD hS hz9 => ?_)
        have e9 : (sp_pass T (1001 + (nI n))) = (1, 0, T) := q1_pass (aP1 n hn)
        rw [e9] at hP hD
        have hP : va_P G vwCl (wC a cy T u_478) H := hP
        have hD : va_D A (wC a cy T u_478) := hD
        have hz := rz_k e9 (by decide) hz hz9
        have hz : s.heap.size + 32 ≤ H.size := hz
        obtain rfl : r_478 = (-2000000002) := rf_1 e9 hw
        refine lv_ldc hx hb hown (hts (.constant RL 15 (-2000000002)) (by decide +kernel)) dL_refuses_481 ?_
        refine lv_icmp_ne (tgt := 550) hx hb dL_refuses_483 (by decide) (fun c_483 => False.elim (by revert c_483; decide)) (fun c_483 => ?_)
        refine lv_aload_n hx hb dL_refuses_486 rfl (lv_at hl 4 rfl) ?_
        refine lv_iconst (v := (-1)) hx hb dL_refuses_487 (by decide) ?_
        refine lv_iload_n hx hb dL_refuses_488 rfl (lv_at hl 5 rfl) ?_
        refine lv_isub hx hb dL_refuses_489 ?_
        refine mo_SWz (G := G) (wr := ([] : va_W)) (As := [.ref (a 0), .int ((-1) - (nI n))]) (rest := []) ⟨hx, hb, hml, hown, hts⟩ (c_L_begins l hlt G cy a H.size T u_478 ((-1) - (nI n)) hI) (vx_cwSW 2 hts gL_refuses_L_begins rfl rfl rfl (by decide +kernel) ⟨Nat.le_of_ble_eq_true rfl, Nat.le_of_ble_eq_true rfl⟩) hP hD hP hK hD hS hA [0, 1, 2, 3, 4, 5, 6, 7, 8, 9, 10, 11] [] rfl rfl (by decide) (by decide) hN hE rfl hl.1 (Nat.le_of_ble_eq_true rfl) dL_refuses_490 ⟨by show _ ≤ (70 : Nat); omega, by show _ ≤ (420 : Nat); omega⟩ (fun r_490 u_490 H locs hw hP hD hS hz9 => ?_)
        have e9 : (sp_begin T ((-1) - (nI n))) = (1, 0, T) := q1_begin (aB1 n hn)
        rw [e9] at hP hD
        have hP : va_P G vwCl (wC a cy T u_490) H := hP
        have hD : va_D A (wC a cy T u_490) := hD
        have hz := rz_k e9 (by decide) hz hz9
        have hz : s.heap.size + 33 ≤ H.size := hz
        obtain rfl : r_490 = (-2000000002) := rf_1 e9 hw
        refine lv_ldc hx hb hown (hts (.constant RL 15 (-2000000002)) (by decide +kernel)) dL_refuses_493 ?_
        refine lv_icmp_ne (tgt := 550) hx hb dL_refuses_495 (by decide) (fun c_495 => False.elim (by revert c_495; decide)) (fun c_495 => ?_)
        refine lv_aload_n hx hb dL_refuses_498 rfl (lv_at hl 4 rfl) ?_
        refine lv_iconst (v := 4) hx hb dL_refuses_499 (by decide) ?_
        refine mo_SWz (G := G) (wr := ([] : va_W)) (As := [.ref (a 0), .int 4]) (rest := []) ⟨hx, hb, hml, hown, hts⟩ (c_L_undoes l hlt G cy a H.size T u_490 4 hI) (vx_cwSW 2 hts gL_refuses_L_undoes rfl rfl rfl (by decide +kernel) ⟨Nat.le_of_ble_eq_true rfl, Nat.le_of_ble_eq_true rfl⟩) hP hD hP hK hD hS hA [0, 1, 2, 3, 4, 5, 6, 7, 8, 9, 10, 11] [] rfl rfl (by decide) (by decide) hN hE rfl hl.1 (Nat.le_of_ble_eq_true rfl) dL_refuses_500 ⟨by show _ ≤ (70 : Nat); omega, by show _ ≤ (420 : Nat); omega⟩ (fun r_500 u_500 H locs hw hP hD hS hz9 => ?_)
        have e9 : (sp_undo T 4) = (1, 0, T) := q1_undo (by decide)
        rw [e9] at hP hD
        have hP : va_P G vwCl (wC a cy T u_500) H := hP
        have hD : va_D A (wC a cy T u_500) := hD
        have hz := rz_k e9 (by decide) hz hz9
        have hz : s.heap.size + 34 ≤ H.size := hz
        obtain rfl : r_500 = (-2000000002) := rf_1 e9 hw
        refine lv_ldc hx hb hown (hts (.constant RL 15 (-2000000002)) (by decide +kernel)) dL_refuses_503 ?_
        refine lv_icmp_ne (tgt := 550) hx hb dL_refuses_505 (by decide) (fun c_505 => False.elim (by revert c_505; decide)) (fun c_505 => ?_)
        refine lv_aload_n hx hb dL_refuses_508 rfl (lv_at hl 4 rfl) ?_
        refine lv_iconst (v := 0) hx hb dL_refuses_509 (by decide) ?_
        refine lv_iconst (v := 0) hx hb dL_refuses_510 (by decide) ?_
        refine lv_iconst (v := 0) hx hb dL_refuses_511 (by decide) ?_
        refine mo_SWz (G := G) (wr := ([] : va_W)) (As := [.ref (a 0), .int 0, .int 0, .int 0]) (rest := []) ⟨hx, hb, hml, hown, hts⟩ (c_L_steps l hlt G cy a H.size T u_500 0 0 0 hI) (vx_cwSW 4 hts gL_refuses_L_steps rfl rfl rfl (by decide +kernel) ⟨Nat.le_of_ble_eq_true rfl, Nat.le_of_ble_eq_true rfl⟩) hP hD hP hK hD hS hA [0, 1, 2, 3, 4, 5, 6, 7, 8, 9, 10, 11] [] rfl rfl (by decide) (by decide) hN hE rfl hl.1 (Nat.le_of_ble_eq_true rfl) dL_refuses_512 ⟨by show _ ≤ (70 : Nat); omega, by show _ ≤ (420 : Nat); omega⟩ (fun r_512 u_512 H locs hw hP hD hS hz9 => ?_)
        have e9 : (sp_step T 0 0 0) = (1, 0, T) := q1_step (fun q => absurd q.2.1 (by decide))
        rw [e9] at hP hD
        have hP : va_P G vwCl (wC a cy T u_512) H := hP
        have hD : va_D A (wC a cy T u_512) := hD
        have hz := rz_k e9 (by decide) hz hz9
        have hz : s.heap.size + 35 ≤ H.size := hz
        obtain rfl : r_512 = (-2000000002) := rf_1 e9 hw
        refine lv_ldc hx hb hown (hts (.constant RL 15 (-2000000002)) (by decide +kernel)) dL_refuses_515 ?_
        refine lv_icmp_ne (tgt := 550) hx hb dL_refuses_517 (by decide) (fun c_517 => False.elim (by revert c_517; decide)) (fun c_517 => ?_)
        refine lv_aload_n hx hb dL_refuses_520 rfl (lv_at hl 4 rfl) ?_
        refine lv_iconst (v := 0) hx hb dL_refuses_521 (by decide) ?_
        refine lv_bipush (v := 41) hx hb dL_refuses_522 (by decide) ?_
        refine lv_iconst (v := 0) hx hb dL_refuses_524 (by decide) ?_
        refine mo_SWz (G := G) (wr := ([] : va_W)) (As := [.ref (a 0), .int 0, .int 41, .int 0]) (rest := []) ⟨hx, hb, hml, hown, hts⟩ (c_L_steps l hlt G cy a H.size T u_512 0 41 0 hI) (vx_cwSW 4 hts gL_refuses_L_steps rfl rfl rfl (by decide +kernel) ⟨Nat.le_of_ble_eq_true rfl, Nat.le_of_ble_eq_true rfl⟩) hP hD hP hK hD hS hA [0, 1, 2, 3, 4, 5, 6, 7, 8, 9, 10, 11] [] rfl rfl (by decide) (by decide) hN hE rfl hl.1 (Nat.le_of_ble_eq_true rfl) dL_refuses_525 ⟨by show _ ≤ (70 : Nat); omega, by show _ ≤ (420 : Nat); omega⟩ (fun r_525 u_525 H locs hw hP hD hS hz9 => ?_)
        have e9 : (sp_step T 0 41 0) = (1, 0, T) := q1_step (fun q => absurd q.2.1 (by decide))
        rw [e9] at hP hD
        have hP : va_P G vwCl (wC a cy T u_525) H := hP
        have hD : va_D A (wC a cy T u_525) := hD
        have hz := rz_k e9 (by decide) hz hz9
        have hz : s.heap.size + 36 ≤ H.size := hz
        obtain rfl : r_525 = (-2000000002) := rf_1 e9 hw
        refine lv_ldc hx hb hown (hts (.constant RL 15 (-2000000002)) (by decide +kernel)) dL_refuses_528 ?_
        refine lv_icmp_ne (tgt := 550) hx hb dL_refuses_530 (by decide) (fun c_530 => False.elim (by revert c_530; decide)) (fun c_530 => ?_)
        refine lv_aload_n hx hb dL_refuses_533 rfl (lv_at hl 4 rfl) ?_
        refine lv_iconst (v := 0) hx hb dL_refuses_534 (by decide) ?_
        refine lv_iconst (v := 1) hx hb dL_refuses_535 (by decide) ?_
        refine lv_bipush (v := 41) hx hb dL_refuses_536 (by decide) ?_
        refine mo_SWz (G := G) (wr := ([] : va_W)) (As := [.ref (a 0), .int 0, .int 1, .int 41]) (rest := []) ⟨hx, hb, hml, hown, hts⟩ (c_L_steps l hlt G cy a H.size T u_525 0 1 41 hI) (vx_cwSW 4 hts gL_refuses_L_steps rfl rfl rfl (by decide +kernel) ⟨Nat.le_of_ble_eq_true rfl, Nat.le_of_ble_eq_true rfl⟩) hP hD hP hK hD hS hA [0, 1, 2, 3, 4, 5, 6, 7, 8, 9, 10, 11] [] rfl rfl (by decide) (by decide) hN hE rfl hl.1 (Nat.le_of_ble_eq_true rfl) dL_refuses_538 ⟨by show _ ≤ (70 : Nat); omega, by show _ ≤ (420 : Nat); omega⟩ (fun r_538 u_538 H locs hw hP hD hS hz9 => ?_)
        have e9 : (sp_step T 0 1 41) = (1, 0, T) := q1_step (fun q => absurd q.2.2 (by decide))
        rw [e9] at hP hD
        have hP : va_P G vwCl (wC a cy T u_538) H := hP
        have hD : va_D A (wC a cy T u_538) := hD
        have hz := rz_k e9 (by decide) hz hz9
        have hz : s.heap.size + 37 ≤ H.size := hz
        obtain rfl : r_538 = (-2000000002) := rf_1 e9 hw
        refine lv_ldc hx hb hown (hts (.constant RL 15 (-2000000002)) (by decide +kernel)) dL_refuses_541 ?_
        refine lv_icmp_ne (tgt := 550) hx hb dL_refuses_543 (by decide) (fun c_543 => False.elim (by revert c_543; decide)) (fun c_543 => ?_)
        refine lv_iconst (v := 1) hx hb dL_refuses_546 (by decide) ?_
        refine lv_goto (tgt := 551) hx hb dL_refuses_547 (by decide) ?_
        refine lv_istore (lv' := [(5, .int 1), (4, .int (nI (tn T))), (3, .int of1), (2, .int no1), (0, .ref (a 0)), (1, .int (nI n))]) hx hb dL_refuses_551 hl (by decide) rfl (fun ls hl => ?_)
        refine lv_iload_n hx hb dL_refuses_553 rfl (lv_at hl 5 rfl) ?_
        refine lv_bipush (v := 40) hx hb dL_refuses_554 (by decide) ?_
        refine lv_irem hx hb dL_refuses_556 (by decide) ?_
        refine ml_eqi (nI (n % 40)) (pk_rem (a := n) (d := 40) (by omega) (by decide) (by decide)) ?_
        refine lv_istore (lv' := [(6, .int (nI (n % 40))), (5, .int 1), (4, .int (nI (tn T))), (3, .int of1), (2, .int no1), (0, .ref (a 0)), (1, .int (nI n))]) hx hb dL_refuses_557 hl (by decide) rfl (fun ls hl => ?_)
        refine lv_aload_n hx hb dL_refuses_559 rfl (lv_at hl 5 rfl) ?_
        refine lv_iload hx hb dL_refuses_560 (lv_at hl 0 rfl) ?_
        refine mo_SWz (G := G) (wr := ([] : va_W)) (As := [.ref (a 0), .int (nI (n % 40))]) (rest := []) ⟨hx, hb, hml, hown, hts⟩ (c_L_version l hlt G cy a H.size T u_538 (nI (n % 40)) hI) (vx_cwSW 2 hts gL_refuses_L_version rfl rfl rfl (by decide +kernel) ⟨Nat.le_of_ble_eq_true rfl, Nat.le_of_ble_eq_true rfl⟩) hP hD hP hK hD hS hA [0, 1, 2, 3, 4, 5, 6, 7, 8, 9, 10, 11] [] rfl rfl (by decide) (by decide) hN hE rfl hl.1 (Nat.le_of_ble_eq_true rfl) dL_refuses_562 ⟨by show _ ≤ (70 : Nat); omega, by show _ ≤ (420 : Nat); omega⟩ (fun r_562 u_562 H locs hw hP hD hS hz9 => ?_)
        have e9 : (sp_version T (nI (n % 40))) = (0, tV T (n % 40), T) := q0_version (by omega)
        rw [e9] at hP hD
        have hP : va_P G vwCl (wC a cy T u_562) H := hP
        have hD : va_D A (wC a cy T u_562) := hD
        have hz : s.heap.size + 37 ≤ H.size := rz_0 hz hz9
        obtain rfl : r_562 = tV T (n % 40) := rf_0 e9 hw
        have J656 : ∀ (tr_2 : Nat → Int32) (H : Heap) (locs : List Loc) (ls : Array Slot), va_P G vwCl (wC a cy T tr_2) H → va_D A (wC a cy T tr_2) → va_S A s.heap H locs → s.heap.size + 37 ≤ H.size → lv_has ls 9 [(6, .int (nI (n % 40))), (5, .int 1), (4, .int (nI (tn T))), (3, .int of1), (2, .int no1), (0, .ref (a 0)), (1, .int (nI n))] → W p l e (headSpec wsL_refuses ({ frames := 10, cells := 70, slots := 420, locals := 189 } : Room)).room s m (#[.ref (a 0), .int (nI n)] : Array Value) below meth c H locs (0 + 43) (6 * (0 + 43) + 0) (MQ below (va_Qi (fun (r : Int32) (u : Nat → Int32) => r = 1) (ml_BZ G cy A (fun u : Nat → Int32 => (wC a cy T u)) s.heap.size (fun _ => 37)) A) (#[.ref (a 0), .int (nI n)] : Array Value) s 70 420 A) (F0 m 656 ls [.int 1]) := by
          intro tr_2 H locs ls hP hD hS hz hl
          refine lv_istore (lv' := [(5, .int 1), (6, .int (nI (n % 40))), (4, .int (nI (tn T))), (3, .int of1), (2, .int no1), (0, .ref (a 0)), (1, .int (nI n))]) hx hb dL_refuses_656 hl (by decide) rfl (fun ls hl => ?_)
          refine lv_iconst (v := 0) hx hb dL_refuses_658 (by decide) ?_
          refine lv_istore (lv' := [(8, .int 0), (5, .int 1), (6, .int (nI (n % 40))), (4, .int (nI (tn T))), (3, .int of1), (2, .int no1), (0, .ref (a 0)), (1, .int (nI n))]) hx hb dL_refuses_659 hl (by decide) rfl (fun ls hl => ?_)
          have LOOP661 : ∀ (r : Nat) (i : Nat) (tr_3 : Nat → Int32) (hi : i + r = 4) (H : Heap) (locs : List Loc) (ls : Array Slot), va_P G vwCl (wC a cy T tr_3) H → va_D A (wC a cy T tr_3) → va_S A s.heap H locs → s.heap.size + 37 ≤ H.size → lv_has ls 9 [(5, .int 1), (6, .int (nI (n % 40))), (4, .int (nI (tn T))), (3, .int of1), (2, .int no1), (0, .ref (a 0)), (1, .int (nI n)), (8, .int (nI i))] → W p l e (headSpec wsL_refuses ({ frames := 10, cells := 70, slots := 420, locals := 189 } : Room)).room s m (#[.ref (a 0), .int (nI n)] : Array Value) below meth c H locs (43 + 5 * i) (6 * (43 + 5 * i) + 0) (MQ below (va_Qi (fun (r : Int32) (u : Nat → Int32) => r = 1) (ml_BZ G cy A (fun u : Nat → Int32 => (wC a cy T u)) s.heap.size (fun _ => 37)) A) (#[.ref (a 0), .int (nI n)] : Array Value) s 70 420 A) (F0 m 661 ls []) := by
            intro r
            induction r with
            | zero =>
              intro i tr_3 hi H locs ls hP hD hS hz hl
              obtain rfl : i = 4 := by omega
              refine lv_iload hx hb dL_refuses_661 (lv_at hl 7 rfl) ?_
              refine lv_iconst (v := 4) hx hb dL_refuses_663 (by decide) ?_
              refine lv_icmp_ge (tgt := 759) hx hb dL_refuses_664 (by decide) (fun c_664 => ?_) (fun c_664 => False.elim (c_664 ((nI_leI (a := 4) (b := 4) (by decide) (by decide)).mpr (Nat.le_refl 4))))
              refine lv_iload hx hb dL_refuses_759 (lv_at hl 0 rfl) ?_
              refine W.widen (k := 70) (n := 420) (by omega) (by omega) ?_
              exact ml_rzz tr_3 hx hb hr hlocks hP hK hD hS rfl rfl rfl (by show s.heap.size + 37 ≤ H.size; omega) dL_refuses_761
            | succ r ih =>
              intro i tr_3 hi H locs ls hP hD hS hz hl
              refine lv_iload hx hb dL_refuses_661 (lv_at hl 7 rfl) ?_
              refine lv_iconst (v := 4) hx hb dL_refuses_663 (by decide) ?_
              refine lv_icmp_ge (tgt := 759) hx hb dL_refuses_664 (by decide) (fun c_664 => False.elim (absurd ((nI_leI (a := 4) (by decide) (by omega)).mp c_664) (by omega))) (fun c_664 => ?_)
              refine lv_iload hx hb dL_refuses_667 (lv_at hl 0 rfl) ?_
              refine lv_if_eq (tgt := 759) hx hb dL_refuses_669 (by decide) (fun c_669 => False.elim (by revert c_669; decide)) (fun c_669 => ?_)
              refine lv_aload_n hx hb dL_refuses_672 rfl (lv_at hl 5 rfl) ?_
              refine mo_Ve (G := G) (wr := ([] : va_W)) (As := []) (rest := []) ⟨hx, hb, hml, hown, hts⟩ (c_X3_holder l G cy a H.size T tr_3 hI) (cwV 0 hts gL_refuses_X3_holder rfl rfl rfl (by decide +kernel) ⟨Nat.le_of_ble_eq_true rfl, Nat.le_of_ble_eq_true rfl⟩) (va_recv hK hP (ci := 3) (q0 := 0) rfl rfl) hP hD hP hK hD hS hA [0, 1, 2, 3, 4, 5, 6, 7, 8, 9, 10, 11] [] rfl rfl (by decide) (by decide) hN rfl hl.1 (Nat.le_of_ble_eq_true rfl) dL_refuses_673 ⟨by show _ ≤ (70 : Nat); omega, by show _ ≤ (420 : Nat); omega⟩ (fun r_673 u_673 H locs hw hP hD hS hz9 => ?_)
              have hP : va_P G vwCl (wC a cy T tr_3) H := hP
              have hD : va_D A (wC a cy T tr_3) := hD
              have hz : s.heap.size + 37 ≤ H.size := Nat.le_trans hz hz9
              obtain rfl : r_673 = owner T := hw
              refine lv_iload hx hb dL_refuses_676 (lv_at hl 7 rfl) ?_
              have J746 : ∀ (tr_4 : Nat → Int32) (H : Heap) (locs : List Loc) (ls : Array Slot), va_P G vwCl (wC a cy T tr_4) H → va_D A (wC a cy T tr_4) → va_S A s.heap H locs → s.heap.size + 37 ≤ H.size → lv_has ls 9 [(5, .int 1), (6, .int (nI (n % 40))), (4, .int (nI (tn T))), (3, .int of1), (2, .int no1), (0, .ref (a 0)), (1, .int (nI n)), (8, .int (nI i))] → W p l e (headSpec wsL_refuses ({ frames := 10, cells := 70, slots := 420, locals := 189 } : Room)).room s m (#[.ref (a 0), .int (nI n)] : Array Value) below meth c H locs (43 + 5 * i + 5) (6 * (43 + 5 * i + 5) + 0) (MQ below (va_Qi (fun (r : Int32) (u : Nat → Int32) => r = 1) (ml_BZ G cy A (fun u : Nat → Int32 => (wC a cy T u)) s.heap.size (fun _ => 37)) A) (#[.ref (a 0), .int (nI n)] : Array Value) s 70 420 A) (F0 m 746 ls []) := by
                intro tr_4 H locs ls hP hD hS hz hl
                refine lv_iconst (v := 1) hx hb dL_refuses_746 (by decide) ?_
                refine lv_goto (tgt := 751) hx hb dL_refuses_747 (by decide) ?_
                refine lv_istore (lv' := [(5, .int 1), (6, .int (nI (n % 40))), (4, .int (nI (tn T))), (3, .int of1), (2, .int no1), (0, .ref (a 0)), (1, .int (nI n)), (8, .int (nI i))]) hx hb dL_refuses_751 hl (by decide) rfl (fun ls hl => ?_)
                refine lv_iinc (v := nI (i + 1)) (lv' := [(8, .int (nI (i + 1))), (5, .int 1), (6, .int (nI (n % 40))), (4, .int (nI (tn T))), (3, .int of1), (2, .int no1), (0, .ref (a 0)), (1, .int (nI n))]) hx hb dL_refuses_753 hl (k := 7) rfl (nI_1 _) (by decide) rfl (fun ls hl => ?_)
                refine lv_goto (tgt := 661) hx hb dL_refuses_756 (by decide) ?_
                refine W.widen (k := 43 + 5 * (i + 1)) (n := 6 * (43 + 5 * (i + 1)) + 0) (by omega) (by omega) ?_
                exact ih (i + 1) tr_4 (by omega) _ _ _ hP hD hS (by omega) (lv_sub hl [1, 2, 3, 4, 5, 6, 7, 0] rfl)
              refine lv_icmp_eq (tgt := 746) hx hb dL_refuses_678 (by decide) (fun c_678 => ?_) (fun c_678 => ?_)
              · refine W.widen (k := 43 + 5 * i + 5) (n := 6 * (43 + 5 * i + 5) + 0) (by omega) (by omega) ?_
                exact J746 tr_3 _ _ _ hP hD hS (by omega) (lv_sub hl [0, 1, 2, 3, 4, 5, 6, 7] rfl)
              · have hnh : ¬ has T (nI i) := own_nhas c_678
                have hw3 : inR (nI i) 0 3 := id3 i (by omega)
                refine lv_aload_n hx hb dL_refuses_681 rfl (lv_at hl 5 rfl) ?_
                refine lv_iload hx hb dL_refuses_682 (lv_at hl 7 rfl) ?_
                refine mo_SWz (G := G) (wr := ([] : va_W)) (As := [.ref (a 0), .int (nI i)]) (rest := []) ⟨hx, hb, hml, hown, hts⟩ (c_L_gives l hlt G cy a H.size T tr_3 (nI i) hI) (vx_cwSW 2 hts gL_refuses_L_gives rfl rfl rfl (by decide +kernel) ⟨Nat.le_of_ble_eq_true rfl, Nat.le_of_ble_eq_true rfl⟩) hP hD hP hK hD hS hA [0, 1, 2, 3, 4, 5, 6, 7, 8, 9, 10, 11] [] rfl rfl (by decide) (by decide) hN hE rfl hl.1 (Nat.le_of_ble_eq_true rfl) dL_refuses_684 ⟨by show _ ≤ (70 : Nat); omega, by show _ ≤ (420 : Nat); omega⟩ (fun r_684 u_684 H locs hw hP hD hS hz9 => ?_)
                have e9 : (sp_giveBack T (nI i)) = (2, 0, T) := q2_giveBack hw3 (Or.inr hnh)
                rw [e9] at hP hD
                have hP : va_P G vwCl (wC a cy T u_684) H := hP
                have hD : va_D A (wC a cy T u_684) := hD
                have hz := rz_k e9 (by decide) hz hz9
                have hz : s.heap.size + 38 ≤ H.size := hz
                obtain rfl : r_684 = (-2000000003) := rf_2 e9 hw
                refine lv_ldc hx hb hown (hts (.constant RL 18 (-2000000003)) (by decide +kernel)) dL_refuses_687 ?_
                refine lv_icmp_ne (tgt := 750) hx hb dL_refuses_689 (by decide) (fun c_689 => False.elim (by revert c_689; decide)) (fun c_689 => ?_)
                refine lv_aload_n hx hb dL_refuses_692 rfl (lv_at hl 5 rfl) ?_
                refine lv_iload hx hb dL_refuses_693 (lv_at hl 7 rfl) ?_
                refine mo_SWz (G := G) (wr := ([] : va_W)) (As := [.ref (a 0), .int (nI i)]) (rest := []) ⟨hx, hb, hml, hown, hts⟩ (c_L_begins l hlt G cy a H.size T u_684 (nI i) hI) (vx_cwSW 2 hts gL_refuses_L_begins rfl rfl rfl (by decide +kernel) ⟨Nat.le_of_ble_eq_true rfl, Nat.le_of_ble_eq_true rfl⟩) hP hD hP hK hD hS hA [0, 1, 2, 3, 4, 5, 6, 7, 8, 9, 10, 11] [] rfl rfl (by decide) (by decide) hN hE rfl hl.1 (Nat.le_of_ble_eq_true rfl) dL_refuses_695 ⟨by show _ ≤ (70 : Nat); omega, by show _ ≤ (420 : Nat); omega⟩ (fun r_695 u_695 H locs hw hP hD hS hz9 => ?_)
                have e9 : (sp_begin T (nI i)) = (2, 0, T) := q2_begin hw3 (Or.inl (Or.inr hnh))
                rw [e9] at hP hD
                have hP : va_P G vwCl (wC a cy T u_695) H := hP
                have hD : va_D A (wC a cy T u_695) := hD
                have hz := rz_k e9 (by decide) hz hz9
                have hz : s.heap.size + 39 ≤ H.size := hz
                obtain rfl : r_695 = (-2000000003) := rf_2 e9 hw
                refine lv_ldc hx hb hown (hts (.constant RL 18 (-2000000003)) (by decide +kernel)) dL_refuses_698 ?_
                refine lv_icmp_ne (tgt := 750) hx hb dL_refuses_700 (by decide) (fun c_700 => False.elim (by revert c_700; decide)) (fun c_700 => ?_)
                refine lv_aload_n hx hb dL_refuses_703 rfl (lv_at hl 5 rfl) ?_
                refine lv_iload hx hb dL_refuses_704 (lv_at hl 7 rfl) ?_
                refine mo_SWz (G := G) (wr := ([] : va_W)) (As := [.ref (a 0), .int (nI i)]) (rest := []) ⟨hx, hb, hml, hown, hts⟩ (c_L_undoes l hlt G cy a H.size T u_695 (nI i) hI) (vx_cwSW 2 hts gL_refuses_L_undoes rfl rfl rfl (by decide +kernel) ⟨Nat.le_of_ble_eq_true rfl, Nat.le_of_ble_eq_true rfl⟩) hP hD hP hK hD hS hA [0, 1, 2, 3, 4, 5, 6, 7, 8, 9, 10, 11] [] rfl rfl (by decide) (by decide) hN hE rfl hl.1 (Nat.le_of_ble_eq_true rfl) dL_refuses_706 ⟨by show _ ≤ (70 : Nat); omega, by show _ ≤ (420 : Nat); omega⟩ (fun r_706 u_706 H locs hw hP hD hS hz9 => ?_)
                have e9 : (sp_undo T (nI i)) = (2, 0, T) := q2_undo hw3 (Or.inl (Or.inr hnh))
                rw [e9] at hP hD
                have hP : va_P G vwCl (wC a cy T u_706) H := hP
                have hD : va_D A (wC a cy T u_706) := hD
                have hz := rz_k e9 (by decide) hz hz9
                have hz : s.heap.size + 40 ≤ H.size := hz
                obtain rfl : r_706 = (-2000000003) := rf_2 e9 hw
                refine lv_ldc hx hb hown (hts (.constant RL 18 (-2000000003)) (by decide +kernel)) dL_refuses_709 ?_
                refine lv_icmp_ne (tgt := 750) hx hb dL_refuses_711 (by decide) (fun c_711 => False.elim (by revert c_711; decide)) (fun c_711 => ?_)
                refine lv_aload_n hx hb dL_refuses_714 rfl (lv_at hl 5 rfl) ?_
                refine lv_iload hx hb dL_refuses_715 (lv_at hl 7 rfl) ?_
                refine lv_iconst (v := 5) hx hb dL_refuses_717 (by decide) ?_
                refine lv_iconst (v := 0) hx hb dL_refuses_718 (by decide) ?_
                refine mo_SWz (G := G) (wr := ([] : va_W)) (As := [.ref (a 0), .int (nI i), .int 5, .int 0]) (rest := []) ⟨hx, hb, hml, hown, hts⟩ (c_L_steps l hlt G cy a H.size T u_706 (nI i) 5 0 hI) (vx_cwSW 4 hts gL_refuses_L_steps rfl rfl rfl (by decide +kernel) ⟨Nat.le_of_ble_eq_true rfl, Nat.le_of_ble_eq_true rfl⟩) hP hD hP hK hD hS hA [0, 1, 2, 3, 4, 5, 6, 7, 8, 9, 10, 11] [] rfl rfl (by decide) (by decide) hN hE rfl hl.1 (Nat.le_of_ble_eq_true rfl) dL_refuses_719 ⟨by show _ ≤ (70 : Nat); omega, by show _ ≤ (420 : Nat); omega⟩ (fun r_719 u_719 H locs hw hP hD hS hz9 => ?_)
                have e9 : (sp_step T (nI i) 5 0) = (2, 0, T) := q2_step ⟨hw3, by decide, by decide⟩ (Or.inl (Or.inr hnh))
                rw [e9] at hP hD
                have hP : va_P G vwCl (wC a cy T u_719) H := hP
                have hD : va_D A (wC a cy T u_719) := hD
                have hz := rz_k e9 (by decide) hz hz9
                have hz : s.heap.size + 41 ≤ H.size := hz
                obtain rfl : r_719 = (-2000000003) := rf_2 e9 hw
                refine lv_ldc hx hb hown (hts (.constant RL 18 (-2000000003)) (by decide +kernel)) dL_refuses_722 ?_
                refine lv_icmp_ne (tgt := 750) hx hb dL_refuses_724 (by decide) (fun c_724 => False.elim (by revert c_724; decide)) (fun c_724 => ?_)
                refine lv_aload_n hx hb dL_refuses_727 rfl (lv_at hl 5 rfl) ?_
                refine mo_Ve (G := G) (wr := ([] : va_W)) (As := []) (rest := []) ⟨hx, hb, hml, hown, hts⟩ (c_X3_holder l G cy a H.size T u_719 hI) (cwV 0 hts gL_refuses_X3_holder rfl rfl rfl (by decide +kernel) ⟨Nat.le_of_ble_eq_true rfl, Nat.le_of_ble_eq_true rfl⟩) (va_recv hK hP (ci := 3) (q0 := 0) rfl rfl) hP hD hP hK hD hS hA [0, 1, 2, 3, 4, 5, 6, 7, 8, 9, 10, 11] [] rfl rfl (by decide) (by decide) hN rfl hl.1 (Nat.le_of_ble_eq_true rfl) dL_refuses_728 ⟨by show _ ≤ (70 : Nat); omega, by show _ ≤ (420 : Nat); omega⟩ (fun r_728 u_728 H locs hw hP hD hS hz9 => ?_)
                have hP : va_P G vwCl (wC a cy T u_719) H := hP
                have hD : va_D A (wC a cy T u_719) := hD
                have hz : s.heap.size + 41 ≤ H.size := Nat.le_trans hz hz9
                obtain rfl : r_728 = owner T := hw
                refine lv_if_lt (tgt := 746) hx hb dL_refuses_731 (by decide) (fun c_731 => ?_) (fun c_731 => ?_)
                · refine W.widen (k := 43 + 5 * i + 5) (n := 6 * (43 + 5 * i + 5) + 0) (by omega) (by omega) ?_
                  exact J746 u_719 _ _ _ hP hD hS (by omega) (lv_sub hl [0, 1, 2, 3, 4, 5, 6, 7] rfl)
                · refine lv_aload_n hx hb dL_refuses_734 rfl (lv_at hl 5 rfl) ?_
                  refine lv_iload hx hb dL_refuses_735 (lv_at hl 7 rfl) ?_
                  refine lv_iconst (v := 5) hx hb dL_refuses_737 (by decide) ?_
                  refine mo_SWz (G := G) (wr := ([] : va_W)) (As := [.ref (a 0), .int (nI i), .int 5]) (rest := []) ⟨hx, hb, hml, hown, hts⟩ (c_L_takes l hlt G cy a H.size T u_719 (nI i) 5 hI) (vx_cwSW 3 hts gL_refuses_L_takes rfl rfl rfl (by decide +kernel) ⟨Nat.le_of_ble_eq_true rfl, Nat.le_of_ble_eq_true rfl⟩) hP hD hP hK hD hS hA [0, 1, 2, 3, 4, 5, 6, 7, 8, 9, 10, 11] [] rfl rfl (by decide) (by decide) hN hE rfl hl.1 (Nat.le_of_ble_eq_true rfl) dL_refuses_738 ⟨by show _ ≤ (70 : Nat); omega, by show _ ≤ (420 : Nat); omega⟩ (fun r_738 u_738 H locs hw hP hD hS hz9 => ?_)
                  have e9 : (sp_take T (nI i) 5) = (2, 0, T) := q2_take ⟨hw3, by decide⟩ (Or.inr (own_held c_731 c_678))
                  rw [e9] at hP hD
                  have hP : va_P G vwCl (wC a cy T u_738) H := hP
                  have hD : va_D A (wC a cy T u_738) := hD
                  have hz := rz_k e9 (by decide) hz hz9
                  have hz : s.heap.size + 42 ≤ H.size := hz
                  obtain rfl : r_738 = (-2000000003) := rf_2 e9 hw
                  refine lv_ldc hx hb hown (hts (.constant RL 18 (-2000000003)) (by decide +kernel)) dL_refuses_741 ?_
                  refine lv_icmp_ne (tgt := 750) hx hb dL_refuses_743 (by decide) (fun c_743 => False.elim (by revert c_743; decide)) (fun c_743 => ?_)
                  refine W.widen (k := 43 + 5 * i + 5) (n := 6 * (43 + 5 * i + 5) + 0) (by omega) (by omega) ?_
                  exact J746 u_738 _ _ _ hP hD hS (by omega) (lv_sub hl [0, 1, 2, 3, 4, 5, 6, 7] rfl)
          refine W.widen (k := 43 + 5 * 0) (n := 6 * (43 + 5 * 0) + 0) (by omega) (by omega) ?_
          exact LOOP661 4 0 tr_2 (by omega) _ _ _ hP hD hS (by omega) (lv_sub hl [1, 2, 3, 4, 5, 6, 7, 0] rfl)
        refine lv_if_lt (tgt := 572) hx hb dL_refuses_565 (by decide) (fun c_565 => ?_) (fun c_565 => ?_)
        · have hV : tV T (ix (nI (n % 40))) = -1 := by rw [ix_n (by omega)]; exact V_neg hI (by omega) c_565
          refine lv_iconst (v := 0) hx hb dL_refuses_572 (by decide) ?_
          refine lv_istore (lv' := [(7, .int 0), (6, .int (nI (n % 40))), (5, .int 1), (4, .int (nI (tn T))), (3, .int of1), (2, .int no1), (0, .ref (a 0)), (1, .int (nI n))]) hx hb dL_refuses_573 hl (by decide) rfl (fun ls hl => ?_)
          refine lv_iload hx hb dL_refuses_575 (lv_at hl 2 rfl) ?_
          refine lv_if_eq (tgt := 655) hx hb dL_refuses_577 (by decide) (fun c_577 => False.elim (by revert c_577; decide)) (fun c_577 => ?_)
          refine lv_iload hx hb dL_refuses_580 (lv_at hl 0 rfl) ?_
          refine lv_if_eq (tgt := 602) hx hb dL_refuses_582 (by decide) (fun c_582 => ?_) (fun c_582 => False.elim (by revert c_582; decide))
          refine lv_aload_n hx hb dL_refuses_602 rfl (lv_at hl 6 rfl) ?_
          refine lv_iload hx hb dL_refuses_603 (lv_at hl 1 rfl) ?_
          refine lv_iconst (v := 0) hx hb dL_refuses_605 (by decide) ?_
          refine lv_iconst (v := 0) hx hb dL_refuses_606 (by decide) ?_
          refine mo_SWz (G := G) (wr := ([] : va_W)) (As := [.ref (a 0), .int (nI (n % 40)), .int 0, .int 0]) (rest := []) ⟨hx, hb, hml, hown, hts⟩ (c_L_writes l hlt G cy a H.size T u_562 (nI (n % 40)) 0 0 hI) (vx_cwSW 4 hts gL_refuses_L_writes rfl rfl rfl (by decide +kernel) ⟨Nat.le_of_ble_eq_true rfl, Nat.le_of_ble_eq_true rfl⟩) hP hD hP hK hD hS hA [0, 1, 2, 3, 4, 5, 6, 7, 8, 9, 10, 11] [] rfl rfl (by decide) (by decide) hN hE rfl hl.1 (Nat.le_of_ble_eq_true rfl) dL_refuses_607 ⟨by show _ ≤ (70 : Nat); omega, by show _ ≤ (420 : Nat); omega⟩ (fun r_607 u_607 H locs hw hP hD hS hz9 => ?_)
          have e9 : (sp_write T (nI (n % 40)) 0 0) = (2, 0, T) := q2_write ⟨id39 _ (by omega), by decide, by decide⟩ hV
          rw [e9] at hP hD
          have hP : va_P G vwCl (wC a cy T u_607) H := hP
          have hD : va_D A (wC a cy T u_607) := hD
          have hz := rz_k e9 (by decide) hz hz9
          have hz : s.heap.size + 38 ≤ H.size := hz
          obtain rfl : r_607 = (-2000000001) := rf_2 e9 hw
          refine lv_ldc hx hb hown (hts (.constant RL 25 (-2000000001)) (by decide +kernel)) dL_refuses_610 ?_
          refine lv_icmp_ne (tgt := 655) hx hb dL_refuses_612 (by decide) (fun c_612 => False.elim (by revert c_612; decide)) (fun c_612 => ?_)
          refine lv_aload_n hx hb dL_refuses_615 rfl (lv_at hl 6 rfl) ?_
          refine lv_iload hx hb dL_refuses_616 (lv_at hl 1 rfl) ?_
          refine mo_SWz (G := G) (wr := ([] : va_W)) (As := [.ref (a 0), .int (nI (n % 40))]) (rest := []) ⟨hx, hb, hml, hown, hts⟩ (c_L_deletes l hlt G cy a H.size T u_607 (nI (n % 40)) hI) (vx_cwSW 2 hts gL_refuses_L_deletes rfl rfl rfl (by decide +kernel) ⟨Nat.le_of_ble_eq_true rfl, Nat.le_of_ble_eq_true rfl⟩) hP hD hP hK hD hS hA [0, 1, 2, 3, 4, 5, 6, 7, 8, 9, 10, 11] [] rfl rfl (by decide) (by decide) hN hE rfl hl.1 (Nat.le_of_ble_eq_true rfl) dL_refuses_618 ⟨by show _ ≤ (70 : Nat); omega, by show _ ≤ (420 : Nat); omega⟩ (fun r_618 u_618 H locs hw hP hD hS hz9 => ?_)
          have e9 : (sp_delete T (nI (n % 40))) = (2, 0, T) := q2_delete (id39 _ (by omega)) hV
          rw [e9] at hP hD
          have hP : va_P G vwCl (wC a cy T u_618) H := hP
          have hD : va_D A (wC a cy T u_618) := hD
          have hz := rz_k e9 (by decide) hz hz9
          have hz : s.heap.size + 39 ≤ H.size := hz
          obtain rfl : r_618 = (-2000000001) := rf_2 e9 hw
          refine lv_ldc hx hb hown (hts (.constant RL 25 (-2000000001)) (by decide +kernel)) dL_refuses_621 ?_
          refine lv_icmp_ne (tgt := 655) hx hb dL_refuses_623 (by decide) (fun c_623 => False.elim (by revert c_623; decide)) (fun c_623 => ?_)
          refine lv_aload_n hx hb dL_refuses_626 rfl (lv_at hl 6 rfl) ?_
          refine lv_iload hx hb dL_refuses_627 (lv_at hl 1 rfl) ?_
          refine lv_iconst (v := 2) hx hb dL_refuses_629 (by decide) ?_
          refine mo_SWz (G := G) (wr := ([] : va_W)) (As := [.ref (a 0), .int (nI (n % 40)), .int 2]) (rest := []) ⟨hx, hb, hml, hown, hts⟩ (c_L_value l hlt G cy a H.size T u_618 (nI (n % 40)) 2 hI) (vx_cwSW 3 hts gL_refuses_L_value rfl rfl rfl (by decide +kernel) ⟨Nat.le_of_ble_eq_true rfl, Nat.le_of_ble_eq_true rfl⟩) hP hD hP hK hD hS hA [0, 1, 2, 3, 4, 5, 6, 7, 8, 9, 10, 11] [] rfl rfl (by decide) (by decide) hN hE rfl hl.1 (Nat.le_of_ble_eq_true rfl) dL_refuses_630 ⟨by show _ ≤ (70 : Nat); omega, by show _ ≤ (420 : Nat); omega⟩ (fun r_630 u_630 H locs hw hP hD hS hz9 => ?_)
          have e9 : (sp_value T (nI (n % 40)) 2) = (2, 0, T) := q2_value ⟨id39 _ (by omega), by decide⟩ hV
          rw [e9] at hP hD
          have hP : va_P G vwCl (wC a cy T u_630) H := hP
          have hD : va_D A (wC a cy T u_630) := hD
          have hz := rz_k e9 (by decide) hz hz9
          have hz : s.heap.size + 40 ≤ H.size := hz
          obtain rfl : r_630 = (-2000000001) := rf_2 e9 hw
          refine lv_ldc hx hb hown (hts (.constant RL 25 (-2000000001)) (by decide +kernel)) dL_refuses_633 ?_
          refine lv_icmp_ne (tgt := 655) hx hb dL_refuses_635 (by decide) (fun c_635 => False.elim (by revert c_635; decide)) (fun c_635 => ?_)
          refine lv_aload_n hx hb dL_refuses_638 rfl (lv_at hl 6 rfl) ?_
          refine lv_iload hx hb dL_refuses_639 (lv_at hl 1 rfl) ?_
          refine lv_iconst (v := 1) hx hb dL_refuses_641 (by decide) ?_
          refine lv_iconst (v := 0) hx hb dL_refuses_642 (by decide) ?_
          refine mo_SWz (G := G) (wr := ([] : va_W)) (As := [.ref (a 0), .int (nI (n % 40)), .int 1, .int 0]) (rest := []) ⟨hx, hb, hml, hown, hts⟩ (c_L_valueAt l hlt G cy a H.size T u_630 (nI (n % 40)) 1 0 hI) (vx_cwSW 4 hts gL_refuses_L_valueAt rfl rfl rfl (by decide +kernel) ⟨Nat.le_of_ble_eq_true rfl, Nat.le_of_ble_eq_true rfl⟩) hP hD hP hK hD hS hA [0, 1, 2, 3, 4, 5, 6, 7, 8, 9, 10, 11] [] rfl rfl (by decide) (by decide) hN hE rfl hl.1 (Nat.le_of_ble_eq_true rfl) dL_refuses_643 ⟨by show _ ≤ (70 : Nat); omega, by show _ ≤ (420 : Nat); omega⟩ (fun r_643 u_643 H locs hw hP hD hS hz9 => ?_)
          have e9 : (sp_valueAt T (nI (n % 40)) 1 0) = (2, 0, T) := q2_valueAt ⟨id39 _ (by omega), by decide, a0n hk⟩ hV
          rw [e9] at hP hD
          have hP : va_P G vwCl (wC a cy T u_643) H := hP
          have hD : va_D A (wC a cy T u_643) := hD
          have hz := rz_k e9 (by decide) hz hz9
          have hz : s.heap.size + 41 ≤ H.size := hz
          obtain rfl : r_643 = (-2000000001) := rf_2 e9 hw
          refine lv_ldc hx hb hown (hts (.constant RL 25 (-2000000001)) (by decide +kernel)) dL_refuses_646 ?_
          refine lv_icmp_ne (tgt := 655) hx hb dL_refuses_648 (by decide) (fun c_648 => False.elim (by revert c_648; decide)) (fun c_648 => ?_)
          refine lv_iconst (v := 1) hx hb dL_refuses_651 (by decide) ?_
          refine lv_goto (tgt := 656) hx hb dL_refuses_652 (by decide) ?_
          refine W.widen (k := 0 + 43) (n := 6 * (0 + 43) + 0) (by omega) (by omega) ?_
          exact J656 u_643 _ _ _ hP hD hS (by omega) (lv_sub hl [1, 2, 3, 4, 5, 6, 7] rfl)
        · have hV : tV T (ix (nI (n % 40))) ≠ -1 := by rw [ix_n (by omega)]; exact V_pos c_565
          refine lv_iconst (v := 1) hx hb dL_refuses_568 (by decide) ?_
          refine lv_goto (tgt := 573) hx hb dL_refuses_569 (by decide) ?_
          refine lv_istore (lv' := [(7, .int 1), (6, .int (nI (n % 40))), (5, .int 1), (4, .int (nI (tn T))), (3, .int of1), (2, .int no1), (0, .ref (a 0)), (1, .int (nI n))]) hx hb dL_refuses_573 hl (by decide) rfl (fun ls hl => ?_)
          refine lv_iload hx hb dL_refuses_575 (lv_at hl 2 rfl) ?_
          refine lv_if_eq (tgt := 655) hx hb dL_refuses_577 (by decide) (fun c_577 => False.elim (by revert c_577; decide)) (fun c_577 => ?_)
          refine lv_iload hx hb dL_refuses_580 (lv_at hl 0 rfl) ?_
          refine lv_if_eq (tgt := 602) hx hb dL_refuses_582 (by decide) (fun c_582 => False.elim (by revert c_582; decide)) (fun c_582 => ?_)
          refine lv_aload_n hx hb dL_refuses_585 rfl (lv_at hl 6 rfl) ?_
          refine lv_iload hx hb dL_refuses_586 (lv_at hl 1 rfl) ?_
          refine lv_iconst (v := 1) hx hb dL_refuses_588 (by decide) ?_
          refine lv_iconst (v := 1) hx hb dL_refuses_589 (by decide) ?_
          refine lv_iconst (v := 1) hx hb dL_refuses_590 (by decide) ?_
          refine mo_SWz (G := G) (wr := ([] : va_W)) (As := [.ref (a 0), .int (nI (n % 40)), .int 1, .int 1, .int 1]) (rest := []) ⟨hx, hb, hml, hown, hts⟩ (c_L_inserts l hlt G cy a H.size T u_562 (nI (n % 40)) 1 1 1 hI) (vx_cwSW 5 hts gL_refuses_L_inserts rfl rfl rfl (by decide +kernel) ⟨Nat.le_of_ble_eq_true rfl, Nat.le_of_ble_eq_true rfl⟩) hP hD hP hK hD hS hA [0, 1, 2, 3, 4, 5, 6, 7, 8, 9, 10, 11] [] rfl rfl (by decide) (by decide) hN hE rfl hl.1 (Nat.le_of_ble_eq_true rfl) dL_refuses_591 ⟨by show _ ≤ (70 : Nat); omega, by show _ ≤ (420 : Nat); omega⟩ (fun r_591 u_591 H locs hw hP hD hS hz9 => ?_)
          have e9 : (sp_insert T (nI (n % 40)) 1 1 1) = (2, 0, T) := q2_insert ⟨id39 _ (by omega), by decide, by decide, by decide⟩ hV
          rw [e9] at hP hD
          have hP : va_P G vwCl (wC a cy T u_591) H := hP
          have hD : va_D A (wC a cy T u_591) := hD
          have hz := rz_k e9 (by decide) hz hz9
          have hz : s.heap.size + 38 ≤ H.size := hz
          obtain rfl : r_591 = (-2000000003) := rf_2 e9 hw
          refine lv_ldc hx hb hown (hts (.constant RL 18 (-2000000003)) (by decide +kernel)) dL_refuses_594 ?_
          refine lv_icmp_ne (tgt := 655) hx hb dL_refuses_596 (by decide) (fun c_596 => False.elim (by revert c_596; decide)) (fun c_596 => ?_)
          refine lv_goto (tgt := 651) hx hb dL_refuses_599 (by decide) ?_
          refine lv_iconst (v := 1) hx hb dL_refuses_651 (by decide) ?_
          refine lv_goto (tgt := 656) hx hb dL_refuses_652 (by decide) ?_
          refine W.widen (k := 0 + 43) (n := 6 * (0 + 43) + 0) (by omega) (by omega) ?_
          exact J656 u_591 _ _ _ hP hD hS (by omega) (lv_sub hl [1, 2, 3, 4, 5, 6, 7] rfl)
      refine lv_icmp_lt (tgt := 161) hx hb dL_refuses_146 (by decide) (fun c_146 => ?_) (fun c_146 => ?_)
      · refine W.widen (k := 0 + 8) (n := 6 * (0 + 8) + 0) (by omega) (by omega) ?_
        exact J161 u_134 _ _ _ hP hD hS (by omega) (lv_sub hl [0, 1, 2, 3, 4] rfl)
      · have h12 : tn T = 12 := tn12 hk c_146
        refine lv_aload_n hx hb dL_refuses_149 rfl (lv_at hl 3 rfl) ?_
        refine lv_iconst (v := 0) hx hb dL_refuses_150 (by decide) ?_
        refine lv_iconst (v := 0) hx hb dL_refuses_151 (by decide) ?_
        refine lv_iconst (v := 1) hx hb dL_refuses_152 (by decide) ?_
        refine mo_SWz (G := G) (wr := ([] : va_W)) (As := [.ref (a 0), .int 0, .int 0, .int 1]) (rest := []) ⟨hx, hb, hml, hown, hts⟩ (c_L_adds l hlt G cy a H.size T u_134 0 0 1 hI) (vx_cwSW 4 hts gL_refuses_L_adds rfl rfl rfl (by decide +kernel) ⟨Nat.le_of_ble_eq_true rfl, Nat.le_of_ble_eq_true rfl⟩) hP hD hP hK hD hS hA [0, 1, 2, 3, 4, 5, 6, 7, 8, 9, 10, 11] [] rfl rfl (by decide) (by decide) hN hE rfl hl.1 (Nat.le_of_ble_eq_true rfl) dL_refuses_153 ⟨by show _ ≤ (70 : Nat); omega, by show _ ≤ (420 : Nat); omega⟩ (fun r_153 u_153 H locs hw hP hD hS hz9 => ?_)
        have e9 : (sp_addChange T 0 0 1) = (2, 0, T) := q2_addChange aA9 h12
        rw [e9] at hP hD
        have hP : va_P G vwCl (wC a cy T u_153) H := hP
        have hD : va_D A (wC a cy T u_153) := hD
        have hz := rz_k e9 (by decide) hz hz9
        have hz : s.heap.size + 8 ≤ H.size := hz
        obtain rfl : r_153 = (-2000000003) := rf_2 e9 hw
        refine lv_ldc hx hb hown (hts (.constant RL 18 (-2000000003)) (by decide +kernel)) dL_refuses_156 ?_
        refine lv_icmp_ne (tgt := 289) hx hb dL_refuses_158 (by decide) (fun c_158 => False.elim (by revert c_158; decide)) (fun c_158 => ?_)
        refine W.widen (k := 0 + 8) (n := 6 * (0 + 8) + 0) (by omega) (by omega) ?_
        exact J161 u_153 _ _ _ hP hD hS (by omega) (lv_sub hl [0, 1, 2, 3, 4] rfl)
    refine lv_if_ne (tgt := 38) hx hb dL_refuses_26 (by decide) (fun c_26 => ?_) (fun c_26 => ?_)
    · refine lv_iconst (v := (-1)) hx hb dL_refuses_38 (by decide) ?_
      refine lv_iload_n hx hb dL_refuses_39 rfl (lv_at hl 2 rfl) ?_
      refine lv_bipush (v := 70) hx hb dL_refuses_40 (by decide) ?_
      refine lv_irem hx hb dL_refuses_42 (by decide) ?_
      refine lv_isub hx hb dL_refuses_43 ?_
      refine W.widen (k := 0) (n := 6 * (0) + 0) (by omega) (by omega) ?_
      exact J44 ((-1) - ((nI n) - (nI n) / 70 * 70)) (aO2 n hn) _ _ _ hP hD hS hz (lv_sub hl [0, 1, 2] rfl)
    · refine lv_iconst (v := 3) hx hb dL_refuses_29 (by decide) ?_
      refine lv_iload_n hx hb dL_refuses_30 rfl (lv_at hl 2 rfl) ?_
      refine lv_bipush (v := 70) hx hb dL_refuses_31 (by decide) ?_
      refine lv_irem hx hb dL_refuses_33 (by decide) ?_
      refine lv_iadd hx hb dL_refuses_34 ?_
      refine lv_goto (tgt := 44) hx hb dL_refuses_35 (by decide) ?_
      refine W.widen (k := 0) (n := 6 * (0) + 0) (by omega) (by omega) ?_
      exact J44 (3 + ((nI n) - (nI n) / 70 * 70)) (aO1 n hn) _ _ _ hP hD hS hz (lv_sub hl [0, 1, 2] rfl)
  refine lv_if_ne (tgt := 15) hx hb dL_refuses_3 (by decide) (fun c_3 => ?_) (fun c_3 => ?_)
  · refine lv_bipush (v := 40) hx hb dL_refuses_15 (by decide) ?_
    refine lv_iload_n hx hb dL_refuses_17 rfl (lv_at hl 1 rfl) ?_
    refine lv_bipush (v := 70) hx hb dL_refuses_18 (by decide) ?_
    refine lv_irem hx hb dL_refuses_20 (by decide) ?_
    refine lv_iadd hx hb dL_refuses_21 ?_
    refine W.widen (k := 0) (n := 6 * (0) + 0) (by omega) (by omega) ?_
    exact J22 (40 + ((nI n) - (nI n) / 70 * 70)) (aN2 n hn) _ _ _ hP hD hS hz (lv_sub hl [0, 1] rfl)
  · refine lv_iconst (v := (-1)) hx hb dL_refuses_6 (by decide) ?_
    refine lv_iload_n hx hb dL_refuses_7 rfl (lv_at hl 1 rfl) ?_
    refine lv_bipush (v := 70) hx hb dL_refuses_8 (by decide) ?_
    refine lv_irem hx hb dL_refuses_10 (by decide) ?_
    refine lv_isub hx hb dL_refuses_11 ?_
    refine lv_goto (tgt := 22) hx hb dL_refuses_12 (by decide) ?_
    refine W.widen (k := 0) (n := 6 * (0) + 0) (by omega) (by omega) ?_
    exact J22 ((-1) - ((nI n) - (nI n) / 70 * 70)) (aN1 n hn) _ _ _ hP hD hS hz (lv_sub hl [0, 1] rfl)
