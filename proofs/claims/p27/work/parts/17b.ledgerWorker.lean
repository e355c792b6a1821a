set_option maxHeartbeats 8000000 in
set_option maxRecDepth 100000 in
theorem c_L_ledgerWorker (l : Launch) (hlt : l.stackTraces = false) (G : va_G) (cy : Nat → ClassId) (a : Nat → Nat) (sz : Nat) (T : TS) (tr : Nat → Int32) (x : Int32) (hI : Inv T) : Met l yL_ledgerWorker wsL_ledgerWorker ({ frames := 9, cells := 2, slots := 12, locals := 149 } : Room) (ml_PX G cy [.ref (a 0), .int x] (wC a cy T tr) sz) (va_Qi (fun (r : Int32) (u : TS × (Nat → Int32)) => Inv u.1) (ml_BZ G cy (va_A (wC a cy T tr) sz) (fun u : TS × (Nat → Int32) => (wC a cy u.1 u.2)) sz (fun _ => 0)) (va_A (wC a cy T tr) sz)) 2 12 (va_A (wC a cy T tr) sz) := by
  refine Met.ofW (cc := cL_ledgerWorker) (maxL := 3) (ret := some .int) (by decide) rfl ?_
  intro p e s m args below meth c s₁ B hml hv
  obtain ⟨rfl, hsz, hP, hK, hD0, hN, hE⟩ := hv
  have hx := B.exec
  have hb := B.bytes
  have hr := B.returns
  have hts := atoms_spec (ws := wsL_ledgerWorker) B.pre
  have hown : s.vm.findClass RL = some m.cls := findClass_of_methodNamed B.named
  have hlocks := B.notSynchronized
  subst hsz
  have hD := hD0.self (sz := s.heap.size)
  generalize hAe : va_A (wC a cy T tr) s.heap.size = A at hD hE ⊢
  have hA : ∀ q : Nat, s.heap.size ≤ q → A q := fun q h => by rw [← hAe]; exact Or.inr h
  have hS : va_S A s.heap s.heap [] := va_S.rf
  have hP : va_P G vwCl (wC a cy T tr) s.heap := hP
  have hl := lv_entry ([.ref (a 0), .int x]) (n := 3) (Nat.le_of_ble_eq_true rfl)
  rw [lg_entry_eq]
  generalize (lg_sl ([.ref (a 0), .int x]) ++ List.replicate (3 - (lg_sl ([.ref (a 0), .int x])).length) Slot.unset).toArray = ls at hl ⊢
  have hl : lv_has ls 3 [(0, .ref (a 0)), (1, .int x)] := hl
  have hz : s.heap.size + 0 ≤ s.heap.size := Nat.le_refl _
  refine lv_aload_n hx hb dL_ledgerWorker_0 rfl (lv_at hl 0 rfl) ?_
  refine mo_Ve (G := G) (wr := ([] : va_W)) (As := []) (rest := []) ⟨hx, hb, hml, hown, hts⟩ (c_X3_holder l G cy a s.heap.size T tr hI) (cwV 0 hts gL_ledgerWorker_X3_holder rfl rfl rfl (by decide +kernel) ⟨Nat.le_of_ble_eq_true rfl, Nat.le_of_ble_eq_true rfl⟩) (va_recv hK hP (ci := 3) (q0 := 0) rfl rfl) hP hD hP hK hD hS hA [0, 1, 2, 3, 4, 5, 6, 7, 8, 9, 10, 11] [] rfl rfl (by decide) (by decide) hN rfl hl.1 (Nat.le_of_ble_eq_true rfl) dL_ledgerWorker_1 ⟨by show _ ≤ (2 : Nat); omega, by show _ ≤ (12 : Nat); omega⟩ (fun r_1 u_1 H locs hw hP hD hS hz9 => ?_)
  have hP : va_P G vwCl (wC a cy T tr) H := hP
  have hD : va_D A (wC a cy T tr) := hD
  have hz : s.heap.size + 0 ≤ H.size := Nat.le_trans hz hz9
  obtain rfl : r_1 = owner T := hw
  refine lv_istore_n (lv' := [(2, .int (owner T)), (0, .ref (a 0)), (1, .int x)]) hx hb dL_ledgerWorker_4 rfl hl (by decide) rfl (fun ls hl => ?_)
  refine lv_iload_n hx hb dL_ledgerWorker_5 rfl (lv_at hl 0 rfl) ?_
  have J13 : ∀ (w2 : Int32) (H : Heap) (locs : List Loc) (ls : Array Slot), va_P G vwCl (wC a cy T tr) H → va_D A (wC a cy T tr) → va_S A s.heap H locs → s.heap.size + 0 ≤ H.size → lv_has ls 3 [(0, .ref (a 0)), (1, .int x), (2, .int w2)] → W p l e (headSpec wsL_ledgerWorker ({ frames := 9, cells := 2, slots := 12, locals := 149 } : Room)).room s m (#[.ref (a 0), .int x] : Array Value) below meth c H locs (0) (6 * (0) + 0) (MQ below (va_Qi (fun (r : Int32) (u : TS × (Nat → Int32)) => Inv u.1) (ml_BZ G cy A (fun u : TS × (Nat → Int32) => (wC a cy u.1 u.2)) s.heap.size (fun _ => 0)) A) (#[.ref (a 0), .int x] : Array Value) s 2 12 A) (F0 m 13 ls []) := by
    intro w2 H locs ls hP hD hS hz hl
    refine lv_aload_n hx hb dL_ledgerWorker_13 rfl (lv_at hl 0 rfl) ?_
    refine lv_iload_n hx hb dL_ledgerWorker_14 rfl (lv_at hl 2 rfl) ?_
    refine mo_SWz (G := G) (wr := ([] : va_W)) (As := [.ref (a 0), .int w2]) (rest := []) ⟨hx, hb, hml, hown, hts⟩ (c_L_restarts l hlt G cy a H.size T tr w2 hI) (vx_cwSW 2 hts gL_ledgerWorker_L_restarts rfl rfl rfl (by decide +kernel) ⟨Nat.le_of_ble_eq_true rfl, Nat.le_of_ble_eq_true rfl⟩) hP hD hP hK hD hS hA [0, 1, 2, 3, 4, 5, 6, 7, 8, 9, 10, 11] [] rfl rfl (by decide) (by decide) hN hE rfl hl.1 (Nat.le_of_ble_eq_true rfl) dL_ledgerWorker_15 ⟨by show _ ≤ (2 : Nat); omega, by show _ ≤ (12 : Nat); omega⟩ (fun r_15 u_15 H locs hw hP hD hS hz9 => ?_)
    obtain ⟨T_15, hT9⟩ : ∃ z, z = (sp_restart T w2).2.2 := ⟨_, rfl⟩
    rw [← hT9] at hP hD
    have hI_15 : Inv T_15 := by rw [hT9]; exact inv_restart hI w2
    have hP : va_P G vwCl (wC a cy T_15 u_15) H := hP
    have hD : va_D A (wC a cy T_15 u_15) := hD
    have hz : s.heap.size + 0 ≤ H.size := rz_0 hz hz9
    refine lv_pop hx hb dL_ledgerWorker_18 rfl ?_
    refine lv_aload_n hx hb dL_ledgerWorker_19 rfl (lv_at hl 0 rfl) ?_
    refine lv_iload_n hx hb dL_ledgerWorker_20 rfl (lv_at hl 2 rfl) ?_
    refine lv_iconst (v := 3) hx hb dL_ledgerWorker_21 (by decide) ?_
    refine mo_SWz (G := G) (wr := ([] : va_W)) (As := [.ref (a 0), .int w2, .int 3]) (rest := []) ⟨hx, hb, hml, hown, hts⟩ (c_L_takes l hlt G cy a H.size T_15 u_15 w2 3 hI_15) (vx_cwSW 3 hts gL_ledgerWorker_L_takes rfl rfl rfl (by decide +kernel) ⟨Nat.le_of_ble_eq_true rfl, Nat.le_of_ble_eq_true rfl⟩) hP hD hP hK hD hS hA [0, 1, 2, 3, 4, 5, 6, 7, 8, 9, 10, 11] [] rfl rfl (by decide) (by decide) hN hE rfl hl.1 (Nat.le_of_ble_eq_true rfl) dL_ledgerWorker_22 ⟨by show _ ≤ (2 : Nat); omega, by show _ ≤ (12 : Nat); omega⟩ (fun r_22 u_22 H locs hw hP hD hS hz9 => ?_)
    obtain ⟨T_22, hT9⟩ : ∃ z, z = (sp_take T_15 w2 3).2.2 := ⟨_, rfl⟩
    rw [← hT9] at hP hD
    have hI_22 : Inv T_22 := by rw [hT9]; exact inv_take hI_15 w2 3
    have hP : va_P G vwCl (wC a cy T_22 u_22) H := hP
    have hD : va_D A (wC a cy T_22 u_22) := hD
    have hz : s.heap.size + 0 ≤ H.size := rz_0 hz hz9
    refine lv_if_le (tgt := 32) hx hb dL_ledgerWorker_25 (by decide) (fun c_25 => ?_) (fun c_25 => ?_)
    · refine lv_iconst (v := (-1)) hx hb dL_ledgerWorker_32 (by decide) ?_
      refine W.widen (k := 2) (n := 12) (by omega) (by omega) ?_
      exact ml_riz (T_22, u_22) hx hb hr hlocks hP hK hD hS rfl hI_22 (by show s.heap.size + 0 ≤ H.size; omega) dL_ledgerWorker_33
    · refine lv_iload_n hx hb dL_ledgerWorker_28 rfl (lv_at hl 2 rfl) ?_
      refine lv_goto (tgt := 33) hx hb dL_ledgerWorker_29 (by decide) ?_
      refine W.widen (k := 2) (n := 12) (by omega) (by omega) ?_
      exact ml_riz (T_22, u_22) hx hb hr hlocks hP hK hD hS rfl hI_22 (by show s.heap.size + 0 ≤ H.size; omega) dL_ledgerWorker_33
  refine lv_if_ge (tgt := 13) hx hb dL_ledgerWorker_6 (by decide) (fun c_6 => ?_) (fun c_6 => ?_)
  · refine W.widen (k := 0) (n := 6 * (0) + 0) (by omega) (by omega) ?_
    exact J13 (owner T) _ _ _ hP hD hS hz (lv_sub hl [1, 2, 0] rfl)
  · refine lv_iload_n hx hb dL_ledgerWorker_9 rfl (lv_at hl 2 rfl) ?_
    refine lv_iconst (v := 4) hx hb dL_ledgerWorker_10 (by decide) ?_
    refine lv_irem hx hb dL_ledgerWorker_11 (by decide) ?_
    refine lv_istore_n (lv' := [(2, .int (x - x / 4 * 4)), (0, .ref (a 0)), (1, .int x)]) hx hb dL_ledgerWorker_12 rfl hl (by decide) rfl (fun ls hl => ?_)
    refine W.widen (k := 0) (n := 6 * (0) + 0) (by omega) (by omega) ?_
    exact J13 (x - x / 4 * 4) _ _ _ hP hD hS hz (lv_sub hl [1, 2, 0] rfl)
