set_option maxHeartbeats 8000000 in
set_option maxRecDepth 100000 in
theorem c_L_ledgerWorker2 (l : Launch) (hlt : l.stackTraces = false) (G : va_G) (cy : Nat → ClassId) (a : Nat → Nat) (sz : Nat) (T : TS) (tr : Nat → Int32) (xx t : Nat) (hxx : xx < 2 ^ 31) (ht : t ≤ 1000000) (hLK : LK t T) (hI : Inv T) : Met l yL_ledgerWorker wsL_ledgerWorker ({ frames := 9, cells := 2, slots := 12, locals := 149 } : Room) (ml_PX G cy [.ref (a 0), .int (nI xx)] (wC a cy T tr) sz) (va_Qi (fun (r : Int32) (u : TS × (Nat → Int32)) => ∃ w y, w < 4 ∧ r = nI w ∧ u.1 = ule (uho T (nI w)) y ∧ LK t u.1 ∧ has u.1 (nI w) ∧ Inv u.1) (ml_BZ G cy (va_A (wC a cy T tr) sz) (fun u : TS × (Nat → Int32) => (wC a cy u.1 u.2)) sz (fun _ => 0)) (va_A (wC a cy T tr) sz)) 2 12 (va_A (wC a cy T tr) sz) := by
  refine Met.ofW (cc := cL_ledgerWorker) (maxL := 3) (ret := some .int) (by decide) rfl ?_
  intro p e s m args below meth c s₁ B hml hv
  obtain ⟨rfl, hsz, hP, hK, hD0, hN, hE⟩ := hv
  have hx := B.exec
  have hb := B.bytes
  have hr := B.returns
  have hts := atoms_spec (ws := wsL_ledgerWorker) B.pre
  have hown : s.vm.findClass RL = some m.cls := findClass_of_methodNamed B.named
  have hlocks := B.notSynchronized
  subst hsz
  have hD := hD0.self (sz := s.heap.size)
  generalize hAe : va_A (wC a cy T tr) s.heap.size = A at hD hE ⊢
  have hA : ∀ q : Nat, s.heap.size ≤ q → A q := fun q h => by rw [← hAe]; exact Or.inr h
  have hS : va_S A s.heap s.heap [] := va_S.rf
  have hP : va_P G vwCl (wC a cy T tr) s.heap := hP
  have hl := lv_entry ([.ref (a 0), .int (nI xx)]) (n := 3) (Nat.le_of_ble_eq_true rfl)
  rw [lg_entry_eq]
  generalize (lg_sl ([.ref (a 0), .int (nI xx)]) ++ List.replicate (3 - (lg_sl ([.ref (a 0), .int (nI xx)])).length) Slot.unset).toArray = ls at hl ⊢
  have hl : lv_has ls 3 [(0, .ref (a 0)), (1, .int (nI xx))] := hl
  have hz : s.heap.size + 0 ≤ s.heap.size := Nat.le_refl _
  refine lv_aload_n hx hb dL_ledgerWorker_0 rfl (lv_at hl 0 rfl) ?_
  refine mo_Ve (G := G) (wr := ([] : va_W)) (As := []) (rest := []) ⟨hx, hb, hml, hown, hts⟩ (c_X3_holder l G cy a s.heap.size T tr hI) (cwV 0 hts gL_ledgerWorker_X3_holder rfl rfl rfl (by decide +kernel) ⟨Nat.le_of_ble_eq_true rfl, Nat.le_of_ble_eq_true rfl⟩) (va_recv hK hP (ci := 3) (q0 := 0) rfl rfl) hP hD hP hK hD hS hA [0, 1, 2, 3, 4, 5, 6, 7, 8, 9, 10, 11] [] rfl rfl (by decide) (by decide) hN rfl hl.1 (Nat.le_of_ble_eq_true rfl) dL_ledgerWorker_1 ⟨by show _ ≤ (2 : Nat); omega, by show _ ≤ (12 : Nat); omega⟩ (fun r_1 u_1 H locs hw hP hD hS hz9 => ?_)
  have hP : va_P G vwCl (wC a cy T tr) H := hP
  have hD : va_D A (wC a cy T tr) := hD
  have hz : s.heap.size + 0 ≤ H.size := Nat.le_trans hz hz9
  obtain rfl : r_1 = owner T := hw
  refine lv_istore_n (lv' := [(2, .int (owner T)), (0, .ref (a 0)), (1, .int (nI xx))]) hx hb dL_ledgerWorker_4 rfl hl (by decide) rfl (fun ls hl => ?_)
  refine lv_iload_n hx hb dL_ledgerWorker_5 rfl (lv_at hl 0 rfl) ?_
  have J13 : ∀ (w2 : Int32) (hw2 : ∃ w, w < 4 ∧ w2 = nI w ∧ ¬ (isHeld T ∧ tho T ≠ nI w)) (H : Heap) (locs : List Loc) (ls : Array Slot), va_P G vwCl (wC a cy T tr) H → va_D A (wC a cy T tr) → va_S A s.heap H locs → s.heap.size + 0 ≤ H.size → lv_has ls 3 [(0, .ref (a 0)), (1, .int (nI xx)), (2, .int w2)] → W p l e (headSpec wsL_ledgerWorker ({ frames := 9, cells := 2, slots := 12, locals := 149 } : Room)).room s m (#[.ref (a 0), .int (nI xx)] : Array Value) below meth c H locs (0) (6 * (0) + 0) (MQ below (va_Qi (fun (r : Int32) (u : TS × (Nat → Int32)) => ∃ w y, w < 4 ∧ r = nI w ∧ u.1 = ule (uho T (nI w)) y ∧ LK t u.1 ∧ has u.1 (nI w) ∧ Inv u.1) (ml_BZ G cy A (fun u : TS × (Nat → Int32) => (wC a cy u.1 u.2)) s.heap.size (fun _ => 0)) A) (#[.ref (a 0), .int (nI xx)] : Array Value) s 2 12 A) (F0 m 13 ls []) := by
    intro w2 hw2 H locs ls hP hD hS hz hl
    obtain ⟨w, hw4, rfl, hnh⟩ := hw2
    refine lv_aload_n hx hb dL_ledgerWorker_13 rfl (lv_at hl 0 rfl) ?_
    refine lv_iload_n hx hb dL_ledgerWorker_14 rfl (lv_at hl 2 rfl) ?_
    refine mo_SWz (G := G) (wr := ([] : va_W)) (As := [.ref (a 0), .int (nI w)]) (rest := []) ⟨hx, hb, hml, hown, hts⟩ (c_L_restarts l hlt G cy a H.size T tr (nI w) hI) (vx_cwSW 2 hts gL_ledgerWorker_L_restarts rfl rfl rfl (by decide +kernel) ⟨Nat.le_of_ble_eq_true rfl, Nat.le_of_ble_eq_true rfl⟩) hP hD hP hK hD hS hA [0, 1, 2, 3, 4, 5, 6, 7, 8, 9, 10, 11] [] rfl rfl (by decide) (by decide) hN hE rfl hl.1 (Nat.le_of_ble_eq_true rfl) dL_ledgerWorker_15 ⟨by show _ ≤ (2 : Nat); omega, by show _ ≤ (12 : Nat); omega⟩ (fun r_15 u_15 H locs hw hP hD hS hz9 => ?_)
    have e9 : (sp_restart T (nI w)) = (2, 0, T) := q2_restart (id3 _ hw4) (lk_crd hLK hw4)
    rw [e9] at hP hD
    have hP : va_P G vwCl (wC a cy T u_15) H := hP
    have hD : va_D A (wC a cy T u_15) := hD
    have hz := rz_k e9 (by decide) hz hz9
    have hz : s.heap.size + 1 ≤ H.size := hz
    obtain rfl : r_15 = (-2000000003) := rf_2 e9 hw
    refine lv_pop hx hb dL_ledgerWorker_18 rfl ?_
    refine lv_aload_n hx hb dL_ledgerWorker_19 rfl (lv_at hl 0 rfl) ?_
    refine lv_iload_n hx hb dL_ledgerWorker_20 rfl (lv_at hl 2 rfl) ?_
    refine lv_iconst (v := 3) hx hb dL_ledgerWorker_21 (by decide) ?_
    obtain ⟨et, hLK9, hh9⟩ := lk_take hLK ht (w := w) (e := 3) hw4 (by decide) hnh
    have hI9 := inv_take hI (nI w) (nI 3)
    rw [et] at hI9
    refine mo_SWz (G := G) (wr := ([] : va_W)) (As := [.ref (a 0), .int (nI w), .int 3]) (rest := []) ⟨hx, hb, hml, hown, hts⟩ (c_L_takes l hlt G cy a H.size T u_15 (nI w) 3 hI) (vx_cwSW 3 hts gL_ledgerWorker_L_takes rfl rfl rfl (by decide +kernel) ⟨Nat.le_of_ble_eq_true rfl, Nat.le_of_ble_eq_true rfl⟩) hP hD hP hK hD hS hA [0, 1, 2, 3, 4, 5, 6, 7, 8, 9, 10, 11] [] rfl rfl (by decide) (by decide) hN hE rfl hl.1 (Nat.le_of_ble_eq_true rfl) dL_ledgerWorker_22 ⟨by show _ ≤ (2 : Nat); omega, by show _ ≤ (12 : Nat); omega⟩ (fun r_22 u_22 H locs hw hP hD hS hz9 => ?_)
    have e9 : (sp_take T (nI w) 3) = (0, ttm T + nI 3, (ule (uho T (nI w)) (ttm T + nI 3))) := et
    rw [e9] at hP hD
    have hP : va_P G vwCl (wC a cy (ule (uho T (nI w)) (ttm T + nI 3)) u_22) H := hP
    have hD : va_D A (wC a cy (ule (uho T (nI w)) (ttm T + nI 3)) u_22) := hD
    have hz : s.heap.size + 1 ≤ H.size := rz_0 hz hz9
    obtain rfl : r_22 = ttm T + nI 3 := rf_0 e9 hw
    refine lv_if_le (tgt := 32) hx hb dL_ledgerWorker_25 (by decide) (fun c_25 => False.elim (lk_pos hLK ht (by decide) c_25)) (fun c_25 => ?_)
    refine lv_iload_n hx hb dL_ledgerWorker_28 rfl (lv_at hl 2 rfl) ?_
    refine lv_goto (tgt := 33) hx hb dL_ledgerWorker_29 (by decide) ?_
    refine W.widen (k := 2) (n := 12) (by omega) (by omega) ?_
    exact ml_riz ((ule (uho T (nI w)) (ttm T + nI 3)), u_22) hx hb hr hlocks hP hK hD hS rfl ⟨w, _, hw4, rfl, rfl, hLK9, hh9, hI9⟩ (by show s.heap.size + 0 ≤ H.size; omega) dL_ledgerWorker_33
  refine lv_if_ge (tgt := 13) hx hb dL_ledgerWorker_6 (by decide) (fun c_6 => ?_) (fun c_6 => ?_)
  · obtain ⟨w9, hw9, ew9, hh9⟩ := lk_own hLK (Int32.not_lt.mpr c_6)
    refine W.widen (k := 0) (n := 6 * (0) + 0) (by omega) (by omega) ?_
    exact J13 (owner T) (⟨w9, hw9, ew9, own_no (Or.inr ew9)⟩) _ _ _ hP hD hS hz (lv_sub hl [1, 2, 0] rfl)
  · have hneg := lk_neg hLK (Int32.not_le.mp c_6)
    refine lv_iload_n hx hb dL_ledgerWorker_9 rfl (lv_at hl 2 rfl) ?_
    refine lv_iconst (v := 4) hx hb dL_ledgerWorker_10 (by decide) ?_
    refine lv_irem hx hb dL_ledgerWorker_11 (by decide) ?_
    refine ml_eqi (nI (xx % 4)) (pk_rem (a := xx) (d := 4) (by omega) (by decide) (by decide)) ?_
    refine lv_istore_n (lv' := [(2, .int (nI (xx % 4))), (0, .ref (a 0)), (1, .int (nI xx))]) hx hb dL_ledgerWorker_12 rfl hl (by decide) rfl (fun ls hl => ?_)
    refine W.widen (k := 0) (n := 6 * (0) + 0) (by omega) (by omega) ?_
    exact J13 (nI (xx % 4)) (⟨xx % 4, by omega, rfl, own_no (Or.inl hneg)⟩) _ _ _ hP hD hS hz (lv_sub hl [1, 2, 0] rfl)
set_option maxHeartbeats 8000000 in
set_option maxRecDepth 100000 in
theorem c_L_alike2 (l : Launch) (hlt : l.stackTraces = false) (G : va_G) (cy : Nat → ClassId) (a b : Nat → Nat) (sz : Nat) (T : TS) (tr : Nat → Int32) (S : TS) (ts : Nat → Int32) (hal : AL T S) (hI : Inv T) (hJ : Inv S) : Met l yL_alike wsL_alike ({ frames := 9, cells := 320, slots := 1920, locals := 148 } : Room) (ml_PX G cy [.ref (a 0), .ref (b 0)] (wC a cy T tr ++ wC b cy S ts) sz) (va_Qi (fun (r : Int32) (u : (Nat → Int32) × (Nat → Int32)) => r = 1) (ml_BZ G cy (va_A (wC a cy T tr ++ wC b cy S ts) sz) (fun u : (Nat → Int32) × (Nat → Int32) => (wC a cy T u.1 ++ wC b cy S u.2)) sz (fun _ => 0)) (va_A (wC a cy T tr ++ wC b cy S ts) sz)) 320 1920 (va_A (wC a cy T tr ++ wC b cy S ts) sz) := by
  refine Met.ofW (cc := cL_alike) (maxL := 4) (ret := some .boolean) (by decide) rfl ?_
  intro p e s m args below meth c s₁ B hml hv
  obtain ⟨rfl, hsz, hP, hK, hD0, hN, hE⟩ := hv
  have hx := B.exec
  have hb := B.bytes
  have hr := B.returns
  have hts := atoms_spec (ws := wsL_alike) B.pre
  have hown : s.vm.findClass RL = some m.cls := findClass_of_methodNamed B.named
  have hlocks := B.notSynchronized
  subst hsz
  have hD := hD0.self (sz := s.heap.size)
  generalize hAe : va_A (wC a cy T tr ++ wC b cy S ts) s.heap.size = A at hD hE ⊢
  have hA : ∀ q : Nat, s.heap.size ≤ q → A q := fun q h => by rw [← hAe]; exact Or.inr h
  have hS : va_S A s.heap s.heap [] := va_S.rf
  have hP : va_P G vwCl (wC a cy T tr ++ wC b cy S ts) s.heap := hP
  have hl := lv_entry ([.ref (a 0), .ref (b 0)]) (n := 4) (Nat.le_of_ble_eq_true rfl)
  rw [lg_entry_eq]
  generalize (lg_sl ([.ref (a 0), .ref (b 0)]) ++ List.replicate (4 - (lg_sl ([.ref (a 0), .ref (b 0)])).length) Slot.unset).toArray = ls at hl ⊢
  have hl : lv_has ls 4 [(0, .ref (a 0)), (1, .ref (b 0))] := hl
  have hz : s.heap.size + 0 ≤ s.heap.size := Nat.le_refl _
  refine lv_aload_n hx hb dL_alike_0 rfl (lv_at hl 0 rfl) ?_
  have hPc := hP.sub (ws' := (wC a cy T tr)) [0, 1, 2, 3, 4, 5, 6, 7, 8, 9, 10, 11] rfl
  have hDc := hD.sub (ws' := (wC a cy T tr)) [0, 1, 2, 3, 4, 5, 6, 7, 8, 9, 10, 11] (by decide) rfl
  refine mo_Ve (G := G) (wr := (wC b cy S ts)) (As := []) (rest := []) ⟨hx, hb, hml, hown, hts⟩ (c_X3_level l G cy a s.heap.size T tr hI) (cwV 0 hts gL_alike_X3_level rfl rfl rfl (by decide +kernel) ⟨Nat.le_of_ble_eq_true rfl, Nat.le_of_ble_eq_true rfl⟩) (va_recv hK hPc (ci := 3) (q0 := 0) rfl rfl) hPc hDc hP hK hD hS hA [0, 1, 2, 3, 4, 5, 6, 7, 8, 9, 10, 11] [12, 13, 14, 15, 16, 17, 18, 19, 20, 21, 22, 23] rfl rfl (by decide) (by decide) hN rfl hl.1 (Nat.le_of_ble_eq_true rfl) dL_alike_1 ⟨by show _ ≤ (320 : Nat); omega, by show _ ≤ (1920 : Nat); omega⟩ (fun r_1 u_1 H locs hw hP hD hS hz9 => ?_)
  have hP := hP.sub (ws' := (wC a cy T tr ++ wC b cy S ts)) [12, 13, 14, 15, 16, 17, 18, 19, 20, 21, 22, 23, 0, 1, 2, 3, 4, 5, 6, 7, 8, 9, 10, 11] rfl
  have hD := hD.sub (ws' := (wC a cy T tr ++ wC b cy S ts)) [12, 13, 14, 15, 16, 17, 18, 19, 20, 21, 22, 23, 0, 1, 2, 3, 4, 5, 6, 7, 8, 9, 10, 11] (by decide) rfl
  have hP : va_P G vwCl (wC a cy T tr ++ wC b cy S ts) H := hP
  have hD : va_D A (wC a cy T tr ++ wC b cy S ts) := hD
  have hz : s.heap.size + 0 ≤ H.size := Nat.le_trans hz hz9
  obtain rfl : r_1 = nI (tlv T) := hw
  refine lv_aload_n hx hb dL_alike_4 rfl (lv_at hl 1 rfl) ?_
  have hPc := hP.sub (ws' := (wC b cy S ts)) [12, 13, 14, 15, 16, 17, 18, 19, 20, 21, 22, 23] rfl
  have hDc := hD.sub (ws' := (wC b cy S ts)) [12, 13, 14, 15, 16, 17, 18, 19, 20, 21, 22, 23] (by decide) rfl
  refine mo_Ve (G := G) (wr := (wC a cy T tr)) (As := []) (rest := [.int (nI (tlv T))]) ⟨hx, hb, hml, hown, hts⟩ (c_X3_level l G cy b H.size S ts hJ) (cwV 0 hts gL_alike_X3_level rfl rfl rfl (by decide +kernel) ⟨Nat.le_of_ble_eq_true rfl, Nat.le_of_ble_eq_true rfl⟩) (va_recv hK hPc (ci := 3) (q0 := 0) rfl rfl) hPc hDc hP hK hD hS hA [12, 13, 14, 15, 16, 17, 18, 19, 20, 21, 22, 23] [0, 1, 2, 3, 4, 5, 6, 7, 8, 9, 10, 11] rfl rfl (by decide) (by decide) hN rfl hl.1 (Nat.le_of_ble_eq_true rfl) dL_alike_5 ⟨by show _ ≤ (320 : Nat); omega, by show _ ≤ (1920 : Nat); omega⟩ (fun r_5 u_5 H locs hw hP hD hS hz9 => ?_)
  have hP := hP.sub (ws' := (wC a cy T tr ++ wC b cy S ts)) [0, 1, 2, 3, 4, 5, 6, 7, 8, 9, 10, 11, 12, 13, 14, 15, 16, 17, 18, 19, 20, 21, 22, 23] rfl
  have hD := hD.sub (ws' := (wC a cy T tr ++ wC b cy S ts)) [0, 1, 2, 3, 4, 5, 6, 7, 8, 9, 10, 11, 12, 13, 14, 15, 16, 17, 18, 19, 20, 21, 22, 23] (by decide) rfl
  have hP : va_P G vwCl (wC a cy T tr ++ wC b cy S ts) H := hP
  have hD : va_D A (wC a cy T tr ++ wC b cy S ts) := hD
  have hz : s.heap.size + 0 ≤ H.size := Nat.le_trans hz hz9
  obtain rfl : r_5 = nI (tlv S) := hw
  refine lv_icmp_ne (tgt := 37) hx hb dL_alike_8 (by decide) (fun c_8 => False.elim (c_8 (by rw [hal.1]))) (fun c_8 => ?_)
  refine lv_aload_n hx hb dL_alike_11 rfl (lv_at hl 0 rfl) ?_
  have hPc := hP.sub (ws' := (wC a cy T tr)) [0, 1, 2, 3, 4, 5, 6, 7, 8, 9, 10, 11] rfl
  have hDc := hD.sub (ws' := (wC a cy T tr)) [0, 1, 2, 3, 4, 5, 6, 7, 8, 9, 10, 11] (by decide) rfl
  refine mo_Ve (G := G) (wr := (wC b cy S ts)) (As := []) (rest := []) ⟨hx, hb, hml, hown, hts⟩ (c_X3_changes l G cy a H.size T tr hI) (cwV 0 hts gL_alike_X3_changes rfl rfl rfl (by decide +kernel) ⟨Nat.le_of_ble_eq_true rfl, Nat.le_of_ble_eq_true rfl⟩) (va_recv hK hPc (ci := 3) (q0 := 0) rfl rfl) hPc hDc hP hK hD hS hA [0, 1, 2, 3, 4, 5, 6, 7, 8, 9, 10, 11] [12, 13, 14, 15, 16, 17, 18, 19, 20, 21, 22, 23] rfl rfl (by decide) (by decide) hN rfl hl.1 (Nat.le_of_ble_eq_true rfl) dL_alike_12 ⟨by show _ ≤ (320 : Nat); omega, by show _ ≤ (1920 : Nat); omega⟩ (fun r_12 u_12 H locs hw hP hD hS hz9 => ?_)
  have hP := hP.sub (ws' := (wC a cy T tr ++ wC b cy S ts)) [12, 13, 14, 15, 16, 17, 18, 19, 20, 21, 22, 23, 0, 1, 2, 3, 4, 5, 6, 7, 8, 9, 10, 11] rfl
  have hD := hD.sub (ws' := (wC a cy T tr ++ wC b cy S ts)) [12, 13, 14, 15, 16, 17, 18, 19, 20, 21, 22, 23, 0, 1, 2, 3, 4, 5, 6, 7, 8, 9, 10, 11] (by decide) rfl
  have hP : va_P G vwCl (wC a cy T tr ++ wC b cy S ts) H := hP
  have hD : va_D A (wC a cy T tr ++ wC b cy S ts) := hD
  have hz : s.heap.size + 0 ≤ H.size := Nat.le_trans hz hz9
  obtain rfl : r_12 = nI (tn T) := hw
  refine lv_aload_n hx hb dL_alike_15 rfl (lv_at hl 1 rfl) ?_
  have hPc := hP.sub (ws' := (wC b cy S ts)) [12, 13, 14, 15, 16, 17, 18, 19, 20, 21, 22, 23] rfl
  have hDc := hD.sub (ws' := (wC b cy S ts)) [12, 13, 14, 15, 16, 17, 18, 19, 20, 21, 22, 23] (by decide) rfl
  refine mo_Ve (G := G) (wr := (wC a cy T tr)) (As := []) (rest := [.int (nI (tn T))]) ⟨hx, hb, hml, hown, hts⟩ (c_X3_changes l G cy b H.size S ts hJ) (cwV 0 hts gL_alike_X3_changes rfl rfl rfl (by decide +kernel) ⟨Nat.le_of_ble_eq_true rfl, Nat.le_of_ble_eq_true rfl⟩) (va_recv hK hPc (ci := 3) (q0 := 0) rfl rfl) hPc hDc hP hK hD hS hA [12, 13, 14, 15, 16, 17, 18, 19, 20, 21, 22, 23] [0, 1, 2, 3, 4, 5, 6, 7, 8, 9, 10, 11] rfl rfl (by decide) (by decide) hN rfl hl.1 (Nat.le_of_ble_eq_true rfl) dL_alike_16 ⟨by show _ ≤ (320 : Nat); omega, by show _ ≤ (1920 : Nat); omega⟩ (fun r_16 u_16 H locs hw hP hD hS hz9 => ?_)
  have hP := hP.sub (ws' := (wC a cy T tr ++ wC b cy S ts)) [0, 1, 2, 3, 4, 5, 6, 7, 8, 9, 10, 11, 12, 13, 14, 15, 16, 17, 18, 19, 20, 21, 22, 23] rfl
  have hD := hD.sub (ws' := (wC a cy T tr ++ wC b cy S ts)) [0, 1, 2, 3, 4, 5, 6, 7, 8, 9, 10, 11, 12, 13, 14, 15, 16, 17, 18, 19, 20, 21, 22, 23] (by decide) rfl
  have hP : va_P G vwCl (wC a cy T tr ++ wC b cy S ts) H := hP
  have hD : va_D A (wC a cy T tr ++ wC b cy S ts) := hD
  have hz : s.heap.size + 0 ≤ H.size := Nat.le_trans hz hz9
  obtain rfl : r_16 = nI (tn S) := hw
  refine lv_icmp_ne (tgt := 37) hx hb dL_alike_19 (by decide) (fun c_19 => False.elim (c_19 (by rw [hal.2.1]))) (fun c_19 => ?_)
  refine lv_aload_n hx hb dL_alike_22 rfl (lv_at hl 0 rfl) ?_
  have hPc := hP.sub (ws' := (wC a cy T tr)) [0, 1, 2, 3, 4, 5, 6, 7, 8, 9, 10, 11] rfl
  have hDc := hD.sub (ws' := (wC a cy T tr)) [0, 1, 2, 3, 4, 5, 6, 7, 8, 9, 10, 11] (by decide) rfl
  refine mo_Ve (G := G) (wr := (wC b cy S ts)) (As := []) (rest := []) ⟨hx, hb, hml, hown, hts⟩ (c_X3_drifted l G cy a H.size T tr hI) (cwV 0 hts gL_alike_X3_drifted rfl rfl rfl (by decide +kernel) ⟨Nat.le_of_ble_eq_true rfl, Nat.le_of_ble_eq_true rfl⟩) (va_recv hK hPc (ci := 3) (q0 := 0) rfl rfl) hPc hDc hP hK hD hS hA [0, 1, 2, 3, 4, 5, 6, 7, 8, 9, 10, 11] [12, 13, 14, 15, 16, 17, 18, 19, 20, 21, 22, 23] rfl rfl (by decide) (by decide) hN rfl hl.1 (Nat.le_of_ble_eq_true rfl) dL_alike_23 ⟨by show _ ≤ (320 : Nat); omega, by show _ ≤ (1920 : Nat); omega⟩ (fun r_23 u_23 H locs hw hP hD hS hz9 => ?_)
  have hP := hP.sub (ws' := (wC a cy T tr ++ wC b cy S ts)) [12, 13, 14, 15, 16, 17, 18, 19, 20, 21, 22, 23, 0, 1, 2, 3, 4, 5, 6, 7, 8, 9, 10, 11] rfl
  have hD := hD.sub (ws' := (wC a cy T tr ++ wC b cy S ts)) [12, 13, 14, 15, 16, 17, 18, 19, 20, 21, 22, 23, 0, 1, 2, 3, 4, 5, 6, 7, 8, 9, 10, 11] (by decide) rfl
  have hP : va_P G vwCl (wC a cy T tr ++ wC b cy S ts) H := hP
  have hD : va_D A (wC a cy T tr ++ wC b cy S ts) := hD
  have hz : s.heap.size + 0 ≤ H.size := Nat.le_trans hz hz9
  obtain rfl : r_23 = fdr T := hw
  refine lv_aload_n hx hb dL_alike_26 rfl (lv_at hl 1 rfl) ?_
  have hPc := hP.sub (ws' := (wC b cy S ts)) [12, 13, 14, 15, 16, 17, 18, 19, 20, 21, 22, 23] rfl
  have hDc := hD.sub (ws' := (wC b cy S ts)) [12, 13, 14, 15, 16, 17, 18, 19, 20, 21, 22, 23] (by decide) rfl
  refine mo_Ve (G := G) (wr := (wC a cy T tr)) (As := []) (rest := [.int (fdr T)]) ⟨hx, hb, hml, hown, hts⟩ (c_X3_drifted l G cy b H.size S ts hJ) (cwV 0 hts gL_alike_X3_drifted rfl rfl rfl (by decide +kernel) ⟨Nat.le_of_ble_eq_true rfl, Nat.le_of_ble_eq_true rfl⟩) (va_recv hK hPc (ci := 3) (q0 := 0) rfl rfl) hPc hDc hP hK hD hS hA [12, 13, 14, 15, 16, 17, 18, 19, 20, 21, 22, 23] [0, 1, 2, 3, 4, 5, 6, 7, 8, 9, 10, 11] rfl rfl (by decide) (by decide) hN rfl hl.1 (Nat.le_of_ble_eq_true rfl) dL_alike_27 ⟨by show _ ≤ (320 : Nat); omega, by show _ ≤ (1920 : Nat); omega⟩ (fun r_27 u_27 H locs hw hP hD hS hz9 => ?_)
  have hP := hP.sub (ws' := (wC a cy T tr ++ wC b cy S ts)) [0, 1, 2, 3, 4, 5, 6, 7, 8, 9, 10, 11, 12, 13, 14, 15, 16, 17, 18, 19, 20, 21, 22, 23] rfl
  have hD := hD.sub (ws' := (wC a cy T tr ++ wC b cy S ts)) [0, 1, 2, 3, 4, 5, 6, 7, 8, 9, 10, 11, 12, 13, 14, 15, 16, 17, 18, 19, 20, 21, 22, 23] (by decide) rfl
  have hP : va_P G vwCl (wC a cy T tr ++ wC b cy S ts) H := hP
  have hD : va_D A (wC a cy T tr ++ wC b cy S ts) := hD
  have hz : s.heap.size + 0 ≤ H.size := Nat.le_trans hz hz9
  obtain rfl : r_27 = fdr S := hw
  refine lv_icmp_ne (tgt := 37) hx hb dL_alike_30 (by decide) (fun c_30 => False.elim (c_30 hal.2.2.1)) (fun c_30 => ?_)
  refine lv_iconst (v := 1) hx hb dL_alike_33 (by decide) ?_
  refine lv_goto (tgt := 38) hx hb dL_alike_34 (by decide) ?_
  refine lv_istore_n (lv' := [(2, .int 1), (0, .ref (a 0)), (1, .ref (b 0))]) hx hb dL_alike_38 rfl hl (by decide) rfl (fun ls hl => ?_)
  refine lv_iconst (v := 0) hx hb dL_alike_39 (by decide) ?_
  refine lv_istore_n (lv' := [(3, .int 0), (2, .int 1), (0, .ref (a 0)), (1, .ref (b 0))]) hx hb dL_alike_40 rfl hl (by decide) rfl (fun ls hl => ?_)
  have LOOP41 : ∀ (r : Nat) (i : Nat) (tr_1 : Nat → Int32) (tr_2 : Nat → Int32) (hi : i + r = 40) (H : Heap) (locs : List Loc) (ls : Array Slot), va_P G vwCl (wC a cy T tr_1 ++ wC b cy S tr_2) H → va_D A (wC a cy T tr_1 ++ wC b cy S tr_2) → va_S A s.heap H locs → s.heap.size + 0 ≤ H.size → lv_has ls 4 [(2, .int 1), (0, .ref (a 0)), (1, .ref (b 0)), (3, .int (nI i))] → W p l e (headSpec wsL_alike ({ frames := 9, cells := 320, slots := 1920, locals := 148 } : Room)).room s m (#[.ref (a 0), .ref (b 0)] : Array Value) below meth c H locs (0 + 8 * i) (6 * (0 + 8 * i) + 0) (MQ below (va_Qi (fun (r : Int32) (u : (Nat → Int32) × (Nat → Int32)) => r = 1) (ml_BZ G cy A (fun u : (Nat → Int32) × (Nat → Int32) => (wC a cy T u.1 ++ wC b cy S u.2)) s.heap.size (fun _ => 0)) A) (#[.ref (a 0), .ref (b 0)] : Array Value) s 320 1920 A) (F0 m 41 ls []) := by
    intro r
    induction r with
    | zero =>
      intro i tr_1 tr_2 hi H locs ls hP hD hS hz hl
      have hie : i = 40 := by omega
      refine lv_iload_n hx hb dL_alike_41 rfl (lv_at hl 3 rfl) ?_
      refine lv_bipush (v := 40) hx hb dL_alike_42 (by decide) ?_
      refine lv_icmp_ge (tgt := 121) hx hb dL_alike_44 (by decide) (fun c_44 => ?_) (fun c_44 => False.elim (c_44 (by rw [hie]; exact (nI_leI (a := 40) (b := 40) (by decide) (by decide)).mpr (Nat.le_refl 40))))
      refine lv_iload_n hx hb dL_alike_121 rfl (lv_at hl 0 rfl) ?_
      refine W.widen (k := 320) (n := 1920) (by omega) (by omega) ?_
      exact ml_rzz (tr_1, tr_2) hx hb hr hlocks hP hK hD hS rfl rfl rfl (by show s.heap.size + 0 ≤ H.size; omega) dL_alike_122
    | succ r ih =>
      intro i tr_1 tr_2 hi H locs ls hP hD hS hz hl
      refine lv_iload_n hx hb dL_alike_41 rfl (lv_at hl 3 rfl) ?_
      refine lv_bipush (v := 40) hx hb dL_alike_42 (by decide) ?_
      refine lv_icmp_ge (tgt := 121) hx hb dL_alike_44 (by decide) (fun c_44 => False.elim (absurd ((nI_leI (a := 40) (by decide) (by omega)).mp c_44) (by omega))) (fun c_44 => ?_)
      refine lv_iload_n hx hb dL_alike_47 rfl (lv_at hl 0 rfl) ?_
      refine lv_if_eq (tgt := 121) hx hb dL_alike_48 (by decide) (fun c_48 => False.elim (by revert c_48; decide)) (fun c_48 => ?_)
      have hv := hal.2.2.2 i (by omega)
      refine lv_aload_n hx hb dL_alike_51 rfl (lv_at hl 1 rfl) ?_
      refine lv_iload_n hx hb dL_alike_52 rfl (lv_at hl 3 rfl) ?_
      have hPc := hP.sub (ws' := (wC a cy T tr_1)) [0, 1, 2, 3, 4, 5, 6, 7, 8, 9, 10, 11] rfl
      have hDc := hD.sub (ws' := (wC a cy T tr_1)) [0, 1, 2, 3, 4, 5, 6, 7, 8, 9, 10, 11] (by decide) rfl
      refine mo_SWz (G := G) (wr := (wC b cy S tr_2)) (As := [.ref (a 0), .int (nI i)]) (rest := []) ⟨hx, hb, hml, hown, hts⟩ (c_L_version l hlt G cy a H.size T tr_1 (nI i) hI) (vx_cwSW 2 hts gL_alike_L_version rfl rfl rfl (by decide +kernel) ⟨Nat.le_of_ble_eq_true rfl, Nat.le_of_ble_eq_true rfl⟩) hPc hDc hP hK hD hS hA [0, 1, 2, 3, 4, 5, 6, 7, 8, 9, 10, 11] [12, 13, 14, 15, 16, 17, 18, 19, 20, 21, 22, 23] rfl rfl (by decide) (by decide) hN hE rfl hl.1 (Nat.le_of_ble_eq_true rfl) dL_alike_53 ⟨by show _ ≤ (320 : Nat); omega, by show _ ≤ (1920 : Nat); omega⟩ (fun r_53 u_53 H locs hw hP hD hS hz9 => ?_)
      have e9 : (sp_version T (nI i)) = (0, tV T i, T) := q0_version (by omega)
      rw [e9] at hP hD
      have hP := hP.sub (ws' := (wC a cy T u_53 ++ wC b cy S tr_2)) [12, 13, 14, 15, 16, 17, 18, 19, 20, 21, 22, 23, 0, 1, 2, 3, 4, 5, 6, 7, 8, 9, 10, 11] rfl
      have hD := hD.sub (ws' := (wC a cy T u_53 ++ wC b cy S tr_2)) [12, 13, 14, 15, 16, 17, 18, 19, 20, 21, 22, 23, 0, 1, 2, 3, 4, 5, 6, 7, 8, 9, 10, 11] (by decide) rfl
      have hP : va_P G vwCl (wC a cy T u_53 ++ wC b cy S tr_2) H := hP
      have hD : va_D A (wC a cy T u_53 ++ wC b cy S tr_2) := hD
      have hz : s.heap.size + 0 ≤ H.size := rz_0 hz hz9
      obtain rfl : r_53 = tV T i := rf_0 e9 hw
      refine lv_aload_n hx hb dL_alike_56 rfl (lv_at hl 2 rfl) ?_
      refine lv_iload_n hx hb dL_alike_57 rfl (lv_at hl 3 rfl) ?_
      have hPc := hP.sub (ws' := (wC b cy S tr_2)) [12, 13, 14, 15, 16, 17, 18, 19, 20, 21, 22, 23] rfl
      have hDc := hD.sub (ws' := (wC b cy S tr_2)) [12, 13, 14, 15, 16, 17, 18, 19, 20, 21, 22, 23] (by decide) rfl
      refine mo_SWz (G := G) (wr := (wC a cy T u_53)) (As := [.ref (b 0), .int (nI i)]) (rest := [.int (tV T i)]) ⟨hx, hb, hml, hown, hts⟩ (c_L_version l hlt G cy b H.size S tr_2 (nI i) hJ) (vx_cwSW 2 hts gL_alike_L_version rfl rfl rfl (by decide +kernel) ⟨Nat.le_of_ble_eq_true rfl, Nat.le_of_ble_eq_true rfl⟩) hPc hDc hP hK hD hS hA [12, 13, 14, 15, 16, 17, 18, 19, 20, 21, 22, 23] [0, 1, 2, 3, 4, 5, 6, 7, 8, 9, 10, 11] rfl rfl (by decide) (by decide) hN hE rfl hl.1 (Nat.le_of_ble_eq_true rfl) dL_alike_58 ⟨by show _ ≤ (320 : Nat); omega, by show _ ≤ (1920 : Nat); omega⟩ (fun r_58 u_58 H locs hw hP hD hS hz9 => ?_)
      have e9 : (sp_version S (nI i)) = (0, tV S i, S) := q0_version (by omega)
      rw [e9] at hP hD
      have hP := hP.sub (ws' := (wC a cy T u_53 ++ wC b cy S u_58)) [0, 1, 2, 3, 4, 5, 6, 7, 8, 9, 10, 11, 12, 13, 14, 15, 16, 17, 18, 19, 20, 21, 22, 23] rfl
      have hD := hD.sub (ws' := (wC a cy T u_53 ++ wC b cy S u_58)) [0, 1, 2, 3, 4, 5, 6, 7, 8, 9, 10, 11, 12, 13, 14, 15, 16, 17, 18, 19, 20, 21, 22, 23] (by decide) rfl
      have hP : va_P G vwCl (wC a cy T u_53 ++ wC b cy S u_58) H := hP
      have hD : va_D A (wC a cy T u_53 ++ wC b cy S u_58) := hD
      have hz : s.heap.size + 0 ≤ H.size := rz_0 hz hz9
      obtain rfl : r_58 = tV S i := rf_0 e9 hw
      refine lv_icmp_ne (tgt := 113) hx hb dL_alike_61 (by decide) (fun c_61 => False.elim (c_61 hv.1)) (fun c_61 => ?_)
      have J109 : ∀ (tr_3 : Nat → Int32) (tr_4 : Nat → Int32) (H : Heap) (locs : List Loc) (ls : Array Slot), va_P G vwCl (wC a cy T tr_3 ++ wC b cy S tr_4) H → va_D A (wC a cy T tr_3 ++ wC b cy S tr_4) → va_S A s.heap H locs → s.heap.size + 0 ≤ H.size → lv_has ls 4 [(2, .int 1), (0, .ref (a 0)), (1, .ref (b 0)), (3, .int (nI i))] → W p l e (headSpec wsL_alike ({ frames := 9, cells := 320, slots := 1920, locals := 148 } : Room)).room s m (#[.ref (a 0), .ref (b 0)] : Array Value) below meth c H locs (0 + 8 * i + 8) (6 * (0 + 8 * i + 8) + 0) (MQ below (va_Qi (fun (r : Int32) (u : (Nat → Int32) × (Nat → Int32)) => r = 1) (ml_BZ G cy A (fun u : (Nat → Int32) × (Nat → Int32) => (wC a cy T u.1 ++ wC b cy S u.2)) s.heap.size (fun _ => 0)) A) (#[.ref (a 0), .ref (b 0)] : Array Value) s 320 1920 A) (F0 m 109 ls []) := by
        intro tr_3 tr_4 H locs ls hP hD hS hz hl
        refine lv_iconst (v := 1) hx hb dL_alike_109 (by decide) ?_
        refine lv_goto (tgt := 114) hx hb dL_alike_110 (by decide) ?_
        refine lv_istore_n (lv' := [(2, .int 1), (0, .ref (a 0)), (1, .ref (b 0)), (3, .int (nI i))]) hx hb dL_alike_114 rfl hl (by decide) rfl (fun ls hl => ?_)
        refine lv_iinc (v := nI (i + 1)) (lv' := [(3, .int (nI (i + 1))), (2, .int 1), (0, .ref (a 0)), (1, .ref (b 0))]) hx hb dL_alike_115 hl (k := 3) rfl (nI_1 _) (by decide) rfl (fun ls hl => ?_)
        refine lv_goto (tgt := 41) hx hb dL_alike_118 (by decide) ?_
        refine W.widen (k := 0 + 8 * (i + 1)) (n := 6 * (0 + 8 * (i + 1)) + 0) (by omega) (by omega) ?_
        exact ih (i + 1) tr_3 tr_4 (by omega) _ _ _ hP hD hS (by omega) (lv_sub hl [1, 2, 3, 0] rfl)
      by_cases hne : tV T i ≠ -1
      · refine lv_aload_n hx hb dL_alike_64 rfl (lv_at hl 1 rfl) ?_
        refine lv_iload_n hx hb dL_alike_65 rfl (lv_at hl 3 rfl) ?_
        refine lv_iconst (v := 0) hx hb dL_alike_66 (by decide) ?_
        have hPc := hP.sub (ws' := (wC a cy T u_53)) [0, 1, 2, 3, 4, 5, 6, 7, 8, 9, 10, 11] rfl
        have hDc := hD.sub (ws' := (wC a cy T u_53)) [0, 1, 2, 3, 4, 5, 6, 7, 8, 9, 10, 11] (by decide) rfl
        refine mo_SWz (G := G) (wr := (wC b cy S u_58)) (As := [.ref (a 0), .int (nI i), .int 0]) (rest := []) ⟨hx, hb, hml, hown, hts⟩ (c_L_value l hlt G cy a H.size T u_53 (nI i) 0 hI) (vx_cwSW 3 hts gL_alike_L_value rfl rfl rfl (by decide +kernel) ⟨Nat.le_of_ble_eq_true rfl, Nat.le_of_ble_eq_true rfl⟩) hPc hDc hP hK hD hS hA [0, 1, 2, 3, 4, 5, 6, 7, 8, 9, 10, 11] [12, 13, 14, 15, 16, 17, 18, 19, 20, 21, 22, 23] rfl rfl (by decide) (by decide) hN hE rfl hl.1 (Nat.le_of_ble_eq_true rfl) dL_alike_67 ⟨by show _ ≤ (320 : Nat); omega, by show _ ≤ (1920 : Nat); omega⟩ (fun r_67 u_67 H locs hw hP hD hS hz9 => ?_)
        have e9 : (sp_value T (nI i) 0) = (0, tX T (3 * i + 0), T) := q0_value (c := 0) (by omega) (by decide) hne
        rw [e9] at hP hD
        have hP := hP.sub (ws' := (wC a cy T u_67 ++ wC b cy S u_58)) [12, 13, 14, 15, 16, 17, 18, 19, 20, 21, 22, 23, 0, 1, 2, 3, 4, 5, 6, 7, 8, 9, 10, 11] rfl
        have hD := hD.sub (ws' := (wC a cy T u_67 ++ wC b cy S u_58)) [12, 13, 14, 15, 16, 17, 18, 19, 20, 21, 22, 23, 0, 1, 2, 3, 4, 5, 6, 7, 8, 9, 10, 11] (by decide) rfl
        have hP : va_P G vwCl (wC a cy T u_67 ++ wC b cy S u_58) H := hP
        have hD : va_D A (wC a cy T u_67 ++ wC b cy S u_58) := hD
        have hz : s.heap.size + 0 ≤ H.size := rz_0 hz hz9
        obtain rfl : r_67 = tX T (3 * i + 0) := rf_0 e9 hw
        refine lv_aload_n hx hb dL_alike_70 rfl (lv_at hl 2 rfl) ?_
        refine lv_iload_n hx hb dL_alike_71 rfl (lv_at hl 3 rfl) ?_
        refine lv_iconst (v := 0) hx hb dL_alike_72 (by decide) ?_
        have hPc := hP.sub (ws' := (wC b cy S u_58)) [12, 13, 14, 15, 16, 17, 18, 19, 20, 21, 22, 23] rfl
        have hDc := hD.sub (ws' := (wC b cy S u_58)) [12, 13, 14, 15, 16, 17, 18, 19, 20, 21, 22, 23] (by decide) rfl
        refine mo_SWz (G := G) (wr := (wC a cy T u_67)) (As := [.ref (b 0), .int (nI i), .int 0]) (rest := [.int (tX T (3 * i + 0))]) ⟨hx, hb, hml, hown, hts⟩ (c_L_value l hlt G cy b H.size S u_58 (nI i) 0 hJ) (vx_cwSW 3 hts gL_alike_L_value rfl rfl rfl (by decide +kernel) ⟨Nat.le_of_ble_eq_true rfl, Nat.le_of_ble_eq_true rfl⟩) hPc hDc hP hK hD hS hA [12, 13, 14, 15, 16, 17, 18, 19, 20, 21, 22, 23] [0, 1, 2, 3, 4, 5, 6, 7, 8, 9, 10, 11] rfl rfl (by decide) (by decide) hN hE rfl hl.1 (Nat.le_of_ble_eq_true rfl) dL_alike_73 ⟨by show _ ≤ (320 : Nat); omega, by show _ ≤ (1920 : Nat); omega⟩ (fun r_73 u_73 H locs hw hP hD hS hz9 => ?_)
        have e9 : (sp_value S (nI i) 0) = (0, tX S (3 * i + 0), S) := q0_value (c := 0) (by omega) (by decide) (hv.1 ▸ hne)
        rw [e9] at hP hD
        have hP := hP.sub (ws' := (wC a cy T u_67 ++ wC b cy S u_73)) [0, 1, 2, 3, 4, 5, 6, 7, 8, 9, 10, 11, 12, 13, 14, 15, 16, 17, 18, 19, 20, 21, 22, 23] rfl
        have hD := hD.sub (ws' := (wC a cy T u_67 ++ wC b cy S u_73)) [0, 1, 2, 3, 4, 5, 6, 7, 8, 9, 10, 11, 12, 13, 14, 15, 16, 17, 18, 19, 20, 21, 22, 23] (by decide) rfl
        have hP : va_P G vwCl (wC a cy T u_67 ++ wC b cy S u_73) H := hP
        have hD : va_D A (wC a cy T u_67 ++ wC b cy S u_73) := hD
        have hz : s.heap.size + 0 ≤ H.size := rz_0 hz hz9
        obtain rfl : r_73 = tX S (3 * i + 0) := rf_0 e9 hw
        refine lv_icmp_ne (tgt := 113) hx hb dL_alike_76 (by decide) (fun c_76 => False.elim (c_76 (hv.2 hne 0 (by decide)))) (fun c_76 => ?_)
        refine lv_aload_n hx hb dL_alike_79 rfl (lv_at hl 1 rfl) ?_
        refine lv_iload_n hx hb dL_alike_80 rfl (lv_at hl 3 rfl) ?_
        refine lv_iconst (v := 1) hx hb dL_alike_81 (by decide) ?_
        have hPc := hP.sub (ws' := (wC a cy T u_67)) [0, 1, 2, 3, 4, 5, 6, 7, 8, 9, 10, 11] rfl
        have hDc := hD.sub (ws' := (wC a cy T u_67)) [0, 1, 2, 3, 4, 5, 6, 7, 8, 9, 10, 11] (by decide) rfl
        refine mo_SWz (G := G) (wr := (wC b cy S u_73)) (As := [.ref (a 0), .int (nI i), .int 1]) (rest := []) ⟨hx, hb, hml, hown, hts⟩ (c_L_value l hlt G cy a H.size T u_67 (nI i) 1 hI) (vx_cwSW 3 hts gL_alike_L_value rfl rfl rfl (by decide +kernel) ⟨Nat.le_of_ble_eq_true rfl, Nat.le_of_ble_eq_true rfl⟩) hPc hDc hP hK hD hS hA [0, 1, 2, 3, 4, 5, 6, 7, 8, 9, 10, 11] [12, 13, 14, 15, 16, 17, 18, 19, 20, 21, 22, 23] rfl rfl (by decide) (by decide) hN hE rfl hl.1 (Nat.le_of_ble_eq_true rfl) dL_alike_82 ⟨by show _ ≤ (320 : Nat); omega, by show _ ≤ (1920 : Nat); omega⟩ (fun r_82 u_82 H locs hw hP hD hS hz9 => ?_)
        have e9 : (sp_value T (nI i) 1) = (0, tX T (3 * i + 1), T) := q0_value (c := 1) (by omega) (by decide) hne
        rw [e9] at hP hD
        have hP := hP.sub (ws' := (wC a cy T u_82 ++ wC b cy S u_73)) [12, 13, 14, 15, 16, 17, 18, 19, 20, 21, 22, 23, 0, 1, 2, 3, 4, 5, 6, 7, 8, 9, 10, 11] rfl
        have hD := hD.sub (ws' := (wC a cy T u_82 ++ wC b cy S u_73)) [12, 13, 14, 15, 16, 17, 18, 19, 20, 21, 22, 23, 0, 1, 2, 3, 4, 5, 6, 7, 8, 9, 10, 11] (by decide) rfl
        have hP : va_P G vwCl (wC a cy T u_82 ++ wC b cy S u_73) H := hP
        have hD : va_D A (wC a cy T u_82 ++ wC b cy S u_73) := hD
        have hz : s.heap.size + 0 ≤ H.size := rz_0 hz hz9
        obtain rfl : r_82 = tX T (3 * i + 1) := rf_0 e9 hw
        refine lv_aload_n hx hb dL_alike_85 rfl (lv_at hl 2 rfl) ?_
        refine lv_iload_n hx hb dL_alike_86 rfl (lv_at hl 3 rfl) ?_
        refine lv_iconst (v := 1) hx hb dL_alike_87 (by decide) ?_
        have hPc := hP.sub (ws' := (wC b cy S u_73)) [12, 13, 14, 15, 16, 17, 18, 19, 20, 21, 22, 23] rfl
        have hDc := hD.sub (ws' := (wC b cy S u_73)) [12, 13, 14, 15, 16, 17, 18, 19, 20, 21, 22, 23] (by decide) rfl
        refine mo_SWz (G := G) (wr := (wC a cy T u_82)) (As := [.ref (b 0), .int (nI i), .int 1]) (rest := [.int (tX T (3 * i + 1))]) ⟨hx, hb, hml, hown, hts⟩ (c_L_value l hlt G cy b H.size S u_73 (nI i) 1 hJ) (vx_cwSW 3 hts gL_alike_L_value rfl rfl rfl (by decide +kernel) ⟨Nat.le_of_ble_eq_true rfl, Nat.le_of_ble_eq_true rfl⟩) hPc hDc hP hK hD hS hA [12, 13, 14, 15, 16, 17, 18, 19, 20, 21, 22, 23] [0, 1, 2, 3, 4, 5, 6, 7, 8, 9, 10, 11] rfl rfl (by decide) (by decide) hN hE rfl hl.1 (Nat.le_of_ble_eq_true rfl) dL_alike_88 ⟨by show _ ≤ (320 : Nat); omega, by show _ ≤ (1920 : Nat); omega⟩ (fun r_88 u_88 H locs hw hP hD hS hz9 => ?_)
        have e9 : (sp_value S (nI i) 1) = (0, tX S (3 * i + 1), S) := q0_value (c := 1) (by omega) (by decide) (hv.1 ▸ hne)
        rw [e9] at hP hD
        have hP := hP.sub (ws' := (wC a cy T u_82 ++ wC b cy S u_88)) [0, 1, 2, 3, 4, 5, 6, 7, 8, 9, 10, 11, 12, 13, 14, 15, 16, 17, 18, 19, 20, 21, 22, 23] rfl
        have hD := hD.sub (ws' := (wC a cy T u_82 ++ wC b cy S u_88)) [0, 1, 2, 3, 4, 5, 6, 7, 8, 9, 10, 11, 12, 13, 14, 15, 16, 17, 18, 19, 20, 21, 22, 23] (by decide) rfl
        have hP : va_P G vwCl (wC a cy T u_82 ++ wC b cy S u_88) H := hP
        have hD : va_D A (wC a cy T u_82 ++ wC b cy S u_88) := hD
        have hz : s.heap.size + 0 ≤ H.size := rz_0 hz hz9
        obtain rfl : r_88 = tX S (3 * i + 1) := rf_0 e9 hw
        refine lv_icmp_ne (tgt := 113) hx hb dL_alike_91 (by decide) (fun c_91 => False.elim (c_91 (hv.2 hne 1 (by decide)))) (fun c_91 => ?_)
        refine lv_aload_n hx hb dL_alike_94 rfl (lv_at hl 1 rfl) ?_
        refine lv_iload_n hx hb dL_alike_95 rfl (lv_at hl 3 rfl) ?_
        refine lv_iconst (v := 2) hx hb dL_alike_96 (by decide) ?_
        have hPc := hP.sub (ws' := (wC a cy T u_82)) [0, 1, 2, 3, 4, 5, 6, 7, 8, 9, 10, 11] rfl
        have hDc := hD.sub (ws' := (wC a cy T u_82)) [0, 1, 2, 3, 4, 5, 6, 7, 8, 9, 10, 11] (by decide) rfl
        refine mo_SWz (G := G) (wr := (wC b cy S u_88)) (As := [.ref (a 0), .int (nI i), .int 2]) (rest := []) ⟨hx, hb, hml, hown, hts⟩ (c_L_value l hlt G cy a H.size T u_82 (nI i) 2 hI) (vx_cwSW 3 hts gL_alike_L_value rfl rfl rfl (by decide +kernel) ⟨Nat.le_of_ble_eq_true rfl, Nat.le_of_ble_eq_true rfl⟩) hPc hDc hP hK hD hS hA [0, 1, 2, 3, 4, 5, 6, 7, 8, 9, 10, 11] [12, 13, 14, 15, 16, 17, 18, 19, 20, 21, 22, 23] rfl rfl (by decide) (by decide) hN hE rfl hl.1 (Nat.le_of_ble_eq_true rfl) dL_alike_97 ⟨by show _ ≤ (320 : Nat); omega, by show _ ≤ (1920 : Nat); omega⟩ (fun r_97 u_97 H locs hw hP hD hS hz9 => ?_)
        have e9 : (sp_value T (nI i) 2) = (0, tX T (3 * i + 2), T) := q0_value (c := 2) (by omega) (by decide) hne
        rw [e9] at hP hD
        have hP := hP.sub (ws' := (wC a cy T u_97 ++ wC b cy S u_88)) [12, 13, 14, 15, 16, 17, 18, 19, 20, 21, 22, 23, 0, 1, 2, 3, 4, 5, 6, 7, 8, 9, 10, 11] rfl
        have hD := hD.sub (ws' := (wC a cy T u_97 ++ wC b cy S u_88)) [12, 13, 14, 15, 16, 17, 18, 19, 20, 21, 22, 23, 0, 1, 2, 3, 4, 5, 6, 7, 8, 9, 10, 11] (by decide) rfl
        have hP : va_P G vwCl (wC a cy T u_97 ++ wC b cy S u_88) H := hP
        have hD : va_D A (wC a cy T u_97 ++ wC b cy S u_88) := hD
        have hz : s.heap.size + 0 ≤ H.size := rz_0 hz hz9
        obtain rfl : r_97 = tX T (3 * i + 2) := rf_0 e9 hw
        refine lv_aload_n hx hb dL_alike_100 rfl (lv_at hl 2 rfl) ?_
        refine lv_iload_n hx hb dL_alike_101 rfl (lv_at hl 3 rfl) ?_
        refine lv_iconst (v := 2) hx hb dL_alike_102 (by decide) ?_
        have hPc := hP.sub (ws' := (wC b cy S u_88)) [12, 13, 14, 15, 16, 17, 18, 19, 20, 21, 22, 23] rfl
        have hDc := hD.sub (ws' := (wC b cy S u_88)) [12, 13, 14, 15, 16, 17, 18, 19, 20, 21, 22, 23] (by decide) rfl
        refine mo_SWz (G := G) (wr := (wC a cy T u_97)) (As := [.ref (b 0), .int (nI i), .int 2]) (rest := [.int (tX T (3 * i + 2))]) ⟨hx, hb, hml, hown, hts⟩ (c_L_value l hlt G cy b H.size S u_88 (nI i) 2 hJ) (vx_cwSW 3 hts gL_alike_L_value rfl rfl rfl (by decide +kernel) ⟨Nat.le_of_ble_eq_true rfl, Nat.le_of_ble_eq_true rfl⟩) hPc hDc hP hK hD hS hA [12, 13, 14, 15, 16, 17, 18, 19, 20, 21, 22, 23] [0, 1, 2, 3, 4, 5, 6, 7, 8, 9, 10, 11] rfl rfl (by decide) (by decide) hN hE rfl hl.1 (Nat.le_of_ble_eq_true rfl) dL_alike_103 ⟨by show _ ≤ (320 : Nat); omega, by show _ ≤ (1920 : Nat); omega⟩ (fun r_103 u_103 H locs hw hP hD hS hz9 => ?_)
        have e9 : (sp_value S (nI i) 2) = (0, tX S (3 * i + 2), S) := q0_value (c := 2) (by omega) (by decide) (hv.1 ▸ hne)
        rw [e9] at hP hD
        have hP := hP.sub (ws' := (wC a cy T u_97 ++ wC b cy S u_103)) [0, 1, 2, 3, 4, 5, 6, 7, 8, 9, 10, 11, 12, 13, 14, 15, 16, 17, 18, 19, 20, 21, 22, 23] rfl
        have hD := hD.sub (ws' := (wC a cy T u_97 ++ wC b cy S u_103)) [0, 1, 2, 3, 4, 5, 6, 7, 8, 9, 10, 11, 12, 13, 14, 15, 16, 17, 18, 19, 20, 21, 22, 23] (by decide) rfl
        have hP : va_P G vwCl (wC a cy T u_97 ++ wC b cy S u_103) H := hP
        have hD : va_D A (wC a cy T u_97 ++ wC b cy S u_103) := hD
        have hz : s.heap.size + 0 ≤ H.size := rz_0 hz hz9
        obtain rfl : r_103 = tX S (3 * i + 2) := rf_0 e9 hw
        refine lv_icmp_ne (tgt := 113) hx hb dL_alike_106 (by decide) (fun c_106 => False.elim (c_106 (hv.2 hne 2 (by decide)))) (fun c_106 => ?_)
        refine W.widen (k := 0 + 8 * i + 8) (n := 6 * (0 + 8 * i + 8) + 0) (by omega) (by omega) ?_
        exact J109 u_97 u_103 _ _ _ hP hD hS (by omega) (lv_sub hl [0, 1, 2, 3] rfl)
      · have hab : tV T i = -1 := Classical.byContradiction hne
        have hab2 : tV S i = -1 := hv.1 ▸ hab
        refine lv_aload_n hx hb dL_alike_64 rfl (lv_at hl 1 rfl) ?_
        refine lv_iload_n hx hb dL_alike_65 rfl (lv_at hl 3 rfl) ?_
        refine lv_iconst (v := 0) hx hb dL_alike_66 (by decide) ?_
        have hPc := hP.sub (ws' := (wC a cy T u_53)) [0, 1, 2, 3, 4, 5, 6, 7, 8, 9, 10, 11] rfl
        have hDc := hD.sub (ws' := (wC a cy T u_53)) [0, 1, 2, 3, 4, 5, 6, 7, 8, 9, 10, 11] (by decide) rfl
        refine mo_SWz (G := G) (wr := (wC b cy S u_58)) (As := [.ref (a 0), .int (nI i), .int 0]) (rest := []) ⟨hx, hb, hml, hown, hts⟩ (c_L_value l hlt G cy a H.size T u_53 (nI i) 0 hI) (vx_cwSW 3 hts gL_alike_L_value rfl rfl rfl (by decide +kernel) ⟨Nat.le_of_ble_eq_true rfl, Nat.le_of_ble_eq_true rfl⟩) hPc hDc hP hK hD hS hA [0, 1, 2, 3, 4, 5, 6, 7, 8, 9, 10, 11] [12, 13, 14, 15, 16, 17, 18, 19, 20, 21, 22, 23] rfl rfl (by decide) (by decide) hN hE rfl hl.1 (Nat.le_of_ble_eq_true rfl) dL_alike_67 ⟨by show _ ≤ (320 : Nat); omega, by show _ ≤ (1920 : Nat); omega⟩ (fun r_67 u_67 H locs hw hP hD hS hz9 => ?_)
        have e9 : (sp_value T (nI i) 0) = (2, 0, T) := q2_value ⟨id39 _ (by omega), by decide⟩ (by rw [ix_n (by omega)]; exact hab)
        rw [e9] at hP hD
        have hP := hP.sub (ws' := (wC a cy T u_67 ++ wC b cy S u_58)) [12, 13, 14, 15, 16, 17, 18, 19, 20, 21, 22, 23, 0, 1, 2, 3, 4, 5, 6, 7, 8, 9, 10, 11] rfl
        have hD := hD.sub (ws' := (wC a cy T u_67 ++ wC b cy S u_58)) [12, 13, 14, 15, 16, 17, 18, 19, 20, 21, 22, 23, 0, 1, 2, 3, 4, 5, 6, 7, 8, 9, 10, 11] (by decide) rfl
        have hP : va_P G vwCl (wC a cy T u_67 ++ wC b cy S u_58) H := hP
        have hD : va_D A (wC a cy T u_67 ++ wC b cy S u_58) := hD
        have hz := rz_k e9 (by decide) hz hz9
        have hz : s.heap.size + 1 ≤ H.size := hz
        obtain rfl : r_67 = (-2000000001) := rf_2 e9 hw
        refine lv_aload_n hx hb dL_alike_70 rfl (lv_at hl 2 rfl) ?_
        refine lv_iload_n hx hb dL_alike_71 rfl (lv_at hl 3 rfl) ?_
        refine lv_iconst (v := 0) hx hb dL_alike_72 (by decide) ?_
        have hPc := hP.sub (ws' := (wC b cy S u_58)) [12, 13, 14, 15, 16, 17, 18, 19, 20, 21, 22, 23] rfl
        have hDc := hD.sub (ws' := (wC b cy S u_58)) [12, 13, 14, 15, 16, 17, 18, 19, 20, 21, 22, 23] (by decide) rfl
        refine mo_SWz (G := G) (wr := (wC a cy T u_67)) (As := [.ref (b 0), .int (nI i), .int 0]) (rest := [.int (-2000000001)]) ⟨hx, hb, hml, hown, hts⟩ (c_L_value l hlt G cy b H.size S u_58 (nI i) 0 hJ) (vx_cwSW 3 hts gL_alike_L_value rfl rfl rfl (by decide +kernel) ⟨Nat.le_of_ble_eq_true rfl, Nat.le_of_ble_eq_true rfl⟩) hPc hDc hP hK hD hS hA [12, 13, 14, 15, 16, 17, 18, 19, 20, 21, 22, 23] [0, 1, 2, 3, 4, 5, 6, 7, 8, 9, 10, 11] rfl rfl (by decide) (by decide) hN hE rfl hl.1 (Nat.le_of_ble_eq_true rfl) dL_alike_73 ⟨by show _ ≤ (320 : Nat); omega, by show _ ≤ (1920 : Nat); omega⟩ (fun r_73 u_73 H locs hw hP hD hS hz9 => ?_)
        have e9 : (sp_value S (nI i) 0) = (2, 0, S) := q2_value ⟨id39 _ (by omega), by decide⟩ (by rw [ix_n (by omega)]; exact hab2)
        rw [e9] at hP hD
        have hP := hP.sub (ws' := (wC a cy T u_67 ++ wC b cy S u_73)) [0, 1, 2, 3, 4, 5, 6, 7, 8, 9, 10, 11, 12, 13, 14, 15, 16, 17, 18, 19, 20, 21, 22, 23] rfl
        have hD := hD.sub (ws' := (wC a cy T u_67 ++ wC b cy S u_73)) [0, 1, 2, 3, 4, 5, 6, 7, 8, 9, 10, 11, 12, 13, 14, 15, 16, 17, 18, 19, 20, 21, 22, 23] (by decide) rfl
        have hP : va_P G vwCl (wC a cy T u_67 ++ wC b cy S u_73) H := hP
        have hD : va_D A (wC a cy T u_67 ++ wC b cy S u_73) := hD
        have hz := rz_k e9 (by decide) hz hz9
        have hz : s.heap.size + 2 ≤ H.size := hz
        obtain rfl : r_73 = (-2000000001) := rf_2 e9 hw
        refine lv_icmp_ne (tgt := 113) hx hb dL_alike_76 (by decide) (fun c_76 => False.elim (by revert c_76; decide)) (fun c_76 => ?_)
        refine lv_aload_n hx hb dL_alike_79 rfl (lv_at hl 1 rfl) ?_
        refine lv_iload_n hx hb dL_alike_80 rfl (lv_at hl 3 rfl) ?_
        refine lv_iconst (v := 1) hx hb dL_alike_81 (by decide) ?_
        have hPc := hP.sub (ws' := (wC a cy T u_67)) [0, 1, 2, 3, 4, 5, 6, 7, 8, 9, 10, 11] rfl
        have hDc := hD.sub (ws' := (wC a cy T u_67)) [0, 1, 2, 3, 4, 5, 6, 7, 8, 9, 10, 11] (by decide) rfl
        refine mo_SWz (G := G) (wr := (wC b cy S u_73)) (As := [.ref (a 0), .int (nI i), .int 1]) (rest := []) ⟨hx, hb, hml, hown, hts⟩ (c_L_value l hlt G cy a H.size T u_67 (nI i) 1 hI) (vx_cwSW 3 hts gL_alike_L_value rfl rfl rfl (by decide +kernel) ⟨Nat.le_of_ble_eq_true rfl, Nat.le_of_ble_eq_true rfl⟩) hPc hDc hP hK hD hS hA [0, 1, 2, 3, 4, 5, 6, 7, 8, 9, 10, 11] [12, 13, 14, 15, 16, 17, 18, 19, 20, 21, 22, 23] rfl rfl (by decide) (by decide) hN hE rfl hl.1 (Nat.le_of_ble_eq_true rfl) dL_alike_82 ⟨by show _ ≤ (320 : Nat); omega, by show _ ≤ (1920 : Nat); omega⟩ (fun r_82 u_82 H locs hw hP hD hS hz9 => ?_)
        have e9 : (sp_value T (nI i) 1) = (2, 0, T) := q2_value ⟨id39 _ (by omega), by decide⟩ (by rw [ix_n (by omega)]; exact hab)
        rw [e9] at hP hD
        have hP := hP.sub (ws' := (wC a cy T u_82 ++ wC b cy S u_73)) [12, 13, 14, 15, 16, 17, 18, 19, 20, 21, 22, 23, 0, 1, 2, 3, 4, 5, 6, 7, 8, 9, 10, 11] rfl
        have hD := hD.sub (ws' := (wC a cy T u_82 ++ wC b cy S u_73)) [12, 13, 14, 15, 16, 17, 18, 19, 20, 21, 22, 23, 0, 1, 2, 3, 4, 5, 6, 7, 8, 9, 10, 11] (by decide) rfl
        have hP : va_P G vwCl (wC a cy T u_82 ++ wC b cy S u_73) H := hP
        have hD : va_D A (wC a cy T u_82 ++ wC b cy S u_73) := hD
        have hz := rz_k e9 (by decide) hz hz9
        have hz : s.heap.size + 3 ≤ H.size := hz
        obtain rfl : r_82 = (-2000000001) := rf_2 e9 hw
        refine lv_aload_n hx hb dL_alike_85 rfl (lv_at hl 2 rfl) ?_
        refine lv_iload_n hx hb dL_alike_86 rfl (lv_at hl 3 rfl) ?_
        refine lv_iconst (v := 1) hx hb dL_alike_87 (by decide) ?_
        have hPc := hP.sub (ws' := (wC b cy S u_73)) [12, 13, 14, 15, 16, 17, 18, 19, 20, 21, 22, 23] rfl
        have hDc := hD.sub (ws' := (wC b cy S u_73)) [12, 13, 14, 15, 16, 17, 18, 19, 20, 21, 22, 23] (by decide) rfl
        refine mo_SWz (G := G) (wr := (wC a cy T u_82)) (As := [.ref (b 0), .int (nI i), .int 1]) (rest := [.int (-2000000001)]) ⟨hx, hb, hml, hown, hts⟩ (c_L_value l hlt G cy b H.size S u_73 (nI i) 1 hJ) (vx_cwSW 3 hts gL_alike_L_value rfl rfl rfl (by decide +kernel) ⟨Nat.le_of_ble_eq_true rfl, Nat.le_of_ble_eq_true rfl⟩) hPc hDc hP hK hD hS hA [12, 13, 14, 15, 16, 17, 18, 19, 20, 21, 22, 23] [0, 1, 2, 3, 4, 5, 6, 7, 8, 9, 10, 11] rfl rfl (by decide) (by decide) hN hE rfl hl.1 (Nat.le_of_ble_eq_true rfl) dL_alike_88 ⟨by show _ ≤ (320 : Nat); omega, by show _ ≤ (1920 : Nat); omega⟩ (fun r_88 u_88 H locs hw hP hD hS hz9 => ?_)
        have e9 : (sp_value S (nI i) 1) = (2, 0, S) := q2_value ⟨id39 _ (by omega), by decide⟩ (by rw [ix_n (by omega)]; exact hab2)
        rw [e9] at hP hD
        have hP := hP.sub (ws' := (wC a cy T u_82 ++ wC b cy S u_88)) [0, 1, 2, 3, 4, 5, 6, 7, 8, 9, 10, 11, 12, 13, 14, 15, 16, 17, 18, 19, 20, 21, 22, 23] rfl
        have hD := hD.sub (ws' := (wC a cy T u_82 ++ wC b cy S u_88)) [0, 1, 2, 3, 4, 5, 6, 7, 8, 9, 10, 11, 12, 13, 14, 15, 16, 17, 18, 19, 20, 21, 22, 23] (by decide) rfl
        have hP : va_P G vwCl (wC a cy T u_82 ++ wC b cy S u_88) H := hP
        have hD : va_D A (wC a cy T u_82 ++ wC b cy S u_88) := hD
        have hz := rz_k e9 (by decide) hz hz9
        have hz : s.heap.size + 4 ≤ H.size := hz
        obtain rfl : r_88 = (-2000000001) := rf_2 e9 hw
        refine lv_icmp_ne (tgt := 113) hx hb dL_alike_91 (by decide) (fun c_91 => False.elim (by revert c_91; decide)) (fun c_91 => ?_)
        refine lv_aload_n hx hb dL_alike_94 rfl (lv_at hl 1 rfl) ?_
        refine lv_iload_n hx hb dL_alike_95 rfl (lv_at hl 3 rfl) ?_
        refine lv_iconst (v := 2) hx hb dL_alike_96 (by decide) ?_
        have hPc := hP.sub (ws' := (wC a cy T u_82)) [0, 1, 2, 3, 4, 5, 6, 7, 8, 9, 10, 11] rfl
        have hDc := hD.sub (ws' := (wC a cy T u_82)) [0, 1, 2, 3, 4, 5, 6, 7, 8, 9, 10, 11] (by decide) rfl
        refine mo_SWz (G := G) (wr := (wC b cy S u_88)) (As := [.ref (a 0), .int (nI i), .int 2]) (rest := []) ⟨hx, hb, hml, hown, hts⟩ (c_L_value l hlt G cy a H.size T u_82 (nI i) 2 hI) (vx_cwSW 3 hts gL_alike_L_value rfl rfl rfl (by decide +kernel) ⟨Nat.le_of_ble_eq_true rfl, Nat.le_of_ble_eq_true rfl⟩) hPc hDc hP hK hD hS hA [0, 1, 2, 3, 4, 5, 6, 7, 8, 9, 10, 11] [12, 13, 14, 15, 16, 17, 18, 19, 20, 21, 22, 23] rfl rfl (by decide) (by decide) hN hE rfl hl.1 (Nat.le_of_ble_eq_true rfl) dL_alike_97 ⟨by show _ ≤ (320 : Nat); omega, by show _ ≤ (1920 : Nat); omega⟩ (fun r_97 u_97 H locs hw hP hD hS hz9 => ?_)
        have e9 : (sp_value T (nI i) 2) = (2, 0, T) := q2_value ⟨id39 _ (by omega), by decide⟩ (by rw [ix_n (by omega)]; exact hab)
        rw [e9] at hP hD
        have hP := hP.sub (ws' := (wC a cy T u_97 ++ wC b cy S u_88)) [12, 13, 14, 15, 16, 17, 18, 19, 20, 21, 22, 23, 0, 1, 2, 3, 4, 5, 6, 7, 8, 9, 10, 11] rfl
        have hD := hD.sub (ws' := (wC a cy T u_97 ++ wC b cy S u_88)) [12, 13, 14, 15, 16, 17, 18, 19, 20, 21, 22, 23, 0, 1, 2, 3, 4, 5, 6, 7, 8, 9, 10, 11] (by decide) rfl
        have hP : va_P G vwCl (wC a cy T u_97 ++ wC b cy S u_88) H := hP
        have hD : va_D A (wC a cy T u_97 ++ wC b cy S u_88) := hD
        have hz := rz_k e9 (by decide) hz hz9
        have hz : s.heap.size + 5 ≤ H.size := hz
        obtain rfl : r_97 = (-2000000001) := rf_2 e9 hw
        refine lv_aload_n hx hb dL_alike_100 rfl (lv_at hl 2 rfl) ?_
        refine lv_iload_n hx hb dL_alike_101 rfl (lv_at hl 3 rfl) ?_
        refine lv_iconst (v := 2) hx hb dL_alike_102 (by decide) ?_
        have hPc := hP.sub (ws' := (wC b cy S u_88)) [12, 13, 14, 15, 16, 17, 18, 19, 20, 21, 22, 23] rfl
        have hDc := hD.sub (ws' := (wC b cy S u_88)) [12, 13, 14, 15, 16, 17, 18, 19, 20, 21, 22, 23] (by decide) rfl
        refine mo_SWz (G := G) (wr := (wC a cy T u_97)) (As := [.ref (b 0), .int (nI i), .int 2]) (rest := [.int (-2000000001)]) ⟨hx, hb, hml, hown, hts⟩ (c_L_value l hlt G cy b H.size S u_88 (nI i) 2 hJ) (vx_cwSW 3 hts gL_alike_L_value rfl rfl rfl (by decide +kernel) ⟨Nat.le_of_ble_eq_true rfl, Nat.le_of_ble_eq_true rfl⟩) hPc hDc hP hK hD hS hA [12, 13, 14, 15, 16, 17, 18, 19, 20, 21, 22, 23] [0, 1, 2, 3, 4, 5, 6, 7, 8, 9, 10, 11] rfl rfl (by decide) (by decide) hN hE rfl hl.1 (Nat.le_of_ble_eq_true rfl) dL_alike_103 ⟨by show _ ≤ (320 : Nat); omega, by show _ ≤ (1920 : Nat); omega⟩ (fun r_103 u_103 H locs hw hP hD hS hz9 => ?_)
        have e9 : (sp_value S (nI i) 2) = (2, 0, S) := q2_value ⟨id39 _ (by omega), by decide⟩ (by rw [ix_n (by omega)]; exact hab2)
        rw [e9] at hP hD
        have hP := hP.sub (ws' := (wC a cy T u_97 ++ wC b cy S u_103)) [0, 1, 2, 3, 4, 5, 6, 7, 8, 9, 10, 11, 12, 13, 14, 15, 16, 17, 18, 19, 20, 21, 22, 23] rfl
        have hD := hD.sub (ws' := (wC a cy T u_97 ++ wC b cy S u_103)) [0, 1, 2, 3, 4, 5, 6, 7, 8, 9, 10, 11, 12, 13, 14, 15, 16, 17, 18, 19, 20, 21, 22, 23] (by decide) rfl
        have hP : va_P G vwCl (wC a cy T u_97 ++ wC b cy S u_103) H := hP
        have hD : va_D A (wC a cy T u_97 ++ wC b cy S u_103) := hD
        have hz := rz_k e9 (by decide) hz hz9
        have hz : s.heap.size + 6 ≤ H.size := hz
        obtain rfl : r_103 = (-2000000001) := rf_2 e9 hw
        refine lv_icmp_ne (tgt := 113) hx hb dL_alike_106 (by decide) (fun c_106 => False.elim (by revert c_106; decide)) (fun c_106 => ?_)
        refine W.widen (k := 0 + 8 * i + 8) (n := 6 * (0 + 8 * i + 8) + 0) (by omega) (by omega) ?_
        exact J109 u_97 u_103 _ _ _ hP hD hS (by omega) (lv_sub hl [0, 1, 2, 3] rfl)
  refine W.widen (k := 0 + 8 * 0) (n := 6 * (0 + 8 * 0) + 0) (by omega) (by omega) ?_
  exact LOOP41 40 0 tr ts (by omega) _ _ _ hP hD hS (by omega) (lv_sub hl [1, 2, 3, 0] rfl)
