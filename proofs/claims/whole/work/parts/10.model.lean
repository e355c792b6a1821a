set_option maxHeartbeats 4000000 in
set_option maxRecDepth 100000 in
theorem c_X4_valueAt (l : Launch) (G : va_G) (cy : Nat → ClassId) (a : Nat → Nat) (sz : Nat) (T : TS) (rf : Int32) (sp : Nat → Int64) (i : Int32) (x : Int32) (y : Int32) (hI : Inv T) : Met l yX4_valueAt wsX4_valueAt ({ frames := 3, cells := 0, slots := 0, locals := 64 } : Room) (ml_P G cy [.ref (a 0), .int i, .int x, .int y] (wM a cy T rf sp) sz) (va_Qi (fun (r : Int32) (u : Nat → Int64) => (sp_valueAt T i x y).2.1 = r) (ml_B G cy (va_A (wM a cy T rf sp) sz) (fun (u : Nat → Int64) => (wM a cy ((sp_valueAt T i x y).2.2) ((sp_valueAt T i x y).1) u))) (va_A (wM a cy T rf sp) sz)) 0 0 (va_A (wM a cy T rf sp) sz) := by
  refine Met.ofW (cc := cX4_valueAt) (maxL := 6) (ret := (some .int)) (by decide) rfl ?_
  intro p e s m args below meth c s₁ B hml hv
  obtain ⟨rfl, hsz, hP, hK, hD0, hN⟩ := hv
  have hx := B.exec
  have hb := B.bytes
  have hr := B.returns
  have hts := atoms_spec (ws := wsX4_valueAt) B.pre
  have hown : s.vm.findClass RX4 = some m.cls := findClass_of_methodNamed B.named
  have hlocks := B.notSynchronized
  subst hsz
  have hD := hD0.self (sz := s.heap.size)
  generalize hAe : va_A (wM a cy T rf sp) s.heap.size = A at hD ⊢
  have hA : ∀ q : Nat, s.heap.size ≤ q → A q := fun q h => by rw [← hAe]; exact Or.inr h
  have hS : va_S A s.heap s.heap [] := va_S.rf
  have hP : va_P G vwCl (wM a cy T rf sp) s.heap := hP
  have hin_X4 : ∀ w ∈ wsX40, w ∈ wsX4_valueAt := by decide +kernel
  have hl := lv_entry ([.ref (a 0), .int i, .int x, .int y]) (n := 6) (Nat.le_of_ble_eq_true rfl)
  rw [lg_entry_eq]
  generalize (lg_sl ([.ref (a 0), .int i, .int x, .int y]) ++ List.replicate (6 - (lg_sl ([.ref (a 0), .int i, .int x, .int y])).length) Slot.unset).toArray = ls at hl ⊢
  have hl : lv_has ls 6 [(0, .ref (a 0)), (1, .int i), (2, .int x), (3, .int y)] := hl
  have hn12 : tn T ≤ 12 := hI.1.1
  have hlvn : tlv T ≤ tn T := hI.1.2.1
  have hcu : tcu T ≤ 40 := hI.1.2.2
  have hW := hI.w
  refine lv_aload_n hx hb dX4_valueAt_0 rfl (lv_at hl 0 rfl) ?_
  refine lv_iload_n hx hb dX4_valueAt_1 rfl (lv_at hl 2 rfl) ?_
  refine lv_iconst (v := 0) hx hb dX4_valueAt_2 (by decide) ?_
  refine lv_iconst (v := 2) hx hb dX4_valueAt_3 (by decide) ?_
  refine ml_Si (G := G) (As := [.int x, .int 0, .int 2]) (rest := [.ref (a 0)]) ⟨hx, hb, hml, hown, hts⟩ (c_X4_in l G cy a s.heap.size T rf sp x 0 2) (va_cwS 3 hts gX4_valueAt_X4_in rfl rfl rfl (by decide +kernel) ⟨Nat.le_of_ble_eq_true rfl, Nat.le_of_ble_eq_true rfl⟩) hP hK hD hS hN hA rfl hl.1 (Nat.le_of_ble_eq_true rfl) dX4_valueAt_4 ⟨Nat.le_of_ble_eq_true rfl, Nat.le_of_ble_eq_true rfl⟩ (fun r_4 u_4 H locs hw hP hD hS => ?_)
  obtain rfl : r_4 = b2i (inR x 0 2) := hw
  have hP : va_P G vwCl (wM a cy T rf sp) H := hP
  have hD : va_D A (wM a cy T rf sp) := hD
  refine ml_ifeqb (tgt := 26) hx hb dX4_valueAt_7 (by decide) (fun c_7 => ?_) (fun c_7 => ?_)
  · refine lv_iconst (v := 0) hx hb dX4_valueAt_26 (by decide) ?_
    refine lv_iload_n hx hb dX4_valueAt_27 rfl (lv_at hl 1 rfl) ?_
    refine ml_Vi (G := G) (As := [.int 0, .int i]) (rest := []) ⟨hx, hb, hml, hown, hts⟩ (c_X4_noRow l G cy a H.size T rf sp 0 False (Or.inr ⟨rfl, id⟩) i) (cwV 2 hts gX4_valueAt_X4_noRow rfl rfl rfl (by decide +kernel) ⟨Nat.le_of_ble_eq_true rfl, Nat.le_of_ble_eq_true rfl⟩) (va_recv hK hP (ci := 4) (q0 := 0) rfl rfl) hP hK hD hS hN hA rfl hl.1 (Nat.le_of_ble_eq_true rfl) dX4_valueAt_28 ⟨Nat.le_of_ble_eq_true rfl, Nat.le_of_ble_eq_true rfl⟩ (fun r_28 u_28 H locs hw hP hD hS => ?_)
    obtain rfl : r_28 = b2i (cdN T False i ≠ 0) := hw
    have hP : va_P G vwCl (wM a cy T (cdN T False i) sp) H := hP
    have hD : va_D A (wM a cy T (cdN T False i) sp) := hD
    refine ml_ifeqb (tgt := 36) hx hb dX4_valueAt_31 (by decide) (fun c_31 => False.elim ((cdN_0 c_31).1)) (fun c_31 => ?_)
    refine lv_iconst (v := 0) hx hb dX4_valueAt_34 (by decide) ?_
    exact ml_ri sp hx hb hr hlocks hP hK hD hS (by rw [(show sp_valueAt T i x y = (cdN T False i, 0, T) from nr_lem ⟨fun _ q => q.1, fun _ q => c_7 q.2.1⟩ c_31)]) (by rw [(show sp_valueAt T i x y = (cdN T False i, 0, T) from nr_lem ⟨fun _ q => q.1, fun _ q => c_7 q.2.1⟩ c_31)]) dX4_valueAt_35
  · refine lv_iload_n hx hb dX4_valueAt_10 rfl (lv_at hl 3 rfl) ?_
    refine lv_iconst (v := 0) hx hb dX4_valueAt_11 (by decide) ?_
    refine lv_aload_n hx hb dX4_valueAt_12 rfl (lv_at hl 0 rfl) ?_
    refine va_get (D := G) (ci := 4) (v := .int (nI (tn T))) (C := RX4) (T := TX4) (N := 16) hx hb hts hin_X4 hown hK hP 0 rfl rfl 1 (by decide) (hts (.fieldLink RX4 55 "MigrationledgerModel" "many" "I") (by decide +kernel)) (fun _ h9 => h9) rfl dX4_valueAt_13 ?_
    refine ml_Si (G := G) (As := [.int y, .int 0, .int (nI (tn T))]) (rest := [.ref (a 0)]) ⟨hx, hb, hml, hown, hts⟩ (c_X4_in l G cy a H.size T rf sp y 0 (nI (tn T))) (va_cwS 3 hts gX4_valueAt_X4_in rfl rfl rfl (by decide +kernel) ⟨Nat.le_of_ble_eq_true rfl, Nat.le_of_ble_eq_true rfl⟩) hP hK hD hS hN hA rfl hl.1 (Nat.le_of_ble_eq_true rfl) dX4_valueAt_16 ⟨Nat.le_of_ble_eq_true rfl, Nat.le_of_ble_eq_true rfl⟩ (fun r_16 u_16 H locs hw hP hD hS => ?_)
    obtain rfl : r_16 = b2i (inR y 0 (nI (tn T))) := hw
    have hP : va_P G vwCl (wM a cy T rf sp) H := hP
    have hD : va_D A (wM a cy T rf sp) := hD
    refine ml_ifeqb (tgt := 26) hx hb dX4_valueAt_19 (by decide) (fun c_19 => ?_) (fun c_19 => ?_)
    · refine lv_iconst (v := 0) hx hb dX4_valueAt_26 (by decide) ?_
      refine lv_iload_n hx hb dX4_valueAt_27 rfl (lv_at hl 1 rfl) ?_
      refine ml_Vi (G := G) (As := [.int 0, .int i]) (rest := []) ⟨hx, hb, hml, hown, hts⟩ (c_X4_noRow l G cy a H.size T rf sp 0 False (Or.inr ⟨rfl, id⟩) i) (cwV 2 hts gX4_valueAt_X4_noRow rfl rfl rfl (by decide +kernel) ⟨Nat.le_of_ble_eq_true rfl, Nat.le_of_ble_eq_true rfl⟩) (va_recv hK hP (ci := 4) (q0 := 0) rfl rfl) hP hK hD hS hN hA rfl hl.1 (Nat.le_of_ble_eq_true rfl) dX4_valueAt_28 ⟨Nat.le_of_ble_eq_true rfl, Nat.le_of_ble_eq_true rfl⟩ (fun r_28 u_28 H locs hw hP hD hS => ?_)
      obtain rfl : r_28 = b2i (cdN T False i ≠ 0) := hw
      have hP : va_P G vwCl (wM a cy T (cdN T False i) sp) H := hP
      have hD : va_D A (wM a cy T (cdN T False i) sp) := hD
      refine ml_ifeqb (tgt := 36) hx hb dX4_valueAt_31 (by decide) (fun c_31 => False.elim ((cdN_0 c_31).1)) (fun c_31 => ?_)
      refine lv_iconst (v := 0) hx hb dX4_valueAt_34 (by decide) ?_
      exact ml_ri sp hx hb hr hlocks hP hK hD hS (by rw [(show sp_valueAt T i x y = (cdN T False i, 0, T) from nr_lem ⟨fun _ q => q.1, fun _ q => c_19 q.2.2⟩ c_31)]) (by rw [(show sp_valueAt T i x y = (cdN T False i, 0, T) from nr_lem ⟨fun _ q => q.1, fun _ q => c_19 q.2.2⟩ c_31)]) dX4_valueAt_35
    · refine lv_iconst (v := 1) hx hb dX4_valueAt_22 (by decide) ?_
      refine lv_goto (tgt := 27) hx hb dX4_valueAt_23 (by decide) ?_
      refine lv_iload_n hx hb dX4_valueAt_27 rfl (lv_at hl 1 rfl) ?_
      refine ml_Vi (G := G) (As := [.int 1, .int i]) (rest := []) ⟨hx, hb, hml, hown, hts⟩ (c_X4_noRow l G cy a H.size T rf sp 1 True (Or.inl ⟨rfl, trivial⟩) i) (cwV 2 hts gX4_valueAt_X4_noRow rfl rfl rfl (by decide +kernel) ⟨Nat.le_of_ble_eq_true rfl, Nat.le_of_ble_eq_true rfl⟩) (va_recv hK hP (ci := 4) (q0 := 0) rfl rfl) hP hK hD hS hN hA rfl hl.1 (Nat.le_of_ble_eq_true rfl) dX4_valueAt_28 ⟨Nat.le_of_ble_eq_true rfl, Nat.le_of_ble_eq_true rfl⟩ (fun r_28 u_28 H locs hw hP hD hS => ?_)
      obtain rfl : r_28 = b2i (cdN T True i ≠ 0) := hw
      have hP : va_P G vwCl (wM a cy T (cdN T True i) sp) H := hP
      have hD : va_D A (wM a cy T (cdN T True i) sp) := hD
      refine ml_ifeqb (tgt := 36) hx hb dX4_valueAt_31 (by decide) (fun c_31 => ?_) (fun c_31 => ?_)
      · have h31 := cdN_0 c_31
        obtain ⟨j, hj, rfl⟩ := inR_n 39 (by decide) h31.2.1
        have v31 : tV T j ≠ -1 := by have q := h31.2.2; rw [ix_n (by omega)] at q; exact q
        obtain ⟨k, hk, rfl⟩ := inR_n 2 (by decide) c_7
        obtain ⟨t, ht, rfl⟩ := inR_nn (by omega) c_19
        obtain ⟨f, ef, hf12, hfn⟩ := vN_of hW (by omega) v31
        have hoks := hI.2.2.1
        have hX := hI.2.2.2.1
        have hP : va_P G vwCl (wM a cy T 0 sp) H := by
          rw [show cdN T True (nI j) = 0 from Classical.not_not.mp c_31] at hP
          exact hP
        have hD : va_D A (wM a cy T 0 sp) := by
          rw [show cdN T True (nI j) = 0 from Classical.not_not.mp c_31] at hD
          exact hD
        refine lv_aload_n hx hb dX4_valueAt_36 rfl (lv_at hl 0 rfl) ?_
        refine lv_iload_n hx hb dX4_valueAt_37 rfl (lv_at hl 1 rfl) ?_
        refine ml_Vv (G := G) (As := [.int (nI j)]) (rest := []) ⟨hx, hb, hml, hown, hts⟩ (c_X4_takeSpare l G cy a H.size T 0 sp j (by omega)) (cwV 1 hts gX4_valueAt_X4_takeSpare rfl rfl rfl (by decide +kernel) ⟨Nat.le_of_ble_eq_true rfl, Nat.le_of_ble_eq_true rfl⟩) (va_recv hK hP (ci := 4) (q0 := 0) rfl rfl) hP hK hD hS hN hA rfl hl.1 (Nat.le_of_ble_eq_true rfl) dX4_valueAt_38 ⟨Nat.le_of_ble_eq_true rfl, Nat.le_of_ble_eq_true rfl⟩ (fun u_38 H locs hw hP hD hS => ?_)
        have hP : va_P G vwCl (wM a cy T 0 (vp_updL (vp_updL (vp_updL sp 0 (tX T (3 * j + 0)).toInt64) 1 (tX T (3 * j + 1)).toInt64) 2 (tX T (3 * j + 2)).toInt64)) H := hP
        have hD : va_D A (wM a cy T 0 (vp_updL (vp_updL (vp_updL sp 0 (tX T (3 * j + 0)).toInt64) 1 (tX T (3 * j + 1)).toInt64) 2 (tX T (3 * j + 2)).toInt64)) := hD
        refine lv_iconst (v := 1) hx hb dX4_valueAt_41 (by decide) ?_
        refine lv_istore (lv' := [(4, .int 1), (0, .ref (a 0)), (1, .int (nI j)), (2, .int (nI k)), (3, .int (nI t))]) hx hb dX4_valueAt_42 hl (by decide) rfl (fun ls hl => ?_)
        refine lv_aload_n hx hb dX4_valueAt_44 rfl (lv_at hl 1 rfl) ?_
        refine va_get (D := G) (ci := 4) (v := .ref (a 5)) (C := RX4) (T := TX4) (N := 16) hx hb hts hin_X4 hown hK hP 0 rfl rfl 9 (by decide) (hts (.fieldLink RX4 22 "MigrationledgerModel" "versions" "[I") (by decide +kernel)) (fun _ h9 => h9) rfl dX4_valueAt_45 ?_
        refine lv_iload_n hx hb dX4_valueAt_48 rfl (lv_at hl 2 rfl) ?_
        refine ml_iald hx hb hK hP 5 0 rfl rfl (j) rfl (by omega) (Nat.le_of_ble_eq_true rfl) (nI f) ef dX4_valueAt_49 ?_
        refine lv_iconst (v := 1) hx hb dX4_valueAt_50 (by decide) ?_
        refine lv_iadd hx hb dX4_valueAt_51 ?_
        refine ml_eqi (nI (f + 1)) (nI_add f 1) ?_
        refine lv_istore (lv' := [(5, .int (nI (f + 1))), (4, .int 1), (0, .ref (a 0)), (1, .int (nI j)), (2, .int (nI k)), (3, .int (nI t))]) hx hb dX4_valueAt_52 hl (by decide) rfl (fun ls hl => ?_)
        have LOOP : ∀ (r : Nat) (kk : Nat) (sp2 : Nat → Int64) (row2 : Nat → Int32) (hk9 : (r = 0 ∧ t ≤ kk ∧ kk ≤ 12) ∨ kk + r = t) (hr2 : ∀ q, q < 3 → sp2 q = (row2 q).toInt64) (hv2 : ∀ q, q < 3 → okV (row2 q).toInt64) (hg : brU T r kk row2 = brU T (t - f) f (rowOf T j)) (H : Heap) (locs : List Loc) (ls : Array Slot), va_P G vwCl (wM a cy T 0 sp2) H → va_D A (wM a cy T 0 sp2) → va_S A s.heap H locs → lv_has ls 6 [(0, .ref (a 0)), (1, .int (nI j)), (2, .int (nI k)), (3, .int (nI t)), (4, .int 1), (5, .int (nI (kk + 1)))] → W p l e (headSpec wsX4_valueAt ({ frames := 3, cells := 0, slots := 0, locals := 64 } : Room)).room s m (#[.ref (a 0), .int (nI j), .int (nI k), .int (nI t)] : Array Value) below meth c H locs 0 0 (MQ below (va_Qi (fun (r : Int32) (u : Nat → Int64) => (sp_valueAt T (nI j) (nI k) (nI t)).2.1 = r) (ml_B G cy A (fun (u : Nat → Int64) => (wM a cy ((sp_valueAt T (nI j) (nI k) (nI t)).2.2) ((sp_valueAt T (nI j) (nI k) (nI t)).1) u))) A) (#[.ref (a 0), .int (nI j), .int (nI k), .int (nI t)] : Array Value) s 0 0 A) (F0 m 54 ls []) := by
          intro r
          induction r with
          | zero =>
            intro kk sp2 row2 hk9 hr2 hv2 hg H locs ls hP hD hS hl
            refine lv_iload hx hb dX4_valueAt_54 (lv_at hl 5 rfl) ?_
            refine lv_iload_n hx hb dX4_valueAt_56 rfl (lv_at hl 3 rfl) ?_
            refine lv_icmp_gt (tgt := 88) hx hb dX4_valueAt_57 (by decide) (fun c_57 => ?_) (fun c_57 => False.elim (c_57 (nI_lt (by omega) (by omega))))
            refine lv_aload_n hx hb dX4_valueAt_88 rfl (lv_at hl 0 rfl) ?_
            refine va_get (D := G) (ci := 4) (v := .ref (a 5)) (C := RX4) (T := TX4) (N := 16) hx hb hts hin_X4 hown hK hP 0 rfl rfl 9 (by decide) (hts (.fieldLink RX4 22 "MigrationledgerModel" "versions" "[I") (by decide +kernel)) (fun _ h9 => h9) rfl dX4_valueAt_89 ?_
            refine lv_iload_n hx hb dX4_valueAt_92 rfl (lv_at hl 1 rfl) ?_
            refine ml_iald hx hb hK hP 5 0 rfl rfl (j) rfl (by omega) (Nat.le_of_ble_eq_true rfl) (nI f) ef dX4_valueAt_93 ?_
            refine lv_istore (lv' := [(5, .int (nI f)), (0, .ref (a 0)), (1, .int (nI j)), (2, .int (nI k)), (3, .int (nI t)), (4, .int 1)]) hx hb dX4_valueAt_94 hl (by decide) rfl (fun ls hl => ?_)
            have LOOP2 : ∀ (r9 : Nat) (kk : Nat) (sp3 : Nat → Int64) (row3 : Nat → Int32) (hk3 : (r9 = 0 ∧ kk ≤ t) ∨ kk = t + r9) (hk4 : kk ≤ f) (hr3 : ∀ q, q < 3 → sp3 q = (row3 q).toInt64) (hv3 : ∀ q, q < 3 → okV (row3 q).toInt64) (hg3 : brD T r9 kk row3 = bring T (rowOf T j) f t) (H : Heap) (locs : List Loc) (ls : Array Slot), va_P G vwCl (wM a cy T 0 sp3) H → va_D A (wM a cy T 0 sp3) → va_S A s.heap H locs → lv_has ls 6 [(0, .ref (a 0)), (1, .int (nI j)), (2, .int (nI k)), (3, .int (nI t)), (4, .int 1), (5, .int (nI kk))] → W p l e (headSpec wsX4_valueAt ({ frames := 3, cells := 0, slots := 0, locals := 64 } : Room)).room s m (#[.ref (a 0), .int (nI j), .int (nI k), .int (nI t)] : Array Value) below meth c H locs 0 0 (MQ below (va_Qi (fun (r : Int32) (u : Nat → Int64) => (sp_valueAt T (nI j) (nI k) (nI t)).2.1 = r) (ml_B G cy A (fun (u : Nat → Int64) => (wM a cy ((sp_valueAt T (nI j) (nI k) (nI t)).2.2) ((sp_valueAt T (nI j) (nI k) (nI t)).1) u))) A) (#[.ref (a 0), .int (nI j), .int (nI k), .int (nI t)] : Array Value) s 0 0 A) (F0 m 96 ls []) := by
              intro r9
              induction r9 with
              | zero =>
                intro kk sp3 row3 hk3 hk4 hr3 hv3 hg3 H locs ls hP hD hS hl
                refine lv_iload hx hb dX4_valueAt_96 (lv_at hl 5 rfl) ?_
                refine lv_iload_n hx hb dX4_valueAt_98 rfl (lv_at hl 3 rfl) ?_
                refine lv_icmp_le (tgt := 130) hx hb dX4_valueAt_99 (by decide) (fun c_99 => ?_) (fun c_99 => False.elim (c_99 ((nI_leI (by omega) (by omega)).mpr (by omega))))
                refine lv_aload_n hx hb dX4_valueAt_130 rfl (lv_at hl 0 rfl) ?_
                refine lv_iload hx hb dX4_valueAt_131 (lv_at hl 4 rfl) ?_
                refine lv_if_eq (tgt := 140) hx hb dX4_valueAt_133 (by decide) (fun c_133 => False.elim (by revert c_133; decide)) (fun c_133 => ?_)
                refine lv_iconst (v := 0) hx hb dX4_valueAt_136 (by decide) ?_
                refine lv_goto (tgt := 141) hx hb dX4_valueAt_137 (by decide) ?_
                refine ml_Vi (G := G) (As := [.int 0]) (rest := []) ⟨hx, hb, hml, hown, hts⟩ (c_X4_refused l G cy a H.size T 0 sp3 0) (cwV 1 hts gX4_valueAt_X4_refused rfl rfl rfl (by decide +kernel) ⟨Nat.le_of_ble_eq_true rfl, Nat.le_of_ble_eq_true rfl⟩) (va_recv hK hP (ci := 4) (q0 := 0) rfl rfl) hP hK hD hS hN hA rfl hl.1 (Nat.le_of_ble_eq_true rfl) dX4_valueAt_141 ⟨Nat.le_of_ble_eq_true rfl, Nat.le_of_ble_eq_true rfl⟩ (fun r_141 u_141 H locs hw hP hD hS => ?_)
                obtain rfl : r_141 = 0 := hw.trans (b2i_f (by decide))
                have hP : va_P G vwCl (wM a cy T 0 sp3) H := hP
                have hD : va_D A (wM a cy T 0 sp3) := hD
                refine lv_if_eq (tgt := 151) hx hb dX4_valueAt_144 (by decide) (fun c_144 => ?_) (fun c_144 => False.elim (by revert c_144; decide))
                refine lv_aload_n hx hb dX4_valueAt_151 rfl (lv_at hl 0 rfl) ?_
                refine va_get (D := G) (ci := 4) (v := .ref (a 7)) (C := RX4) (T := TX4) (N := 16) hx hb hts hin_X4 hown hK hP 0 rfl rfl 11 (by decide) (hts (.fieldLink RX4 28 "MigrationledgerModel" "spare" "[J") (by decide +kernel)) (fun _ h9 => h9) rfl dX4_valueAt_152 ?_
                refine lv_iload_n hx hb dX4_valueAt_155 rfl (lv_at hl 2 rfl) ?_
                refine ml_lald hx hb hK hP 7 1 rfl rfl (k) rfl (by omega) (Nat.le_of_ble_eq_true rfl) ((row3 k).toInt64) (hr3 k (by omega)) dX4_valueAt_156 ?_
                refine lv_l2i (v := ((row3 k).toInt64).toInt32) hx hb dX4_valueAt_157 rfl ?_
                refine ml_eqi (row3 k) tl_ti ?_
                exact ml_ri sp3 hx hb hr hlocks hP hK hD hS (by rw [(show sp_valueAt T (nI j) (nI k) (nI t) = (0, row3 k, T) from by unfold sp_valueAt; rw [cif_f (not_not_intro ⟨h31.2.1, c_7, c_19⟩), ix_n (j := j) (by omega), cif_f v31, ef, ix_n (j := f) (by omega), ix_n (j := t) (by omega), (show bring T (rowOf T j) f t = some row3 from hg3.symm), ix_n (j := k) (by omega)] <;> rfl)]) (by rw [(show sp_valueAt T (nI j) (nI k) (nI t) = (0, row3 k, T) from by unfold sp_valueAt; rw [cif_f (not_not_intro ⟨h31.2.1, c_7, c_19⟩), ix_n (j := j) (by omega), cif_f v31, ef, ix_n (j := f) (by omega), ix_n (j := t) (by omega), (show bring T (rowOf T j) f t = some row3 from hg3.symm), ix_n (j := k) (by omega)] <;> rfl)]) dX4_valueAt_158
              | succ r9 ih =>
                intro kk sp3 row3 hk3 hk4 hr3 hv3 hg3 H locs ls hP hD hS hl
                refine lv_iload hx hb dX4_valueAt_96 (lv_at hl 5 rfl) ?_
                refine lv_iload_n hx hb dX4_valueAt_98 rfl (lv_at hl 3 rfl) ?_
                refine lv_icmp_le (tgt := 130) hx hb dX4_valueAt_99 (by decide) (fun c_99 => False.elim (absurd ((nI_leI (by omega) (by omega)).mp c_99) (by omega))) (fun c_99 => ?_)
                obtain ⟨kk, rfl⟩ : ∃ k9, kk = k9 + 1 := ⟨kk - 1, by omega⟩
                refine lv_iload hx hb dX4_valueAt_102 (lv_at hl 4 rfl) ?_
                refine lv_if_eq (tgt := 121) hx hb dX4_valueAt_104 (by decide) (fun c_104 => False.elim (by revert c_104; decide)) (fun c_104 => ?_)
                refine lv_aload_n hx hb dX4_valueAt_107 rfl (lv_at hl 0 rfl) ?_
                refine lv_iload hx hb dX4_valueAt_108 (lv_at hl 5 rfl) ?_
                refine lv_iconst (v := 1) hx hb dX4_valueAt_110 (by decide) ?_
                refine ml_Vi (G := G) (As := [.int (nI (kk + 1)), .int 1]) (rest := []) ⟨hx, hb, hml, hown, hts⟩ (c_X4_tries l G cy a H.size T 0 sp3 (kk + 1) (by omega) 1 True (Or.inl ⟨rfl, trivial⟩) (hoks _ (by omega) (by omega)) row3 hr3 hv3) (cwV 2 hts gX4_valueAt_X4_tries rfl rfl rfl (by decide +kernel) ⟨Nat.le_of_ble_eq_true rfl, Nat.le_of_ble_eq_true rfl⟩) (va_recv hK hP (ci := 4) (q0 := 0) rfl rfl) hP hK hD hS hN hA rfl hl.1 (Nat.le_of_ble_eq_true rfl) dX4_valueAt_111 ⟨Nat.le_of_ble_eq_true rfl, Nat.le_of_ble_eq_true rfl⟩ (fun r_111 u_111 H locs hw hP hD hS => ?_)
                obtain ⟨hw1, hw2_111⟩ := hw
                obtain rfl : r_111 = b2i ((ap T True (kk + 1) row3).isSome = true) := hw1
                have hP : va_P G vwCl (wM a cy T 0 u_111) H := hP
                have hD : va_D A (wM a cy T 0 u_111) := hD
                refine ml_ifeqb (tgt := 121) hx hb dX4_valueAt_114 (by decide) (fun c_114 => ?_) (fun c_114 => ?_)
                · have hbn : bring T (rowOf T j) f t = none := hg3.symm.trans (brD_n (is_n c_114))
                  refine lv_iconst (v := 0) hx hb dX4_valueAt_121 (by decide) ?_
                  refine lv_istore (lv' := [(4, .int 0), (0, .ref (a 0)), (1, .int (nI j)), (2, .int (nI k)), (3, .int (nI t)), (5, .int (nI (kk + 1)))]) hx hb dX4_valueAt_122 hl (by decide) rfl (fun ls hl => ?_)
                  refine lv_iinc (v := nI kk) (lv' := [(5, .int (nI kk)), (4, .int 0), (0, .ref (a 0)), (1, .int (nI j)), (2, .int (nI k)), (3, .int (nI t))]) hx hb dX4_valueAt_124 hl (k := 5) rfl (pk_m1 _) (by decide) rfl (fun ls hl => ?_)
                  refine lv_goto (tgt := 96) hx hb dX4_valueAt_127 (by decide) ?_
                  have LOOP2z : ∀ (rz : Nat) (kz : Nat) (spz : Nat → Int64) (hkz : (rz = 0 ∧ kz ≤ t) ∨ kz = t + rz) (hkz4 : kz ≤ f) (hbn : bring T (rowOf T j) f t = none) (H : Heap) (locs : List Loc) (ls : Array Slot), va_P G vwCl (wM a cy T 0 spz) H → va_D A (wM a cy T 0 spz) → va_S A s.heap H locs → lv_has ls 6 [(0, .ref (a 0)), (1, .int (nI j)), (2, .int (nI k)), (3, .int (nI t)), (4, .int 0), (5, .int (nI kz))] → W p l e (headSpec wsX4_valueAt ({ frames := 3, cells := 0, slots := 0, locals := 64 } : Room)).room s m (#[.ref (a 0), .int (nI j), .int (nI k), .int (nI t)] : Array Value) below meth c H locs 0 0 (MQ below (va_Qi (fun (r : Int32) (u : Nat → Int64) => (sp_valueAt T (nI j) (nI k) (nI t)).2.1 = r) (ml_B G cy A (fun (u : Nat → Int64) => (wM a cy ((sp_valueAt T (nI j) (nI k) (nI t)).2.2) ((sp_valueAt T (nI j) (nI k) (nI t)).1) u))) A) (#[.ref (a 0), .int (nI j), .int (nI k), .int (nI t)] : Array Value) s 0 0 A) (F0 m 96 ls []) := by
                    intro rz
                    induction rz with
                    | zero =>
                      intro kz spz hkz hkz4 hbn H locs ls hP hD hS hl
                      refine lv_iload hx hb dX4_valueAt_96 (lv_at hl 5 rfl) ?_
                      refine lv_iload_n hx hb dX4_valueAt_98 rfl (lv_at hl 3 rfl) ?_
                      refine lv_icmp_le (tgt := 130) hx hb dX4_valueAt_99 (by decide) (fun c_99 => ?_) (fun c_99 => False.elim (c_99 ((nI_leI (by omega) (by omega)).mpr (by omega))))
                      refine lv_aload_n hx hb dX4_valueAt_130 rfl (lv_at hl 0 rfl) ?_
                      refine lv_iload hx hb dX4_valueAt_131 (lv_at hl 4 rfl) ?_
                      refine lv_if_eq (tgt := 140) hx hb dX4_valueAt_133 (by decide) (fun c_133 => ?_) (fun c_133 => False.elim (by revert c_133; decide))
                      refine lv_iconst (v := 3) hx hb dX4_valueAt_140 (by decide) ?_
                      refine ml_Vi (G := G) (As := [.int 3]) (rest := []) ⟨hx, hb, hml, hown, hts⟩ (c_X4_refused l G cy a H.size T 0 spz 3) (cwV 1 hts gX4_valueAt_X4_refused rfl rfl rfl (by decide +kernel) ⟨Nat.le_of_ble_eq_true rfl, Nat.le_of_ble_eq_true rfl⟩) (va_recv hK hP (ci := 4) (q0 := 0) rfl rfl) hP hK hD hS hN hA rfl hl.1 (Nat.le_of_ble_eq_true rfl) dX4_valueAt_141 ⟨Nat.le_of_ble_eq_true rfl, Nat.le_of_ble_eq_true rfl⟩ (fun r_141 u_141 H locs hw hP hD hS => ?_)
                      obtain rfl : r_141 = 1 := hw.trans (b2i_t (by decide))
                      have hP : va_P G vwCl (wM a cy T 3 spz) H := hP
                      have hD : va_D A (wM a cy T 3 spz) := hD
                      refine lv_if_eq (tgt := 151) hx hb dX4_valueAt_144 (by decide) (fun c_144 => False.elim (by revert c_144; decide)) (fun c_144 => ?_)
                      refine lv_iconst (v := 0) hx hb dX4_valueAt_147 (by decide) ?_
                      refine lv_goto (tgt := 158) hx hb dX4_valueAt_148 (by decide) ?_
                      exact ml_ri spz hx hb hr hlocks hP hK hD hS (by rw [(show sp_valueAt T (nI j) (nI k) (nI t) = (3, 0, T) from by unfold sp_valueAt; rw [cif_f (not_not_intro ⟨h31.2.1, c_7, c_19⟩), ix_n (j := j) (by omega), cif_f v31, ef, ix_n (j := f) (by omega), ix_n (j := t) (by omega), hbn] <;> rfl)]) (by rw [(show sp_valueAt T (nI j) (nI k) (nI t) = (3, 0, T) from by unfold sp_valueAt; rw [cif_f (not_not_intro ⟨h31.2.1, c_7, c_19⟩), ix_n (j := j) (by omega), cif_f v31, ef, ix_n (j := f) (by omega), ix_n (j := t) (by omega), hbn] <;> rfl)]) dX4_valueAt_158
                    | succ rz ih =>
                      intro kz spz hkz hkz4 hbn H locs ls hP hD hS hl
                      refine lv_iload hx hb dX4_valueAt_96 (lv_at hl 5 rfl) ?_
                      refine lv_iload_n hx hb dX4_valueAt_98 rfl (lv_at hl 3 rfl) ?_
                      refine lv_icmp_le (tgt := 130) hx hb dX4_valueAt_99 (by decide) (fun c_99 => False.elim (absurd ((nI_leI (by omega) (by omega)).mp c_99) (by omega))) (fun c_99 => ?_)
                      obtain ⟨kz, rfl⟩ : ∃ k9, kz = k9 + 1 := ⟨kz - 1, by omega⟩
                      refine lv_iload hx hb dX4_valueAt_102 (lv_at hl 4 rfl) ?_
                      refine lv_if_eq (tgt := 121) hx hb dX4_valueAt_104 (by decide) (fun c_104 => ?_) (fun c_104 => False.elim (by revert c_104; decide))
                      refine lv_iconst (v := 0) hx hb dX4_valueAt_121 (by decide) ?_
                      refine lv_istore (lv' := [(4, .int 0), (0, .ref (a 0)), (1, .int (nI j)), (2, .int (nI k)), (3, .int (nI t)), (5, .int (nI (kz + 1)))]) hx hb dX4_valueAt_122 hl (by decide) rfl (fun ls hl => ?_)
                      refine lv_iinc (v := nI kz) (lv' := [(5, .int (nI kz)), (4, .int 0), (0, .ref (a 0)), (1, .int (nI j)), (2, .int (nI k)), (3, .int (nI t))]) hx hb dX4_valueAt_124 hl (k := 5) rfl (pk_m1 _) (by decide) rfl (fun ls hl => ?_)
                      refine lv_goto (tgt := 96) hx hb dX4_valueAt_127 (by decide) ?_
                      exact ih kz _ (by omega) (by omega) hbn _ _ _ hP hD hS (lv_sub hl [2, 3, 4, 5, 1, 0] rfl)
                  exact LOOP2z (kk - t) kk _ (by omega) (by omega) hbn _ _ _ hP hD hS (lv_sub hl [2, 3, 4, 5, 1, 0] rfl)
                · obtain ⟨row4, e4⟩ := is_s c_114
                  refine lv_iconst (v := 1) hx hb dX4_valueAt_117 (by decide) ?_
                  refine lv_goto (tgt := 122) hx hb dX4_valueAt_118 (by decide) ?_
                  refine lv_istore (lv' := [(4, .int 1), (0, .ref (a 0)), (1, .int (nI j)), (2, .int (nI k)), (3, .int (nI t)), (5, .int (nI (kk + 1)))]) hx hb dX4_valueAt_122 hl (by decide) rfl (fun ls hl => ?_)
                  refine lv_iinc (v := nI kk) (lv' := [(5, .int (nI kk)), (4, .int 1), (0, .ref (a 0)), (1, .int (nI j)), (2, .int (nI k)), (3, .int (nI t))]) hx hb dX4_valueAt_124 hl (k := 5) rfl (pk_m1 _) (by decide) rfl (fun ls hl => ?_)
                  refine lv_goto (tgt := 96) hx hb dX4_valueAt_127 (by decide) ?_
                  exact ih kk u_111 row4 (by omega) (by omega) (hw2_111 row4 e4) (ap_okV (hoks _ (by omega) (by omega)) hv3 e4) ((brD_s e4).symm.trans hg3) _ _ _ hP hD hS (lv_sub hl [2, 3, 4, 5, 1, 0] rfl)
            exact LOOP2 (f - t) f sp2 row2 (by omega) (by omega) hr2 hv2 (bring_s hg.symm).symm _ _ _ hP hD hS (lv_sub hl [1, 2, 3, 4, 5, 0] rfl)
          | succ r ih =>
            intro kk sp2 row2 hk9 hr2 hv2 hg H locs ls hP hD hS hl
            refine lv_iload hx hb dX4_valueAt_54 (lv_at hl 5 rfl) ?_
            refine lv_iload_n hx hb dX4_valueAt_56 rfl (lv_at hl 3 rfl) ?_
            refine lv_icmp_gt (tgt := 88) hx hb dX4_valueAt_57 (by decide) (fun c_57 => False.elim (nI_nlt (by omega) (by omega) c_57)) (fun c_57 => ?_)
            refine lv_iload hx hb dX4_valueAt_60 (lv_at hl 4 rfl) ?_
            refine lv_if_eq (tgt := 79) hx hb dX4_valueAt_62 (by decide) (fun c_62 => False.elim (by revert c_62; decide)) (fun c_62 => ?_)
            refine lv_aload_n hx hb dX4_valueAt_65 rfl (lv_at hl 0 rfl) ?_
            refine lv_iload hx hb dX4_valueAt_66 (lv_at hl 5 rfl) ?_
            refine lv_iconst (v := 0) hx hb dX4_valueAt_68 (by decide) ?_
            refine ml_Vi (G := G) (As := [.int (nI (kk + 1)), .int 0]) (rest := []) ⟨hx, hb, hml, hown, hts⟩ (c_X4_tries l G cy a H.size T 0 sp2 (kk + 1) (by omega) 0 False (Or.inr ⟨rfl, id⟩) (hoks _ (by omega) (by omega)) row2 hr2 hv2) (cwV 2 hts gX4_valueAt_X4_tries rfl rfl rfl (by decide +kernel) ⟨Nat.le_of_ble_eq_true rfl, Nat.le_of_ble_eq_true rfl⟩) (va_recv hK hP (ci := 4) (q0 := 0) rfl rfl) hP hK hD hS hN hA rfl hl.1 (Nat.le_of_ble_eq_true rfl) dX4_valueAt_69 ⟨Nat.le_of_ble_eq_true rfl, Nat.le_of_ble_eq_true rfl⟩ (fun r_69 u_69 H locs hw hP hD hS => ?_)
            obtain ⟨hw1, hw2_69⟩ := hw
            obtain rfl : r_69 = b2i ((ap T False (kk + 1) row2).isSome = true) := hw1
            have hP : va_P G vwCl (wM a cy T 0 u_69) H := hP
            have hD : va_D A (wM a cy T 0 u_69) := hD
            refine ml_ifeqb (tgt := 79) hx hb dX4_valueAt_72 (by decide) (fun c_72 => ?_) (fun c_72 => ?_)
            · have hbn : bring T (rowOf T j) f t = none := bring_n (hg.symm.trans (brU_n (is_n c_72)))
              refine lv_iconst (v := 0) hx hb dX4_valueAt_79 (by decide) ?_
              refine lv_istore (lv' := [(4, .int 0), (0, .ref (a 0)), (1, .int (nI j)), (2, .int (nI k)), (3, .int (nI t)), (5, .int (nI (kk + 1)))]) hx hb dX4_valueAt_80 hl (by decide) rfl (fun ls hl => ?_)
              refine lv_iinc (v := nI (kk + 1 + 1)) (lv' := [(5, .int (nI (kk + 1 + 1))), (4, .int 0), (0, .ref (a 0)), (1, .int (nI j)), (2, .int (nI k)), (3, .int (nI t))]) hx hb dX4_valueAt_82 hl (k := 5) rfl (nI_1 _) (by decide) rfl (fun ls hl => ?_)
              refine lv_goto (tgt := 54) hx hb dX4_valueAt_85 (by decide) ?_
              have LOOPz : ∀ (rz : Nat) (kz : Nat) (spz : Nat → Int64) (hkz : (rz = 0 ∧ t ≤ kz ∧ kz ≤ 13) ∨ kz + rz = t) (hbn : bring T (rowOf T j) f t = none) (H : Heap) (locs : List Loc) (ls : Array Slot), va_P G vwCl (wM a cy T 0 spz) H → va_D A (wM a cy T 0 spz) → va_S A s.heap H locs → lv_has ls 6 [(0, .ref (a 0)), (1, .int (nI j)), (2, .int (nI k)), (3, .int (nI t)), (4, .int 0), (5, .int (nI (kz + 1)))] → W p l e (headSpec wsX4_valueAt ({ frames := 3, cells := 0, slots := 0, locals := 64 } : Room)).room s m (#[.ref (a 0), .int (nI j), .int (nI k), .int (nI t)] : Array Value) below meth c H locs 0 0 (MQ below (va_Qi (fun (r : Int32) (u : Nat → Int64) => (sp_valueAt T (nI j) (nI k) (nI t)).2.1 = r) (ml_B G cy A (fun (u : Nat → Int64) => (wM a cy ((sp_valueAt T (nI j) (nI k) (nI t)).2.2) ((sp_valueAt T (nI j) (nI k) (nI t)).1) u))) A) (#[.ref (a 0), .int (nI j), .int (nI k), .int (nI t)] : Array Value) s 0 0 A) (F0 m 54 ls []) := by
                intro rz
                induction rz with
                | zero =>
                  intro kz spz hkz hbn H locs ls hP hD hS hl
                  refine lv_iload hx hb dX4_valueAt_54 (lv_at hl 5 rfl) ?_
                  refine lv_iload_n hx hb dX4_valueAt_56 rfl (lv_at hl 3 rfl) ?_
                  refine lv_icmp_gt (tgt := 88) hx hb dX4_valueAt_57 (by decide) (fun c_57 => ?_) (fun c_57 => False.elim (c_57 (nI_lt (by omega) (by omega))))
                  refine lv_aload_n hx hb dX4_valueAt_88 rfl (lv_at hl 0 rfl) ?_
                  refine va_get (D := G) (ci := 4) (v := .ref (a 5)) (C := RX4) (T := TX4) (N := 16) hx hb hts hin_X4 hown hK hP 0 rfl rfl 9 (by decide) (hts (.fieldLink RX4 22 "MigrationledgerModel" "versions" "[I") (by decide +kernel)) (fun _ h9 => h9) rfl dX4_valueAt_89 ?_
                  refine lv_iload_n hx hb dX4_valueAt_92 rfl (lv_at hl 1 rfl) ?_
                  refine ml_iald hx hb hK hP 5 0 rfl rfl (j) rfl (by omega) (Nat.le_of_ble_eq_true rfl) (nI f) ef dX4_valueAt_93 ?_
                  refine lv_istore (lv' := [(5, .int (nI f)), (0, .ref (a 0)), (1, .int (nI j)), (2, .int (nI k)), (3, .int (nI t)), (4, .int 0)]) hx hb dX4_valueAt_94 hl (by decide) rfl (fun ls hl => ?_)
                  have LOOP2z : ∀ (rz : Nat) (kz : Nat) (spz : Nat → Int64) (hkz : (rz = 0 ∧ kz ≤ t) ∨ kz = t + rz) (hkz4 : kz ≤ f) (hbn : bring T (rowOf T j) f t = none) (H : Heap) (locs : List Loc) (ls : Array Slot), va_P G vwCl (wM a cy T 0 spz) H → va_D A (wM a cy T 0 spz) → va_S A s.heap H locs → lv_has ls 6 [(0, .ref (a 0)), (1, .int (nI j)), (2, .int (nI k)), (3, .int (nI t)), (4, .int 0), (5, .int (nI kz))] → W p l e (headSpec wsX4_valueAt ({ frames := 3, cells := 0, slots := 0, locals := 64 } : Room)).room s m (#[.ref (a 0), .int (nI j), .int (nI k), .int (nI t)] : Array Value) below meth c H locs 0 0 (MQ below (va_Qi (fun (r : Int32) (u : Nat → Int64) => (sp_valueAt T (nI j) (nI k) (nI t)).2.1 = r) (ml_B G cy A (fun (u : Nat → Int64) => (wM a cy ((sp_valueAt T (nI j) (nI k) (nI t)).2.2) ((sp_valueAt T (nI j) (nI k) (nI t)).1) u))) A) (#[.ref (a 0), .int (nI j), .int (nI k), .int (nI t)] : Array Value) s 0 0 A) (F0 m 96 ls []) := by
                    intro rz
                    induction rz with
                    | zero =>
                      intro kz spz hkz hkz4 hbn H locs ls hP hD hS hl
                      refine lv_iload hx hb dX4_valueAt_96 (lv_at hl 5 rfl) ?_
                      refine lv_iload_n hx hb dX4_valueAt_98 rfl (lv_at hl 3 rfl) ?_
                      refine lv_icmp_le (tgt := 130) hx hb dX4_valueAt_99 (by decide) (fun c_99 => ?_) (fun c_99 => False.elim (c_99 ((nI_leI (by omega) (by omega)).mpr (by omega))))
                      refine lv_aload_n hx hb dX4_valueAt_130 rfl (lv_at hl 0 rfl) ?_
                      refine lv_iload hx hb dX4_valueAt_131 (lv_at hl 4 rfl) ?_
                      refine lv_if_eq (tgt := 140) hx hb dX4_valueAt_133 (by decide) (fun c_133 => ?_) (fun c_133 => False.elim (by revert c_133; decide))
                      refine lv_iconst (v := 3) hx hb dX4_valueAt_140 (by decide) ?_
                      refine ml_Vi (G := G) (As := [.int 3]) (rest := []) ⟨hx, hb, hml, hown, hts⟩ (c_X4_refused l G cy a H.size T 0 spz 3) (cwV 1 hts gX4_valueAt_X4_refused rfl rfl rfl (by decide +kernel) ⟨Nat.le_of_ble_eq_true rfl, Nat.le_of_ble_eq_true rfl⟩) (va_recv hK hP (ci := 4) (q0 := 0) rfl rfl) hP hK hD hS hN hA rfl hl.1 (Nat.le_of_ble_eq_true rfl) dX4_valueAt_141 ⟨Nat.le_of_ble_eq_true rfl, Nat.le_of_ble_eq_true rfl⟩ (fun r_141 u_141 H locs hw hP hD hS => ?_)
                      obtain rfl : r_141 = 1 := hw.trans (b2i_t (by decide))
                      have hP : va_P G vwCl (wM a cy T 3 spz) H := hP
                      have hD : va_D A (wM a cy T 3 spz) := hD
                      refine lv_if_eq (tgt := 151) hx hb dX4_valueAt_144 (by decide) (fun c_144 => False.elim (by revert c_144; decide)) (fun c_144 => ?_)
                      refine lv_iconst (v := 0) hx hb dX4_valueAt_147 (by decide) ?_
                      refine lv_goto (tgt := 158) hx hb dX4_valueAt_148 (by decide) ?_
                      exact ml_ri spz hx hb hr hlocks hP hK hD hS (by rw [(show sp_valueAt T (nI j) (nI k) (nI t) = (3, 0, T) from by unfold sp_valueAt; rw [cif_f (not_not_intro ⟨h31.2.1, c_7, c_19⟩), ix_n (j := j) (by omega), cif_f v31, ef, ix_n (j := f) (by omega), ix_n (j := t) (by omega), hbn] <;> rfl)]) (by rw [(show sp_valueAt T (nI j) (nI k) (nI t) = (3, 0, T) from by unfold sp_valueAt; rw [cif_f (not_not_intro ⟨h31.2.1, c_7, c_19⟩), ix_n (j := j) (by omega), cif_f v31, ef, ix_n (j := f) (by omega), ix_n (j := t) (by omega), hbn] <;> rfl)]) dX4_valueAt_158
                    | succ rz ih =>
                      intro kz spz hkz hkz4 hbn H locs ls hP hD hS hl
                      refine lv_iload hx hb dX4_valueAt_96 (lv_at hl 5 rfl) ?_
                      refine lv_iload_n hx hb dX4_valueAt_98 rfl (lv_at hl 3 rfl) ?_
                      refine lv_icmp_le (tgt := 130) hx hb dX4_valueAt_99 (by decide) (fun c_99 => False.elim (absurd ((nI_leI (by omega) (by omega)).mp c_99) (by omega))) (fun c_99 => ?_)
                      obtain ⟨kz, rfl⟩ : ∃ k9, kz = k9 + 1 := ⟨kz - 1, by omega⟩
                      refine lv_iload hx hb dX4_valueAt_102 (lv_at hl 4 rfl) ?_
                      refine lv_if_eq (tgt := 121) hx hb dX4_valueAt_104 (by decide) (fun c_104 => ?_) (fun c_104 => False.elim (by revert c_104; decide))
                      refine lv_iconst (v := 0) hx hb dX4_valueAt_121 (by decide) ?_
                      refine lv_istore (lv' := [(4, .int 0), (0, .ref (a 0)), (1, .int (nI j)), (2, .int (nI k)), (3, .int (nI t)), (5, .int (nI (kz + 1)))]) hx hb dX4_valueAt_122 hl (by decide) rfl (fun ls hl => ?_)
                      refine lv_iinc (v := nI kz) (lv' := [(5, .int (nI kz)), (4, .int 0), (0, .ref (a 0)), (1, .int (nI j)), (2, .int (nI k)), (3, .int (nI t))]) hx hb dX4_valueAt_124 hl (k := 5) rfl (pk_m1 _) (by decide) rfl (fun ls hl => ?_)
                      refine lv_goto (tgt := 96) hx hb dX4_valueAt_127 (by decide) ?_
                      exact ih kz _ (by omega) (by omega) hbn _ _ _ hP hD hS (lv_sub hl [2, 3, 4, 5, 1, 0] rfl)
                  exact LOOP2z (f - t) f _ (by omega) (by omega) hbn _ _ _ hP hD hS (lv_sub hl [1, 2, 3, 4, 5, 0] rfl)
                | succ rz ih =>
                  intro kz spz hkz hbn H locs ls hP hD hS hl
                  refine lv_iload hx hb dX4_valueAt_54 (lv_at hl 5 rfl) ?_
                  refine lv_iload_n hx hb dX4_valueAt_56 rfl (lv_at hl 3 rfl) ?_
                  refine lv_icmp_gt (tgt := 88) hx hb dX4_valueAt_57 (by decide) (fun c_57 => False.elim (nI_nlt (by omega) (by omega) c_57)) (fun c_57 => ?_)
                  refine lv_iload hx hb dX4_valueAt_60 (lv_at hl 4 rfl) ?_
                  refine lv_if_eq (tgt := 79) hx hb dX4_valueAt_62 (by decide) (fun c_62 => ?_) (fun c_62 => False.elim (by revert c_62; decide))
                  refine lv_iconst (v := 0) hx hb dX4_valueAt_79 (by decide) ?_
                  refine lv_istore (lv' := [(4, .int 0), (0, .ref (a 0)), (1, .int (nI j)), (2, .int (nI k)), (3, .int (nI t)), (5, .int (nI (kz + 1)))]) hx hb dX4_valueAt_80 hl (by decide) rfl (fun ls hl => ?_)
                  refine lv_iinc (v := nI (kz + 1 + 1)) (lv' := [(5, .int (nI (kz + 1 + 1))), (4, .int 0), (0, .ref (a 0)), (1, .int (nI j)), (2, .int (nI k)), (3, .int (nI t))]) hx hb dX4_valueAt_82 hl (k := 5) rfl (nI_1 _) (by decide) rfl (fun ls hl => ?_)
                  refine lv_goto (tgt := 54) hx hb dX4_valueAt_85 (by decide) ?_
                  exact ih (kz + 1) _ (by omega) hbn _ _ _ hP hD hS (lv_sub hl [2, 3, 4, 5, 1, 0] rfl)
              exact LOOPz (t - (kk + 1)) (kk + 1) _ (by omega) hbn _ _ _ hP hD hS (lv_sub hl [2, 3, 4, 5, 1, 0] rfl)
            · obtain ⟨row4, e4⟩ := is_s c_72
              refine lv_iconst (v := 1) hx hb dX4_valueAt_75 (by decide) ?_
              refine lv_goto (tgt := 80) hx hb dX4_valueAt_76 (by decide) ?_
              refine lv_istore (lv' := [(4, .int 1), (0, .ref (a 0)), (1, .int (nI j)), (2, .int (nI k)), (3, .int (nI t)), (5, .int (nI (kk + 1)))]) hx hb dX4_valueAt_80 hl (by decide) rfl (fun ls hl => ?_)
              refine lv_iinc (v := nI (kk + 1 + 1)) (lv' := [(5, .int (nI (kk + 1 + 1))), (4, .int 1), (0, .ref (a 0)), (1, .int (nI j)), (2, .int (nI k)), (3, .int (nI t))]) hx hb dX4_valueAt_82 hl (k := 5) rfl (nI_1 _) (by decide) rfl (fun ls hl => ?_)
              refine lv_goto (tgt := 54) hx hb dX4_valueAt_85 (by decide) ?_
              exact ih (kk + 1) u_69 row4 (by omega) (hw2_69 row4 e4) (ap_okV (hoks _ (by omega) (by omega)) hv2 e4) ((brU_s e4).symm.trans hg) _ _ _ hP hD hS (lv_sub hl [2, 3, 4, 5, 1, 0] rfl)
        exact LOOP (t - f) f _ (rowOf T j) (by omega) tkSp (fun q hq => hX _ (by omega)) rfl _ _ _ hP hD hS (lv_sub hl [2, 3, 4, 5, 1, 0] rfl)
      · refine lv_iconst (v := 0) hx hb dX4_valueAt_34 (by decide) ?_
        exact ml_ri sp hx hb hr hlocks hP hK hD hS (by rw [(show sp_valueAt T i x y = (cdN T True i, 0, T) from nr_lem ⟨fun n q => n ⟨q.2, c_7, c_19⟩, fun n q => n ⟨trivial, q.1⟩⟩ c_31)]) (by rw [(show sp_valueAt T i x y = (cdN T True i, 0, T) from nr_lem ⟨fun n q => n ⟨q.2, c_7, c_19⟩, fun n q => n ⟨trivial, q.1⟩⟩ c_31)]) dX4_valueAt_35
set_option maxHeartbeats 4000000 in
set_option maxRecDepth 100000 in
theorem c_X4_share (l : Launch) (G : va_G) (cy : Nat → ClassId) (a : Nat → Nat) (sz : Nat) (T : TS) (rf : Int32) (sp : Nat → Int64) (hI : Inv T) : Met l yX4_share wsX4_share ({ frames := 1, cells := 0, slots := 0, locals := 21 } : Room) (ml_P G cy [.ref (a 0)] (wM a cy T rf sp) sz) (va_Qf (fun (r : UInt32) (_ : Unit) => (sp_share T).2 = r) (ml_B G cy (va_A (wM a cy T rf sp) sz) (fun (_ : Unit) => (wM a cy T ((sp_share T).1) sp))) (va_A (wM a cy T rf sp) sz)) 0 0 (va_A (wM a cy T rf sp) sz) := by
  refine Met.ofW (cc := cX4_share) (maxL := 4) (ret := (some .float)) (by decide) rfl ?_
  intro p e s m args below meth c s₁ B hml hv
  obtain ⟨rfl, hsz, hP, hK, hD0, hN⟩ := hv
  have hx := B.exec
  have hb := B.bytes
  have hr := B.returns
  have hts := atoms_spec (ws := wsX4_share) B.pre
  have hown : s.vm.findClass RX4 = some m.cls := findClass_of_methodNamed B.named
  have hlocks := B.notSynchronized
  subst hsz
  have hD := hD0.self (sz := s.heap.size)
  generalize hAe : va_A (wM a cy T rf sp) s.heap.size = A at hD ⊢
  have hA : ∀ q : Nat, s.heap.size ≤ q → A q := fun q h => by rw [← hAe]; exact Or.inr h
  have hS : va_S A s.heap s.heap [] := va_S.rf
  have hP : va_P G vwCl (wM a cy T rf sp) s.heap := hP
  have hin_X4 : ∀ w ∈ wsX40, w ∈ wsX4_share := by decide +kernel
  have hl := lv_entry ([.ref (a 0)]) (n := 4) (Nat.le_of_ble_eq_true rfl)
  rw [lg_entry_eq]
  generalize (lg_sl ([.ref (a 0)]) ++ List.replicate (4 - (lg_sl ([.ref (a 0)])).length) Slot.unset).toArray = ls at hl ⊢
  have hl : lv_has ls 4 [(0, .ref (a 0))] := hl
  have hn12 : tn T ≤ 12 := hI.1.1
  have hlvn : tlv T ≤ tn T := hI.1.2.1
  refine lv_iconst (v := 0) hx hb dX4_share_0 (by decide) ?_
  refine lv_istore_n (lv' := [(1, .int 0), (0, .ref (a 0))]) hx hb dX4_share_1 rfl hl (by decide) rfl (fun ls hl => ?_)
  refine lv_iconst (v := 0) hx hb dX4_share_2 (by decide) ?_
  refine lv_istore_n (lv' := [(2, .int 0), (1, .int 0), (0, .ref (a 0))]) hx hb dX4_share_3 rfl hl (by decide) rfl (fun ls hl => ?_)
  refine lv_iconst (v := 0) hx hb dX4_share_4 (by decide) ?_
  refine lv_istore_n (lv' := [(3, .int 0), (2, .int 0), (1, .int 0), (0, .ref (a 0))]) hx hb dX4_share_5 rfl hl (by decide) rfl (fun ls hl => ?_)
  have LOOP : ∀ (r : Nat) (i w1 w2 : Nat) (hi : i + r = 40) (h1 : w1 = cntV (tV T) (fun x => x ≠ -1) i) (h2 : w2 = cntV (tV T) (fun x => nI (tlv T) < x) i) (H : Heap) (locs : List Loc) (ls : Array Slot), va_P G vwCl (wM a cy T rf sp) H → va_D A (wM a cy T rf sp) → va_S A s.heap H locs → lv_has ls 4 [(0, .ref (a 0)), (1, .int (nI w1)), (2, .int (nI w2)), (3, .int (nI i))] → W p l e (headSpec wsX4_share ({ frames := 1, cells := 0, slots := 0, locals := 21 } : Room)).room s m (#[.ref (a 0)] : Array Value) below meth c H locs 0 0 (MQ below (va_Qf (fun (r : UInt32) (_ : Unit) => (sp_share T).2 = r) (ml_B G cy A (fun (_ : Unit) => (wM a cy T ((sp_share T).1) sp))) A) (#[.ref (a 0)] : Array Value) s 0 0 A) (F0 m 6 ls []) := by
    intro r
    induction r with
    | zero =>
      intro i w1 w2 hi h1 h2 H locs ls hP hD hS hl
      refine lv_iload_n hx hb dX4_share_6 rfl (lv_at hl 3 rfl) ?_
      refine lv_bipush (v := 40) hx hb dX4_share_7 (by decide) ?_
      refine lv_icmp_ge (tgt := 57) hx hb dX4_share_9 (by decide) (fun c_9 => ?_) (fun c_9 => False.elim (c_9 (nI_leI (a := 40) (by decide) (by omega) |>.mpr (by omega))))
      rw [show w1 = pres T from by rw [h1, show i = 40 by omega], show w2 = hav T from by rw [h2, show i = 40 by omega]] at hl
      refine lv_aload_n hx hb dX4_share_57 rfl (lv_at hl 0 rfl) ?_
      refine lv_aload_n hx hb dX4_share_58 rfl (lv_at hl 0 rfl) ?_
      refine va_get (D := G) (ci := 4) (v := .int (tac T)) (C := RX4) (T := TX4) (N := 16) hx hb hts hin_X4 hown hK hP 0 rfl rfl 7 (by decide) (hts (.fieldLink RX4 69 "MigrationledgerModel" "active" "I") (by decide +kernel)) (fun _ h9 => h9) rfl dX4_share_59 ?_
      refine lv_if_eq (tgt := 69) hx hb dX4_share_62 (by decide) (fun c_62 => ?_) (fun c_62 => ?_)
      · refine lv_iconst (v := 1) hx hb dX4_share_69 (by decide) ?_
        refine lv_goto (tgt := 74) hx hb dX4_share_70 (by decide) ?_
        refine ml_Vi (G := G) (As := [.int 1]) (rest := []) ⟨hx, hb, hml, hown, hts⟩ (c_X4_refused l G cy a H.size T rf sp 1) (cwV 1 hts gX4_share_X4_refused rfl rfl rfl (by decide +kernel) ⟨Nat.le_of_ble_eq_true rfl, Nat.le_of_ble_eq_true rfl⟩) (va_recv hK hP (ci := 4) (q0 := 0) rfl rfl) hP hK hD hS hN hA rfl hl.1 (Nat.le_of_ble_eq_true rfl) dX4_share_74 ⟨Nat.le_of_ble_eq_true rfl, Nat.le_of_ble_eq_true rfl⟩ (fun r_74 u_74 H locs hw hP hD hS => ?_)
        obtain rfl : r_74 = 1 := hw.trans (b2i_t (by decide))
        have hP : va_P G vwCl (wM a cy T 1 sp) H := hP
        have hD : va_D A (wM a cy T 1 sp) := hD
        refine lv_if_eq (tgt := 84) hx hb dX4_share_77 (by decide) (fun c_77 => False.elim (by revert c_77; decide)) (fun c_77 => ?_)
        refine lv_fconst0 hx hb dX4_share_80 ?_
        refine lv_goto (tgt := 89) hx hb dX4_share_81 (by decide) ?_
        exact ml_rf () hx hb hr hlocks hP hK hD hS (by rw [(show sp_share T = (1, FP.fconst0) from by unfold sp_share; rw [cif_t (Or.inl c_62)] <;> rfl)]) (by rw [(show sp_share T = (1, FP.fconst0) from by unfold sp_share; rw [cif_t (Or.inl c_62)] <;> rfl)]) dX4_share_89
      · refine lv_iload_n hx hb dX4_share_65 rfl (lv_at hl 1 rfl) ?_
        refine lv_if_ne (tgt := 73) hx hb dX4_share_66 (by decide) (fun c_66 => ?_) (fun c_66 => ?_)
        · have c_66b : ¬ pres T = 0 := fun q => c_66 (by rw [q]; rfl)
          refine lv_iconst (v := 0) hx hb dX4_share_73 (by decide) ?_
          refine ml_Vi (G := G) (As := [.int 0]) (rest := []) ⟨hx, hb, hml, hown, hts⟩ (c_X4_refused l G cy a H.size T rf sp 0) (cwV 1 hts gX4_share_X4_refused rfl rfl rfl (by decide +kernel) ⟨Nat.le_of_ble_eq_true rfl, Nat.le_of_ble_eq_true rfl⟩) (va_recv hK hP (ci := 4) (q0 := 0) rfl rfl) hP hK hD hS hN hA rfl hl.1 (Nat.le_of_ble_eq_true rfl) dX4_share_74 ⟨Nat.le_of_ble_eq_true rfl, Nat.le_of_ble_eq_true rfl⟩ (fun r_74 u_74 H locs hw hP hD hS => ?_)
          obtain rfl : r_74 = 0 := hw.trans (b2i_f (by decide))
          have hP : va_P G vwCl (wM a cy T 0 sp) H := hP
          have hD : va_D A (wM a cy T 0 sp) := hD
          refine lv_if_eq (tgt := 84) hx hb dX4_share_77 (by decide) (fun c_77 => ?_) (fun c_77 => False.elim (by revert c_77; decide))
          refine lv_iload_n hx hb dX4_share_84 rfl (lv_at hl 2 rfl) ?_
          refine lv_i2f hx hb dX4_share_85 ?_
          refine lv_iload_n hx hb dX4_share_86 rfl (lv_at hl 1 rfl) ?_
          refine lv_i2f hx hb dX4_share_87 ?_
          refine lv_fdiv hx hb dX4_share_88 (sh_nn (cnt_le 40) (cnt_le 40) (Nat.pos_of_ne_zero c_66b)) ?_
          exact ml_rf () hx hb hr hlocks hP hK hD hS (by rw [(show sp_share T = (0, FP.fdiv (FP.i2f (nI (hav T))) (FP.i2f (nI (pres T)))) from by unfold sp_share; rw [cif_f (fun q => q.elim c_62 c_66b : ¬ (tac T = 0 ∨ pres T = 0))] <;> rfl)]) (by rw [(show sp_share T = (0, FP.fdiv (FP.i2f (nI (hav T))) (FP.i2f (nI (pres T)))) from by unfold sp_share; rw [cif_f (fun q => q.elim c_62 c_66b : ¬ (tac T = 0 ∨ pres T = 0))] <;> rfl)]) dX4_share_89
        · refine lv_iconst (v := 1) hx hb dX4_share_69 (by decide) ?_
          refine lv_goto (tgt := 74) hx hb dX4_share_70 (by decide) ?_
          refine ml_Vi (G := G) (As := [.int 1]) (rest := []) ⟨hx, hb, hml, hown, hts⟩ (c_X4_refused l G cy a H.size T rf sp 1) (cwV 1 hts gX4_share_X4_refused rfl rfl rfl (by decide +kernel) ⟨Nat.le_of_ble_eq_true rfl, Nat.le_of_ble_eq_true rfl⟩) (va_recv hK hP (ci := 4) (q0 := 0) rfl rfl) hP hK hD hS hN hA rfl hl.1 (Nat.le_of_ble_eq_true rfl) dX4_share_74 ⟨Nat.le_of_ble_eq_true rfl, Nat.le_of_ble_eq_true rfl⟩ (fun r_74 u_74 H locs hw hP hD hS => ?_)
          obtain rfl : r_74 = 1 := hw.trans (b2i_t (by decide))
          have hP : va_P G vwCl (wM a cy T 1 sp) H := hP
          have hD : va_D A (wM a cy T 1 sp) := hD
          refine lv_if_eq (tgt := 84) hx hb dX4_share_77 (by decide) (fun c_77 => False.elim (by revert c_77; decide)) (fun c_77 => ?_)
          refine lv_fconst0 hx hb dX4_share_80 ?_
          refine lv_goto (tgt := 89) hx hb dX4_share_81 (by decide) ?_
          exact ml_rf () hx hb hr hlocks hP hK hD hS (by rw [(show sp_share T = (1, FP.fconst0) from by unfold sp_share; rw [cif_t (Or.inr (l0_of (Nat.lt_of_le_of_lt (cnt_le 40) (by decide)) c_66))] <;> rfl)]) (by rw [(show sp_share T = (1, FP.fconst0) from by unfold sp_share; rw [cif_t (Or.inr (l0_of (Nat.lt_of_le_of_lt (cnt_le 40) (by decide)) c_66))] <;> rfl)]) dX4_share_89
    | succ r ih =>
      intro i w1 w2 hi h1 h2 H locs ls hP hD hS hl
      refine lv_iload_n hx hb dX4_share_6 rfl (lv_at hl 3 rfl) ?_
      refine lv_bipush (v := 40) hx hb dX4_share_7 (by decide) ?_
      refine lv_icmp_ge (tgt := 57) hx hb dX4_share_9 (by decide) (fun c_9 => False.elim (absurd ((nI_leI (a := 40) (by decide) (by omega)).mp c_9) (by omega))) (fun c_9 => ?_)
      refine lv_iload_n hx hb dX4_share_12 rfl (lv_at hl 1 rfl) ?_
      refine lv_aload_n hx hb dX4_share_13 rfl (lv_at hl 0 rfl) ?_
      refine va_get (D := G) (ci := 4) (v := .ref (a 5)) (C := RX4) (T := TX4) (N := 16) hx hb hts hin_X4 hown hK hP 0 rfl rfl 9 (by decide) (hts (.fieldLink RX4 22 "MigrationledgerModel" "versions" "[I") (by decide +kernel)) (fun _ h9 => h9) rfl dX4_share_14 ?_
      refine lv_iload_n hx hb dX4_share_17 rfl (lv_at hl 3 rfl) ?_
      refine ml_iald hx hb hK hP 5 0 rfl rfl (i) rfl (by omega) (Nat.le_of_ble_eq_true rfl) ((tV T) i) rfl dX4_share_18 ?_
      refine lv_iconst (v := (-1)) hx hb dX4_share_19 (by decide) ?_
      refine lv_icmp_ne (tgt := 27) hx hb dX4_share_20 (by decide) (fun c_20 => ?_) (fun c_20 => ?_)
      · refine lv_iconst (v := 1) hx hb dX4_share_27 (by decide) ?_
        refine lv_iadd hx hb dX4_share_28 ?_
        refine ml_eqi (nI (w1 + 1)) (nI_add w1 1) ?_
        refine lv_istore_n (lv' := [(1, .int (nI (w1 + 1))), (0, .ref (a 0)), (2, .int (nI w2)), (3, .int (nI i))]) hx hb dX4_share_29 rfl hl (by decide) rfl (fun ls hl => ?_)
        refine lv_iload_n hx hb dX4_share_30 rfl (lv_at hl 2 rfl) ?_
        refine lv_aload_n hx hb dX4_share_31 rfl (lv_at hl 1 rfl) ?_
        refine va_get (D := G) (ci := 4) (v := .ref (a 5)) (C := RX4) (T := TX4) (N := 16) hx hb hts hin_X4 hown hK hP 0 rfl rfl 9 (by decide) (hts (.fieldLink RX4 22 "MigrationledgerModel" "versions" "[I") (by decide +kernel)) (fun _ h9 => h9) rfl dX4_share_32 ?_
        refine lv_iload_n hx hb dX4_share_35 rfl (lv_at hl 3 rfl) ?_
        refine ml_iald hx hb hK hP 5 0 rfl rfl (i) rfl (by omega) (Nat.le_of_ble_eq_true rfl) ((tV T) i) rfl dX4_share_36 ?_
        refine lv_aload_n hx hb dX4_share_37 rfl (lv_at hl 1 rfl) ?_
        refine va_get (D := G) (ci := 4) (v := .int (nI (tlv T))) (C := RX4) (T := TX4) (N := 16) hx hb hts hin_X4 hown hK hP 0 rfl rfl 6 (by decide) (hts (.fieldLink RX4 66 "MigrationledgerModel" "level" "I") (by decide +kernel)) (fun _ h9 => h9) rfl dX4_share_38 ?_
        refine lv_icmp_le (tgt := 48) hx hb dX4_share_41 (by decide) (fun c_41 => ?_) (fun c_41 => ?_)
        · refine lv_iconst (v := 0) hx hb dX4_share_48 (by decide) ?_
          refine lv_iadd hx hb dX4_share_49 ?_
          refine ml_eqi (nI w2) (nI_add w2 0) ?_
          refine lv_istore_n (lv' := [(2, .int (nI w2)), (1, .int (nI (w1 + 1))), (0, .ref (a 0)), (3, .int (nI i))]) hx hb dX4_share_50 rfl hl (by decide) rfl (fun ls hl => ?_)
          refine lv_iinc (v := nI (i + 1)) (lv' := [(3, .int (nI (i + 1))), (2, .int (nI w2)), (1, .int (nI (w1 + 1))), (0, .ref (a 0))]) hx hb dX4_share_51 hl (k := 3) rfl (nI_1 _) (by decide) rfl (fun ls hl => ?_)
          refine lv_goto (tgt := 6) hx hb dX4_share_54 (by decide) ?_
          exact ih (i + 1) (w1 + 1) w2 (by omega) (by rw [h1]; exact (cntV_t c_20).symm) (by rw [h2]; exact (cntV_f (Int32.not_lt.mpr c_41)).symm) _ _ _ hP hD hS (lv_sub hl [3, 2, 1, 0] rfl)
        · refine lv_iconst (v := 1) hx hb dX4_share_44 (by decide) ?_
          refine lv_goto (tgt := 49) hx hb dX4_share_45 (by decide) ?_
          refine lv_iadd hx hb dX4_share_49 ?_
          refine ml_eqi (nI (w2 + 1)) (nI_add w2 1) ?_
          refine lv_istore_n (lv' := [(2, .int (nI (w2 + 1))), (1, .int (nI (w1 + 1))), (0, .ref (a 0)), (3, .int (nI i))]) hx hb dX4_share_50 rfl hl (by decide) rfl (fun ls hl => ?_)
          refine lv_iinc (v := nI (i + 1)) (lv' := [(3, .int (nI (i + 1))), (2, .int (nI (w2 + 1))), (1, .int (nI (w1 + 1))), (0, .ref (a 0))]) hx hb dX4_share_51 hl (k := 3) rfl (nI_1 _) (by decide) rfl (fun ls hl => ?_)
          refine lv_goto (tgt := 6) hx hb dX4_share_54 (by decide) ?_
          exact ih (i + 1) (w1 + 1) (w2 + 1) (by omega) (by rw [h1]; exact (cntV_t c_20).symm) (by rw [h2]; exact (cntV_t (Int32.not_le.mp c_41)).symm) _ _ _ hP hD hS (lv_sub hl [3, 2, 1, 0] rfl)
      · refine lv_iconst (v := 0) hx hb dX4_share_23 (by decide) ?_
        refine lv_goto (tgt := 28) hx hb dX4_share_24 (by decide) ?_
        refine lv_iadd hx hb dX4_share_28 ?_
        refine ml_eqi (nI w1) (nI_add w1 0) ?_
        refine lv_istore_n (lv' := [(1, .int (nI w1)), (0, .ref (a 0)), (2, .int (nI w2)), (3, .int (nI i))]) hx hb dX4_share_29 rfl hl (by decide) rfl (fun ls hl => ?_)
        refine lv_iload_n hx hb dX4_share_30 rfl (lv_at hl 2 rfl) ?_
        refine lv_aload_n hx hb dX4_share_31 rfl (lv_at hl 1 rfl) ?_
        refine va_get (D := G) (ci := 4) (v := .ref (a 5)) (C := RX4) (T := TX4) (N := 16) hx hb hts hin_X4 hown hK hP 0 rfl rfl 9 (by decide) (hts (.fieldLink RX4 22 "MigrationledgerModel" "versions" "[I") (by decide +kernel)) (fun _ h9 => h9) rfl dX4_share_32 ?_
        refine lv_iload_n hx hb dX4_share_35 rfl (lv_at hl 3 rfl) ?_
        refine ml_iald hx hb hK hP 5 0 rfl rfl (i) rfl (by omega) (Nat.le_of_ble_eq_true rfl) ((tV T) i) rfl dX4_share_36 ?_
        refine lv_aload_n hx hb dX4_share_37 rfl (lv_at hl 1 rfl) ?_
        refine va_get (D := G) (ci := 4) (v := .int (nI (tlv T))) (C := RX4) (T := TX4) (N := 16) hx hb hts hin_X4 hown hK hP 0 rfl rfl 6 (by decide) (hts (.fieldLink RX4 66 "MigrationledgerModel" "level" "I") (by decide +kernel)) (fun _ h9 => h9) rfl dX4_share_38 ?_
        refine lv_icmp_le (tgt := 48) hx hb dX4_share_41 (by decide) (fun c_41 => ?_) (fun c_41 => ?_)
        · refine lv_iconst (v := 0) hx hb dX4_share_48 (by decide) ?_
          refine lv_iadd hx hb dX4_share_49 ?_
          refine ml_eqi (nI w2) (nI_add w2 0) ?_
          refine lv_istore_n (lv' := [(2, .int (nI w2)), (1, .int (nI w1)), (0, .ref (a 0)), (3, .int (nI i))]) hx hb dX4_share_50 rfl hl (by decide) rfl (fun ls hl => ?_)
          refine lv_iinc (v := nI (i + 1)) (lv' := [(3, .int (nI (i + 1))), (2, .int (nI w2)), (1, .int (nI w1)), (0, .ref (a 0))]) hx hb dX4_share_51 hl (k := 3) rfl (nI_1 _) (by decide) rfl (fun ls hl => ?_)
          refine lv_goto (tgt := 6) hx hb dX4_share_54 (by decide) ?_
          exact ih (i + 1) w1 w2 (by omega) (by rw [h1]; exact (cntV_f (not_not_intro c_20)).symm) (by rw [h2]; exact (cntV_f (Int32.not_lt.mpr c_41)).symm) _ _ _ hP hD hS (lv_sub hl [3, 2, 1, 0] rfl)
        · refine lv_iconst (v := 1) hx hb dX4_share_44 (by decide) ?_
          refine lv_goto (tgt := 49) hx hb dX4_share_45 (by decide) ?_
          refine lv_iadd hx hb dX4_share_49 ?_
          refine ml_eqi (nI (w2 + 1)) (nI_add w2 1) ?_
          refine lv_istore_n (lv' := [(2, .int (nI (w2 + 1))), (1, .int (nI w1)), (0, .ref (a 0)), (3, .int (nI i))]) hx hb dX4_share_50 rfl hl (by decide) rfl (fun ls hl => ?_)
          refine lv_iinc (v := nI (i + 1)) (lv' := [(3, .int (nI (i + 1))), (2, .int (nI (w2 + 1))), (1, .int (nI w1)), (0, .ref (a 0))]) hx hb dX4_share_51 hl (k := 3) rfl (nI_1 _) (by decide) rfl (fun ls hl => ?_)
          refine lv_goto (tgt := 6) hx hb dX4_share_54 (by decide) ?_
          exact ih (i + 1) w1 (w2 + 1) (by omega) (by rw [h1]; exact (cntV_f (not_not_intro c_20)).symm) (by rw [h2]; exact (cntV_t (Int32.not_le.mp c_41)).symm) _ _ _ hP hD hS (lv_sub hl [3, 2, 1, 0] rfl)
  exact LOOP 40 0 0 0 (by omega) rfl rfl _ _ _ hP hD hS (lv_sub hl [3, 2, 1, 0] rfl)
