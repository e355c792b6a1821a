set_option maxHeartbeats 4000000 in
set_option maxRecDepth 100000 in
theorem c_X4_step (l : Launch) (G : va_G) (cy : Nat → ClassId) (a : Nat → Nat) (sz : Nat) (T : TS) (rf : Int32) (sp : Nat → Int64) (x : Int32) (y : Int32) (z : Int32) (hI : Inv T) : Met l yX4_step wsX4_step ({ frames := 3, cells := 0, slots := 0, locals := 62 } : Room) (ml_P G cy [.ref (a 0), .int x, .int y, .int z] (wM a cy T rf sp) sz) (va_Qi (fun (r : Int32) (u : Nat → Int64) => (sp_step T x y z).2.1 = r) (ml_B G cy (va_A (wM a cy T rf sp) sz) (fun (u : Nat → Int64) => (wM a cy ((sp_step T x y z).2.2) ((sp_step T x y z).1) u))) (va_A (wM a cy T rf sp) sz)) 0 0 (va_A (wM a cy T rf sp) sz) := by
  refine Met.ofW (cc := cX4_step) (maxL := 15) (ret := (some .int)) (by decide) rfl ?_
  intro p e s m args below meth c s₁ B hml hv
  obtain ⟨rfl, hsz, hP, hK, hD0, hN⟩ := hv
  have hx := B.exec
  have hb := B.bytes
  have hr := B.returns
  have hts := atoms_spec (ws := wsX4_step) B.pre
  have hown : s.vm.findClass RX4 = some m.cls := findClass_of_methodNamed B.named
  have hlocks := B.notSynchronized
  subst hsz
  have hD := hD0.self (sz := s.heap.size)
  generalize hAe : va_A (wM a cy T rf sp) s.heap.size = A at hD ⊢
  have hA : ∀ q : Nat, s.heap.size ≤ q → A q := fun q h => by rw [← hAe]; exact Or.inr h
  have hS : va_S A s.heap s.heap [] := va_S.rf
  have hP : va_P G vwCl (wM a cy T rf sp) s.heap := hP
  have hin_X4 : ∀ w ∈ wsX40, w ∈ wsX4_step := by decide +kernel
  have hl := lv_entry ([.ref (a 0), .int x, .int y, .int z]) (n := 15) (Nat.le_of_ble_eq_true rfl)
  rw [lg_entry_eq]
  generalize (lg_sl ([.ref (a 0), .int x, .int y, .int z]) ++ List.replicate (15 - (lg_sl ([.ref (a 0), .int x, .int y, .int z])).length) Slot.unset).toArray = ls at hl ⊢
  have hl : lv_has ls 15 [(0, .ref (a 0)), (1, .int x), (2, .int y), (3, .int z)] := hl
  have hn12 : tn T ≤ 12 := hI.1.1
  have hlvn : tlv T ≤ tn T := hI.1.2.1
  have hcu : tcu T ≤ 40 := hI.1.2.2
  have hW := hI.w
  refine lv_iload_n hx hb dX4_step_0 rfl (lv_at hl 1 rfl) ?_
  refine ml_Si (G := G) (As := [.int x]) (rest := []) ⟨hx, hb, hml, hown, hts⟩ (c_X4_isWorker l G cy a s.heap.size T rf sp x) (va_cwS 1 hts gX4_step_X4_isWorker rfl rfl rfl (by decide +kernel) ⟨Nat.le_of_ble_eq_true rfl, Nat.le_of_ble_eq_true rfl⟩) hP hK hD hS hN hA rfl hl.1 (Nat.le_of_ble_eq_true rfl) dX4_step_1 ⟨Nat.le_of_ble_eq_true rfl, Nat.le_of_ble_eq_true rfl⟩ (fun r_1 u_1 H locs hw hP hD hS => ?_)
  obtain rfl : r_1 = b2i (inR x 0 3) := hw
  have hP : va_P G vwCl (wM a cy T rf sp) H := hP
  have hD : va_D A (wM a cy T rf sp) := hD
  refine ml_ifeqb (tgt := 31) hx hb dX4_step_4 (by decide) (fun c_4 => ?_) (fun c_4 => ?_)
  · refine lv_iconst (v := 0) hx hb dX4_step_31 (by decide) ?_
    refine lv_istore (lv' := [(4, .int 0), (0, .ref (a 0)), (1, .int x), (2, .int y), (3, .int z)]) hx hb dX4_step_32 hl (by decide) rfl (fun ls hl => ?_)
    refine lv_aload_n hx hb dX4_step_34 rfl (lv_at hl 1 rfl) ?_
    refine lv_iload hx hb dX4_step_35 (lv_at hl 0 rfl) ?_
    refine lv_if_ne (tgt := 44) hx hb dX4_step_37 (by decide) (fun c_37 => False.elim (by revert c_37; decide)) (fun c_37 => ?_)
    refine lv_iconst (v := 1) hx hb dX4_step_40 (by decide) ?_
    refine lv_goto (tgt := 64) hx hb dX4_step_41 (by decide) ?_
    refine ml_Vi (G := G) (As := [.int 1]) (rest := []) ⟨hx, hb, hml, hown, hts⟩ (c_X4_refused l G cy a H.size T rf sp 1) (cwV 1 hts gX4_step_X4_refused rfl rfl rfl (by decide +kernel) ⟨Nat.le_of_ble_eq_true rfl, Nat.le_of_ble_eq_true rfl⟩) (va_recv hK hP (ci := 4) (q0 := 0) rfl rfl) hP hK hD hS hN hA rfl hl.1 (Nat.le_of_ble_eq_true rfl) dX4_step_64 ⟨Nat.le_of_ble_eq_true rfl, Nat.le_of_ble_eq_true rfl⟩ (fun r_64 u_64 H locs hw hP hD hS => ?_)
    obtain rfl : r_64 = 1 := hw.trans (b2i_t (by decide))
    have hP : va_P G vwCl (wM a cy T 1 sp) H := hP
    have hD : va_D A (wM a cy T 1 sp) := hD
    refine lv_if_eq (tgt := 72) hx hb dX4_step_67 (by decide) (fun c_67 => False.elim (by revert c_67; decide)) (fun c_67 => ?_)
    refine lv_iconst (v := 0) hx hb dX4_step_70 (by decide) ?_
    exact ml_ri sp hx hb hr hlocks hP hK hD hS (by rw [(show sp_step T x y z = (1, 0, T) from by unfold sp_step; rw [cif_t (fun q => c_4 q.1 : ¬ (inR x 0 3 ∧ inR y 1 40 ∧ inR z 0 40))] <;> rfl)]) (by rw [(show sp_step T x y z = (1, 0, T) from by unfold sp_step; rw [cif_t (fun q => c_4 q.1 : ¬ (inR x 0 3 ∧ inR y 1 40 ∧ inR z 0 40))] <;> rfl)]) dX4_step_71
  · obtain ⟨j, hj, rfl⟩ := inR_n 3 (by decide) c_4
    refine lv_iload_n hx hb dX4_step_7 rfl (lv_at hl 2 rfl) ?_
    refine lv_iconst (v := 1) hx hb dX4_step_8 (by decide) ?_
    refine lv_bipush (v := 40) hx hb dX4_step_9 (by decide) ?_
    refine ml_Si (G := G) (As := [.int y, .int 1, .int 40]) (rest := []) ⟨hx, hb, hml, hown, hts⟩ (c_X4_in l G cy a H.size T rf sp y 1 40) (va_cwS 3 hts gX4_step_X4_in rfl rfl rfl (by decide +kernel) ⟨Nat.le_of_ble_eq_true rfl, Nat.le_of_ble_eq_true rfl⟩) hP hK hD hS hN hA rfl hl.1 (Nat.le_of_ble_eq_true rfl) dX4_step_11 ⟨Nat.le_of_ble_eq_true rfl, Nat.le_of_ble_eq_true rfl⟩ (fun r_11 u_11 H locs hw hP hD hS => ?_)
    obtain rfl : r_11 = b2i (inR y 1 40) := hw
    have hP : va_P G vwCl (wM a cy T rf sp) H := hP
    have hD : va_D A (wM a cy T rf sp) := hD
    refine ml_ifeqb (tgt := 31) hx hb dX4_step_14 (by decide) (fun c_14 => ?_) (fun c_14 => ?_)
    · refine lv_iconst (v := 0) hx hb dX4_step_31 (by decide) ?_
      refine lv_istore (lv' := [(4, .int 0), (0, .ref (a 0)), (1, .int (nI j)), (2, .int y), (3, .int z)]) hx hb dX4_step_32 hl (by decide) rfl (fun ls hl => ?_)
      refine lv_aload_n hx hb dX4_step_34 rfl (lv_at hl 1 rfl) ?_
      refine lv_iload hx hb dX4_step_35 (lv_at hl 0 rfl) ?_
      refine lv_if_ne (tgt := 44) hx hb dX4_step_37 (by decide) (fun c_37 => False.elim (by revert c_37; decide)) (fun c_37 => ?_)
      refine lv_iconst (v := 1) hx hb dX4_step_40 (by decide) ?_
      refine lv_goto (tgt := 64) hx hb dX4_step_41 (by decide) ?_
      refine ml_Vi (G := G) (As := [.int 1]) (rest := []) ⟨hx, hb, hml, hown, hts⟩ (c_X4_refused l G cy a H.size T rf sp 1) (cwV 1 hts gX4_step_X4_refused rfl rfl rfl (by decide +kernel) ⟨Nat.le_of_ble_eq_true rfl, Nat.le_of_ble_eq_true rfl⟩) (va_recv hK hP (ci := 4) (q0 := 0) rfl rfl) hP hK hD hS hN hA rfl hl.1 (Nat.le_of_ble_eq_true rfl) dX4_step_64 ⟨Nat.le_of_ble_eq_true rfl, Nat.le_of_ble_eq_true rfl⟩ (fun r_64 u_64 H locs hw hP hD hS => ?_)
      obtain rfl : r_64 = 1 := hw.trans (b2i_t (by decide))
      have hP : va_P G vwCl (wM a cy T 1 sp) H := hP
      have hD : va_D A (wM a cy T 1 sp) := hD
      refine lv_if_eq (tgt := 72) hx hb dX4_step_67 (by decide) (fun c_67 => False.elim (by revert c_67; decide)) (fun c_67 => ?_)
      refine lv_iconst (v := 0) hx hb dX4_step_70 (by decide) ?_
      exact ml_ri sp hx hb hr hlocks hP hK hD hS (by rw [(show sp_step T (nI j) y z = (1, 0, T) from by unfold sp_step; rw [cif_t (fun q => c_14 q.2.1 : ¬ (inR (nI j) 0 3 ∧ inR y 1 40 ∧ inR z 0 40))] <;> rfl)]) (by rw [(show sp_step T (nI j) y z = (1, 0, T) from by unfold sp_step; rw [cif_t (fun q => c_14 q.2.1 : ¬ (inR (nI j) 0 3 ∧ inR y 1 40 ∧ inR z 0 40))] <;> rfl)]) dX4_step_71
    · obtain ⟨b, hb4, rfl⟩ : ∃ b, b ≤ 40 ∧ y = nI b := nI_of2 (M := 40) (n := 40) (by decide) (fun q => absurd (Int32.lt_of_lt_of_le q (by decide : (0 : Int32) ≤ 1)) (Int32.not_lt.mpr c_14.1)) c_14.2
      refine lv_iload_n hx hb dX4_step_17 rfl (lv_at hl 3 rfl) ?_
      refine lv_iconst (v := 0) hx hb dX4_step_18 (by decide) ?_
      refine lv_bipush (v := 40) hx hb dX4_step_19 (by decide) ?_
      refine ml_Si (G := G) (As := [.int z, .int 0, .int 40]) (rest := []) ⟨hx, hb, hml, hown, hts⟩ (c_X4_in l G cy a H.size T rf sp z 0 40) (va_cwS 3 hts gX4_step_X4_in rfl rfl rfl (by decide +kernel) ⟨Nat.le_of_ble_eq_true rfl, Nat.le_of_ble_eq_true rfl⟩) hP hK hD hS hN hA rfl hl.1 (Nat.le_of_ble_eq_true rfl) dX4_step_21 ⟨Nat.le_of_ble_eq_true rfl, Nat.le_of_ble_eq_true rfl⟩ (fun r_21 u_21 H locs hw hP hD hS => ?_)
      obtain rfl : r_21 = b2i (inR z 0 40) := hw
      have hP : va_P G vwCl (wM a cy T rf sp) H := hP
      have hD : va_D A (wM a cy T rf sp) := hD
      refine ml_ifeqb (tgt := 31) hx hb dX4_step_24 (by decide) (fun c_24 => ?_) (fun c_24 => ?_)
      · refine lv_iconst (v := 0) hx hb dX4_step_31 (by decide) ?_
        refine lv_istore (lv' := [(4, .int 0), (0, .ref (a 0)), (1, .int (nI j)), (2, .int (nI b)), (3, .int z)]) hx hb dX4_step_32 hl (by decide) rfl (fun ls hl => ?_)
        refine lv_aload_n hx hb dX4_step_34 rfl (lv_at hl 1 rfl) ?_
        refine lv_iload hx hb dX4_step_35 (lv_at hl 0 rfl) ?_
        refine lv_if_ne (tgt := 44) hx hb dX4_step_37 (by decide) (fun c_37 => False.elim (by revert c_37; decide)) (fun c_37 => ?_)
        refine lv_iconst (v := 1) hx hb dX4_step_40 (by decide) ?_
        refine lv_goto (tgt := 64) hx hb dX4_step_41 (by decide) ?_
        refine ml_Vi (G := G) (As := [.int 1]) (rest := []) ⟨hx, hb, hml, hown, hts⟩ (c_X4_refused l G cy a H.size T rf sp 1) (cwV 1 hts gX4_step_X4_refused rfl rfl rfl (by decide +kernel) ⟨Nat.le_of_ble_eq_true rfl, Nat.le_of_ble_eq_true rfl⟩) (va_recv hK hP (ci := 4) (q0 := 0) rfl rfl) hP hK hD hS hN hA rfl hl.1 (Nat.le_of_ble_eq_true rfl) dX4_step_64 ⟨Nat.le_of_ble_eq_true rfl, Nat.le_of_ble_eq_true rfl⟩ (fun r_64 u_64 H locs hw hP hD hS => ?_)
        obtain rfl : r_64 = 1 := hw.trans (b2i_t (by decide))
        have hP : va_P G vwCl (wM a cy T 1 sp) H := hP
        have hD : va_D A (wM a cy T 1 sp) := hD
        refine lv_if_eq (tgt := 72) hx hb dX4_step_67 (by decide) (fun c_67 => False.elim (by revert c_67; decide)) (fun c_67 => ?_)
        refine lv_iconst (v := 0) hx hb dX4_step_70 (by decide) ?_
        exact ml_ri sp hx hb hr hlocks hP hK hD hS (by rw [(show sp_step T (nI j) (nI b) z = (1, 0, T) from by unfold sp_step; rw [cif_t (fun q => c_24 q.2.2 : ¬ (inR (nI j) 0 3 ∧ inR (nI b) 1 40 ∧ inR z 0 40))] <;> rfl)]) (by rw [(show sp_step T (nI j) (nI b) z = (1, 0, T) from by unfold sp_step; rw [cif_t (fun q => c_24 q.2.2 : ¬ (inR (nI j) 0 3 ∧ inR (nI b) 1 40 ∧ inR z 0 40))] <;> rfl)]) dX4_step_71
      · refine lv_iconst (v := 1) hx hb dX4_step_27 (by decide) ?_
        refine lv_goto (tgt := 32) hx hb dX4_step_28 (by decide) ?_
        refine lv_istore (lv' := [(4, .int 1), (0, .ref (a 0)), (1, .int (nI j)), (2, .int (nI b)), (3, .int z)]) hx hb dX4_step_32 hl (by decide) rfl (fun ls hl => ?_)
        refine lv_aload_n hx hb dX4_step_34 rfl (lv_at hl 1 rfl) ?_
        refine lv_iload hx hb dX4_step_35 (lv_at hl 0 rfl) ?_
        refine lv_if_ne (tgt := 44) hx hb dX4_step_37 (by decide) (fun c_37 => ?_) (fun c_37 => False.elim (by revert c_37; decide))
        refine lv_aload_n hx hb dX4_step_44 rfl (lv_at hl 1 rfl) ?_
        refine lv_iload_n hx hb dX4_step_45 rfl (lv_at hl 2 rfl) ?_
        refine ml_Vi (G := G) (As := [.int (nI j)]) (rest := [.ref (a 0)]) ⟨hx, hb, hml, hown, hts⟩ (c_X4_cannot l G cy a H.size T rf sp j (by omega) (hI.2.2.2.2.1 j (by omega))) (cwV 1 hts gX4_step_X4_cannot rfl rfl rfl (by decide +kernel) ⟨Nat.le_of_ble_eq_true rfl, Nat.le_of_ble_eq_true rfl⟩) (va_recv hK hP (ci := 4) (q0 := 0) rfl rfl) hP hK hD hS hN hA rfl hl.1 (Nat.le_of_ble_eq_true rfl) dX4_step_46 ⟨Nat.le_of_ble_eq_true rfl, Nat.le_of_ble_eq_true rfl⟩ (fun r_46 u_46 H locs hw hP hD hS => ?_)
        obtain rfl : r_46 = b2i (crd T (nI j) ∨ ¬ has T (nI j)) := hw
        have hP : va_P G vwCl (wM a cy T rf sp) H := hP
        have hD : va_D A (wM a cy T rf sp) := hD
        refine ml_ifneb (tgt := 59) hx hb dX4_step_49 (by decide) (fun c_49 => ?_) (fun c_49 => ?_)
        · refine lv_iconst (v := 2) hx hb dX4_step_59 (by decide) ?_
          refine lv_goto (tgt := 64) hx hb dX4_step_60 (by decide) ?_
          refine ml_Vi (G := G) (As := [.int 2]) (rest := []) ⟨hx, hb, hml, hown, hts⟩ (c_X4_refused l G cy a H.size T rf sp 2) (cwV 1 hts gX4_step_X4_refused rfl rfl rfl (by decide +kernel) ⟨Nat.le_of_ble_eq_true rfl, Nat.le_of_ble_eq_true rfl⟩) (va_recv hK hP (ci := 4) (q0 := 0) rfl rfl) hP hK hD hS hN hA rfl hl.1 (Nat.le_of_ble_eq_true rfl) dX4_step_64 ⟨Nat.le_of_ble_eq_true rfl, Nat.le_of_ble_eq_true rfl⟩ (fun r_64 u_64 H locs hw hP hD hS => ?_)
          obtain rfl : r_64 = 1 := hw.trans (b2i_t (by decide))
          have hP : va_P G vwCl (wM a cy T 2 sp) H := hP
          have hD : va_D A (wM a cy T 2 sp) := hD
          refine lv_if_eq (tgt := 72) hx hb dX4_step_67 (by decide) (fun c_67 => False.elim (by revert c_67; decide)) (fun c_67 => ?_)
          refine lv_iconst (v := 0) hx hb dX4_step_70 (by decide) ?_
          exact ml_ri sp hx hb hr hlocks hP hK hD hS (by rw [(show sp_step T (nI j) (nI b) z = (2, 0, T) from by unfold sp_step; rw [cif_f (not_not_intro ⟨c_4, c_14, c_24⟩), cif_t (Or.inl c_49)] <;> rfl)]) (by rw [(show sp_step T (nI j) (nI b) z = (2, 0, T) from by unfold sp_step; rw [cif_f (not_not_intro ⟨c_4, c_14, c_24⟩), cif_t (Or.inl c_49)] <;> rfl)]) dX4_step_71
        · refine lv_aload_n hx hb dX4_step_52 rfl (lv_at hl 1 rfl) ?_
          refine va_get (D := G) (ci := 4) (v := .int (tac T)) (C := RX4) (T := TX4) (N := 16) hx hb hts hin_X4 hown hK hP 0 rfl rfl 7 (by decide) (hts (.fieldLink RX4 69 "MigrationledgerModel" "active" "I") (by decide +kernel)) (fun _ h9 => h9) rfl dX4_step_53 ?_
          refine lv_if_ne (tgt := 63) hx hb dX4_step_56 (by decide) (fun c_56 => ?_) (fun c_56 => ?_)
          · have hu : unD T (tac T = 3) := unD_of hW c_56
            have hcr0 : tcr T j = 0 := Classical.byContradiction fun q => c_49 (Or.inl ((crd_n (by omega)).mpr q))
            refine lv_iconst (v := 0) hx hb dX4_step_63 (by decide) ?_
            refine ml_Vi (G := G) (As := [.int 0]) (rest := []) ⟨hx, hb, hml, hown, hts⟩ (c_X4_refused l G cy a H.size T rf sp 0) (cwV 1 hts gX4_step_X4_refused rfl rfl rfl (by decide +kernel) ⟨Nat.le_of_ble_eq_true rfl, Nat.le_of_ble_eq_true rfl⟩) (va_recv hK hP (ci := 4) (q0 := 0) rfl rfl) hP hK hD hS hN hA rfl hl.1 (Nat.le_of_ble_eq_true rfl) dX4_step_64 ⟨Nat.le_of_ble_eq_true rfl, Nat.le_of_ble_eq_true rfl⟩ (fun r_64 u_64 H locs hw hP hD hS => ?_)
            obtain rfl : r_64 = 0 := hw.trans (b2i_f (by decide))
            have hP : va_P G vwCl (wM a cy T 0 sp) H := hP
            have hD : va_D A (wM a cy T 0 sp) := hD
            refine lv_if_eq (tgt := 72) hx hb dX4_step_67 (by decide) (fun c_67 => ?_) (fun c_67 => False.elim (by revert c_67; decide))
            refine lv_aload_n hx hb dX4_step_72 rfl (lv_at hl 1 rfl) ?_
            refine va_get (D := G) (ci := 4) (v := .int (tac T)) (C := RX4) (T := TX4) (N := 16) hx hb hts hin_X4 hown hK hP 0 rfl rfl 7 (by decide) (hts (.fieldLink RX4 69 "MigrationledgerModel" "active" "I") (by decide +kernel)) (fun _ h9 => h9) rfl dX4_step_73 ?_
            refine lv_iconst (v := 3) hx hb dX4_step_76 (by decide) ?_
            refine lv_icmp_ne (tgt := 84) hx hb dX4_step_77 (by decide) (fun c_77 => ?_) (fun c_77 => ?_)
            · refine lv_iconst (v := 0) hx hb dX4_step_84 (by decide) ?_
              refine lv_istore (lv' := [(5, .int 0), (4, .int 1), (0, .ref (a 0)), (1, .int (nI j)), (2, .int (nI b)), (3, .int z)]) hx hb dX4_step_85 hl (by decide) rfl (fun ls hl => ?_)
              refine lv_aload_n hx hb dX4_step_87 rfl (lv_at hl 2 rfl) ?_
              refine va_get (D := G) (ci := 4) (v := .int (nI (tlv T))) (C := RX4) (T := TX4) (N := 16) hx hb hts hin_X4 hown hK hP 0 rfl rfl 6 (by decide) (hts (.fieldLink RX4 66 "MigrationledgerModel" "level" "I") (by decide +kernel)) (fun _ h9 => h9) rfl dX4_step_88 ?_
              refine lv_iconst (v := 1) hx hb dX4_step_91 (by decide) ?_
              refine lv_iadd hx hb dX4_step_92 ?_
              refine ml_eqi (nI (tlv T + 1)) (nI_add (tlv T) 1) ?_
              refine lv_istore (lv' := [(6, .int (nI (tlv T + 1))), (5, .int 0), (4, .int 1), (0, .ref (a 0)), (1, .int (nI j)), (2, .int (nI b)), (3, .int z)]) hx hb dX4_step_93 hl (by decide) rfl (fun ls hl => ?_)
              refine lv_iconst (v := 0) hx hb dX4_step_95 (by decide) ?_
              refine lv_istore (lv' := [(7, .int 0), (6, .int (nI (tlv T + 1))), (5, .int 0), (4, .int 1), (0, .ref (a 0)), (1, .int (nI j)), (2, .int (nI b)), (3, .int z)]) hx hb dX4_step_96 hl (by decide) rfl (fun ls hl => ?_)
              refine lv_iconst (v := 1) hx hb dX4_step_98 (by decide) ?_
              refine lv_istore (lv' := [(8, .int 1), (7, .int 0), (6, .int (nI (tlv T + 1))), (5, .int 0), (4, .int 1), (0, .ref (a 0)), (1, .int (nI j)), (2, .int (nI b)), (3, .int z)]) hx hb dX4_step_99 hl (by decide) rfl (fun ls hl => ?_)
              refine lv_iconst (v := 0) hx hb dX4_step_101 (by decide) ?_
              refine lv_istore (lv' := [(9, .int 0), (8, .int 1), (7, .int 0), (6, .int (nI (tlv T + 1))), (5, .int 0), (4, .int 1), (0, .ref (a 0)), (1, .int (nI j)), (2, .int (nI b)), (3, .int z)]) hx hb dX4_step_102 hl (by decide) rfl (fun ls hl => ?_)
              refine lv_aload_n hx hb dX4_step_104 rfl (lv_at hl 6 rfl) ?_
              refine va_get (D := G) (ci := 4) (v := .int (nI (tcu T))) (C := RX4) (T := TX4) (N := 16) hx hb hts hin_X4 hown hK hP 0 rfl rfl 8 (by decide) (hts (.fieldLink RX4 93 "MigrationledgerModel" "cursor" "I") (by decide +kernel)) (fun _ h9 => h9) rfl dX4_step_105 ?_
              refine lv_istore (lv' := [(10, .int (nI (tcu T))), (9, .int 0), (8, .int 1), (7, .int 0), (6, .int (nI (tlv T + 1))), (5, .int 0), (4, .int 1), (0, .ref (a 0)), (1, .int (nI j)), (2, .int (nI b)), (3, .int z)]) hx hb dX4_step_108 hl (by decide) rfl (fun ls hl => ?_)
              refine lv_iconst (v := 0) hx hb dX4_step_110 (by decide) ?_
              refine lv_istore (lv' := [(11, .int 0), (10, .int (nI (tcu T))), (9, .int 0), (8, .int 1), (7, .int 0), (6, .int (nI (tlv T + 1))), (5, .int 0), (4, .int 1), (0, .ref (a 0)), (1, .int (nI j)), (2, .int (nI b)), (3, .int z)]) hx hb dX4_step_111 hl (by decide) rfl (fun ls hl => ?_)
              have LOOP : ∀ (r : Nat) (kk ch p9 : Nat) (T1 : TS) (sp1 : Nat → Int64) (hk9 : kk + r = min b (left T (tac T = 3))) (hp9 : p9 = poB T1 (tac T = 3) kk) (hg : sgo (tac T = 3) z r kk ch T1 = sgo (tac T = 3) z (min b (left T (tac T = 3))) 0 0 T) (hI1 : InvW T1) (hkp : keepR T T1) (H : Heap) (locs : List Loc) (ls : Array Slot), va_P G vwCl (wM a cy T1 0 sp1) H → va_D A (wM a cy T1 0 sp1) → va_S A s.heap H locs → lv_has ls 15 [(0, .ref (a 0)), (1, .int (nI j)), (2, .int (nI b)), (3, .int z), (4, .int 1), (5, .int 0), (6, .int (nI (tlv T + 1))), (7, .int (nI ch)), (8, .int 1), (9, .int 0), (10, .int (nI p9)), (11, .int (nI kk))] → W p l e (headSpec wsX4_step ({ frames := 3, cells := 0, slots := 0, locals := 62 } : Room)).room s m (#[.ref (a 0), .int (nI j), .int (nI b), .int z] : Array Value) below meth c H locs 0 0 (MQ below (va_Qi (fun (r : Int32) (u : Nat → Int64) => (sp_step T (nI j) (nI b) z).2.1 = r) (ml_B G cy A (fun (u : Nat → Int64) => (wM a cy ((sp_step T (nI j) (nI b) z).2.2) ((sp_step T (nI j) (nI b) z).1) u))) A) (#[.ref (a 0), .int (nI j), .int (nI b), .int z] : Array Value) s 0 0 A) (F0 m 113 ls []) := by
                intro r
                induction r with
                | zero =>
                  intro kk ch p9 T1 sp1 hk9 hp9 hg hI1 hkp H locs ls hP hD hS hl
                  have hu1 : unD T1 (tac T = 3) := unD_cg hkp.1 hu
                  have hcu1 : tcu T1 ≤ 40 := hI1.1.2.2
                  have hl1 : left T1 (tac T = 3) = left T (tac T = 3) := left_cg hkp.2.1
                  have hcr1 : tcr T1 j = 0 := by rw [hkp.2.2.2]; exact hcr0
                  have hout := poB_out (T := T1) (und := tac T = 3) hcu1
                  have hp40 : p9 ≤ 40 := by rw [hp9]; exact (poB_le hcu1 (by rw [hl1]; omega)).1
                  have hend : ((tac T = 3) → kk < b → p9 = 0) ∧ (¬ (tac T = 3) → kk < b → p9 = 40) := by
                    refine ⟨fun q hb9 => ?_, fun q hb9 => ?_⟩
                    · rw [hp9, show kk = left T1 (tac T = 3) by rw [hl1]; omega]; exact hout.1 q
                    · rw [hp9, show kk = left T1 (tac T = 3) by rw [hl1]; omega]; exact hout.2 q
                  refine lv_iload hx hb dX4_step_113 (lv_at hl 11 rfl) ?_
                  refine lv_iload_n hx hb dX4_step_115 rfl (lv_at hl 2 rfl) ?_
                  refine lv_icmp_ge (tgt := 369) hx hb dX4_step_116 (by decide) (fun c_116 => ?_) (fun c_116 => ?_)
                  · refine lv_aload_n hx hb dX4_step_369 rfl (lv_at hl 0 rfl) ?_
                    refine va_get (D := G) (ci := 4) (v := .ref (a 8)) (C := RX4) (T := TX4) (N := 16) hx hb hts hin_X4 hown hK hP 0 rfl rfl 15 (by decide) (hts (.fieldLink RX4 36 "MigrationledgerModel" "hasCrashed" "[Z") (by decide +kernel)) (fun _ h9 => h9) rfl dX4_step_370 ?_
                    refine lv_iload_n hx hb dX4_step_373 rfl (lv_at hl 1 rfl) ?_
                    refine ml_zald hx hb hK hP 8 2 rfl rfl (j) rfl (by omega) (Nat.le_of_ble_eq_true rfl) (0) hcr1 dX4_step_374 ?_
                    refine lv_if_ne (tgt := 433) hx hb dX4_step_375 (by decide) (fun c_375 => False.elim (by revert c_375; decide)) (fun c_375 => ?_)
                    refine lv_aload_n hx hb dX4_step_378 rfl (lv_at hl 0 rfl) ?_
                    refine lv_iload hx hb dX4_step_379 (lv_at hl 10 rfl) ?_
                    refine va_put (D := G) (ci := 4) (v := .int (nI p9)) (ty := .int) (C := RX4) (T := TX4) (N := 16) hx hb hts hin_X4 tyX4 tyX4_ok nmX4 hown hK hP hD hS 0 rfl rfl 8 (by decide) (hts (.fieldLink RX4 93 "MigrationledgerModel" "cursor" "I") (by decide +kernel)) (fun _ h9 => h9) rfl (by decide +kernel) rfl rfl (Nat.le_of_ble_eq_true rfl) dX4_step_381 (fun H locs hP hD hS => ?_)
                    have hP : va_P G vwCl (wM a cy (ucu T1 p9) 0 sp1) H := hP
                    have hD : va_D A (wM a cy (ucu T1 p9) 0 sp1) := hD
                    refine lv_iload hx hb dX4_step_384 (lv_at hl 5 rfl) ?_
                    refine lv_if_ne (tgt := 416) hx hb dX4_step_386 (by decide) (fun c_386 => False.elim (by revert c_386; decide)) (fun c_386 => ?_)
                    refine lv_aload_n hx hb dX4_step_389 rfl (lv_at hl 0 rfl) ?_
                    refine va_get (D := G) (ci := 4) (v := .int (nI p9)) (C := RX4) (T := TX4) (N := 16) hx hb hts hin_X4 hown hK hP 0 rfl rfl 8 (by decide) (hts (.fieldLink RX4 93 "MigrationledgerModel" "cursor" "I") (by decide +kernel)) (fun _ h9 => h9) rfl dX4_step_390 ?_
                    refine lv_bipush (v := 40) hx hb dX4_step_393 (by decide) ?_
                    refine lv_icmp_ne (tgt := 416) hx hb dX4_step_395 (by decide) (fun c_395 => ?_) (fun c_395 => ?_)
                    · refine lv_iload hx hb dX4_step_416 (lv_at hl 5 rfl) ?_
                      refine lv_if_eq (tgt := 433) hx hb dX4_step_418 (by decide) (fun c_418 => ?_) (fun c_418 => False.elim (by revert c_418; decide))
                      refine lv_iload hx hb dX4_step_433 (lv_at hl 7 rfl) ?_
                      refine lv_iload hx hb dX4_step_435 (lv_at hl 9 rfl) ?_
                      refine lv_if_eq (tgt := 445) hx hb dX4_step_437 (by decide) (fun c_437 => ?_) (fun c_437 => False.elim (by revert c_437; decide))
                      refine lv_iconst (v := 0) hx hb dX4_step_445 (by decide) ?_
                      refine lv_isub hx hb dX4_step_446 ?_
                      refine ml_eqi (nI ch) (pk_sub (b := 0) (Nat.zero_le _)) ?_
                      exact ml_ri sp1 hx hb hr hlocks hP hK hD hS (by rw [(show sp_step T (nI j) (nI b) z = (0, nI ch, ucu T1 p9) from by unfold sp_step; rw [cif_f (not_not_intro ⟨c_4, c_14, c_24⟩), cif_f (fun q => q.elim c_49 c_56 : ¬ ((crd T (nI j) ∨ ¬ has T (nI j)) ∨ tac T = 0)), ix_n (j := j) (by omega), ix_n (j := b) (by omega), ← hg, show sgo (tac T = 3) z 0 kk ch T1 = (0, kk, ch, T1) from rfl, stR_0, ← hp9, fin_e4 c_77 (fun q => c_395 ((nI_40 (by omega)).mpr q))] <;> rfl)]) (by rw [(show sp_step T (nI j) (nI b) z = (0, nI ch, ucu T1 p9) from by unfold sp_step; rw [cif_f (not_not_intro ⟨c_4, c_14, c_24⟩), cif_f (fun q => q.elim c_49 c_56 : ¬ ((crd T (nI j) ∨ ¬ has T (nI j)) ∨ tac T = 0)), ix_n (j := j) (by omega), ix_n (j := b) (by omega), ← hg, show sgo (tac T = 3) z 0 kk ch T1 = (0, kk, ch, T1) from rfl, stR_0, ← hp9, fin_e4 c_77 (fun q => c_395 ((nI_40 (by omega)).mpr q))] <;> rfl)]) dX4_step_447
                    · refine lv_aload_n hx hb dX4_step_398 rfl (lv_at hl 0 rfl) ?_
                      refine lv_dup hx hb dX4_step_399 rfl ?_
                      refine va_get (D := G) (ci := 4) (v := .int (nI (tlv T1))) (C := RX4) (T := TX4) (N := 16) hx hb hts hin_X4 hown hK hP 0 rfl rfl 6 (by decide) (hts (.fieldLink RX4 66 "MigrationledgerModel" "level" "I") (by decide +kernel)) (fun _ h9 => h9) rfl dX4_step_400 ?_
                      refine lv_iconst (v := 1) hx hb dX4_step_403 (by decide) ?_
                      refine lv_iadd hx hb dX4_step_404 ?_
                      refine ml_eqi (nI (tlv T1 + 1)) (nI_add (tlv T1) 1) ?_
                      refine va_put (D := G) (ci := 4) (v := .int (nI (tlv T1 + 1))) (ty := .int) (C := RX4) (T := TX4) (N := 16) hx hb hts hin_X4 tyX4 tyX4_ok nmX4 hown hK hP hD hS 0 rfl rfl 6 (by decide) (hts (.fieldLink RX4 66 "MigrationledgerModel" "level" "I") (by decide +kernel)) (fun _ h9 => h9) rfl (by decide +kernel) rfl rfl (Nat.le_of_ble_eq_true rfl) dX4_step_405 (fun H locs hP hD hS => ?_)
                      have hP : va_P G vwCl (wM a cy (ulv (ucu T1 p9) (tlv T1 + 1)) 0 sp1) H := hP
                      have hD : va_D A (wM a cy (ulv (ucu T1 p9) (tlv T1 + 1)) 0 sp1) := hD
                      refine lv_aload_n hx hb dX4_step_408 rfl (lv_at hl 0 rfl) ?_
                      refine lv_iconst (v := 0) hx hb dX4_step_409 (by decide) ?_
                      refine va_put (D := G) (ci := 4) (v := .int 0) (ty := .int) (C := RX4) (T := TX4) (N := 16) hx hb hts hin_X4 tyX4 tyX4_ok nmX4 hown hK hP hD hS 0 rfl rfl 7 (by decide) (hts (.fieldLink RX4 69 "MigrationledgerModel" "active" "I") (by decide +kernel)) (fun _ h9 => h9) rfl (by decide +kernel) rfl rfl (Nat.le_of_ble_eq_true rfl) dX4_step_410 (fun H locs hP hD hS => ?_)
                      have hP : va_P G vwCl (wM a cy (uac (ulv (ucu T1 p9) (tlv T1 + 1)) 0) 0 sp1) H := hP
                      have hD : va_D A (wM a cy (uac (ulv (ucu T1 p9) (tlv T1 + 1)) 0) 0 sp1) := hD
                      refine lv_goto (tgt := 433) hx hb dX4_step_413 (by decide) ?_
                      refine lv_iload hx hb dX4_step_433 (lv_at hl 7 rfl) ?_
                      refine lv_iload hx hb dX4_step_435 (lv_at hl 9 rfl) ?_
                      refine lv_if_eq (tgt := 445) hx hb dX4_step_437 (by decide) (fun c_437 => ?_) (fun c_437 => False.elim (by revert c_437; decide))
                      refine lv_iconst (v := 0) hx hb dX4_step_445 (by decide) ?_
                      refine lv_isub hx hb dX4_step_446 ?_
                      refine ml_eqi (nI ch) (pk_sub (b := 0) (Nat.zero_le _)) ?_
                      exact ml_ri sp1 hx hb hr hlocks hP hK hD hS (by rw [(show sp_step T (nI j) (nI b) z = (0, nI ch, uac (ulv (ucu T1 p9) (tlv T1 + 1)) 0) from by unfold sp_step; rw [cif_f (not_not_intro ⟨c_4, c_14, c_24⟩), cif_f (fun q => q.elim c_49 c_56 : ¬ ((crd T (nI j) ∨ ¬ has T (nI j)) ∨ tac T = 0)), ix_n (j := j) (by omega), ix_n (j := b) (by omega), ← hg, show sgo (tac T = 3) z 0 kk ch T1 = (0, kk, ch, T1) from rfl, stR_0, ← hp9, fin_e3 c_77 ((nI_40 (by omega)).mp c_395)] <;> rfl)]) (by rw [(show sp_step T (nI j) (nI b) z = (0, nI ch, uac (ulv (ucu T1 p9) (tlv T1 + 1)) 0) from by unfold sp_step; rw [cif_f (not_not_intro ⟨c_4, c_14, c_24⟩), cif_f (fun q => q.elim c_49 c_56 : ¬ ((crd T (nI j) ∨ ¬ has T (nI j)) ∨ tac T = 0)), ix_n (j := j) (by omega), ix_n (j := b) (by omega), ← hg, show sgo (tac T = 3) z 0 kk ch T1 = (0, kk, ch, T1) from rfl, stR_0, ← hp9, fin_e3 c_77 ((nI_40 (by omega)).mp c_395)] <;> rfl)]) dX4_step_447
                  · refine lv_iload hx hb dX4_step_119 (lv_at hl 8 rfl) ?_
                    refine lv_if_eq (tgt := 369) hx hb dX4_step_121 (by decide) (fun c_121 => False.elim (by revert c_121; decide)) (fun c_121 => ?_)
                    refine lv_iload hx hb dX4_step_124 (lv_at hl 5 rfl) ?_
                    refine lv_if_eq (tgt := 137) hx hb dX4_step_126 (by decide) (fun c_126 => ?_) (fun c_126 => False.elim (by revert c_126; decide))
                    refine lv_iload hx hb dX4_step_137 (lv_at hl 10 rfl) ?_
                    refine lv_bipush (v := 40) hx hb dX4_step_139 (by decide) ?_
                    refine lv_icmp_ge (tgt := 369) hx hb dX4_step_141 (by decide) (fun c_141 => ?_) (fun c_141 => False.elim (c_141 ((nI_leI (a := 40) (by decide) (by omega)).mpr (by have q := hend.2 c_77 ((Nat.lt_of_not_le fun q => c_116 ((nI_leI (by omega) (by omega)).mpr q))); omega))))
                    refine lv_aload_n hx hb dX4_step_369 rfl (lv_at hl 0 rfl) ?_
                    refine va_get (D := G) (ci := 4) (v := .ref (a 8)) (C := RX4) (T := TX4) (N := 16) hx hb hts hin_X4 hown hK hP 0 rfl rfl 15 (by decide) (hts (.fieldLink RX4 36 "MigrationledgerModel" "hasCrashed" "[Z") (by decide +kernel)) (fun _ h9 => h9) rfl dX4_step_370 ?_
                    refine lv_iload_n hx hb dX4_step_373 rfl (lv_at hl 1 rfl) ?_
                    refine ml_zald hx hb hK hP 8 2 rfl rfl (j) rfl (by omega) (Nat.le_of_ble_eq_true rfl) (0) hcr1 dX4_step_374 ?_
                    refine lv_if_ne (tgt := 433) hx hb dX4_step_375 (by decide) (fun c_375 => False.elim (by revert c_375; decide)) (fun c_375 => ?_)
                    refine lv_aload_n hx hb dX4_step_378 rfl (lv_at hl 0 rfl) ?_
                    refine lv_iload hx hb dX4_step_379 (lv_at hl 10 rfl) ?_
                    refine va_put (D := G) (ci := 4) (v := .int (nI p9)) (ty := .int) (C := RX4) (T := TX4) (N := 16) hx hb hts hin_X4 tyX4 tyX4_ok nmX4 hown hK hP hD hS 0 rfl rfl 8 (by decide) (hts (.fieldLink RX4 93 "MigrationledgerModel" "cursor" "I") (by decide +kernel)) (fun _ h9 => h9) rfl (by decide +kernel) rfl rfl (Nat.le_of_ble_eq_true rfl) dX4_step_381 (fun H locs hP hD hS => ?_)
                    have hP : va_P G vwCl (wM a cy (ucu T1 p9) 0 sp1) H := hP
                    have hD : va_D A (wM a cy (ucu T1 p9) 0 sp1) := hD
                    refine lv_iload hx hb dX4_step_384 (lv_at hl 5 rfl) ?_
                    refine lv_if_ne (tgt := 416) hx hb dX4_step_386 (by decide) (fun c_386 => False.elim (by revert c_386; decide)) (fun c_386 => ?_)
                    refine lv_aload_n hx hb dX4_step_389 rfl (lv_at hl 0 rfl) ?_
                    refine va_get (D := G) (ci := 4) (v := .int (nI p9)) (C := RX4) (T := TX4) (N := 16) hx hb hts hin_X4 hown hK hP 0 rfl rfl 8 (by decide) (hts (.fieldLink RX4 93 "MigrationledgerModel" "cursor" "I") (by decide +kernel)) (fun _ h9 => h9) rfl dX4_step_390 ?_
                    refine lv_bipush (v := 40) hx hb dX4_step_393 (by decide) ?_
                    refine lv_icmp_ne (tgt := 416) hx hb dX4_step_395 (by decide) (fun c_395 => ?_) (fun c_395 => ?_)
                    · refine lv_iload hx hb dX4_step_416 (lv_at hl 5 rfl) ?_
                      refine lv_if_eq (tgt := 433) hx hb dX4_step_418 (by decide) (fun c_418 => ?_) (fun c_418 => False.elim (by revert c_418; decide))
                      refine lv_iload hx hb dX4_step_433 (lv_at hl 7 rfl) ?_
                      refine lv_iload hx hb dX4_step_435 (lv_at hl 9 rfl) ?_
                      refine lv_if_eq (tgt := 445) hx hb dX4_step_437 (by decide) (fun c_437 => ?_) (fun c_437 => False.elim (by revert c_437; decide))
                      refine lv_iconst (v := 0) hx hb dX4_step_445 (by decide) ?_
                      refine lv_isub hx hb dX4_step_446 ?_
                      refine ml_eqi (nI ch) (pk_sub (b := 0) (Nat.zero_le _)) ?_
                      exact ml_ri sp1 hx hb hr hlocks hP hK hD hS (by rw [(show sp_step T (nI j) (nI b) z = (0, nI ch, ucu T1 p9) from by unfold sp_step; rw [cif_f (not_not_intro ⟨c_4, c_14, c_24⟩), cif_f (fun q => q.elim c_49 c_56 : ¬ ((crd T (nI j) ∨ ¬ has T (nI j)) ∨ tac T = 0)), ix_n (j := j) (by omega), ix_n (j := b) (by omega), ← hg, show sgo (tac T = 3) z 0 kk ch T1 = (0, kk, ch, T1) from rfl, stR_0, ← hp9, fin_e4 c_77 (fun q => c_395 ((nI_40 (by omega)).mpr q))] <;> rfl)]) (by rw [(show sp_step T (nI j) (nI b) z = (0, nI ch, ucu T1 p9) from by unfold sp_step; rw [cif_f (not_not_intro ⟨c_4, c_14, c_24⟩), cif_f (fun q => q.elim c_49 c_56 : ¬ ((crd T (nI j) ∨ ¬ has T (nI j)) ∨ tac T = 0)), ix_n (j := j) (by omega), ix_n (j := b) (by omega), ← hg, show sgo (tac T = 3) z 0 kk ch T1 = (0, kk, ch, T1) from rfl, stR_0, ← hp9, fin_e4 c_77 (fun q => c_395 ((nI_40 (by omega)).mpr q))] <;> rfl)]) dX4_step_447
                    · refine lv_aload_n hx hb dX4_step_398 rfl (lv_at hl 0 rfl) ?_
                      refine lv_dup hx hb dX4_step_399 rfl ?_
                      refine va_get (D := G) (ci := 4) (v := .int (nI (tlv T1))) (C := RX4) (T := TX4) (N := 16) hx hb hts hin_X4 hown hK hP 0 rfl rfl 6 (by decide) (hts (.fieldLink RX4 66 "MigrationledgerModel" "level" "I") (by decide +kernel)) (fun _ h9 => h9) rfl dX4_step_400 ?_
                      refine lv_iconst (v := 1) hx hb dX4_step_403 (by decide) ?_
                      refine lv_iadd hx hb dX4_step_404 ?_
                      refine ml_eqi (nI (tlv T1 + 1)) (nI_add (tlv T1) 1) ?_
                      refine va_put (D := G) (ci := 4) (v := .int (nI (tlv T1 + 1))) (ty := .int) (C := RX4) (T := TX4) (N := 16) hx hb hts hin_X4 tyX4 tyX4_ok nmX4 hown hK hP hD hS 0 rfl rfl 6 (by decide) (hts (.fieldLink RX4 66 "MigrationledgerModel" "level" "I") (by decide +kernel)) (fun _ h9 => h9) rfl (by decide +kernel) rfl rfl (Nat.le_of_ble_eq_true rfl) dX4_step_405 (fun H locs hP hD hS => ?_)
                      have hP : va_P G vwCl (wM a cy (ulv (ucu T1 p9) (tlv T1 + 1)) 0 sp1) H := hP
                      have hD : va_D A (wM a cy (ulv (ucu T1 p9) (tlv T1 + 1)) 0 sp1) := hD
                      refine lv_aload_n hx hb dX4_step_408 rfl (lv_at hl 0 rfl) ?_
                      refine lv_iconst (v := 0) hx hb dX4_step_409 (by decide) ?_
                      refine va_put (D := G) (ci := 4) (v := .int 0) (ty := .int) (C := RX4) (T := TX4) (N := 16) hx hb hts hin_X4 tyX4 tyX4_ok nmX4 hown hK hP hD hS 0 rfl rfl 7 (by decide) (hts (.fieldLink RX4 69 "MigrationledgerModel" "active" "I") (by decide +kernel)) (fun _ h9 => h9) rfl (by decide +kernel) rfl rfl (Nat.le_of_ble_eq_true rfl) dX4_step_410 (fun H locs hP hD hS => ?_)
                      have hP : va_P G vwCl (wM a cy (uac (ulv (ucu T1 p9) (tlv T1 + 1)) 0) 0 sp1) H := hP
                      have hD : va_D A (wM a cy (uac (ulv (ucu T1 p9) (tlv T1 + 1)) 0) 0 sp1) := hD
                      refine lv_goto (tgt := 433) hx hb dX4_step_413 (by decide) ?_
                      refine lv_iload hx hb dX4_step_433 (lv_at hl 7 rfl) ?_
                      refine lv_iload hx hb dX4_step_435 (lv_at hl 9 rfl) ?_
                      refine lv_if_eq (tgt := 445) hx hb dX4_step_437 (by decide) (fun c_437 => ?_) (fun c_437 => False.elim (by revert c_437; decide))
                      refine lv_iconst (v := 0) hx hb dX4_step_445 (by decide) ?_
                      refine lv_isub hx hb dX4_step_446 ?_
                      refine ml_eqi (nI ch) (pk_sub (b := 0) (Nat.zero_le _)) ?_
                      exact ml_ri sp1 hx hb hr hlocks hP hK hD hS (by rw [(show sp_step T (nI j) (nI b) z = (0, nI ch, uac (ulv (ucu T1 p9) (tlv T1 + 1)) 0) from by unfold sp_step; rw [cif_f (not_not_intro ⟨c_4, c_14, c_24⟩), cif_f (fun q => q.elim c_49 c_56 : ¬ ((crd T (nI j) ∨ ¬ has T (nI j)) ∨ tac T = 0)), ix_n (j := j) (by omega), ix_n (j := b) (by omega), ← hg, show sgo (tac T = 3) z 0 kk ch T1 = (0, kk, ch, T1) from rfl, stR_0, ← hp9, fin_e3 c_77 ((nI_40 (by omega)).mp c_395)] <;> rfl)]) (by rw [(show sp_step T (nI j) (nI b) z = (0, nI ch, uac (ulv (ucu T1 p9) (tlv T1 + 1)) 0) from by unfold sp_step; rw [cif_f (not_not_intro ⟨c_4, c_14, c_24⟩), cif_f (fun q => q.elim c_49 c_56 : ¬ ((crd T (nI j) ∨ ¬ has T (nI j)) ∨ tac T = 0)), ix_n (j := j) (by omega), ix_n (j := b) (by omega), ← hg, show sgo (tac T = 3) z 0 kk ch T1 = (0, kk, ch, T1) from rfl, stR_0, ← hp9, fin_e3 c_77 ((nI_40 (by omega)).mp c_395)] <;> rfl)]) dX4_step_447
                | succ r ih =>
                  intro kk ch p9 T1 sp1 hk9 hp9 hg hI1 hkp H locs ls hP hD hS hl
                  have hu1 : unD T1 (tac T = 3) := unD_cg hkp.1 hu
                  have hcu1 : tcu T1 ≤ 40 := hI1.1.2.2
                  have hl1 : left T1 (tac T = 3) = left T (tac T = 3) := left_cg hkp.2.1
                  have hcr1 : tcr T1 j = 0 := by rw [hkp.2.2.2]; exact hcr0
                  have hin0 := poB_in (T := T1) (und := tac T = 3) (k := kk) hcu1 (by rw [hl1]; omega)
                  have hin : ((tac T = 3) → 0 < p9) ∧ (¬ (tac T = 3) → p9 < 40) ∧ p9 ≤ 40 := by rw [hp9]; exact hin0
                  have hid := idB_lt (T := T1) (und := tac T = 3) (k := kk) hcu1 (by rw [hl1]; omega)
                  have hac1 : tac T1 ≠ 0 := by rw [hkp.1]; exact c_56
                  have hlv1 : tlv T1 < tn T1 := hI1.2.1.elim (fun q => absurd q hac1) (fun q => q.2)
                  have hn1 : tn T1 ≤ 12 := hI1.1.1
                  have hlvT : tlv T1 = tlv T := hkp.2.2.1
                  refine lv_iload hx hb dX4_step_113 (lv_at hl 11 rfl) ?_
                  refine lv_iload_n hx hb dX4_step_115 rfl (lv_at hl 2 rfl) ?_
                  refine lv_icmp_ge (tgt := 369) hx hb dX4_step_116 (by decide) (fun c_116 => False.elim (absurd ((nI_leI (by omega) (by omega)).mp c_116) (by omega))) (fun c_116 => ?_)
                  refine lv_iload hx hb dX4_step_119 (lv_at hl 8 rfl) ?_
                  refine lv_if_eq (tgt := 369) hx hb dX4_step_121 (by decide) (fun c_121 => False.elim (by revert c_121; decide)) (fun c_121 => ?_)
                  refine lv_iload hx hb dX4_step_124 (lv_at hl 5 rfl) ?_
                  refine lv_if_eq (tgt := 137) hx hb dX4_step_126 (by decide) (fun c_126 => ?_) (fun c_126 => False.elim (by revert c_126; decide))
                  refine lv_iload hx hb dX4_step_137 (lv_at hl 10 rfl) ?_
                  refine lv_bipush (v := 40) hx hb dX4_step_139 (by decide) ?_
                  refine lv_icmp_ge (tgt := 369) hx hb dX4_step_141 (by decide) (fun c_141 => False.elim (absurd ((nI_leI (a := 40) (by decide) (by omega)).mp c_141) (by have q := hin.2.1 c_77; omega))) (fun c_141 => ?_)
                  refine lv_iload hx hb dX4_step_144 (lv_at hl 5 rfl) ?_
                  refine lv_if_eq (tgt := 156) hx hb dX4_step_146 (by decide) (fun c_146 => ?_) (fun c_146 => False.elim (by revert c_146; decide))
                  refine lv_iload hx hb dX4_step_156 (lv_at hl 10 rfl) ?_
                  refine ml_eqi (nI (idB T1 (tac T = 3) kk)) (by rw [hp9, poB_id_f c_77]) ?_
                  refine lv_istore (lv' := [(12, .int (nI (idB T1 (tac T = 3) kk))), (0, .ref (a 0)), (1, .int (nI j)), (2, .int (nI b)), (3, .int z), (4, .int 1), (5, .int 0), (6, .int (nI (tlv T + 1))), (7, .int (nI ch)), (8, .int 1), (9, .int 0), (10, .int (nI p9)), (11, .int (nI kk))]) hx hb dX4_step_158 hl (by decide) rfl (fun ls hl => ?_)
                  refine lv_aload_n hx hb dX4_step_160 rfl (lv_at hl 1 rfl) ?_
                  refine va_get (D := G) (ci := 4) (v := .ref (a 5)) (C := RX4) (T := TX4) (N := 16) hx hb hts hin_X4 hown hK hP 0 rfl rfl 9 (by decide) (hts (.fieldLink RX4 22 "MigrationledgerModel" "versions" "[I") (by decide +kernel)) (fun _ h9 => h9) rfl dX4_step_161 ?_
                  refine lv_iload hx hb dX4_step_164 (lv_at hl 0 rfl) ?_
                  refine ml_iald hx hb hK hP 5 0 rfl rfl (idB T1 (tac T = 3) kk) rfl hid.1 (Nat.le_of_ble_eq_true rfl) ((tV T1) (idB T1 (tac T = 3) kk)) rfl dX4_step_166 ?_
                  refine lv_iconst (v := (-1)) hx hb dX4_step_167 (by decide) ?_
                  refine lv_icmp_eq (tgt := 197) hx hb dX4_step_168 (by decide) (fun c_168 => ?_) (fun c_168 => ?_)
                  · refine lv_iconst (v := 0) hx hb dX4_step_197 (by decide) ?_
                    refine lv_istore (lv' := [(13, .int 0), (12, .int (nI (idB T1 (tac T = 3) kk))), (0, .ref (a 0)), (1, .int (nI j)), (2, .int (nI b)), (3, .int z), (4, .int 1), (5, .int 0), (6, .int (nI (tlv T + 1))), (7, .int (nI ch)), (8, .int 1), (9, .int 0), (10, .int (nI p9)), (11, .int (nI kk))]) hx hb dX4_step_198 hl (by decide) rfl (fun ls hl => ?_)
                    refine lv_iload hx hb dX4_step_200 (lv_at hl 0 rfl) ?_
                    refine lv_if_eq (tgt := 241) hx hb dX4_step_202 (by decide) (fun c_202 => ?_) (fun c_202 => False.elim (by revert c_202; decide))
                    refine lv_iload hx hb dX4_step_241 (lv_at hl 0 rfl) ?_
                    refine lv_if_eq (tgt := 339) hx hb dX4_step_243 (by decide) (fun c_243 => ?_) (fun c_243 => False.elim (by revert c_243; decide))
                    refine lv_iload hx hb dX4_step_339 (lv_at hl 12 rfl) ?_
                    refine lv_iload hx hb dX4_step_341 (lv_at hl 10 rfl) ?_
                    refine lv_if_ne (tgt := 350) hx hb dX4_step_343 (by decide) (fun c_343 => ?_) (fun c_343 => False.elim (by revert c_343; decide))
                    refine lv_iload hx hb dX4_step_350 (lv_at hl 7 rfl) ?_
                    refine lv_if_eq (tgt := 359) hx hb dX4_step_352 (by decide) (fun c_352 => ?_) (fun c_352 => False.elim (by revert c_352; decide))
                    refine lv_iconst (v := 1) hx hb dX4_step_359 (by decide) ?_
                    refine lv_iadd hx hb dX4_step_360 ?_
                    refine ml_eqi (nI (p9 + 1)) (nI_1 _) ?_
                    refine lv_istore (lv' := [(10, .int (nI (p9 + 1))), (13, .int 0), (12, .int (nI (idB T1 (tac T = 3) kk))), (0, .ref (a 0)), (1, .int (nI j)), (2, .int (nI b)), (3, .int z), (4, .int 1), (5, .int 0), (6, .int (nI (tlv T + 1))), (7, .int (nI ch)), (8, .int 1), (9, .int 0), (11, .int (nI kk))]) hx hb dX4_step_361 hl (by decide) rfl (fun ls hl => ?_)
                    refine lv_iinc (v := nI (kk + 1)) (lv' := [(11, .int (nI (kk + 1))), (10, .int (nI (p9 + 1))), (13, .int 0), (12, .int (nI (idB T1 (tac T = 3) kk))), (0, .ref (a 0)), (1, .int (nI j)), (2, .int (nI b)), (3, .int z), (4, .int 1), (5, .int 0), (6, .int (nI (tlv T + 1))), (7, .int (nI ch)), (8, .int 1), (9, .int 0)]) hx hb dX4_step_363 hl (k := 13) rfl (nI_1 _) (by decide) rfl (fun ls hl => ?_)
                    refine lv_goto (tgt := 113) hx hb dX4_step_366 (by decide) ?_
                    exact ih (kk + 1) ch (p9 + 1) T1 sp1 (by omega) (by rw [hp9, poB_s_f c_77]) ((sgo_skip (lft_no c_168)).symm.trans hg) hI1 hkp _ _ _ hP hD hS (lv_sub hl [4, 5, 6, 7, 8, 9, 10, 11, 12, 13, 1, 0] rfl)
                  · refine lv_aload_n hx hb dX4_step_171 rfl (lv_at hl 1 rfl) ?_
                    refine va_get (D := G) (ci := 4) (v := .ref (a 5)) (C := RX4) (T := TX4) (N := 16) hx hb hts hin_X4 hown hK hP 0 rfl rfl 9 (by decide) (hts (.fieldLink RX4 22 "MigrationledgerModel" "versions" "[I") (by decide +kernel)) (fun _ h9 => h9) rfl dX4_step_172 ?_
                    refine lv_iload hx hb dX4_step_175 (lv_at hl 0 rfl) ?_
                    refine ml_iald hx hb hK hP 5 0 rfl rfl (idB T1 (tac T = 3) kk) rfl hid.1 (Nat.le_of_ble_eq_true rfl) ((tV T1) (idB T1 (tac T = 3) kk)) rfl dX4_step_177 ?_
                    refine lv_iload hx hb dX4_step_178 (lv_at hl 7 rfl) ?_
                    refine lv_icmp_lt (tgt := 187) hx hb dX4_step_180 (by decide) (fun c_180 => ?_) (fun c_180 => ?_)
                    · have hlf : lft T1 (tac T = 3) (idB T1 (tac T = 3) kk) := ⟨c_168, Or.inr ⟨c_77, by rw [hkp.2.2.1]; exact Int32.not_le.mpr c_180⟩⟩
                      refine lv_iconst (v := 0) hx hb dX4_step_187 (by decide) ?_
                      refine lv_iload hx hb dX4_step_188 (lv_at hl 6 rfl) ?_
                      refine lv_icmp_ne (tgt := 197) hx hb dX4_step_190 (by decide) (fun c_190 => False.elim (by revert c_190; decide)) (fun c_190 => ?_)
                      refine lv_iconst (v := 1) hx hb dX4_step_193 (by decide) ?_
                      refine lv_goto (tgt := 198) hx hb dX4_step_194 (by decide) ?_
                      refine lv_istore (lv' := [(13, .int 1), (12, .int (nI (idB T1 (tac T = 3) kk))), (0, .ref (a 0)), (1, .int (nI j)), (2, .int (nI b)), (3, .int z), (4, .int 1), (5, .int 0), (6, .int (nI (tlv T + 1))), (7, .int (nI ch)), (8, .int 1), (9, .int 0), (10, .int (nI p9)), (11, .int (nI kk))]) hx hb dX4_step_198 hl (by decide) rfl (fun ls hl => ?_)
                      refine lv_iload hx hb dX4_step_200 (lv_at hl 0 rfl) ?_
                      refine lv_if_eq (tgt := 241) hx hb dX4_step_202 (by decide) (fun c_202 => False.elim (by revert c_202; decide)) (fun c_202 => ?_)
                      refine lv_aload_n hx hb dX4_step_205 rfl (lv_at hl 2 rfl) ?_
                      refine lv_iload hx hb dX4_step_206 (lv_at hl 1 rfl) ?_
                      refine ml_Vv (G := G) (As := [.int (nI (idB T1 (tac T = 3) kk))]) (rest := []) ⟨hx, hb, hml, hown, hts⟩ (c_X4_takeSpare l G cy a H.size T1 0 sp1 (idB T1 (tac T = 3) kk) hid.1) (cwV 1 hts gX4_step_X4_takeSpare rfl rfl rfl (by decide +kernel) ⟨Nat.le_of_ble_eq_true rfl, Nat.le_of_ble_eq_true rfl⟩) (va_recv hK hP (ci := 4) (q0 := 0) rfl rfl) hP hK hD hS hN hA rfl hl.1 (Nat.le_of_ble_eq_true rfl) dX4_step_208 ⟨Nat.le_of_ble_eq_true rfl, Nat.le_of_ble_eq_true rfl⟩ (fun u_208 H locs hw hP hD hS => ?_)
                      have hP : va_P G vwCl (wM a cy T1 0 (vp_updL (vp_updL (vp_updL sp1 0 (tX T1 (3 * (idB T1 (tac T = 3) kk) + 0)).toInt64) 1 (tX T1 (3 * (idB T1 (tac T = 3) kk) + 1)).toInt64) 2 (tX T1 (3 * (idB T1 (tac T = 3) kk) + 2)).toInt64)) H := hP
                      have hD : va_D A (wM a cy T1 0 (vp_updL (vp_updL (vp_updL sp1 0 (tX T1 (3 * (idB T1 (tac T = 3) kk) + 0)).toInt64) 1 (tX T1 (3 * (idB T1 (tac T = 3) kk) + 1)).toInt64) 2 (tX T1 (3 * (idB T1 (tac T = 3) kk) + 2)).toInt64)) := hD
                      refine lv_aload_n hx hb dX4_step_211 rfl (lv_at hl 2 rfl) ?_
                      refine lv_iload hx hb dX4_step_212 (lv_at hl 8 rfl) ?_
                      refine lv_iload hx hb dX4_step_214 (lv_at hl 7 rfl) ?_
                      refine ml_Vi (G := G) (As := [.int (nI (tlv T + 1)), .int 0]) (rest := []) ⟨hx, hb, hml, hown, hts⟩ (c_X4_tries l G cy a H.size T1 0 (vp_updL (vp_updL (vp_updL sp1 0 (tX T1 (3 * (idB T1 (tac T = 3) kk) + 0)).toInt64) 1 (tX T1 (3 * (idB T1 (tac T = 3) kk) + 1)).toInt64) 2 (tX T1 (3 * (idB T1 (tac T = 3) kk) + 2)).toInt64) (tlv T + 1) (by omega) 0 False (Or.inr ⟨rfl, id⟩) (hI1.2.2.1 _ (by omega) (by omega)) (rowOf T1 (idB T1 (tac T = 3) kk)) tkSp (fun q hq => hI1.2.2.2.1 _ (by have := hid.1; omega))) (cwV 2 hts gX4_step_X4_tries rfl rfl rfl (by decide +kernel) ⟨Nat.le_of_ble_eq_true rfl, Nat.le_of_ble_eq_true rfl⟩) (va_recv hK hP (ci := 4) (q0 := 0) rfl rfl) hP hK hD hS hN hA rfl hl.1 (Nat.le_of_ble_eq_true rfl) dX4_step_216 ⟨Nat.le_of_ble_eq_true rfl, Nat.le_of_ble_eq_true rfl⟩ (fun r_216 u_216 H locs hw hP hD hS => ?_)
                      obtain ⟨hw1, hw2_216⟩ := hw
                      obtain rfl : r_216 = b2i ((ap T1 False (tlv T + 1) (rowOf T1 (idB T1 (tac T = 3) kk))).isSome = true) := hw1
                      have hP : va_P G vwCl (wM a cy T1 0 u_216) H := hP
                      have hD : va_D A (wM a cy T1 0 u_216) := hD
                      refine ml_ifneb (tgt := 226) hx hb dX4_step_219 (by decide) (fun c_219 => ?_) (fun c_219 => ?_)
                      · obtain ⟨row4, e4⟩ := is_s c_219
                        refine lv_iconst (v := 0) hx hb dX4_step_226 (by decide) ?_
                        refine lv_istore (lv' := [(9, .int 0), (13, .int 1), (12, .int (nI (idB T1 (tac T = 3) kk))), (0, .ref (a 0)), (1, .int (nI j)), (2, .int (nI b)), (3, .int z), (4, .int 1), (5, .int 0), (6, .int (nI (tlv T + 1))), (7, .int (nI ch)), (8, .int 1), (10, .int (nI p9)), (11, .int (nI kk))]) hx hb dX4_step_227 hl (by decide) rfl (fun ls hl => ?_)
                        refine lv_iload hx hb dX4_step_229 (lv_at hl 0 rfl) ?_
                        refine lv_if_ne (tgt := 238) hx hb dX4_step_231 (by decide) (fun c_231 => False.elim (by revert c_231; decide)) (fun c_231 => ?_)
                        refine lv_iconst (v := 1) hx hb dX4_step_234 (by decide) ?_
                        refine lv_goto (tgt := 239) hx hb dX4_step_235 (by decide) ?_
                        refine lv_istore (lv' := [(8, .int 1), (9, .int 0), (13, .int 1), (12, .int (nI (idB T1 (tac T = 3) kk))), (0, .ref (a 0)), (1, .int (nI j)), (2, .int (nI b)), (3, .int z), (4, .int 1), (5, .int 0), (6, .int (nI (tlv T + 1))), (7, .int (nI ch)), (10, .int (nI p9)), (11, .int (nI kk))]) hx hb dX4_step_239 hl (by decide) rfl (fun ls hl => ?_)
                        refine lv_iload hx hb dX4_step_241 (lv_at hl 2 rfl) ?_
                        refine lv_if_eq (tgt := 339) hx hb dX4_step_243 (by decide) (fun c_243 => False.elim (by revert c_243; decide)) (fun c_243 => ?_)
                        refine lv_iload hx hb dX4_step_246 (lv_at hl 0 rfl) ?_
                        refine lv_if_eq (tgt := 339) hx hb dX4_step_248 (by decide) (fun c_248 => False.elim (by revert c_248; decide)) (fun c_248 => ?_)
                        refine lv_iconst (v := 0) hx hb dX4_step_251 (by decide) ?_
                        refine lv_istore (lv' := [(14, .int 0), (8, .int 1), (9, .int 0), (13, .int 1), (12, .int (nI (idB T1 (tac T = 3) kk))), (0, .ref (a 0)), (1, .int (nI j)), (2, .int (nI b)), (3, .int z), (4, .int 1), (5, .int 0), (6, .int (nI (tlv T + 1))), (7, .int (nI ch)), (10, .int (nI p9)), (11, .int (nI kk))]) hx hb dX4_step_252 hl (by decide) rfl (fun ls hl => ?_)
                        refine lv_iload hx hb dX4_step_254 (lv_at hl 0 rfl) ?_
                        refine lv_iconst (v := 3) hx hb dX4_step_256 (by decide) ?_
                        refine lv_icmp_ge (tgt := 286) hx hb dX4_step_257 (by decide) (fun c_257 => False.elim (by revert c_257; decide)) (fun c_257 => ?_)
                        refine lv_aload_n hx hb dX4_step_260 rfl (lv_at hl 5 rfl) ?_
                        refine va_get (D := G) (ci := 4) (v := .ref (a 6)) (C := RX4) (T := TX4) (N := 16) hx hb hts hin_X4 hown hK hP 0 rfl rfl 10 (by decide) (hts (.fieldLink RX4 25 "MigrationledgerModel" "values" "[I") (by decide +kernel)) (fun _ h9 => h9) rfl dX4_step_261 ?_
                        refine lv_iconst (v := 3) hx hb dX4_step_264 (by decide) ?_
                        refine lv_iload hx hb dX4_step_265 (lv_at hl 4 rfl) ?_
                        refine lv_imul hx hb dX4_step_267 ?_
                        refine ml_eqi (nI (3 * (idB T1 (tac T = 3) kk))) (pk_mul 3 (idB T1 (tac T = 3) kk)) ?_
                        refine lv_iload hx hb dX4_step_268 (lv_at hl 0 rfl) ?_
                        refine lv_iadd hx hb dX4_step_270 ?_
                        refine ml_eqi (nI (3 * (idB T1 (tac T = 3) kk))) (nI_add (3 * (idB T1 (tac T = 3) kk)) 0) ?_
                        refine lv_aload_n hx hb dX4_step_271 rfl (lv_at hl 5 rfl) ?_
                        refine va_get (D := G) (ci := 4) (v := .ref (a 7)) (C := RX4) (T := TX4) (N := 16) hx hb hts hin_X4 hown hK hP 0 rfl rfl 11 (by decide) (hts (.fieldLink RX4 28 "MigrationledgerModel" "spare" "[J") (by decide +kernel)) (fun _ h9 => h9) rfl dX4_step_272 ?_
                        refine lv_iload hx hb dX4_step_275 (lv_at hl 0 rfl) ?_
                        refine ml_lald hx hb hK hP 7 1 rfl rfl (0) rfl (by decide) (Nat.le_of_ble_eq_true rfl) ((row4 0).toInt64) (hw2_216 row4 e4 0 (by decide)) dX4_step_277 ?_
                        refine lv_l2i (v := ((row4 0).toInt64).toInt32) hx hb dX4_step_278 rfl ?_
                        refine ml_eqi (row4 0) tl_ti ?_
                        refine ml_iast hx hb hK hP hD hS 6 0 rfl rfl (3 * (idB T1 (tac T = 3) kk)) rfl (by have q := hid.1; omega) (Nat.le_of_ble_eq_true rfl) dX4_step_279 (fun H locs hP hD hS => ?_)
                        have hP : va_P G vwCl (wM a cy (uX T1 (upd (tX T1) (3 * (idB T1 (tac T = 3) kk)) (row4 0))) 0 u_216) H := hP
                        have hD : va_D A (wM a cy (uX T1 (upd (tX T1) (3 * (idB T1 (tac T = 3) kk)) (row4 0))) 0 u_216) := hD
                        refine lv_iinc (v := 1) (lv' := [(14, .int 1), (8, .int 1), (9, .int 0), (13, .int 1), (12, .int (nI (idB T1 (tac T = 3) kk))), (0, .ref (a 0)), (1, .int (nI j)), (2, .int (nI b)), (3, .int z), (4, .int 1), (5, .int 0), (6, .int (nI (tlv T + 1))), (7, .int (nI ch)), (10, .int (nI p9)), (11, .int (nI kk))]) hx hb dX4_step_280 hl (k := 0) rfl (by decide) (by decide) rfl (fun ls hl => ?_)
                        refine lv_goto (tgt := 254) hx hb dX4_step_283 (by decide) ?_
                        refine lv_iload hx hb dX4_step_254 (lv_at hl 0 rfl) ?_
                        refine lv_iconst (v := 3) hx hb dX4_step_256 (by decide) ?_
                        refine lv_icmp_ge (tgt := 286) hx hb dX4_step_257 (by decide) (fun c_257 => False.elim (by revert c_257; decide)) (fun c_257 => ?_)
                        refine lv_aload_n hx hb dX4_step_260 rfl (lv_at hl 5 rfl) ?_
                        refine va_get (D := G) (ci := 4) (v := .ref (a 6)) (C := RX4) (T := TX4) (N := 16) hx hb hts hin_X4 hown hK hP 0 rfl rfl 10 (by decide) (hts (.fieldLink RX4 25 "MigrationledgerModel" "values" "[I") (by decide +kernel)) (fun _ h9 => h9) rfl dX4_step_261 ?_
                        refine lv_iconst (v := 3) hx hb dX4_step_264 (by decide) ?_
                        refine lv_iload hx hb dX4_step_265 (lv_at hl 4 rfl) ?_
                        refine lv_imul hx hb dX4_step_267 ?_
                        refine ml_eqi (nI (3 * (idB T1 (tac T = 3) kk))) (pk_mul 3 (idB T1 (tac T = 3) kk)) ?_
                        refine lv_iload hx hb dX4_step_268 (lv_at hl 0 rfl) ?_
                        refine lv_iadd hx hb dX4_step_270 ?_
                        refine ml_eqi (nI (3 * (idB T1 (tac T = 3) kk) + 1)) (nI_add (3 * (idB T1 (tac T = 3) kk)) 1) ?_
                        refine lv_aload_n hx hb dX4_step_271 rfl (lv_at hl 5 rfl) ?_
                        refine va_get (D := G) (ci := 4) (v := .ref (a 7)) (C := RX4) (T := TX4) (N := 16) hx hb hts hin_X4 hown hK hP 0 rfl rfl 11 (by decide) (hts (.fieldLink RX4 28 "MigrationledgerModel" "spare" "[J") (by decide +kernel)) (fun _ h9 => h9) rfl dX4_step_272 ?_
                        refine lv_iload hx hb dX4_step_275 (lv_at hl 0 rfl) ?_
                        refine ml_lald hx hb hK hP 7 1 rfl rfl (1) rfl (by decide) (Nat.le_of_ble_eq_true rfl) ((row4 1).toInt64) (hw2_216 row4 e4 1 (by decide)) dX4_step_277 ?_
                        refine lv_l2i (v := ((row4 1).toInt64).toInt32) hx hb dX4_step_278 rfl ?_
                        refine ml_eqi (row4 1) tl_ti ?_
                        refine ml_iast hx hb hK hP hD hS 6 0 rfl rfl (3 * (idB T1 (tac T = 3) kk) + 1) rfl (by have q := hid.1; omega) (Nat.le_of_ble_eq_true rfl) dX4_step_279 (fun H locs hP hD hS => ?_)
                        have hP : va_P G vwCl (wM a cy (uX (uX T1 (upd (tX T1) (3 * (idB T1 (tac T = 3) kk)) (row4 0))) (upd (upd (tX T1) (3 * (idB T1 (tac T = 3) kk)) (row4 0)) (3 * (idB T1 (tac T = 3) kk) + 1) (row4 1))) 0 u_216) H := hP
                        have hD : va_D A (wM a cy (uX (uX T1 (upd (tX T1) (3 * (idB T1 (tac T = 3) kk)) (row4 0))) (upd (upd (tX T1) (3 * (idB T1 (tac T = 3) kk)) (row4 0)) (3 * (idB T1 (tac T = 3) kk) + 1) (row4 1))) 0 u_216) := hD
                        refine lv_iinc (v := 2) (lv' := [(14, .int 2), (8, .int 1), (9, .int 0), (13, .int 1), (12, .int (nI (idB T1 (tac T = 3) kk))), (0, .ref (a 0)), (1, .int (nI j)), (2, .int (nI b)), (3, .int z), (4, .int 1), (5, .int 0), (6, .int (nI (tlv T + 1))), (7, .int (nI ch)), (10, .int (nI p9)), (11, .int (nI kk))]) hx hb dX4_step_280 hl (k := 0) rfl (by decide) (by decide) rfl (fun ls hl => ?_)
                        refine lv_goto (tgt := 254) hx hb dX4_step_283 (by decide) ?_
                        refine lv_iload hx hb dX4_step_254 (lv_at hl 0 rfl) ?_
                        refine lv_iconst (v := 3) hx hb dX4_step_256 (by decide) ?_
                        refine lv_icmp_ge (tgt := 286) hx hb dX4_step_257 (by decide) (fun c_257 => False.elim (by revert c_257; decide)) (fun c_257 => ?_)
                        refine lv_aload_n hx hb dX4_step_260 rfl (lv_at hl 5 rfl) ?_
                        refine va_get (D := G) (ci := 4) (v := .ref (a 6)) (C := RX4) (T := TX4) (N := 16) hx hb hts hin_X4 hown hK hP 0 rfl rfl 10 (by decide) (hts (.fieldLink RX4 25 "MigrationledgerModel" "values" "[I") (by decide +kernel)) (fun _ h9 => h9) rfl dX4_step_261 ?_
                        refine lv_iconst (v := 3) hx hb dX4_step_264 (by decide) ?_
                        refine lv_iload hx hb dX4_step_265 (lv_at hl 4 rfl) ?_
                        refine lv_imul hx hb dX4_step_267 ?_
                        refine ml_eqi (nI (3 * (idB T1 (tac T = 3) kk))) (pk_mul 3 (idB T1 (tac T = 3) kk)) ?_
                        refine lv_iload hx hb dX4_step_268 (lv_at hl 0 rfl) ?_
                        refine lv_iadd hx hb dX4_step_270 ?_
                        refine ml_eqi (nI (3 * (idB T1 (tac T = 3) kk) + 2)) (nI_add (3 * (idB T1 (tac T = 3) kk)) 2) ?_
                        refine lv_aload_n hx hb dX4_step_271 rfl (lv_at hl 5 rfl) ?_
                        refine va_get (D := G) (ci := 4) (v := .ref (a 7)) (C := RX4) (T := TX4) (N := 16) hx hb hts hin_X4 hown hK hP 0 rfl rfl 11 (by decide) (hts (.fieldLink RX4 28 "MigrationledgerModel" "spare" "[J") (by decide +kernel)) (fun _ h9 => h9) rfl dX4_step_272 ?_
                        refine lv_iload hx hb dX4_step_275 (lv_at hl 0 rfl) ?_
                        refine ml_lald hx hb hK hP 7 1 rfl rfl (2) rfl (by decide) (Nat.le_of_ble_eq_true rfl) ((row4 2).toInt64) (hw2_216 row4 e4 2 (by decide)) dX4_step_277 ?_
                        refine lv_l2i (v := ((row4 2).toInt64).toInt32) hx hb dX4_step_278 rfl ?_
                        refine ml_eqi (row4 2) tl_ti ?_
                        refine ml_iast hx hb hK hP hD hS 6 0 rfl rfl (3 * (idB T1 (tac T = 3) kk) + 2) rfl (by have q := hid.1; omega) (Nat.le_of_ble_eq_true rfl) dX4_step_279 (fun H locs hP hD hS => ?_)
                        have hP : va_P G vwCl (wM a cy (uX (uX (uX T1 (upd (tX T1) (3 * (idB T1 (tac T = 3) kk)) (row4 0))) (upd (upd (tX T1) (3 * (idB T1 (tac T = 3) kk)) (row4 0)) (3 * (idB T1 (tac T = 3) kk) + 1) (row4 1))) (upd (upd (upd (tX T1) (3 * (idB T1 (tac T = 3) kk)) (row4 0)) (3 * (idB T1 (tac T = 3) kk) + 1) (row4 1)) (3 * (idB T1 (tac T = 3) kk) + 2) (row4 2))) 0 u_216) H := hP
                        have hD : va_D A (wM a cy (uX (uX (uX T1 (upd (tX T1) (3 * (idB T1 (tac T = 3) kk)) (row4 0))) (upd (upd (tX T1) (3 * (idB T1 (tac T = 3) kk)) (row4 0)) (3 * (idB T1 (tac T = 3) kk) + 1) (row4 1))) (upd (upd (upd (tX T1) (3 * (idB T1 (tac T = 3) kk)) (row4 0)) (3 * (idB T1 (tac T = 3) kk) + 1) (row4 1)) (3 * (idB T1 (tac T = 3) kk) + 2) (row4 2))) 0 u_216) := hD
                        refine lv_iinc (v := 3) (lv' := [(14, .int 3), (8, .int 1), (9, .int 0), (13, .int 1), (12, .int (nI (idB T1 (tac T = 3) kk))), (0, .ref (a 0)), (1, .int (nI j)), (2, .int (nI b)), (3, .int z), (4, .int 1), (5, .int 0), (6, .int (nI (tlv T + 1))), (7, .int (nI ch)), (10, .int (nI p9)), (11, .int (nI kk))]) hx hb dX4_step_280 hl (k := 0) rfl (by decide) (by decide) rfl (fun ls hl => ?_)
                        refine lv_goto (tgt := 254) hx hb dX4_step_283 (by decide) ?_
                        refine lv_iload hx hb dX4_step_254 (lv_at hl 0 rfl) ?_
                        refine lv_iconst (v := 3) hx hb dX4_step_256 (by decide) ?_
                        refine lv_icmp_ge (tgt := 286) hx hb dX4_step_257 (by decide) (fun c_257 => ?_) (fun c_257 => False.elim (by revert c_257; decide))
                        refine lv_aload_n hx hb dX4_step_286 rfl (lv_at hl 5 rfl) ?_
                        refine va_get (D := G) (ci := 4) (v := .ref (a 5)) (C := RX4) (T := TX4) (N := 16) hx hb hts hin_X4 hown hK hP 0 rfl rfl 9 (by decide) (hts (.fieldLink RX4 22 "MigrationledgerModel" "versions" "[I") (by decide +kernel)) (fun _ h9 => h9) rfl dX4_step_287 ?_
                        refine lv_iload hx hb dX4_step_290 (lv_at hl 4 rfl) ?_
                        refine lv_dup2_11 hx hb dX4_step_292 rfl rfl ?_
                        refine ml_iald hx hb hK hP 5 0 rfl rfl (idB T1 (tac T = 3) kk) rfl hid.1 (Nat.le_of_ble_eq_true rfl) ((tV T1) (idB T1 (tac T = 3) kk)) rfl dX4_step_293 ?_
                        refine lv_iload hx hb dX4_step_294 (lv_at hl 10 rfl) ?_
                        refine lv_if_eq (tgt := 303) hx hb dX4_step_296 (by decide) (fun c_296 => ?_) (fun c_296 => False.elim (by revert c_296; decide))
                        refine lv_iconst (v := 1) hx hb dX4_step_303 (by decide) ?_
                        refine lv_iadd hx hb dX4_step_304 ?_
                        refine ml_eqi (cif (tac T = 3) (tV T1 (idB T1 (tac T = 3) kk) - 1) (tV T1 (idB T1 (tac T = 3) kk) + 1)) (cif_f c_77).symm ?_
                        refine ml_iast hx hb hK hP hD hS 5 0 rfl rfl (idB T1 (tac T = 3) kk) rfl hid.1 (Nat.le_of_ble_eq_true rfl) dX4_step_305 (fun H locs hP hD hS => ?_)
                        have hP : va_P G vwCl (wM a cy (uV (uX (uX (uX T1 (upd (tX T1) (3 * (idB T1 (tac T = 3) kk)) (row4 0))) (upd (upd (tX T1) (3 * (idB T1 (tac T = 3) kk)) (row4 0)) (3 * (idB T1 (tac T = 3) kk) + 1) (row4 1))) (upd (upd (upd (tX T1) (3 * (idB T1 (tac T = 3) kk)) (row4 0)) (3 * (idB T1 (tac T = 3) kk) + 1) (row4 1)) (3 * (idB T1 (tac T = 3) kk) + 2) (row4 2))) (upd (tV T1) (idB T1 (tac T = 3) kk) (cif (tac T = 3) (tV T1 (idB T1 (tac T = 3) kk) - 1) (tV T1 (idB T1 (tac T = 3) kk) + 1)))) 0 u_216) H := hP
                        have hD : va_D A (wM a cy (uV (uX (uX (uX T1 (upd (tX T1) (3 * (idB T1 (tac T = 3) kk)) (row4 0))) (upd (upd (tX T1) (3 * (idB T1 (tac T = 3) kk)) (row4 0)) (3 * (idB T1 (tac T = 3) kk) + 1) (row4 1))) (upd (upd (upd (tX T1) (3 * (idB T1 (tac T = 3) kk)) (row4 0)) (3 * (idB T1 (tac T = 3) kk) + 1) (row4 1)) (3 * (idB T1 (tac T = 3) kk) + 2) (row4 2))) (upd (tV T1) (idB T1 (tac T = 3) kk) (cif (tac T = 3) (tV T1 (idB T1 (tac T = 3) kk) - 1) (tV T1 (idB T1 (tac T = 3) kk) + 1)))) 0 u_216) := hD
                        obtain ⟨T2, eT2⟩ : ∃ w9, w9 = uV (uX (uX (uX T1 (upd (tX T1) (3 * (idB T1 (tac T = 3) kk)) (row4 0))) (upd (upd (tX T1) (3 * (idB T1 (tac T = 3) kk)) (row4 0)) (3 * (idB T1 (tac T = 3) kk) + 1) (row4 1))) (upd (upd (upd (tX T1) (3 * (idB T1 (tac T = 3) kk)) (row4 0)) (3 * (idB T1 (tac T = 3) kk) + 1) (row4 1)) (3 * (idB T1 (tac T = 3) kk) + 2) (row4 2))) (upd (tV T1) (idB T1 (tac T = 3) kk) (cif (tac T = 3) (tV T1 (idB T1 (tac T = 3) kk) - 1) (tV T1 (idB T1 (tac T = 3) kk) + 1))) := ⟨_, rfl⟩
                        have e2 : stp T1 (tac T = 3) (idB T1 (tac T = 3) kk) = some T2 := by
                          rw [eT2]
                          exact stp_ok ((ap_F c_77).symm.trans (by rw [hkp.2.2.1]; exact e4)) (fun q _ => rfl) rfl
                        have hkp2 := stp_keep e2
                        have hcr2 : tcr T2 j = 0 := by rw [hkp2.2.2.2]; exact hcr1
                        have hP : va_P G vwCl (wM a cy T2 0 u_216) H := by
                          rw [eT2]
                          exact hP
                        have hD : va_D A (wM a cy T2 0 u_216) := by
                          rw [eT2]
                          exact hD
                        refine lv_iinc (v := nI (ch + 1)) (lv' := [(7, .int (nI (ch + 1))), (14, .int 3), (8, .int 1), (9, .int 0), (13, .int 1), (12, .int (nI (idB T1 (tac T = 3) kk))), (0, .ref (a 0)), (1, .int (nI j)), (2, .int (nI b)), (3, .int z), (4, .int 1), (5, .int 0), (6, .int (nI (tlv T + 1))), (10, .int (nI p9)), (11, .int (nI kk))]) hx hb dX4_step_306 hl (k := 12) rfl (nI_1 _) (by decide) rfl (fun ls hl => ?_)
                        refine lv_aload_n hx hb dX4_step_309 rfl (lv_at hl 6 rfl) ?_
                        refine va_get (D := G) (ci := 4) (v := .ref (a 8)) (C := RX4) (T := TX4) (N := 16) hx hb hts hin_X4 hown hK hP 0 rfl rfl 15 (by decide) (hts (.fieldLink RX4 36 "MigrationledgerModel" "hasCrashed" "[Z") (by decide +kernel)) (fun _ h9 => h9) rfl dX4_step_310 ?_
                        refine lv_iload_n hx hb dX4_step_313 rfl (lv_at hl 7 rfl) ?_
                        refine lv_iload hx hb dX4_step_314 (lv_at hl 0 rfl) ?_
                        refine lv_iload_n hx hb dX4_step_316 rfl (lv_at hl 9 rfl) ?_
                        refine lv_icmp_ne (tgt := 324) hx hb dX4_step_317 (by decide) (fun c_317 => ?_) (fun c_317 => ?_)
                        · refine lv_iconst (v := 0) hx hb dX4_step_324 (by decide) ?_
                          refine ml_zast hx hb hK hP hD hS 8 2 rfl rfl (j) rfl (by omega) (Nat.le_of_ble_eq_true rfl) rfl dX4_step_325 (fun H locs hP hD hS => ?_)
                          have hP : va_P G vwCl (wM a cy (ucr T2 (upd (tcr T2) j 0)) 0 u_216) H := hP
                          have hD : va_D A (wM a cy (ucr T2 (upd (tcr T2) j 0)) 0 u_216) := hD
                          have hP : va_P G vwCl (wM a cy T2 0 u_216) H := by
                            rw [ucr_n hcr2] at hP
                            exact hP
                          have hD : va_D A (wM a cy T2 0 u_216) := by
                            rw [ucr_n hcr2] at hD
                            exact hD
                          refine lv_iload hx hb dX4_step_326 (lv_at hl 0 rfl) ?_
                          refine lv_iload_n hx hb dX4_step_328 rfl (lv_at hl 9 rfl) ?_
                          refine lv_icmp_eq (tgt := 336) hx hb dX4_step_329 (by decide) (fun c_329 => False.elim (c_317 c_329)) (fun c_329 => ?_)
                          refine lv_iconst (v := 1) hx hb dX4_step_332 (by decide) ?_
                          refine lv_goto (tgt := 337) hx hb dX4_step_333 (by decide) ?_
                          refine lv_istore (lv' := [(8, .int 1), (7, .int (nI (ch + 1))), (14, .int 3), (9, .int 0), (13, .int 1), (12, .int (nI (idB T1 (tac T = 3) kk))), (0, .ref (a 0)), (1, .int (nI j)), (2, .int (nI b)), (3, .int z), (4, .int 1), (5, .int 0), (6, .int (nI (tlv T + 1))), (10, .int (nI p9)), (11, .int (nI kk))]) hx hb dX4_step_337 hl (by decide) rfl (fun ls hl => ?_)
                          refine lv_iload hx hb dX4_step_339 (lv_at hl 13 rfl) ?_
                          refine lv_iload hx hb dX4_step_341 (lv_at hl 0 rfl) ?_
                          refine lv_if_ne (tgt := 350) hx hb dX4_step_343 (by decide) (fun c_343 => ?_) (fun c_343 => False.elim (by revert c_343; decide))
                          refine lv_iload hx hb dX4_step_350 (lv_at hl 11 rfl) ?_
                          refine lv_if_eq (tgt := 359) hx hb dX4_step_352 (by decide) (fun c_352 => ?_) (fun c_352 => False.elim (by revert c_352; decide))
                          refine lv_iconst (v := 1) hx hb dX4_step_359 (by decide) ?_
                          refine lv_iadd hx hb dX4_step_360 ?_
                          refine ml_eqi (nI (p9 + 1)) (nI_1 _) ?_
                          refine lv_istore (lv' := [(10, .int (nI (p9 + 1))), (8, .int 1), (7, .int (nI (ch + 1))), (14, .int 3), (9, .int 0), (13, .int 1), (12, .int (nI (idB T1 (tac T = 3) kk))), (0, .ref (a 0)), (1, .int (nI j)), (2, .int (nI b)), (3, .int z), (4, .int 1), (5, .int 0), (6, .int (nI (tlv T + 1))), (11, .int (nI kk))]) hx hb dX4_step_361 hl (by decide) rfl (fun ls hl => ?_)
                          refine lv_iinc (v := nI (kk + 1)) (lv' := [(11, .int (nI (kk + 1))), (10, .int (nI (p9 + 1))), (8, .int 1), (7, .int (nI (ch + 1))), (14, .int 3), (9, .int 0), (13, .int 1), (12, .int (nI (idB T1 (tac T = 3) kk))), (0, .ref (a 0)), (1, .int (nI j)), (2, .int (nI b)), (3, .int z), (4, .int 1), (5, .int 0), (6, .int (nI (tlv T + 1)))]) hx hb dX4_step_363 hl (k := 14) rfl (nI_1 _) (by decide) rfl (fun ls hl => ?_)
                          refine lv_goto (tgt := 113) hx hb dX4_step_366 (by decide) ?_
                          exact ih (kk + 1) (ch + 1) (p9 + 1) T2 u_216 (by omega) (by rw [hp9, poB_s_f c_77]; exact poB_cg hkp2.2.1.symm) ((sgo_go hlf e2 c_317).symm.trans hg) (stp_inv hI1 hu1 hid.1 hlf e2) ⟨hkp2.1.trans hkp.1, hkp2.2.1.trans hkp.2.1, hkp2.2.2.1.trans hkp.2.2.1, hkp2.2.2.2.trans hkp.2.2.2⟩ _ _ _ hP hD hS (lv_sub hl [8, 9, 10, 11, 12, 13, 14, 3, 2, 5, 1, 0] rfl)
                        · refine lv_iconst (v := 1) hx hb dX4_step_320 (by decide) ?_
                          refine lv_goto (tgt := 325) hx hb dX4_step_321 (by decide) ?_
                          refine ml_zast hx hb hK hP hD hS 8 2 rfl rfl (j) rfl (by omega) (Nat.le_of_ble_eq_true rfl) rfl dX4_step_325 (fun H locs hP hD hS => ?_)
                          have hP : va_P G vwCl (wM a cy (ucr T2 (upd (tcr T2) j 1)) 0 u_216) H := hP
                          have hD : va_D A (wM a cy (ucr T2 (upd (tcr T2) j 1)) 0 u_216) := hD
                          refine lv_iload hx hb dX4_step_326 (lv_at hl 0 rfl) ?_
                          refine lv_iload_n hx hb dX4_step_328 rfl (lv_at hl 9 rfl) ?_
                          refine lv_icmp_eq (tgt := 336) hx hb dX4_step_329 (by decide) (fun c_329 => ?_) (fun c_329 => False.elim (c_329 c_317))
                          refine lv_iconst (v := 0) hx hb dX4_step_336 (by decide) ?_
                          refine lv_istore (lv' := [(8, .int 0), (7, .int (nI (ch + 1))), (14, .int 3), (9, .int 0), (13, .int 1), (12, .int (nI (idB T1 (tac T = 3) kk))), (0, .ref (a 0)), (1, .int (nI j)), (2, .int (nI b)), (3, .int z), (4, .int 1), (5, .int 0), (6, .int (nI (tlv T + 1))), (10, .int (nI p9)), (11, .int (nI kk))]) hx hb dX4_step_337 hl (by decide) rfl (fun ls hl => ?_)
                          refine lv_iload hx hb dX4_step_339 (lv_at hl 13 rfl) ?_
                          refine lv_iload hx hb dX4_step_341 (lv_at hl 0 rfl) ?_
                          refine lv_if_ne (tgt := 350) hx hb dX4_step_343 (by decide) (fun c_343 => False.elim (by revert c_343; decide)) (fun c_343 => ?_)
                          refine lv_iconst (v := 0) hx hb dX4_step_346 (by decide) ?_
                          refine lv_goto (tgt := 360) hx hb dX4_step_347 (by decide) ?_
                          refine lv_iadd hx hb dX4_step_360 ?_
                          refine ml_eqi (nI p9) (nI_add p9 0) ?_
                          refine lv_istore (lv' := [(10, .int (nI p9)), (8, .int 0), (7, .int (nI (ch + 1))), (14, .int 3), (9, .int 0), (13, .int 1), (12, .int (nI (idB T1 (tac T = 3) kk))), (0, .ref (a 0)), (1, .int (nI j)), (2, .int (nI b)), (3, .int z), (4, .int 1), (5, .int 0), (6, .int (nI (tlv T + 1))), (11, .int (nI kk))]) hx hb dX4_step_361 hl (by decide) rfl (fun ls hl => ?_)
                          refine lv_iinc (v := nI (kk + 1)) (lv' := [(11, .int (nI (kk + 1))), (10, .int (nI p9)), (8, .int 0), (7, .int (nI (ch + 1))), (14, .int 3), (9, .int 0), (13, .int 1), (12, .int (nI (idB T1 (tac T = 3) kk))), (0, .ref (a 0)), (1, .int (nI j)), (2, .int (nI b)), (3, .int z), (4, .int 1), (5, .int 0), (6, .int (nI (tlv T + 1)))]) hx hb dX4_step_363 hl (k := 14) rfl (nI_1 _) (by decide) rfl (fun ls hl => ?_)
                          refine lv_goto (tgt := 113) hx hb dX4_step_366 (by decide) ?_
                          refine lv_iload hx hb dX4_step_113 (lv_at hl 0 rfl) ?_
                          refine lv_iload_n hx hb dX4_step_115 rfl (lv_at hl 10 rfl) ?_
                          refine lv_icmp_ge (tgt := 369) hx hb dX4_step_116 (by decide) (fun c_116 => ?_) (fun c_116 => ?_)
                          · refine lv_aload_n hx hb dX4_step_369 rfl (lv_at hl 8 rfl) ?_
                            refine va_get (D := G) (ci := 4) (v := .ref (a 8)) (C := RX4) (T := TX4) (N := 16) hx hb hts hin_X4 hown hK hP 0 rfl rfl 15 (by decide) (hts (.fieldLink RX4 36 "MigrationledgerModel" "hasCrashed" "[Z") (by decide +kernel)) (fun _ h9 => h9) rfl dX4_step_370 ?_
                            refine lv_iload_n hx hb dX4_step_373 rfl (lv_at hl 9 rfl) ?_
                            refine ml_zald hx hb hK hP 8 2 rfl rfl (j) rfl (by omega) (Nat.le_of_ble_eq_true rfl) (1) pk_us dX4_step_374 ?_
                            refine lv_if_ne (tgt := 433) hx hb dX4_step_375 (by decide) (fun c_375 => ?_) (fun c_375 => False.elim (by revert c_375; decide))
                            refine lv_iload hx hb dX4_step_433 (lv_at hl 3 rfl) ?_
                            refine lv_iload hx hb dX4_step_435 (lv_at hl 5 rfl) ?_
                            refine lv_if_eq (tgt := 445) hx hb dX4_step_437 (by decide) (fun c_437 => ?_) (fun c_437 => False.elim (by revert c_437; decide))
                            refine lv_iconst (v := 0) hx hb dX4_step_445 (by decide) ?_
                            refine lv_isub hx hb dX4_step_446 ?_
                            refine ml_eqi (nI (ch + 1)) (pk_sub (b := 0) (Nat.zero_le _)) ?_
                            exact ml_ri u_216 hx hb hr hlocks hP hK hD hS (by rw [(show sp_step T (nI j) (nI b) z = (0, nI (ch + 1), ucr T2 (upd (tcr T2) j 1)) from by unfold sp_step; rw [cif_f (not_not_intro ⟨c_4, c_14, c_24⟩), cif_f (fun q => q.elim c_49 c_56 : ¬ ((crd T (nI j) ∨ ¬ has T (nI j)) ∨ tac T = 0)), ix_n (j := j) (by omega), ix_n (j := b) (by omega), ← hg, sgo_cr hlf e2 c_317, stR_2] <;> rfl)]) (by rw [(show sp_step T (nI j) (nI b) z = (0, nI (ch + 1), ucr T2 (upd (tcr T2) j 1)) from by unfold sp_step; rw [cif_f (not_not_intro ⟨c_4, c_14, c_24⟩), cif_f (fun q => q.elim c_49 c_56 : ¬ ((crd T (nI j) ∨ ¬ has T (nI j)) ∨ tac T = 0)), ix_n (j := j) (by omega), ix_n (j := b) (by omega), ← hg, sgo_cr hlf e2 c_317, stR_2] <;> rfl)]) dX4_step_447
                          · refine lv_iload hx hb dX4_step_119 (lv_at hl 2 rfl) ?_
                            refine lv_if_eq (tgt := 369) hx hb dX4_step_121 (by decide) (fun c_121 => ?_) (fun c_121 => False.elim (by revert c_121; decide))
                            refine lv_aload_n hx hb dX4_step_369 rfl (lv_at hl 8 rfl) ?_
                            refine va_get (D := G) (ci := 4) (v := .ref (a 8)) (C := RX4) (T := TX4) (N := 16) hx hb hts hin_X4 hown hK hP 0 rfl rfl 15 (by decide) (hts (.fieldLink RX4 36 "MigrationledgerModel" "hasCrashed" "[Z") (by decide +kernel)) (fun _ h9 => h9) rfl dX4_step_370 ?_
                            refine lv_iload_n hx hb dX4_step_373 rfl (lv_at hl 9 rfl) ?_
                            refine ml_zald hx hb hK hP 8 2 rfl rfl (j) rfl (by omega) (Nat.le_of_ble_eq_true rfl) (1) pk_us dX4_step_374 ?_
                            refine lv_if_ne (tgt := 433) hx hb dX4_step_375 (by decide) (fun c_375 => ?_) (fun c_375 => False.elim (by revert c_375; decide))
                            refine lv_iload hx hb dX4_step_433 (lv_at hl 3 rfl) ?_
                            refine lv_iload hx hb dX4_step_435 (lv_at hl 5 rfl) ?_
                            refine lv_if_eq (tgt := 445) hx hb dX4_step_437 (by decide) (fun c_437 => ?_) (fun c_437 => False.elim (by revert c_437; decide))
                            refine lv_iconst (v := 0) hx hb dX4_step_445 (by decide) ?_
                            refine lv_isub hx hb dX4_step_446 ?_
                            refine ml_eqi (nI (ch + 1)) (pk_sub (b := 0) (Nat.zero_le _)) ?_
                            exact ml_ri u_216 hx hb hr hlocks hP hK hD hS (by rw [(show sp_step T (nI j) (nI b) z = (0, nI (ch + 1), ucr T2 (upd (tcr T2) j 1)) from by unfold sp_step; rw [cif_f (not_not_intro ⟨c_4, c_14, c_24⟩), cif_f (fun q => q.elim c_49 c_56 : ¬ ((crd T (nI j) ∨ ¬ has T (nI j)) ∨ tac T = 0)), ix_n (j := j) (by omega), ix_n (j := b) (by omega), ← hg, sgo_cr hlf e2 c_317, stR_2] <;> rfl)]) (by rw [(show sp_step T (nI j) (nI b) z = (0, nI (ch + 1), ucr T2 (upd (tcr T2) j 1)) from by unfold sp_step; rw [cif_f (not_not_intro ⟨c_4, c_14, c_24⟩), cif_f (fun q => q.elim c_49 c_56 : ¬ ((crd T (nI j) ∨ ¬ has T (nI j)) ∨ tac T = 0)), ix_n (j := j) (by omega), ix_n (j := b) (by omega), ← hg, sgo_cr hlf e2 c_317, stR_2] <;> rfl)]) dX4_step_447
                      · have e2n : stp T1 (tac T = 3) (idB T1 (tac T = 3) kk) = none := stp_n ((ap_F c_77).symm.trans (by rw [hkp.2.2.1]; exact is_n c_219))
                        refine lv_iconst (v := 1) hx hb dX4_step_222 (by decide) ?_
                        refine lv_goto (tgt := 227) hx hb dX4_step_223 (by decide) ?_
                        refine lv_istore (lv' := [(9, .int 1), (13, .int 1), (12, .int (nI (idB T1 (tac T = 3) kk))), (0, .ref (a 0)), (1, .int (nI j)), (2, .int (nI b)), (3, .int z), (4, .int 1), (5, .int 0), (6, .int (nI (tlv T + 1))), (7, .int (nI ch)), (8, .int 1), (10, .int (nI p9)), (11, .int (nI kk))]) hx hb dX4_step_227 hl (by decide) rfl (fun ls hl => ?_)
                        refine lv_iload hx hb dX4_step_229 (lv_at hl 0 rfl) ?_
                        refine lv_if_ne (tgt := 238) hx hb dX4_step_231 (by decide) (fun c_231 => ?_) (fun c_231 => False.elim (by revert c_231; decide))
                        refine lv_iconst (v := 0) hx hb dX4_step_238 (by decide) ?_
                        refine lv_istore (lv' := [(8, .int 0), (9, .int 1), (13, .int 1), (12, .int (nI (idB T1 (tac T = 3) kk))), (0, .ref (a 0)), (1, .int (nI j)), (2, .int (nI b)), (3, .int z), (4, .int 1), (5, .int 0), (6, .int (nI (tlv T + 1))), (7, .int (nI ch)), (10, .int (nI p9)), (11, .int (nI kk))]) hx hb dX4_step_239 hl (by decide) rfl (fun ls hl => ?_)
                        refine lv_iload hx hb dX4_step_241 (lv_at hl 2 rfl) ?_
                        refine lv_if_eq (tgt := 339) hx hb dX4_step_243 (by decide) (fun c_243 => False.elim (by revert c_243; decide)) (fun c_243 => ?_)
                        refine lv_iload hx hb dX4_step_246 (lv_at hl 0 rfl) ?_
                        refine lv_if_eq (tgt := 339) hx hb dX4_step_248 (by decide) (fun c_248 => ?_) (fun c_248 => False.elim (by revert c_248; decide))
                        refine lv_iload hx hb dX4_step_339 (lv_at hl 12 rfl) ?_
                        refine lv_iload hx hb dX4_step_341 (lv_at hl 0 rfl) ?_
                        refine lv_if_ne (tgt := 350) hx hb dX4_step_343 (by decide) (fun c_343 => False.elim (by revert c_343; decide)) (fun c_343 => ?_)
                        refine lv_iconst (v := 0) hx hb dX4_step_346 (by decide) ?_
                        refine lv_goto (tgt := 360) hx hb dX4_step_347 (by decide) ?_
                        refine lv_iadd hx hb dX4_step_360 ?_
                        refine ml_eqi (nI p9) (nI_add p9 0) ?_
                        refine lv_istore (lv' := [(10, .int (nI p9)), (8, .int 0), (9, .int 1), (13, .int 1), (12, .int (nI (idB T1 (tac T = 3) kk))), (0, .ref (a 0)), (1, .int (nI j)), (2, .int (nI b)), (3, .int z), (4, .int 1), (5, .int 0), (6, .int (nI (tlv T + 1))), (7, .int (nI ch)), (11, .int (nI kk))]) hx hb dX4_step_361 hl (by decide) rfl (fun ls hl => ?_)
                        refine lv_iinc (v := nI (kk + 1)) (lv' := [(11, .int (nI (kk + 1))), (10, .int (nI p9)), (8, .int 0), (9, .int 1), (13, .int 1), (12, .int (nI (idB T1 (tac T = 3) kk))), (0, .ref (a 0)), (1, .int (nI j)), (2, .int (nI b)), (3, .int z), (4, .int 1), (5, .int 0), (6, .int (nI (tlv T + 1))), (7, .int (nI ch))]) hx hb dX4_step_363 hl (k := 13) rfl (nI_1 _) (by decide) rfl (fun ls hl => ?_)
                        refine lv_goto (tgt := 113) hx hb dX4_step_366 (by decide) ?_
                        refine lv_iload hx hb dX4_step_113 (lv_at hl 0 rfl) ?_
                        refine lv_iload_n hx hb dX4_step_115 rfl (lv_at hl 8 rfl) ?_
                        refine lv_icmp_ge (tgt := 369) hx hb dX4_step_116 (by decide) (fun c_116 => ?_) (fun c_116 => ?_)
                        · refine lv_aload_n hx hb dX4_step_369 rfl (lv_at hl 6 rfl) ?_
                          refine va_get (D := G) (ci := 4) (v := .ref (a 8)) (C := RX4) (T := TX4) (N := 16) hx hb hts hin_X4 hown hK hP 0 rfl rfl 15 (by decide) (hts (.fieldLink RX4 36 "MigrationledgerModel" "hasCrashed" "[Z") (by decide +kernel)) (fun _ h9 => h9) rfl dX4_step_370 ?_
                          refine lv_iload_n hx hb dX4_step_373 rfl (lv_at hl 7 rfl) ?_
                          refine ml_zald hx hb hK hP 8 2 rfl rfl (j) rfl (by omega) (Nat.le_of_ble_eq_true rfl) (0) hcr1 dX4_step_374 ?_
                          refine lv_if_ne (tgt := 433) hx hb dX4_step_375 (by decide) (fun c_375 => False.elim (by revert c_375; decide)) (fun c_375 => ?_)
                          refine lv_aload_n hx hb dX4_step_378 rfl (lv_at hl 6 rfl) ?_
                          refine lv_iload hx hb dX4_step_379 (lv_at hl 1 rfl) ?_
                          refine va_put (D := G) (ci := 4) (v := .int (nI p9)) (ty := .int) (C := RX4) (T := TX4) (N := 16) hx hb hts hin_X4 tyX4 tyX4_ok nmX4 hown hK hP hD hS 0 rfl rfl 8 (by decide) (hts (.fieldLink RX4 93 "MigrationledgerModel" "cursor" "I") (by decide +kernel)) (fun _ h9 => h9) rfl (by decide +kernel) rfl rfl (Nat.le_of_ble_eq_true rfl) dX4_step_381 (fun H locs hP hD hS => ?_)
                          have hP : va_P G vwCl (wM a cy (ucu T1 p9) 0 u_216) H := hP
                          have hD : va_D A (wM a cy (ucu T1 p9) 0 u_216) := hD
                          refine lv_iload hx hb dX4_step_384 (lv_at hl 11 rfl) ?_
                          refine lv_if_ne (tgt := 416) hx hb dX4_step_386 (by decide) (fun c_386 => False.elim (by revert c_386; decide)) (fun c_386 => ?_)
                          refine lv_aload_n hx hb dX4_step_389 rfl (lv_at hl 6 rfl) ?_
                          refine va_get (D := G) (ci := 4) (v := .int (nI p9)) (C := RX4) (T := TX4) (N := 16) hx hb hts hin_X4 hown hK hP 0 rfl rfl 8 (by decide) (hts (.fieldLink RX4 93 "MigrationledgerModel" "cursor" "I") (by decide +kernel)) (fun _ h9 => h9) rfl dX4_step_390 ?_
                          refine lv_bipush (v := 40) hx hb dX4_step_393 (by decide) ?_
                          refine lv_icmp_ne (tgt := 416) hx hb dX4_step_395 (by decide) (fun c_395 => ?_) (fun c_395 => False.elim (absurd ((nI_40 (by omega)).mp c_395) (by have q := hin.2.1 c_77; omega)))
                          refine lv_iload hx hb dX4_step_416 (lv_at hl 11 rfl) ?_
                          refine lv_if_eq (tgt := 433) hx hb dX4_step_418 (by decide) (fun c_418 => ?_) (fun c_418 => False.elim (by revert c_418; decide))
                          refine lv_iload hx hb dX4_step_433 (lv_at hl 13 rfl) ?_
                          refine lv_iload hx hb dX4_step_435 (lv_at hl 3 rfl) ?_
                          refine lv_if_eq (tgt := 445) hx hb dX4_step_437 (by decide) (fun c_437 => False.elim (by revert c_437; decide)) (fun c_437 => ?_)
                          refine lv_bipush (v := 100) hx hb dX4_step_440 (by decide) ?_
                          refine lv_goto (tgt := 446) hx hb dX4_step_442 (by decide) ?_
                          refine lv_isub hx hb dX4_step_446 ?_
                          exact ml_ri u_216 hx hb hr hlocks hP hK hD hS (by rw [(show sp_step T (nI j) (nI b) z = (0, (nI ch) - 100, ucu T1 p9) from by unfold sp_step; rw [cif_f (not_not_intro ⟨c_4, c_14, c_24⟩), cif_f (fun q => q.elim c_49 c_56 : ¬ ((crd T (nI j) ∨ ¬ has T (nI j)) ∨ tac T = 0)), ix_n (j := j) (by omega), ix_n (j := b) (by omega), ← hg, sgo_blk hlf e2n, stR_1, ← hp9] <;> rfl)]) (by rw [(show sp_step T (nI j) (nI b) z = (0, (nI ch) - 100, ucu T1 p9) from by unfold sp_step; rw [cif_f (not_not_intro ⟨c_4, c_14, c_24⟩), cif_f (fun q => q.elim c_49 c_56 : ¬ ((crd T (nI j) ∨ ¬ has T (nI j)) ∨ tac T = 0)), ix_n (j := j) (by omega), ix_n (j := b) (by omega), ← hg, sgo_blk hlf e2n, stR_1, ← hp9] <;> rfl)]) dX4_step_447
                        · refine lv_iload hx hb dX4_step_119 (lv_at hl 2 rfl) ?_
                          refine lv_if_eq (tgt := 369) hx hb dX4_step_121 (by decide) (fun c_121 => ?_) (fun c_121 => False.elim (by revert c_121; decide))
                          refine lv_aload_n hx hb dX4_step_369 rfl (lv_at hl 6 rfl) ?_
                          refine va_get (D := G) (ci := 4) (v := .ref (a 8)) (C := RX4) (T := TX4) (N := 16) hx hb hts hin_X4 hown hK hP 0 rfl rfl 15 (by decide) (hts (.fieldLink RX4 36 "MigrationledgerModel" "hasCrashed" "[Z") (by decide +kernel)) (fun _ h9 => h9) rfl dX4_step_370 ?_
                          refine lv_iload_n hx hb dX4_step_373 rfl (lv_at hl 7 rfl) ?_
                          refine ml_zald hx hb hK hP 8 2 rfl rfl (j) rfl (by omega) (Nat.le_of_ble_eq_true rfl) (0) hcr1 dX4_step_374 ?_
                          refine lv_if_ne (tgt := 433) hx hb dX4_step_375 (by decide) (fun c_375 => False.elim (by revert c_375; decide)) (fun c_375 => ?_)
                          refine lv_aload_n hx hb dX4_step_378 rfl (lv_at hl 6 rfl) ?_
                          refine lv_iload hx hb dX4_step_379 (lv_at hl 1 rfl) ?_
                          refine va_put (D := G) (ci := 4) (v := .int (nI p9)) (ty := .int) (C := RX4) (T := TX4) (N := 16) hx hb hts hin_X4 tyX4 tyX4_ok nmX4 hown hK hP hD hS 0 rfl rfl 8 (by decide) (hts (.fieldLink RX4 93 "MigrationledgerModel" "cursor" "I") (by decide +kernel)) (fun _ h9 => h9) rfl (by decide +kernel) rfl rfl (Nat.le_of_ble_eq_true rfl) dX4_step_381 (fun H locs hP hD hS => ?_)
                          have hP : va_P G vwCl (wM a cy (ucu T1 p9) 0 u_216) H := hP
                          have hD : va_D A (wM a cy (ucu T1 p9) 0 u_216) := hD
                          refine lv_iload hx hb dX4_step_384 (lv_at hl 11 rfl) ?_
                          refine lv_if_ne (tgt := 416) hx hb dX4_step_386 (by decide) (fun c_386 => False.elim (by revert c_386; decide)) (fun c_386 => ?_)
                          refine lv_aload_n hx hb dX4_step_389 rfl (lv_at hl 6 rfl) ?_
                          refine va_get (D := G) (ci := 4) (v := .int (nI p9)) (C := RX4) (T := TX4) (N := 16) hx hb hts hin_X4 hown hK hP 0 rfl rfl 8 (by decide) (hts (.fieldLink RX4 93 "MigrationledgerModel" "cursor" "I") (by decide +kernel)) (fun _ h9 => h9) rfl dX4_step_390 ?_
                          refine lv_bipush (v := 40) hx hb dX4_step_393 (by decide) ?_
                          refine lv_icmp_ne (tgt := 416) hx hb dX4_step_395 (by decide) (fun c_395 => ?_) (fun c_395 => False.elim (absurd ((nI_40 (by omega)).mp c_395) (by have q := hin.2.1 c_77; omega)))
                          refine lv_iload hx hb dX4_step_416 (lv_at hl 11 rfl) ?_
                          refine lv_if_eq (tgt := 433) hx hb dX4_step_418 (by decide) (fun c_418 => ?_) (fun c_418 => False.elim (by revert c_418; decide))
                          refine lv_iload hx hb dX4_step_433 (lv_at hl 13 rfl) ?_
                          refine lv_iload hx hb dX4_step_435 (lv_at hl 3 rfl) ?_
                          refine lv_if_eq (tgt := 445) hx hb dX4_step_437 (by decide) (fun c_437 => False.elim (by revert c_437; decide)) (fun c_437 => ?_)
                          refine lv_bipush (v := 100) hx hb dX4_step_440 (by decide) ?_
                          refine lv_goto (tgt := 446) hx hb dX4_step_442 (by decide) ?_
                          refine lv_isub hx hb dX4_step_446 ?_
                          exact ml_ri u_216 hx hb hr hlocks hP hK hD hS (by rw [(show sp_step T (nI j) (nI b) z = (0, (nI ch) - 100, ucu T1 p9) from by unfold sp_step; rw [cif_f (not_not_intro ⟨c_4, c_14, c_24⟩), cif_f (fun q => q.elim c_49 c_56 : ¬ ((crd T (nI j) ∨ ¬ has T (nI j)) ∨ tac T = 0)), ix_n (j := j) (by omega), ix_n (j := b) (by omega), ← hg, sgo_blk hlf e2n, stR_1, ← hp9] <;> rfl)]) (by rw [(show sp_step T (nI j) (nI b) z = (0, (nI ch) - 100, ucu T1 p9) from by unfold sp_step; rw [cif_f (not_not_intro ⟨c_4, c_14, c_24⟩), cif_f (fun q => q.elim c_49 c_56 : ¬ ((crd T (nI j) ∨ ¬ has T (nI j)) ∨ tac T = 0)), ix_n (j := j) (by omega), ix_n (j := b) (by omega), ← hg, sgo_blk hlf e2n, stR_1, ← hp9] <;> rfl)]) dX4_step_447
                    · refine lv_iconst (v := 1) hx hb dX4_step_183 (by decide) ?_
                      refine lv_goto (tgt := 188) hx hb dX4_step_184 (by decide) ?_
                      refine lv_iload hx hb dX4_step_188 (lv_at hl 6 rfl) ?_
                      refine lv_icmp_ne (tgt := 197) hx hb dX4_step_190 (by decide) (fun c_190 => ?_) (fun c_190 => False.elim (by revert c_190; decide))
                      refine lv_iconst (v := 0) hx hb dX4_step_197 (by decide) ?_
                      refine lv_istore (lv' := [(13, .int 0), (12, .int (nI (idB T1 (tac T = 3) kk))), (0, .ref (a 0)), (1, .int (nI j)), (2, .int (nI b)), (3, .int z), (4, .int 1), (5, .int 0), (6, .int (nI (tlv T + 1))), (7, .int (nI ch)), (8, .int 1), (9, .int 0), (10, .int (nI p9)), (11, .int (nI kk))]) hx hb dX4_step_198 hl (by decide) rfl (fun ls hl => ?_)
                      refine lv_iload hx hb dX4_step_200 (lv_at hl 0 rfl) ?_
                      refine lv_if_eq (tgt := 241) hx hb dX4_step_202 (by decide) (fun c_202 => ?_) (fun c_202 => False.elim (by revert c_202; decide))
                      refine lv_iload hx hb dX4_step_241 (lv_at hl 0 rfl) ?_
                      refine lv_if_eq (tgt := 339) hx hb dX4_step_243 (by decide) (fun c_243 => ?_) (fun c_243 => False.elim (by revert c_243; decide))
                      refine lv_iload hx hb dX4_step_339 (lv_at hl 12 rfl) ?_
                      refine lv_iload hx hb dX4_step_341 (lv_at hl 10 rfl) ?_
                      refine lv_if_ne (tgt := 350) hx hb dX4_step_343 (by decide) (fun c_343 => ?_) (fun c_343 => False.elim (by revert c_343; decide))
                      refine lv_iload hx hb dX4_step_350 (lv_at hl 7 rfl) ?_
                      refine lv_if_eq (tgt := 359) hx hb dX4_step_352 (by decide) (fun c_352 => ?_) (fun c_352 => False.elim (by revert c_352; decide))
                      refine lv_iconst (v := 1) hx hb dX4_step_359 (by decide) ?_
                      refine lv_iadd hx hb dX4_step_360 ?_
                      refine ml_eqi (nI (p9 + 1)) (nI_1 _) ?_
                      refine lv_istore (lv' := [(10, .int (nI (p9 + 1))), (13, .int 0), (12, .int (nI (idB T1 (tac T = 3) kk))), (0, .ref (a 0)), (1, .int (nI j)), (2, .int (nI b)), (3, .int z), (4, .int 1), (5, .int 0), (6, .int (nI (tlv T + 1))), (7, .int (nI ch)), (8, .int 1), (9, .int 0), (11, .int (nI kk))]) hx hb dX4_step_361 hl (by decide) rfl (fun ls hl => ?_)
                      refine lv_iinc (v := nI (kk + 1)) (lv' := [(11, .int (nI (kk + 1))), (10, .int (nI (p9 + 1))), (13, .int 0), (12, .int (nI (idB T1 (tac T = 3) kk))), (0, .ref (a 0)), (1, .int (nI j)), (2, .int (nI b)), (3, .int z), (4, .int 1), (5, .int 0), (6, .int (nI (tlv T + 1))), (7, .int (nI ch)), (8, .int 1), (9, .int 0)]) hx hb dX4_step_363 hl (k := 13) rfl (nI_1 _) (by decide) rfl (fun ls hl => ?_)
                      refine lv_goto (tgt := 113) hx hb dX4_step_366 (by decide) ?_
                      exact ih (kk + 1) ch (p9 + 1) T1 sp1 (by omega) (by rw [hp9, poB_s_f c_77]) ((sgo_skip (fun q => q.2.elim (fun w => c_77 w.1) (fun w => w.2 (by rw [hkp.2.2.1]; exact Int32.not_lt.mp c_180)))).symm.trans hg) hI1 hkp _ _ _ hP hD hS (lv_sub hl [4, 5, 6, 7, 8, 9, 10, 11, 12, 13, 1, 0] rfl)
              exact LOOP (min b (left T (tac T = 3))) 0 0 (tcu T) T sp (by omega) poB_0.symm rfl hW ⟨rfl, rfl, rfl, rfl⟩ _ _ _ hP hD hS (lv_sub hl [8, 9, 10, 11, 7, 6, 5, 4, 3, 2, 1, 0] rfl)
            · refine lv_iconst (v := 1) hx hb dX4_step_80 (by decide) ?_
              refine lv_goto (tgt := 85) hx hb dX4_step_81 (by decide) ?_
              refine lv_istore (lv' := [(5, .int 1), (4, .int 1), (0, .ref (a 0)), (1, .int (nI j)), (2, .int (nI b)), (3, .int z)]) hx hb dX4_step_85 hl (by decide) rfl (fun ls hl => ?_)
              refine lv_aload_n hx hb dX4_step_87 rfl (lv_at hl 2 rfl) ?_
              refine va_get (D := G) (ci := 4) (v := .int (nI (tlv T))) (C := RX4) (T := TX4) (N := 16) hx hb hts hin_X4 hown hK hP 0 rfl rfl 6 (by decide) (hts (.fieldLink RX4 66 "MigrationledgerModel" "level" "I") (by decide +kernel)) (fun _ h9 => h9) rfl dX4_step_88 ?_
              refine lv_iconst (v := 1) hx hb dX4_step_91 (by decide) ?_
              refine lv_iadd hx hb dX4_step_92 ?_
              refine ml_eqi (nI (tlv T + 1)) (nI_add (tlv T) 1) ?_
              refine lv_istore (lv' := [(6, .int (nI (tlv T + 1))), (5, .int 1), (4, .int 1), (0, .ref (a 0)), (1, .int (nI j)), (2, .int (nI b)), (3, .int z)]) hx hb dX4_step_93 hl (by decide) rfl (fun ls hl => ?_)
              refine lv_iconst (v := 0) hx hb dX4_step_95 (by decide) ?_
              refine lv_istore (lv' := [(7, .int 0), (6, .int (nI (tlv T + 1))), (5, .int 1), (4, .int 1), (0, .ref (a 0)), (1, .int (nI j)), (2, .int (nI b)), (3, .int z)]) hx hb dX4_step_96 hl (by decide) rfl (fun ls hl => ?_)
              refine lv_iconst (v := 1) hx hb dX4_step_98 (by decide) ?_
              refine lv_istore (lv' := [(8, .int 1), (7, .int 0), (6, .int (nI (tlv T + 1))), (5, .int 1), (4, .int 1), (0, .ref (a 0)), (1, .int (nI j)), (2, .int (nI b)), (3, .int z)]) hx hb dX4_step_99 hl (by decide) rfl (fun ls hl => ?_)
              refine lv_iconst (v := 0) hx hb dX4_step_101 (by decide) ?_
              refine lv_istore (lv' := [(9, .int 0), (8, .int 1), (7, .int 0), (6, .int (nI (tlv T + 1))), (5, .int 1), (4, .int 1), (0, .ref (a 0)), (1, .int (nI j)), (2, .int (nI b)), (3, .int z)]) hx hb dX4_step_102 hl (by decide) rfl (fun ls hl => ?_)
              refine lv_aload_n hx hb dX4_step_104 rfl (lv_at hl 6 rfl) ?_
              refine va_get (D := G) (ci := 4) (v := .int (nI (tcu T))) (C := RX4) (T := TX4) (N := 16) hx hb hts hin_X4 hown hK hP 0 rfl rfl 8 (by decide) (hts (.fieldLink RX4 93 "MigrationledgerModel" "cursor" "I") (by decide +kernel)) (fun _ h9 => h9) rfl dX4_step_105 ?_
              refine lv_istore (lv' := [(10, .int (nI (tcu T))), (9, .int 0), (8, .int 1), (7, .int 0), (6, .int (nI (tlv T + 1))), (5, .int 1), (4, .int 1), (0, .ref (a 0)), (1, .int (nI j)), (2, .int (nI b)), (3, .int z)]) hx hb dX4_step_108 hl (by decide) rfl (fun ls hl => ?_)
              refine lv_iconst (v := 0) hx hb dX4_step_110 (by decide) ?_
              refine lv_istore (lv' := [(11, .int 0), (10, .int (nI (tcu T))), (9, .int 0), (8, .int 1), (7, .int 0), (6, .int (nI (tlv T + 1))), (5, .int 1), (4, .int 1), (0, .ref (a 0)), (1, .int (nI j)), (2, .int (nI b)), (3, .int z)]) hx hb dX4_step_111 hl (by decide) rfl (fun ls hl => ?_)
              have LOOP : ∀ (r : Nat) (kk ch p9 : Nat) (T1 : TS) (sp1 : Nat → Int64) (hk9 : kk + r = min b (left T (tac T = 3))) (hp9 : p9 = poB T1 (tac T = 3) kk) (hg : sgo (tac T = 3) z r kk ch T1 = sgo (tac T = 3) z (min b (left T (tac T = 3))) 0 0 T) (hI1 : InvW T1) (hkp : keepR T T1) (H : Heap) (locs : List Loc) (ls : Array Slot), va_P G vwCl (wM a cy T1 0 sp1) H → va_D A (wM a cy T1 0 sp1) → va_S A s.heap H locs → lv_has ls 15 [(0, .ref (a 0)), (1, .int (nI j)), (2, .int (nI b)), (3, .int z), (4, .int 1), (5, .int 1), (6, .int (nI (tlv T + 1))), (7, .int (nI ch)), (8, .int 1), (9, .int 0), (10, .int (nI p9)), (11, .int (nI kk))] → W p l e (headSpec wsX4_step ({ frames := 3, cells := 0, slots := 0, locals := 62 } : Room)).room s m (#[.ref (a 0), .int (nI j), .int (nI b), .int z] : Array Value) below meth c H locs 0 0 (MQ below (va_Qi (fun (r : Int32) (u : Nat → Int64) => (sp_step T (nI j) (nI b) z).2.1 = r) (ml_B G cy A (fun (u : Nat → Int64) => (wM a cy ((sp_step T (nI j) (nI b) z).2.2) ((sp_step T (nI j) (nI b) z).1) u))) A) (#[.ref (a 0), .int (nI j), .int (nI b), .int z] : Array Value) s 0 0 A) (F0 m 113 ls []) := by
                intro r
                induction r with
                | zero =>
                  intro kk ch p9 T1 sp1 hk9 hp9 hg hI1 hkp H locs ls hP hD hS hl
                  have hu1 : unD T1 (tac T = 3) := unD_cg hkp.1 hu
                  have hcu1 : tcu T1 ≤ 40 := hI1.1.2.2
                  have hl1 : left T1 (tac T = 3) = left T (tac T = 3) := left_cg hkp.2.1
                  have hcr1 : tcr T1 j = 0 := by rw [hkp.2.2.2]; exact hcr0
                  have hout := poB_out (T := T1) (und := tac T = 3) hcu1
                  have hp40 : p9 ≤ 40 := by rw [hp9]; exact (poB_le hcu1 (by rw [hl1]; omega)).1
                  have hend : ((tac T = 3) → kk < b → p9 = 0) ∧ (¬ (tac T = 3) → kk < b → p9 = 40) := by
                    refine ⟨fun q hb9 => ?_, fun q hb9 => ?_⟩
                    · rw [hp9, show kk = left T1 (tac T = 3) by rw [hl1]; omega]; exact hout.1 q
                    · rw [hp9, show kk = left T1 (tac T = 3) by rw [hl1]; omega]; exact hout.2 q
                  refine lv_iload hx hb dX4_step_113 (lv_at hl 11 rfl) ?_
                  refine lv_iload_n hx hb dX4_step_115 rfl (lv_at hl 2 rfl) ?_
                  refine lv_icmp_ge (tgt := 369) hx hb dX4_step_116 (by decide) (fun c_116 => ?_) (fun c_116 => ?_)
                  · refine lv_aload_n hx hb dX4_step_369 rfl (lv_at hl 0 rfl) ?_
                    refine va_get (D := G) (ci := 4) (v := .ref (a 8)) (C := RX4) (T := TX4) (N := 16) hx hb hts hin_X4 hown hK hP 0 rfl rfl 15 (by decide) (hts (.fieldLink RX4 36 "MigrationledgerModel" "hasCrashed" "[Z") (by decide +kernel)) (fun _ h9 => h9) rfl dX4_step_370 ?_
                    refine lv_iload_n hx hb dX4_step_373 rfl (lv_at hl 1 rfl) ?_
                    refine ml_zald hx hb hK hP 8 2 rfl rfl (j) rfl (by omega) (Nat.le_of_ble_eq_true rfl) (0) hcr1 dX4_step_374 ?_
                    refine lv_if_ne (tgt := 433) hx hb dX4_step_375 (by decide) (fun c_375 => False.elim (by revert c_375; decide)) (fun c_375 => ?_)
                    refine lv_aload_n hx hb dX4_step_378 rfl (lv_at hl 0 rfl) ?_
                    refine lv_iload hx hb dX4_step_379 (lv_at hl 10 rfl) ?_
                    refine va_put (D := G) (ci := 4) (v := .int (nI p9)) (ty := .int) (C := RX4) (T := TX4) (N := 16) hx hb hts hin_X4 tyX4 tyX4_ok nmX4 hown hK hP hD hS 0 rfl rfl 8 (by decide) (hts (.fieldLink RX4 93 "MigrationledgerModel" "cursor" "I") (by decide +kernel)) (fun _ h9 => h9) rfl (by decide +kernel) rfl rfl (Nat.le_of_ble_eq_true rfl) dX4_step_381 (fun H locs hP hD hS => ?_)
                    have hP : va_P G vwCl (wM a cy (ucu T1 p9) 0 sp1) H := hP
                    have hD : va_D A (wM a cy (ucu T1 p9) 0 sp1) := hD
                    refine lv_iload hx hb dX4_step_384 (lv_at hl 5 rfl) ?_
                    refine lv_if_ne (tgt := 416) hx hb dX4_step_386 (by decide) (fun c_386 => ?_) (fun c_386 => False.elim (by revert c_386; decide))
                    refine lv_iload hx hb dX4_step_416 (lv_at hl 5 rfl) ?_
                    refine lv_if_eq (tgt := 433) hx hb dX4_step_418 (by decide) (fun c_418 => False.elim (by revert c_418; decide)) (fun c_418 => ?_)
                    refine lv_aload_n hx hb dX4_step_421 rfl (lv_at hl 0 rfl) ?_
                    refine va_get (D := G) (ci := 4) (v := .int (nI p9)) (C := RX4) (T := TX4) (N := 16) hx hb hts hin_X4 hown hK hP 0 rfl rfl 8 (by decide) (hts (.fieldLink RX4 93 "MigrationledgerModel" "cursor" "I") (by decide +kernel)) (fun _ h9 => h9) rfl dX4_step_422 ?_
                    refine lv_if_ne (tgt := 433) hx hb dX4_step_425 (by decide) (fun c_425 => ?_) (fun c_425 => ?_)
                    · refine lv_iload hx hb dX4_step_433 (lv_at hl 7 rfl) ?_
                      refine lv_iload hx hb dX4_step_435 (lv_at hl 9 rfl) ?_
                      refine lv_if_eq (tgt := 445) hx hb dX4_step_437 (by decide) (fun c_437 => ?_) (fun c_437 => False.elim (by revert c_437; decide))
                      refine lv_iconst (v := 0) hx hb dX4_step_445 (by decide) ?_
                      refine lv_isub hx hb dX4_step_446 ?_
                      refine ml_eqi (nI ch) (pk_sub (b := 0) (Nat.zero_le _)) ?_
                      exact ml_ri sp1 hx hb hr hlocks hP hK hD hS (by rw [(show sp_step T (nI j) (nI b) z = (0, nI ch, ucu T1 p9) from by unfold sp_step; rw [cif_f (not_not_intro ⟨c_4, c_14, c_24⟩), cif_f (fun q => q.elim c_49 c_56 : ¬ ((crd T (nI j) ∨ ¬ has T (nI j)) ∨ tac T = 0)), ix_n (j := j) (by omega), ix_n (j := b) (by omega), ← hg, show sgo (tac T = 3) z 0 kk ch T1 = (0, kk, ch, T1) from rfl, stR_0, ← hp9, fin_e2 c_77 (fun q => c_425 ((nI_z (by omega)).mpr q))] <;> rfl)]) (by rw [(show sp_step T (nI j) (nI b) z = (0, nI ch, ucu T1 p9) from by unfold sp_step; rw [cif_f (not_not_intro ⟨c_4, c_14, c_24⟩), cif_f (fun q => q.elim c_49 c_56 : ¬ ((crd T (nI j) ∨ ¬ has T (nI j)) ∨ tac T = 0)), ix_n (j := j) (by omega), ix_n (j := b) (by omega), ← hg, show sgo (tac T = 3) z 0 kk ch T1 = (0, kk, ch, T1) from rfl, stR_0, ← hp9, fin_e2 c_77 (fun q => c_425 ((nI_z (by omega)).mpr q))] <;> rfl)]) dX4_step_447
                    · refine lv_aload_n hx hb dX4_step_428 rfl (lv_at hl 0 rfl) ?_
                      refine lv_iconst (v := 0) hx hb dX4_step_429 (by decide) ?_
                      refine va_put (D := G) (ci := 4) (v := .int 0) (ty := .int) (C := RX4) (T := TX4) (N := 16) hx hb hts hin_X4 tyX4 tyX4_ok nmX4 hown hK hP hD hS 0 rfl rfl 7 (by decide) (hts (.fieldLink RX4 69 "MigrationledgerModel" "active" "I") (by decide +kernel)) (fun _ h9 => h9) rfl (by decide +kernel) rfl rfl (Nat.le_of_ble_eq_true rfl) dX4_step_430 (fun H locs hP hD hS => ?_)
                      have hP : va_P G vwCl (wM a cy (uac (ucu T1 p9) 0) 0 sp1) H := hP
                      have hD : va_D A (wM a cy (uac (ucu T1 p9) 0) 0 sp1) := hD
                      refine lv_iload hx hb dX4_step_433 (lv_at hl 7 rfl) ?_
                      refine lv_iload hx hb dX4_step_435 (lv_at hl 9 rfl) ?_
                      refine lv_if_eq (tgt := 445) hx hb dX4_step_437 (by decide) (fun c_437 => ?_) (fun c_437 => False.elim (by revert c_437; decide))
                      refine lv_iconst (v := 0) hx hb dX4_step_445 (by decide) ?_
                      refine lv_isub hx hb dX4_step_446 ?_
                      refine ml_eqi (nI ch) (pk_sub (b := 0) (Nat.zero_le _)) ?_
                      exact ml_ri sp1 hx hb hr hlocks hP hK hD hS (by rw [(show sp_step T (nI j) (nI b) z = (0, nI ch, uac (ucu T1 p9) 0) from by unfold sp_step; rw [cif_f (not_not_intro ⟨c_4, c_14, c_24⟩), cif_f (fun q => q.elim c_49 c_56 : ¬ ((crd T (nI j) ∨ ¬ has T (nI j)) ∨ tac T = 0)), ix_n (j := j) (by omega), ix_n (j := b) (by omega), ← hg, show sgo (tac T = 3) z 0 kk ch T1 = (0, kk, ch, T1) from rfl, stR_0, ← hp9, fin_e1 c_77 (l0_of (by omega) c_425)] <;> rfl)]) (by rw [(show sp_step T (nI j) (nI b) z = (0, nI ch, uac (ucu T1 p9) 0) from by unfold sp_step; rw [cif_f (not_not_intro ⟨c_4, c_14, c_24⟩), cif_f (fun q => q.elim c_49 c_56 : ¬ ((crd T (nI j) ∨ ¬ has T (nI j)) ∨ tac T = 0)), ix_n (j := j) (by omega), ix_n (j := b) (by omega), ← hg, show sgo (tac T = 3) z 0 kk ch T1 = (0, kk, ch, T1) from rfl, stR_0, ← hp9, fin_e1 c_77 (l0_of (by omega) c_425)] <;> rfl)]) dX4_step_447
                  · refine lv_iload hx hb dX4_step_119 (lv_at hl 8 rfl) ?_
                    refine lv_if_eq (tgt := 369) hx hb dX4_step_121 (by decide) (fun c_121 => False.elim (by revert c_121; decide)) (fun c_121 => ?_)
                    refine lv_iload hx hb dX4_step_124 (lv_at hl 5 rfl) ?_
                    refine lv_if_eq (tgt := 137) hx hb dX4_step_126 (by decide) (fun c_126 => False.elim (by revert c_126; decide)) (fun c_126 => ?_)
                    refine lv_iload hx hb dX4_step_129 (lv_at hl 10 rfl) ?_
                    refine lv_if_le (tgt := 369) hx hb dX4_step_131 (by decide) (fun c_131 => ?_) (fun c_131 => False.elim (c_131 ((lft_le (by omega)).mpr (hend.1 c_77 ((Nat.lt_of_not_le fun q => c_116 ((nI_leI (by omega) (by omega)).mpr q)))))))
                    refine lv_aload_n hx hb dX4_step_369 rfl (lv_at hl 0 rfl) ?_
                    refine va_get (D := G) (ci := 4) (v := .ref (a 8)) (C := RX4) (T := TX4) (N := 16) hx hb hts hin_X4 hown hK hP 0 rfl rfl 15 (by decide) (hts (.fieldLink RX4 36 "MigrationledgerModel" "hasCrashed" "[Z") (by decide +kernel)) (fun _ h9 => h9) rfl dX4_step_370 ?_
                    refine lv_iload_n hx hb dX4_step_373 rfl (lv_at hl 1 rfl) ?_
                    refine ml_zald hx hb hK hP 8 2 rfl rfl (j) rfl (by omega) (Nat.le_of_ble_eq_true rfl) (0) hcr1 dX4_step_374 ?_
                    refine lv_if_ne (tgt := 433) hx hb dX4_step_375 (by decide) (fun c_375 => False.elim (by revert c_375; decide)) (fun c_375 => ?_)
                    refine lv_aload_n hx hb dX4_step_378 rfl (lv_at hl 0 rfl) ?_
                    refine lv_iload hx hb dX4_step_379 (lv_at hl 10 rfl) ?_
                    refine va_put (D := G) (ci := 4) (v := .int (nI p9)) (ty := .int) (C := RX4) (T := TX4) (N := 16) hx hb hts hin_X4 tyX4 tyX4_ok nmX4 hown hK hP hD hS 0 rfl rfl 8 (by decide) (hts (.fieldLink RX4 93 "MigrationledgerModel" "cursor" "I") (by decide +kernel)) (fun _ h9 => h9) rfl (by decide +kernel) rfl rfl (Nat.le_of_ble_eq_true rfl) dX4_step_381 (fun H locs hP hD hS => ?_)
                    have hP : va_P G vwCl (wM a cy (ucu T1 p9) 0 sp1) H := hP
                    have hD : va_D A (wM a cy (ucu T1 p9) 0 sp1) := hD
                    refine lv_iload hx hb dX4_step_384 (lv_at hl 5 rfl) ?_
                    refine lv_if_ne (tgt := 416) hx hb dX4_step_386 (by decide) (fun c_386 => ?_) (fun c_386 => False.elim (by revert c_386; decide))
                    refine lv_iload hx hb dX4_step_416 (lv_at hl 5 rfl) ?_
                    refine lv_if_eq (tgt := 433) hx hb dX4_step_418 (by decide) (fun c_418 => False.elim (by revert c_418; decide)) (fun c_418 => ?_)
                    refine lv_aload_n hx hb dX4_step_421 rfl (lv_at hl 0 rfl) ?_
                    refine va_get (D := G) (ci := 4) (v := .int (nI p9)) (C := RX4) (T := TX4) (N := 16) hx hb hts hin_X4 hown hK hP 0 rfl rfl 8 (by decide) (hts (.fieldLink RX4 93 "MigrationledgerModel" "cursor" "I") (by decide +kernel)) (fun _ h9 => h9) rfl dX4_step_422 ?_
                    refine lv_if_ne (tgt := 433) hx hb dX4_step_425 (by decide) (fun c_425 => ?_) (fun c_425 => ?_)
                    · refine lv_iload hx hb dX4_step_433 (lv_at hl 7 rfl) ?_
                      refine lv_iload hx hb dX4_step_435 (lv_at hl 9 rfl) ?_
                      refine lv_if_eq (tgt := 445) hx hb dX4_step_437 (by decide) (fun c_437 => ?_) (fun c_437 => False.elim (by revert c_437; decide))
                      refine lv_iconst (v := 0) hx hb dX4_step_445 (by decide) ?_
                      refine lv_isub hx hb dX4_step_446 ?_
                      refine ml_eqi (nI ch) (pk_sub (b := 0) (Nat.zero_le _)) ?_
                      exact ml_ri sp1 hx hb hr hlocks hP hK hD hS (by rw [(show sp_step T (nI j) (nI b) z = (0, nI ch, ucu T1 p9) from by unfold sp_step; rw [cif_f (not_not_intro ⟨c_4, c_14, c_24⟩), cif_f (fun q => q.elim c_49 c_56 : ¬ ((crd T (nI j) ∨ ¬ has T (nI j)) ∨ tac T = 0)), ix_n (j := j) (by omega), ix_n (j := b) (by omega), ← hg, show sgo (tac T = 3) z 0 kk ch T1 = (0, kk, ch, T1) from rfl, stR_0, ← hp9, fin_e2 c_77 (fun q => c_425 ((nI_z (by omega)).mpr q))] <;> rfl)]) (by rw [(show sp_step T (nI j) (nI b) z = (0, nI ch, ucu T1 p9) from by unfold sp_step; rw [cif_f (not_not_intro ⟨c_4, c_14, c_24⟩), cif_f (fun q => q.elim c_49 c_56 : ¬ ((crd T (nI j) ∨ ¬ has T (nI j)) ∨ tac T = 0)), ix_n (j := j) (by omega), ix_n (j := b) (by omega), ← hg, show sgo (tac T = 3) z 0 kk ch T1 = (0, kk, ch, T1) from rfl, stR_0, ← hp9, fin_e2 c_77 (fun q => c_425 ((nI_z (by omega)).mpr q))] <;> rfl)]) dX4_step_447
                    · refine lv_aload_n hx hb dX4_step_428 rfl (lv_at hl 0 rfl) ?_
                      refine lv_iconst (v := 0) hx hb dX4_step_429 (by decide) ?_
                      refine va_put (D := G) (ci := 4) (v := .int 0) (ty := .int) (C := RX4) (T := TX4) (N := 16) hx hb hts hin_X4 tyX4 tyX4_ok nmX4 hown hK hP hD hS 0 rfl rfl 7 (by decide) (hts (.fieldLink RX4 69 "MigrationledgerModel" "active" "I") (by decide +kernel)) (fun _ h9 => h9) rfl (by decide +kernel) rfl rfl (Nat.le_of_ble_eq_true rfl) dX4_step_430 (fun H locs hP hD hS => ?_)
                      have hP : va_P G vwCl (wM a cy (uac (ucu T1 p9) 0) 0 sp1) H := hP
                      have hD : va_D A (wM a cy (uac (ucu T1 p9) 0) 0 sp1) := hD
                      refine lv_iload hx hb dX4_step_433 (lv_at hl 7 rfl) ?_
                      refine lv_iload hx hb dX4_step_435 (lv_at hl 9 rfl) ?_
                      refine lv_if_eq (tgt := 445) hx hb dX4_step_437 (by decide) (fun c_437 => ?_) (fun c_437 => False.elim (by revert c_437; decide))
                      refine lv_iconst (v := 0) hx hb dX4_step_445 (by decide) ?_
                      refine lv_isub hx hb dX4_step_446 ?_
                      refine ml_eqi (nI ch) (pk_sub (b := 0) (Nat.zero_le _)) ?_
                      exact ml_ri sp1 hx hb hr hlocks hP hK hD hS (by rw [(show sp_step T (nI j) (nI b) z = (0, nI ch, uac (ucu T1 p9) 0) from by unfold sp_step; rw [cif_f (not_not_intro ⟨c_4, c_14, c_24⟩), cif_f (fun q => q.elim c_49 c_56 : ¬ ((crd T (nI j) ∨ ¬ has T (nI j)) ∨ tac T = 0)), ix_n (j := j) (by omega), ix_n (j := b) (by omega), ← hg, show sgo (tac T = 3) z 0 kk ch T1 = (0, kk, ch, T1) from rfl, stR_0, ← hp9, fin_e1 c_77 (l0_of (by omega) c_425)] <;> rfl)]) (by rw [(show sp_step T (nI j) (nI b) z = (0, nI ch, uac (ucu T1 p9) 0) from by unfold sp_step; rw [cif_f (not_not_intro ⟨c_4, c_14, c_24⟩), cif_f (fun q => q.elim c_49 c_56 : ¬ ((crd T (nI j) ∨ ¬ has T (nI j)) ∨ tac T = 0)), ix_n (j := j) (by omega), ix_n (j := b) (by omega), ← hg, show sgo (tac T = 3) z 0 kk ch T1 = (0, kk, ch, T1) from rfl, stR_0, ← hp9, fin_e1 c_77 (l0_of (by omega) c_425)] <;> rfl)]) dX4_step_447
                | succ r ih =>
                  intro kk ch p9 T1 sp1 hk9 hp9 hg hI1 hkp H locs ls hP hD hS hl
                  have hu1 : unD T1 (tac T = 3) := unD_cg hkp.1 hu
                  have hcu1 : tcu T1 ≤ 40 := hI1.1.2.2
                  have hl1 : left T1 (tac T = 3) = left T (tac T = 3) := left_cg hkp.2.1
                  have hcr1 : tcr T1 j = 0 := by rw [hkp.2.2.2]; exact hcr0
                  have hin0 := poB_in (T := T1) (und := tac T = 3) (k := kk) hcu1 (by rw [hl1]; omega)
                  have hin : ((tac T = 3) → 0 < p9) ∧ (¬ (tac T = 3) → p9 < 40) ∧ p9 ≤ 40 := by rw [hp9]; exact hin0
                  have hid := idB_lt (T := T1) (und := tac T = 3) (k := kk) hcu1 (by rw [hl1]; omega)
                  have hac1 : tac T1 ≠ 0 := by rw [hkp.1]; exact c_56
                  have hlv1 : tlv T1 < tn T1 := hI1.2.1.elim (fun q => absurd q hac1) (fun q => q.2)
                  have hn1 : tn T1 ≤ 12 := hI1.1.1
                  have hlvT : tlv T1 = tlv T := hkp.2.2.1
                  refine lv_iload hx hb dX4_step_113 (lv_at hl 11 rfl) ?_
                  refine lv_iload_n hx hb dX4_step_115 rfl (lv_at hl 2 rfl) ?_
                  refine lv_icmp_ge (tgt := 369) hx hb dX4_step_116 (by decide) (fun c_116 => False.elim (absurd ((nI_leI (by omega) (by omega)).mp c_116) (by omega))) (fun c_116 => ?_)
                  refine lv_iload hx hb dX4_step_119 (lv_at hl 8 rfl) ?_
                  refine lv_if_eq (tgt := 369) hx hb dX4_step_121 (by decide) (fun c_121 => False.elim (by revert c_121; decide)) (fun c_121 => ?_)
                  refine lv_iload hx hb dX4_step_124 (lv_at hl 5 rfl) ?_
                  refine lv_if_eq (tgt := 137) hx hb dX4_step_126 (by decide) (fun c_126 => False.elim (by revert c_126; decide)) (fun c_126 => ?_)
                  refine lv_iload hx hb dX4_step_129 (lv_at hl 10 rfl) ?_
                  refine lv_if_le (tgt := 369) hx hb dX4_step_131 (by decide) (fun c_131 => False.elim (absurd ((lft_le (by omega)).mp c_131) (by have q := hin.1 c_77; omega))) (fun c_131 => ?_)
                  refine lv_goto (tgt := 144) hx hb dX4_step_134 (by decide) ?_
                  refine lv_iload hx hb dX4_step_144 (lv_at hl 5 rfl) ?_
                  refine lv_if_eq (tgt := 156) hx hb dX4_step_146 (by decide) (fun c_146 => False.elim (by revert c_146; decide)) (fun c_146 => ?_)
                  refine lv_iload hx hb dX4_step_149 (lv_at hl 10 rfl) ?_
                  refine lv_iconst (v := 1) hx hb dX4_step_151 (by decide) ?_
                  refine lv_isub hx hb dX4_step_152 ?_
                  refine ml_eqi (nI (p9 - 1)) (pk_sub (b := 1) (by have q := hin.1 c_77; omega)) ?_
                  refine lv_goto (tgt := 158) hx hb dX4_step_153 (by decide) ?_
                  refine ml_eqi (nI (idB T1 (tac T = 3) kk)) (by rw [hp9, poB_id_t c_77]) ?_
                  refine lv_istore (lv' := [(12, .int (nI (idB T1 (tac T = 3) kk))), (0, .ref (a 0)), (1, .int (nI j)), (2, .int (nI b)), (3, .int z), (4, .int 1), (5, .int 1), (6, .int (nI (tlv T + 1))), (7, .int (nI ch)), (8, .int 1), (9, .int 0), (10, .int (nI p9)), (11, .int (nI kk))]) hx hb dX4_step_158 hl (by decide) rfl (fun ls hl => ?_)
                  refine lv_aload_n hx hb dX4_step_160 rfl (lv_at hl 1 rfl) ?_
                  refine va_get (D := G) (ci := 4) (v := .ref (a 5)) (C := RX4) (T := TX4) (N := 16) hx hb hts hin_X4 hown hK hP 0 rfl rfl 9 (by decide) (hts (.fieldLink RX4 22 "MigrationledgerModel" "versions" "[I") (by decide +kernel)) (fun _ h9 => h9) rfl dX4_step_161 ?_
                  refine lv_iload hx hb dX4_step_164 (lv_at hl 0 rfl) ?_
                  refine ml_iald hx hb hK hP 5 0 rfl rfl (idB T1 (tac T = 3) kk) rfl hid.1 (Nat.le_of_ble_eq_true rfl) ((tV T1) (idB T1 (tac T = 3) kk)) rfl dX4_step_166 ?_
                  refine lv_iconst (v := (-1)) hx hb dX4_step_167 (by decide) ?_
                  refine lv_icmp_eq (tgt := 197) hx hb dX4_step_168 (by decide) (fun c_168 => ?_) (fun c_168 => ?_)
                  · refine lv_iconst (v := 0) hx hb dX4_step_197 (by decide) ?_
                    refine lv_istore (lv' := [(13, .int 0), (12, .int (nI (idB T1 (tac T = 3) kk))), (0, .ref (a 0)), (1, .int (nI j)), (2, .int (nI b)), (3, .int z), (4, .int 1), (5, .int 1), (6, .int (nI (tlv T + 1))), (7, .int (nI ch)), (8, .int 1), (9, .int 0), (10, .int (nI p9)), (11, .int (nI kk))]) hx hb dX4_step_198 hl (by decide) rfl (fun ls hl => ?_)
                    refine lv_iload hx hb dX4_step_200 (lv_at hl 0 rfl) ?_
                    refine lv_if_eq (tgt := 241) hx hb dX4_step_202 (by decide) (fun c_202 => ?_) (fun c_202 => False.elim (by revert c_202; decide))
                    refine lv_iload hx hb dX4_step_241 (lv_at hl 0 rfl) ?_
                    refine lv_if_eq (tgt := 339) hx hb dX4_step_243 (by decide) (fun c_243 => ?_) (fun c_243 => False.elim (by revert c_243; decide))
                    refine lv_iload hx hb dX4_step_339 (lv_at hl 12 rfl) ?_
                    refine lv_iload hx hb dX4_step_341 (lv_at hl 10 rfl) ?_
                    refine lv_if_ne (tgt := 350) hx hb dX4_step_343 (by decide) (fun c_343 => ?_) (fun c_343 => False.elim (by revert c_343; decide))
                    refine lv_iload hx hb dX4_step_350 (lv_at hl 7 rfl) ?_
                    refine lv_if_eq (tgt := 359) hx hb dX4_step_352 (by decide) (fun c_352 => False.elim (by revert c_352; decide)) (fun c_352 => ?_)
                    refine lv_iconst (v := (-1)) hx hb dX4_step_355 (by decide) ?_
                    refine lv_goto (tgt := 360) hx hb dX4_step_356 (by decide) ?_
                    refine lv_iadd hx hb dX4_step_360 ?_
                    refine ml_eqi (nI (p9 - 1)) (sb_m1 (by have q := hin.1 c_77; omega)) ?_
                    refine lv_istore (lv' := [(10, .int (nI (p9 - 1))), (13, .int 0), (12, .int (nI (idB T1 (tac T = 3) kk))), (0, .ref (a 0)), (1, .int (nI j)), (2, .int (nI b)), (3, .int z), (4, .int 1), (5, .int 1), (6, .int (nI (tlv T + 1))), (7, .int (nI ch)), (8, .int 1), (9, .int 0), (11, .int (nI kk))]) hx hb dX4_step_361 hl (by decide) rfl (fun ls hl => ?_)
                    refine lv_iinc (v := nI (kk + 1)) (lv' := [(11, .int (nI (kk + 1))), (10, .int (nI (p9 - 1))), (13, .int 0), (12, .int (nI (idB T1 (tac T = 3) kk))), (0, .ref (a 0)), (1, .int (nI j)), (2, .int (nI b)), (3, .int z), (4, .int 1), (5, .int 1), (6, .int (nI (tlv T + 1))), (7, .int (nI ch)), (8, .int 1), (9, .int 0)]) hx hb dX4_step_363 hl (k := 13) rfl (nI_1 _) (by decide) rfl (fun ls hl => ?_)
                    refine lv_goto (tgt := 113) hx hb dX4_step_366 (by decide) ?_
                    exact ih (kk + 1) ch (p9 - 1) T1 sp1 (by omega) (by rw [hp9, poB_s_t c_77]) ((sgo_skip (lft_no c_168)).symm.trans hg) hI1 hkp _ _ _ hP hD hS (lv_sub hl [4, 5, 6, 7, 8, 9, 10, 11, 12, 13, 1, 0] rfl)
                  · refine lv_aload_n hx hb dX4_step_171 rfl (lv_at hl 1 rfl) ?_
                    refine va_get (D := G) (ci := 4) (v := .ref (a 5)) (C := RX4) (T := TX4) (N := 16) hx hb hts hin_X4 hown hK hP 0 rfl rfl 9 (by decide) (hts (.fieldLink RX4 22 "MigrationledgerModel" "versions" "[I") (by decide +kernel)) (fun _ h9 => h9) rfl dX4_step_172 ?_
                    refine lv_iload hx hb dX4_step_175 (lv_at hl 0 rfl) ?_
                    refine ml_iald hx hb hK hP 5 0 rfl rfl (idB T1 (tac T = 3) kk) rfl hid.1 (Nat.le_of_ble_eq_true rfl) ((tV T1) (idB T1 (tac T = 3) kk)) rfl dX4_step_177 ?_
                    refine lv_iload hx hb dX4_step_178 (lv_at hl 7 rfl) ?_
                    refine lv_icmp_lt (tgt := 187) hx hb dX4_step_180 (by decide) (fun c_180 => ?_) (fun c_180 => ?_)
                    · refine lv_iconst (v := 0) hx hb dX4_step_187 (by decide) ?_
                      refine lv_iload hx hb dX4_step_188 (lv_at hl 6 rfl) ?_
                      refine lv_icmp_ne (tgt := 197) hx hb dX4_step_190 (by decide) (fun c_190 => ?_) (fun c_190 => False.elim (by revert c_190; decide))
                      refine lv_iconst (v := 0) hx hb dX4_step_197 (by decide) ?_
                      refine lv_istore (lv' := [(13, .int 0), (12, .int (nI (idB T1 (tac T = 3) kk))), (0, .ref (a 0)), (1, .int (nI j)), (2, .int (nI b)), (3, .int z), (4, .int 1), (5, .int 1), (6, .int (nI (tlv T + 1))), (7, .int (nI ch)), (8, .int 1), (9, .int 0), (10, .int (nI p9)), (11, .int (nI kk))]) hx hb dX4_step_198 hl (by decide) rfl (fun ls hl => ?_)
                      refine lv_iload hx hb dX4_step_200 (lv_at hl 0 rfl) ?_
                      refine lv_if_eq (tgt := 241) hx hb dX4_step_202 (by decide) (fun c_202 => ?_) (fun c_202 => False.elim (by revert c_202; decide))
                      refine lv_iload hx hb dX4_step_241 (lv_at hl 0 rfl) ?_
                      refine lv_if_eq (tgt := 339) hx hb dX4_step_243 (by decide) (fun c_243 => ?_) (fun c_243 => False.elim (by revert c_243; decide))
                      refine lv_iload hx hb dX4_step_339 (lv_at hl 12 rfl) ?_
                      refine lv_iload hx hb dX4_step_341 (lv_at hl 10 rfl) ?_
                      refine lv_if_ne (tgt := 350) hx hb dX4_step_343 (by decide) (fun c_343 => ?_) (fun c_343 => False.elim (by revert c_343; decide))
                      refine lv_iload hx hb dX4_step_350 (lv_at hl 7 rfl) ?_
                      refine lv_if_eq (tgt := 359) hx hb dX4_step_352 (by decide) (fun c_352 => False.elim (by revert c_352; decide)) (fun c_352 => ?_)
                      refine lv_iconst (v := (-1)) hx hb dX4_step_355 (by decide) ?_
                      refine lv_goto (tgt := 360) hx hb dX4_step_356 (by decide) ?_
                      refine lv_iadd hx hb dX4_step_360 ?_
                      refine ml_eqi (nI (p9 - 1)) (sb_m1 (by have q := hin.1 c_77; omega)) ?_
                      refine lv_istore (lv' := [(10, .int (nI (p9 - 1))), (13, .int 0), (12, .int (nI (idB T1 (tac T = 3) kk))), (0, .ref (a 0)), (1, .int (nI j)), (2, .int (nI b)), (3, .int z), (4, .int 1), (5, .int 1), (6, .int (nI (tlv T + 1))), (7, .int (nI ch)), (8, .int 1), (9, .int 0), (11, .int (nI kk))]) hx hb dX4_step_361 hl (by decide) rfl (fun ls hl => ?_)
                      refine lv_iinc (v := nI (kk + 1)) (lv' := [(11, .int (nI (kk + 1))), (10, .int (nI (p9 - 1))), (13, .int 0), (12, .int (nI (idB T1 (tac T = 3) kk))), (0, .ref (a 0)), (1, .int (nI j)), (2, .int (nI b)), (3, .int z), (4, .int 1), (5, .int 1), (6, .int (nI (tlv T + 1))), (7, .int (nI ch)), (8, .int 1), (9, .int 0)]) hx hb dX4_step_363 hl (k := 13) rfl (nI_1 _) (by decide) rfl (fun ls hl => ?_)
                      refine lv_goto (tgt := 113) hx hb dX4_step_366 (by decide) ?_
                      exact ih (kk + 1) ch (p9 - 1) T1 sp1 (by omega) (by rw [hp9, poB_s_t c_77]) ((sgo_skip (fun q => q.2.elim (fun w => Int32.not_le.mpr c_180 (by have w2 := w.2; rw [hkp.2.2.1] at w2; exact w2)) (fun w => w.1 c_77))).symm.trans hg) hI1 hkp _ _ _ hP hD hS (lv_sub hl [4, 5, 6, 7, 8, 9, 10, 11, 12, 13, 1, 0] rfl)
                    · have hlf : lft T1 (tac T = 3) (idB T1 (tac T = 3) kk) := ⟨c_168, Or.inl ⟨c_77, by rw [hkp.2.2.1]; exact Int32.not_lt.mp c_180⟩⟩
                      refine lv_iconst (v := 1) hx hb dX4_step_183 (by decide) ?_
                      refine lv_goto (tgt := 188) hx hb dX4_step_184 (by decide) ?_
                      refine lv_iload hx hb dX4_step_188 (lv_at hl 6 rfl) ?_
                      refine lv_icmp_ne (tgt := 197) hx hb dX4_step_190 (by decide) (fun c_190 => False.elim (by revert c_190; decide)) (fun c_190 => ?_)
                      refine lv_iconst (v := 1) hx hb dX4_step_193 (by decide) ?_
                      refine lv_goto (tgt := 198) hx hb dX4_step_194 (by decide) ?_
                      refine lv_istore (lv' := [(13, .int 1), (12, .int (nI (idB T1 (tac T = 3) kk))), (0, .ref (a 0)), (1, .int (nI j)), (2, .int (nI b)), (3, .int z), (4, .int 1), (5, .int 1), (6, .int (nI (tlv T + 1))), (7, .int (nI ch)), (8, .int 1), (9, .int 0), (10, .int (nI p9)), (11, .int (nI kk))]) hx hb dX4_step_198 hl (by decide) rfl (fun ls hl => ?_)
                      refine lv_iload hx hb dX4_step_200 (lv_at hl 0 rfl) ?_
                      refine lv_if_eq (tgt := 241) hx hb dX4_step_202 (by decide) (fun c_202 => False.elim (by revert c_202; decide)) (fun c_202 => ?_)
                      refine lv_aload_n hx hb dX4_step_205 rfl (lv_at hl 2 rfl) ?_
                      refine lv_iload hx hb dX4_step_206 (lv_at hl 1 rfl) ?_
                      refine ml_Vv (G := G) (As := [.int (nI (idB T1 (tac T = 3) kk))]) (rest := []) ⟨hx, hb, hml, hown, hts⟩ (c_X4_takeSpare l G cy a H.size T1 0 sp1 (idB T1 (tac T = 3) kk) hid.1) (cwV 1 hts gX4_step_X4_takeSpare rfl rfl rfl (by decide +kernel) ⟨Nat.le_of_ble_eq_true rfl, Nat.le_of_ble_eq_true rfl⟩) (va_recv hK hP (ci := 4) (q0 := 0) rfl rfl) hP hK hD hS hN hA rfl hl.1 (Nat.le_of_ble_eq_true rfl) dX4_step_208 ⟨Nat.le_of_ble_eq_true rfl, Nat.le_of_ble_eq_true rfl⟩ (fun u_208 H locs hw hP hD hS => ?_)
                      have hP : va_P G vwCl (wM a cy T1 0 (vp_updL (vp_updL (vp_updL sp1 0 (tX T1 (3 * (idB T1 (tac T = 3) kk) + 0)).toInt64) 1 (tX T1 (3 * (idB T1 (tac T = 3) kk) + 1)).toInt64) 2 (tX T1 (3 * (idB T1 (tac T = 3) kk) + 2)).toInt64)) H := hP
                      have hD : va_D A (wM a cy T1 0 (vp_updL (vp_updL (vp_updL sp1 0 (tX T1 (3 * (idB T1 (tac T = 3) kk) + 0)).toInt64) 1 (tX T1 (3 * (idB T1 (tac T = 3) kk) + 1)).toInt64) 2 (tX T1 (3 * (idB T1 (tac T = 3) kk) + 2)).toInt64)) := hD
                      refine lv_aload_n hx hb dX4_step_211 rfl (lv_at hl 2 rfl) ?_
                      refine lv_iload hx hb dX4_step_212 (lv_at hl 8 rfl) ?_
                      refine lv_iload hx hb dX4_step_214 (lv_at hl 7 rfl) ?_
                      refine ml_Vi (G := G) (As := [.int (nI (tlv T + 1)), .int 1]) (rest := []) ⟨hx, hb, hml, hown, hts⟩ (c_X4_tries l G cy a H.size T1 0 (vp_updL (vp_updL (vp_updL sp1 0 (tX T1 (3 * (idB T1 (tac T = 3) kk) + 0)).toInt64) 1 (tX T1 (3 * (idB T1 (tac T = 3) kk) + 1)).toInt64) 2 (tX T1 (3 * (idB T1 (tac T = 3) kk) + 2)).toInt64) (tlv T + 1) (by omega) 1 True (Or.inl ⟨rfl, trivial⟩) (hI1.2.2.1 _ (by omega) (by omega)) (rowOf T1 (idB T1 (tac T = 3) kk)) tkSp (fun q hq => hI1.2.2.2.1 _ (by have := hid.1; omega))) (cwV 2 hts gX4_step_X4_tries rfl rfl rfl (by decide +kernel) ⟨Nat.le_of_ble_eq_true rfl, Nat.le_of_ble_eq_true rfl⟩) (va_recv hK hP (ci := 4) (q0 := 0) rfl rfl) hP hK hD hS hN hA rfl hl.1 (Nat.le_of_ble_eq_true rfl) dX4_step_216 ⟨Nat.le_of_ble_eq_true rfl, Nat.le_of_ble_eq_true rfl⟩ (fun r_216 u_216 H locs hw hP hD hS => ?_)
                      obtain ⟨hw1, hw2_216⟩ := hw
                      obtain rfl : r_216 = b2i ((ap T1 True (tlv T + 1) (rowOf T1 (idB T1 (tac T = 3) kk))).isSome = true) := hw1
                      have hP : va_P G vwCl (wM a cy T1 0 u_216) H := hP
                      have hD : va_D A (wM a cy T1 0 u_216) := hD
                      refine ml_ifneb (tgt := 226) hx hb dX4_step_219 (by decide) (fun c_219 => ?_) (fun c_219 => ?_)
                      · obtain ⟨row4, e4⟩ := is_s c_219
                        refine lv_iconst (v := 0) hx hb dX4_step_226 (by decide) ?_
                        refine lv_istore (lv' := [(9, .int 0), (13, .int 1), (12, .int (nI (idB T1 (tac T = 3) kk))), (0, .ref (a 0)), (1, .int (nI j)), (2, .int (nI b)), (3, .int z), (4, .int 1), (5, .int 1), (6, .int (nI (tlv T + 1))), (7, .int (nI ch)), (8, .int 1), (10, .int (nI p9)), (11, .int (nI kk))]) hx hb dX4_step_227 hl (by decide) rfl (fun ls hl => ?_)
                        refine lv_iload hx hb dX4_step_229 (lv_at hl 0 rfl) ?_
                        refine lv_if_ne (tgt := 238) hx hb dX4_step_231 (by decide) (fun c_231 => False.elim (by revert c_231; decide)) (fun c_231 => ?_)
                        refine lv_iconst (v := 1) hx hb dX4_step_234 (by decide) ?_
                        refine lv_goto (tgt := 239) hx hb dX4_step_235 (by decide) ?_
                        refine lv_istore (lv' := [(8, .int 1), (9, .int 0), (13, .int 1), (12, .int (nI (idB T1 (tac T = 3) kk))), (0, .ref (a 0)), (1, .int (nI j)), (2, .int (nI b)), (3, .int z), (4, .int 1), (5, .int 1), (6, .int (nI (tlv T + 1))), (7, .int (nI ch)), (10, .int (nI p9)), (11, .int (nI kk))]) hx hb dX4_step_239 hl (by decide) rfl (fun ls hl => ?_)
                        refine lv_iload hx hb dX4_step_241 (lv_at hl 2 rfl) ?_
                        refine lv_if_eq (tgt := 339) hx hb dX4_step_243 (by decide) (fun c_243 => False.elim (by revert c_243; decide)) (fun c_243 => ?_)
                        refine lv_iload hx hb dX4_step_246 (lv_at hl 0 rfl) ?_
                        refine lv_if_eq (tgt := 339) hx hb dX4_step_248 (by decide) (fun c_248 => False.elim (by revert c_248; decide)) (fun c_248 => ?_)
                        refine lv_iconst (v := 0) hx hb dX4_step_251 (by decide) ?_
                        refine lv_istore (lv' := [(14, .int 0), (8, .int 1), (9, .int 0), (13, .int 1), (12, .int (nI (idB T1 (tac T = 3) kk))), (0, .ref (a 0)), (1, .int (nI j)), (2, .int (nI b)), (3, .int z), (4, .int 1), (5, .int 1), (6, .int (nI (tlv T + 1))), (7, .int (nI ch)), (10, .int (nI p9)), (11, .int (nI kk))]) hx hb dX4_step_252 hl (by decide) rfl (fun ls hl => ?_)
                        refine lv_iload hx hb dX4_step_254 (lv_at hl 0 rfl) ?_
                        refine lv_iconst (v := 3) hx hb dX4_step_256 (by decide) ?_
                        refine lv_icmp_ge (tgt := 286) hx hb dX4_step_257 (by decide) (fun c_257 => False.elim (by revert c_257; decide)) (fun c_257 => ?_)
                        refine lv_aload_n hx hb dX4_step_260 rfl (lv_at hl 5 rfl) ?_
                        refine va_get (D := G) (ci := 4) (v := .ref (a 6)) (C := RX4) (T := TX4) (N := 16) hx hb hts hin_X4 hown hK hP 0 rfl rfl 10 (by decide) (hts (.fieldLink RX4 25 "MigrationledgerModel" "values" "[I") (by decide +kernel)) (fun _ h9 => h9) rfl dX4_step_261 ?_
                        refine lv_iconst (v := 3) hx hb dX4_step_264 (by decide) ?_
                        refine lv_iload hx hb dX4_step_265 (lv_at hl 4 rfl) ?_
                        refine lv_imul hx hb dX4_step_267 ?_
                        refine ml_eqi (nI (3 * (idB T1 (tac T = 3) kk))) (pk_mul 3 (idB T1 (tac T = 3) kk)) ?_
                        refine lv_iload hx hb dX4_step_268 (lv_at hl 0 rfl) ?_
                        refine lv_iadd hx hb dX4_step_270 ?_
                        refine ml_eqi (nI (3 * (idB T1 (tac T = 3) kk))) (nI_add (3 * (idB T1 (tac T = 3) kk)) 0) ?_
                        refine lv_aload_n hx hb dX4_step_271 rfl (lv_at hl 5 rfl) ?_
                        refine va_get (D := G) (ci := 4) (v := .ref (a 7)) (C := RX4) (T := TX4) (N := 16) hx hb hts hin_X4 hown hK hP 0 rfl rfl 11 (by decide) (hts (.fieldLink RX4 28 "MigrationledgerModel" "spare" "[J") (by decide +kernel)) (fun _ h9 => h9) rfl dX4_step_272 ?_
                        refine lv_iload hx hb dX4_step_275 (lv_at hl 0 rfl) ?_
                        refine ml_lald hx hb hK hP 7 1 rfl rfl (0) rfl (by decide) (Nat.le_of_ble_eq_true rfl) ((row4 0).toInt64) (hw2_216 row4 e4 0 (by decide)) dX4_step_277 ?_
                        refine lv_l2i (v := ((row4 0).toInt64).toInt32) hx hb dX4_step_278 rfl ?_
                        refine ml_eqi (row4 0) tl_ti ?_
                        refine ml_iast hx hb hK hP hD hS 6 0 rfl rfl (3 * (idB T1 (tac T = 3) kk)) rfl (by have q := hid.1; omega) (Nat.le_of_ble_eq_true rfl) dX4_step_279 (fun H locs hP hD hS => ?_)
                        have hP : va_P G vwCl (wM a cy (uX T1 (upd (tX T1) (3 * (idB T1 (tac T = 3) kk)) (row4 0))) 0 u_216) H := hP
                        have hD : va_D A (wM a cy (uX T1 (upd (tX T1) (3 * (idB T1 (tac T = 3) kk)) (row4 0))) 0 u_216) := hD
                        refine lv_iinc (v := 1) (lv' := [(14, .int 1), (8, .int 1), (9, .int 0), (13, .int 1), (12, .int (nI (idB T1 (tac T = 3) kk))), (0, .ref (a 0)), (1, .int (nI j)), (2, .int (nI b)), (3, .int z), (4, .int 1), (5, .int 1), (6, .int (nI (tlv T + 1))), (7, .int (nI ch)), (10, .int (nI p9)), (11, .int (nI kk))]) hx hb dX4_step_280 hl (k := 0) rfl (by decide) (by decide) rfl (fun ls hl => ?_)
                        refine lv_goto (tgt := 254) hx hb dX4_step_283 (by decide) ?_
                        refine lv_iload hx hb dX4_step_254 (lv_at hl 0 rfl) ?_
                        refine lv_iconst (v := 3) hx hb dX4_step_256 (by decide) ?_
                        refine lv_icmp_ge (tgt := 286) hx hb dX4_step_257 (by decide) (fun c_257 => False.elim (by revert c_257; decide)) (fun c_257 => ?_)
                        refine lv_aload_n hx hb dX4_step_260 rfl (lv_at hl 5 rfl) ?_
                        refine va_get (D := G) (ci := 4) (v := .ref (a 6)) (C := RX4) (T := TX4) (N := 16) hx hb hts hin_X4 hown hK hP 0 rfl rfl 10 (by decide) (hts (.fieldLink RX4 25 "MigrationledgerModel" "values" "[I") (by decide +kernel)) (fun _ h9 => h9) rfl dX4_step_261 ?_
                        refine lv_iconst (v := 3) hx hb dX4_step_264 (by decide) ?_
                        refine lv_iload hx hb dX4_step_265 (lv_at hl 4 rfl) ?_
                        refine lv_imul hx hb dX4_step_267 ?_
                        refine ml_eqi (nI (3 * (idB T1 (tac T = 3) kk))) (pk_mul 3 (idB T1 (tac T = 3) kk)) ?_
                        refine lv_iload hx hb dX4_step_268 (lv_at hl 0 rfl) ?_
                        refine lv_iadd hx hb dX4_step_270 ?_
                        refine ml_eqi (nI (3 * (idB T1 (tac T = 3) kk) + 1)) (nI_add (3 * (idB T1 (tac T = 3) kk)) 1) ?_
                        refine lv_aload_n hx hb dX4_step_271 rfl (lv_at hl 5 rfl) ?_
                        refine va_get (D := G) (ci := 4) (v := .ref (a 7)) (C := RX4) (T := TX4) (N := 16) hx hb hts hin_X4 hown hK hP 0 rfl rfl 11 (by decide) (hts (.fieldLink RX4 28 "MigrationledgerModel" "spare" "[J") (by decide +kernel)) (fun _ h9 => h9) rfl dX4_step_272 ?_
                        refine lv_iload hx hb dX4_step_275 (lv_at hl 0 rfl) ?_
                        refine ml_lald hx hb hK hP 7 1 rfl rfl (1) rfl (by decide) (Nat.le_of_ble_eq_true rfl) ((row4 1).toInt64) (hw2_216 row4 e4 1 (by decide)) dX4_step_277 ?_
                        refine lv_l2i (v := ((row4 1).toInt64).toInt32) hx hb dX4_step_278 rfl ?_
                        refine ml_eqi (row4 1) tl_ti ?_
                        refine ml_iast hx hb hK hP hD hS 6 0 rfl rfl (3 * (idB T1 (tac T = 3) kk) + 1) rfl (by have q := hid.1; omega) (Nat.le_of_ble_eq_true rfl) dX4_step_279 (fun H locs hP hD hS => ?_)
                        have hP : va_P G vwCl (wM a cy (uX (uX T1 (upd (tX T1) (3 * (idB T1 (tac T = 3) kk)) (row4 0))) (upd (upd (tX T1) (3 * (idB T1 (tac T = 3) kk)) (row4 0)) (3 * (idB T1 (tac T = 3) kk) + 1) (row4 1))) 0 u_216) H := hP
                        have hD : va_D A (wM a cy (uX (uX T1 (upd (tX T1) (3 * (idB T1 (tac T = 3) kk)) (row4 0))) (upd (upd (tX T1) (3 * (idB T1 (tac T = 3) kk)) (row4 0)) (3 * (idB T1 (tac T = 3) kk) + 1) (row4 1))) 0 u_216) := hD
                        refine lv_iinc (v := 2) (lv' := [(14, .int 2), (8, .int 1), (9, .int 0), (13, .int 1), (12, .int (nI (idB T1 (tac T = 3) kk))), (0, .ref (a 0)), (1, .int (nI j)), (2, .int (nI b)), (3, .int z), (4, .int 1), (5, .int 1), (6, .int (nI (tlv T + 1))), (7, .int (nI ch)), (10, .int (nI p9)), (11, .int (nI kk))]) hx hb dX4_step_280 hl (k := 0) rfl (by decide) (by decide) rfl (fun ls hl => ?_)
                        refine lv_goto (tgt := 254) hx hb dX4_step_283 (by decide) ?_
                        refine lv_iload hx hb dX4_step_254 (lv_at hl 0 rfl) ?_
                        refine lv_iconst (v := 3) hx hb dX4_step_256 (by decide) ?_
                        refine lv_icmp_ge (tgt := 286) hx hb dX4_step_257 (by decide) (fun c_257 => False.elim (by revert c_257; decide)) (fun c_257 => ?_)
                        refine lv_aload_n hx hb dX4_step_260 rfl (lv_at hl 5 rfl) ?_
                        refine va_get (D := G) (ci := 4) (v := .ref (a 6)) (C := RX4) (T := TX4) (N := 16) hx hb hts hin_X4 hown hK hP 0 rfl rfl 10 (by decide) (hts (.fieldLink RX4 25 "MigrationledgerModel" "values" "[I") (by decide +kernel)) (fun _ h9 => h9) rfl dX4_step_261 ?_
                        refine lv_iconst (v := 3) hx hb dX4_step_264 (by decide) ?_
                        refine lv_iload hx hb dX4_step_265 (lv_at hl 4 rfl) ?_
                        refine lv_imul hx hb dX4_step_267 ?_
                        refine ml_eqi (nI (3 * (idB T1 (tac T = 3) kk))) (pk_mul 3 (idB T1 (tac T = 3) kk)) ?_
                        refine lv_iload hx hb dX4_step_268 (lv_at hl 0 rfl) ?_
                        refine lv_iadd hx hb dX4_step_270 ?_
                        refine ml_eqi (nI (3 * (idB T1 (tac T = 3) kk) + 2)) (nI_add (3 * (idB T1 (tac T = 3) kk)) 2) ?_
                        refine lv_aload_n hx hb dX4_step_271 rfl (lv_at hl 5 rfl) ?_
                        refine va_get (D := G) (ci := 4) (v := .ref (a 7)) (C := RX4) (T := TX4) (N := 16) hx hb hts hin_X4 hown hK hP 0 rfl rfl 11 (by decide) (hts (.fieldLink RX4 28 "MigrationledgerModel" "spare" "[J") (by decide +kernel)) (fun _ h9 => h9) rfl dX4_step_272 ?_
                        refine lv_iload hx hb dX4_step_275 (lv_at hl 0 rfl) ?_
                        refine ml_lald hx hb hK hP 7 1 rfl rfl (2) rfl (by decide) (Nat.le_of_ble_eq_true rfl) ((row4 2).toInt64) (hw2_216 row4 e4 2 (by decide)) dX4_step_277 ?_
                        refine lv_l2i (v := ((row4 2).toInt64).toInt32) hx hb dX4_step_278 rfl ?_
                        refine ml_eqi (row4 2) tl_ti ?_
                        refine ml_iast hx hb hK hP hD hS 6 0 rfl rfl (3 * (idB T1 (tac T = 3) kk) + 2) rfl (by have q := hid.1; omega) (Nat.le_of_ble_eq_true rfl) dX4_step_279 (fun H locs hP hD hS => ?_)
                        have hP : va_P G vwCl (wM a cy (uX (uX (uX T1 (upd (tX T1) (3 * (idB T1 (tac T = 3) kk)) (row4 0))) (upd (upd (tX T1) (3 * (idB T1 (tac T = 3) kk)) (row4 0)) (3 * (idB T1 (tac T = 3) kk) + 1) (row4 1))) (upd (upd (upd (tX T1) (3 * (idB T1 (tac T = 3) kk)) (row4 0)) (3 * (idB T1 (tac T = 3) kk) + 1) (row4 1)) (3 * (idB T1 (tac T = 3) kk) + 2) (row4 2))) 0 u_216) H := hP
                        have hD : va_D A (wM a cy (uX (uX (uX T1 (upd (tX T1) (3 * (idB T1 (tac T = 3) kk)) (row4 0))) (upd (upd (tX T1) (3 * (idB T1 (tac T = 3) kk)) (row4 0)) (3 * (idB T1 (tac T = 3) kk) + 1) (row4 1))) (upd (upd (upd (tX T1) (3 * (idB T1 (tac T = 3) kk)) (row4 0)) (3 * (idB T1 (tac T = 3) kk) + 1) (row4 1)) (3 * (idB T1 (tac T = 3) kk) + 2) (row4 2))) 0 u_216) := hD
                        refine lv_iinc (v := 3) (lv' := [(14, .int 3), (8, .int 1), (9, .int 0), (13, .int 1), (12, .int (nI (idB T1 (tac T = 3) kk))), (0, .ref (a 0)), (1, .int (nI j)), (2, .int (nI b)), (3, .int z), (4, .int 1), (5, .int 1), (6, .int (nI (tlv T + 1))), (7, .int (nI ch)), (10, .int (nI p9)), (11, .int (nI kk))]) hx hb dX4_step_280 hl (k := 0) rfl (by decide) (by decide) rfl (fun ls hl => ?_)
                        refine lv_goto (tgt := 254) hx hb dX4_step_283 (by decide) ?_
                        refine lv_iload hx hb dX4_step_254 (lv_at hl 0 rfl) ?_
                        refine lv_iconst (v := 3) hx hb dX4_step_256 (by decide) ?_
                        refine lv_icmp_ge (tgt := 286) hx hb dX4_step_257 (by decide) (fun c_257 => ?_) (fun c_257 => False.elim (by revert c_257; decide))
                        refine lv_aload_n hx hb dX4_step_286 rfl (lv_at hl 5 rfl) ?_
                        refine va_get (D := G) (ci := 4) (v := .ref (a 5)) (C := RX4) (T := TX4) (N := 16) hx hb hts hin_X4 hown hK hP 0 rfl rfl 9 (by decide) (hts (.fieldLink RX4 22 "MigrationledgerModel" "versions" "[I") (by decide +kernel)) (fun _ h9 => h9) rfl dX4_step_287 ?_
                        refine lv_iload hx hb dX4_step_290 (lv_at hl 4 rfl) ?_
                        refine lv_dup2_11 hx hb dX4_step_292 rfl rfl ?_
                        refine ml_iald hx hb hK hP 5 0 rfl rfl (idB T1 (tac T = 3) kk) rfl hid.1 (Nat.le_of_ble_eq_true rfl) ((tV T1) (idB T1 (tac T = 3) kk)) rfl dX4_step_293 ?_
                        refine lv_iload hx hb dX4_step_294 (lv_at hl 10 rfl) ?_
                        refine lv_if_eq (tgt := 303) hx hb dX4_step_296 (by decide) (fun c_296 => False.elim (by revert c_296; decide)) (fun c_296 => ?_)
                        refine lv_iconst (v := (-1)) hx hb dX4_step_299 (by decide) ?_
                        refine lv_goto (tgt := 304) hx hb dX4_step_300 (by decide) ?_
                        refine lv_iadd hx hb dX4_step_304 ?_
                        refine ml_eqi (cif (tac T = 3) (tV T1 (idB T1 (tac T = 3) kk) - 1) (tV T1 (idB T1 (tac T = 3) kk) + 1)) ((Int32.sub_eq_add_neg _ _).symm.trans (cif_t c_77).symm) ?_
                        refine ml_iast hx hb hK hP hD hS 5 0 rfl rfl (idB T1 (tac T = 3) kk) rfl hid.1 (Nat.le_of_ble_eq_true rfl) dX4_step_305 (fun H locs hP hD hS => ?_)
                        have hP : va_P G vwCl (wM a cy (uV (uX (uX (uX T1 (upd (tX T1) (3 * (idB T1 (tac T = 3) kk)) (row4 0))) (upd (upd (tX T1) (3 * (idB T1 (tac T = 3) kk)) (row4 0)) (3 * (idB T1 (tac T = 3) kk) + 1) (row4 1))) (upd (upd (upd (tX T1) (3 * (idB T1 (tac T = 3) kk)) (row4 0)) (3 * (idB T1 (tac T = 3) kk) + 1) (row4 1)) (3 * (idB T1 (tac T = 3) kk) + 2) (row4 2))) (upd (tV T1) (idB T1 (tac T = 3) kk) (cif (tac T = 3) (tV T1 (idB T1 (tac T = 3) kk) - 1) (tV T1 (idB T1 (tac T = 3) kk) + 1)))) 0 u_216) H := hP
                        have hD : va_D A (wM a cy (uV (uX (uX (uX T1 (upd (tX T1) (3 * (idB T1 (tac T = 3) kk)) (row4 0))) (upd (upd (tX T1) (3 * (idB T1 (tac T = 3) kk)) (row4 0)) (3 * (idB T1 (tac T = 3) kk) + 1) (row4 1))) (upd (upd (upd (tX T1) (3 * (idB T1 (tac T = 3) kk)) (row4 0)) (3 * (idB T1 (tac T = 3) kk) + 1) (row4 1)) (3 * (idB T1 (tac T = 3) kk) + 2) (row4 2))) (upd (tV T1) (idB T1 (tac T = 3) kk) (cif (tac T = 3) (tV T1 (idB T1 (tac T = 3) kk) - 1) (tV T1 (idB T1 (tac T = 3) kk) + 1)))) 0 u_216) := hD
                        obtain ⟨T2, eT2⟩ : ∃ w9, w9 = uV (uX (uX (uX T1 (upd (tX T1) (3 * (idB T1 (tac T = 3) kk)) (row4 0))) (upd (upd (tX T1) (3 * (idB T1 (tac T = 3) kk)) (row4 0)) (3 * (idB T1 (tac T = 3) kk) + 1) (row4 1))) (upd (upd (upd (tX T1) (3 * (idB T1 (tac T = 3) kk)) (row4 0)) (3 * (idB T1 (tac T = 3) kk) + 1) (row4 1)) (3 * (idB T1 (tac T = 3) kk) + 2) (row4 2))) (upd (tV T1) (idB T1 (tac T = 3) kk) (cif (tac T = 3) (tV T1 (idB T1 (tac T = 3) kk) - 1) (tV T1 (idB T1 (tac T = 3) kk) + 1))) := ⟨_, rfl⟩
                        have e2 : stp T1 (tac T = 3) (idB T1 (tac T = 3) kk) = some T2 := by
                          rw [eT2]
                          exact stp_ok ((ap_T c_77).symm.trans (by rw [hkp.2.2.1]; exact e4)) (fun q _ => rfl) rfl
                        have hkp2 := stp_keep e2
                        have hcr2 : tcr T2 j = 0 := by rw [hkp2.2.2.2]; exact hcr1
                        have hP : va_P G vwCl (wM a cy T2 0 u_216) H := by
                          rw [eT2]
                          exact hP
                        have hD : va_D A (wM a cy T2 0 u_216) := by
                          rw [eT2]
                          exact hD
                        refine lv_iinc (v := nI (ch + 1)) (lv' := [(7, .int (nI (ch + 1))), (14, .int 3), (8, .int 1), (9, .int 0), (13, .int 1), (12, .int (nI (idB T1 (tac T = 3) kk))), (0, .ref (a 0)), (1, .int (nI j)), (2, .int (nI b)), (3, .int z), (4, .int 1), (5, .int 1), (6, .int (nI (tlv T + 1))), (10, .int (nI p9)), (11, .int (nI kk))]) hx hb dX4_step_306 hl (k := 12) rfl (nI_1 _) (by decide) rfl (fun ls hl => ?_)
                        refine lv_aload_n hx hb dX4_step_309 rfl (lv_at hl 6 rfl) ?_
                        refine va_get (D := G) (ci := 4) (v := .ref (a 8)) (C := RX4) (T := TX4) (N := 16) hx hb hts hin_X4 hown hK hP 0 rfl rfl 15 (by decide) (hts (.fieldLink RX4 36 "MigrationledgerModel" "hasCrashed" "[Z") (by decide +kernel)) (fun _ h9 => h9) rfl dX4_step_310 ?_
                        refine lv_iload_n hx hb dX4_step_313 rfl (lv_at hl 7 rfl) ?_
                        refine lv_iload hx hb dX4_step_314 (lv_at hl 0 rfl) ?_
                        refine lv_iload_n hx hb dX4_step_316 rfl (lv_at hl 9 rfl) ?_
                        refine lv_icmp_ne (tgt := 324) hx hb dX4_step_317 (by decide) (fun c_317 => ?_) (fun c_317 => ?_)
                        · refine lv_iconst (v := 0) hx hb dX4_step_324 (by decide) ?_
                          refine ml_zast hx hb hK hP hD hS 8 2 rfl rfl (j) rfl (by omega) (Nat.le_of_ble_eq_true rfl) rfl dX4_step_325 (fun H locs hP hD hS => ?_)
                          have hP : va_P G vwCl (wM a cy (ucr T2 (upd (tcr T2) j 0)) 0 u_216) H := hP
                          have hD : va_D A (wM a cy (ucr T2 (upd (tcr T2) j 0)) 0 u_216) := hD
                          have hP : va_P G vwCl (wM a cy T2 0 u_216) H := by
                            rw [ucr_n hcr2] at hP
                            exact hP
                          have hD : va_D A (wM a cy T2 0 u_216) := by
                            rw [ucr_n hcr2] at hD
                            exact hD
                          refine lv_iload hx hb dX4_step_326 (lv_at hl 0 rfl) ?_
                          refine lv_iload_n hx hb dX4_step_328 rfl (lv_at hl 9 rfl) ?_
                          refine lv_icmp_eq (tgt := 336) hx hb dX4_step_329 (by decide) (fun c_329 => False.elim (c_317 c_329)) (fun c_329 => ?_)
                          refine lv_iconst (v := 1) hx hb dX4_step_332 (by decide) ?_
                          refine lv_goto (tgt := 337) hx hb dX4_step_333 (by decide) ?_
                          refine lv_istore (lv' := [(8, .int 1), (7, .int (nI (ch + 1))), (14, .int 3), (9, .int 0), (13, .int 1), (12, .int (nI (idB T1 (tac T = 3) kk))), (0, .ref (a 0)), (1, .int (nI j)), (2, .int (nI b)), (3, .int z), (4, .int 1), (5, .int 1), (6, .int (nI (tlv T + 1))), (10, .int (nI p9)), (11, .int (nI kk))]) hx hb dX4_step_337 hl (by decide) rfl (fun ls hl => ?_)
                          refine lv_iload hx hb dX4_step_339 (lv_at hl 13 rfl) ?_
                          refine lv_iload hx hb dX4_step_341 (lv_at hl 0 rfl) ?_
                          refine lv_if_ne (tgt := 350) hx hb dX4_step_343 (by decide) (fun c_343 => ?_) (fun c_343 => False.elim (by revert c_343; decide))
                          refine lv_iload hx hb dX4_step_350 (lv_at hl 11 rfl) ?_
                          refine lv_if_eq (tgt := 359) hx hb dX4_step_352 (by decide) (fun c_352 => False.elim (by revert c_352; decide)) (fun c_352 => ?_)
                          refine lv_iconst (v := (-1)) hx hb dX4_step_355 (by decide) ?_
                          refine lv_goto (tgt := 360) hx hb dX4_step_356 (by decide) ?_
                          refine lv_iadd hx hb dX4_step_360 ?_
                          refine ml_eqi (nI (p9 - 1)) (sb_m1 (by have q := hin.1 c_77; omega)) ?_
                          refine lv_istore (lv' := [(10, .int (nI (p9 - 1))), (8, .int 1), (7, .int (nI (ch + 1))), (14, .int 3), (9, .int 0), (13, .int 1), (12, .int (nI (idB T1 (tac T = 3) kk))), (0, .ref (a 0)), (1, .int (nI j)), (2, .int (nI b)), (3, .int z), (4, .int 1), (5, .int 1), (6, .int (nI (tlv T + 1))), (11, .int (nI kk))]) hx hb dX4_step_361 hl (by decide) rfl (fun ls hl => ?_)
                          refine lv_iinc (v := nI (kk + 1)) (lv' := [(11, .int (nI (kk + 1))), (10, .int (nI (p9 - 1))), (8, .int 1), (7, .int (nI (ch + 1))), (14, .int 3), (9, .int 0), (13, .int 1), (12, .int (nI (idB T1 (tac T = 3) kk))), (0, .ref (a 0)), (1, .int (nI j)), (2, .int (nI b)), (3, .int z), (4, .int 1), (5, .int 1), (6, .int (nI (tlv T + 1)))]) hx hb dX4_step_363 hl (k := 14) rfl (nI_1 _) (by decide) rfl (fun ls hl => ?_)
                          refine lv_goto (tgt := 113) hx hb dX4_step_366 (by decide) ?_
                          exact ih (kk + 1) (ch + 1) (p9 - 1) T2 u_216 (by omega) (by rw [hp9, poB_s_t c_77]; exact poB_cg hkp2.2.1.symm) ((sgo_go hlf e2 c_317).symm.trans hg) (stp_inv hI1 hu1 hid.1 hlf e2) ⟨hkp2.1.trans hkp.1, hkp2.2.1.trans hkp.2.1, hkp2.2.2.1.trans hkp.2.2.1, hkp2.2.2.2.trans hkp.2.2.2⟩ _ _ _ hP hD hS (lv_sub hl [8, 9, 10, 11, 12, 13, 14, 3, 2, 5, 1, 0] rfl)
                        · refine lv_iconst (v := 1) hx hb dX4_step_320 (by decide) ?_
                          refine lv_goto (tgt := 325) hx hb dX4_step_321 (by decide) ?_
                          refine ml_zast hx hb hK hP hD hS 8 2 rfl rfl (j) rfl (by omega) (Nat.le_of_ble_eq_true rfl) rfl dX4_step_325 (fun H locs hP hD hS => ?_)
                          have hP : va_P G vwCl (wM a cy (ucr T2 (upd (tcr T2) j 1)) 0 u_216) H := hP
                          have hD : va_D A (wM a cy (ucr T2 (upd (tcr T2) j 1)) 0 u_216) := hD
                          refine lv_iload hx hb dX4_step_326 (lv_at hl 0 rfl) ?_
                          refine lv_iload_n hx hb dX4_step_328 rfl (lv_at hl 9 rfl) ?_
                          refine lv_icmp_eq (tgt := 336) hx hb dX4_step_329 (by decide) (fun c_329 => ?_) (fun c_329 => False.elim (c_329 c_317))
                          refine lv_iconst (v := 0) hx hb dX4_step_336 (by decide) ?_
                          refine lv_istore (lv' := [(8, .int 0), (7, .int (nI (ch + 1))), (14, .int 3), (9, .int 0), (13, .int 1), (12, .int (nI (idB T1 (tac T = 3) kk))), (0, .ref (a 0)), (1, .int (nI j)), (2, .int (nI b)), (3, .int z), (4, .int 1), (5, .int 1), (6, .int (nI (tlv T + 1))), (10, .int (nI p9)), (11, .int (nI kk))]) hx hb dX4_step_337 hl (by decide) rfl (fun ls hl => ?_)
                          refine lv_iload hx hb dX4_step_339 (lv_at hl 13 rfl) ?_
                          refine lv_iload hx hb dX4_step_341 (lv_at hl 0 rfl) ?_
                          refine lv_if_ne (tgt := 350) hx hb dX4_step_343 (by decide) (fun c_343 => False.elim (by revert c_343; decide)) (fun c_343 => ?_)
                          refine lv_iconst (v := 0) hx hb dX4_step_346 (by decide) ?_
                          refine lv_goto (tgt := 360) hx hb dX4_step_347 (by decide) ?_
                          refine lv_iadd hx hb dX4_step_360 ?_
                          refine ml_eqi (nI p9) (nI_add p9 0) ?_
                          refine lv_istore (lv' := [(10, .int (nI p9)), (8, .int 0), (7, .int (nI (ch + 1))), (14, .int 3), (9, .int 0), (13, .int 1), (12, .int (nI (idB T1 (tac T = 3) kk))), (0, .ref (a 0)), (1, .int (nI j)), (2, .int (nI b)), (3, .int z), (4, .int 1), (5, .int 1), (6, .int (nI (tlv T + 1))), (11, .int (nI kk))]) hx hb dX4_step_361 hl (by decide) rfl (fun ls hl => ?_)
                          refine lv_iinc (v := nI (kk + 1)) (lv' := [(11, .int (nI (kk + 1))), (10, .int (nI p9)), (8, .int 0), (7, .int (nI (ch + 1))), (14, .int 3), (9, .int 0), (13, .int 1), (12, .int (nI (idB T1 (tac T = 3) kk))), (0, .ref (a 0)), (1, .int (nI j)), (2, .int (nI b)), (3, .int z), (4, .int 1), (5, .int 1), (6, .int (nI (tlv T + 1)))]) hx hb dX4_step_363 hl (k := 14) rfl (nI_1 _) (by decide) rfl (fun ls hl => ?_)
                          refine lv_goto (tgt := 113) hx hb dX4_step_366 (by decide) ?_
                          refine lv_iload hx hb dX4_step_113 (lv_at hl 0 rfl) ?_
                          refine lv_iload_n hx hb dX4_step_115 rfl (lv_at hl 10 rfl) ?_
                          refine lv_icmp_ge (tgt := 369) hx hb dX4_step_116 (by decide) (fun c_116 => ?_) (fun c_116 => ?_)
                          · refine lv_aload_n hx hb dX4_step_369 rfl (lv_at hl 8 rfl) ?_
                            refine va_get (D := G) (ci := 4) (v := .ref (a 8)) (C := RX4) (T := TX4) (N := 16) hx hb hts hin_X4 hown hK hP 0 rfl rfl 15 (by decide) (hts (.fieldLink RX4 36 "MigrationledgerModel" "hasCrashed" "[Z") (by decide +kernel)) (fun _ h9 => h9) rfl dX4_step_370 ?_
                            refine lv_iload_n hx hb dX4_step_373 rfl (lv_at hl 9 rfl) ?_
                            refine ml_zald hx hb hK hP 8 2 rfl rfl (j) rfl (by omega) (Nat.le_of_ble_eq_true rfl) (1) pk_us dX4_step_374 ?_
                            refine lv_if_ne (tgt := 433) hx hb dX4_step_375 (by decide) (fun c_375 => ?_) (fun c_375 => False.elim (by revert c_375; decide))
                            refine lv_iload hx hb dX4_step_433 (lv_at hl 3 rfl) ?_
                            refine lv_iload hx hb dX4_step_435 (lv_at hl 5 rfl) ?_
                            refine lv_if_eq (tgt := 445) hx hb dX4_step_437 (by decide) (fun c_437 => ?_) (fun c_437 => False.elim (by revert c_437; decide))
                            refine lv_iconst (v := 0) hx hb dX4_step_445 (by decide) ?_
                            refine lv_isub hx hb dX4_step_446 ?_
                            refine ml_eqi (nI (ch + 1)) (pk_sub (b := 0) (Nat.zero_le _)) ?_
                            exact ml_ri u_216 hx hb hr hlocks hP hK hD hS (by rw [(show sp_step T (nI j) (nI b) z = (0, nI (ch + 1), ucr T2 (upd (tcr T2) j 1)) from by unfold sp_step; rw [cif_f (not_not_intro ⟨c_4, c_14, c_24⟩), cif_f (fun q => q.elim c_49 c_56 : ¬ ((crd T (nI j) ∨ ¬ has T (nI j)) ∨ tac T = 0)), ix_n (j := j) (by omega), ix_n (j := b) (by omega), ← hg, sgo_cr hlf e2 c_317, stR_2] <;> rfl)]) (by rw [(show sp_step T (nI j) (nI b) z = (0, nI (ch + 1), ucr T2 (upd (tcr T2) j 1)) from by unfold sp_step; rw [cif_f (not_not_intro ⟨c_4, c_14, c_24⟩), cif_f (fun q => q.elim c_49 c_56 : ¬ ((crd T (nI j) ∨ ¬ has T (nI j)) ∨ tac T = 0)), ix_n (j := j) (by omega), ix_n (j := b) (by omega), ← hg, sgo_cr hlf e2 c_317, stR_2] <;> rfl)]) dX4_step_447
                          · refine lv_iload hx hb dX4_step_119 (lv_at hl 2 rfl) ?_
                            refine lv_if_eq (tgt := 369) hx hb dX4_step_121 (by decide) (fun c_121 => ?_) (fun c_121 => False.elim (by revert c_121; decide))
                            refine lv_aload_n hx hb dX4_step_369 rfl (lv_at hl 8 rfl) ?_
                            refine va_get (D := G) (ci := 4) (v := .ref (a 8)) (C := RX4) (T := TX4) (N := 16) hx hb hts hin_X4 hown hK hP 0 rfl rfl 15 (by decide) (hts (.fieldLink RX4 36 "MigrationledgerModel" "hasCrashed" "[Z") (by decide +kernel)) (fun _ h9 => h9) rfl dX4_step_370 ?_
                            refine lv_iload_n hx hb dX4_step_373 rfl (lv_at hl 9 rfl) ?_
                            refine ml_zald hx hb hK hP 8 2 rfl rfl (j) rfl (by omega) (Nat.le_of_ble_eq_true rfl) (1) pk_us dX4_step_374 ?_
                            refine lv_if_ne (tgt := 433) hx hb dX4_step_375 (by decide) (fun c_375 => ?_) (fun c_375 => False.elim (by revert c_375; decide))
                            refine lv_iload hx hb dX4_step_433 (lv_at hl 3 rfl) ?_
                            refine lv_iload hx hb dX4_step_435 (lv_at hl 5 rfl) ?_
                            refine lv_if_eq (tgt := 445) hx hb dX4_step_437 (by decide) (fun c_437 => ?_) (fun c_437 => False.elim (by revert c_437; decide))
                            refine lv_iconst (v := 0) hx hb dX4_step_445 (by decide) ?_
                            refine lv_isub hx hb dX4_step_446 ?_
                            refine ml_eqi (nI (ch + 1)) (pk_sub (b := 0) (Nat.zero_le _)) ?_
                            exact ml_ri u_216 hx hb hr hlocks hP hK hD hS (by rw [(show sp_step T (nI j) (nI b) z = (0, nI (ch + 1), ucr T2 (upd (tcr T2) j 1)) from by unfold sp_step; rw [cif_f (not_not_intro ⟨c_4, c_14, c_24⟩), cif_f (fun q => q.elim c_49 c_56 : ¬ ((crd T (nI j) ∨ ¬ has T (nI j)) ∨ tac T = 0)), ix_n (j := j) (by omega), ix_n (j := b) (by omega), ← hg, sgo_cr hlf e2 c_317, stR_2] <;> rfl)]) (by rw [(show sp_step T (nI j) (nI b) z = (0, nI (ch + 1), ucr T2 (upd (tcr T2) j 1)) from by unfold sp_step; rw [cif_f (not_not_intro ⟨c_4, c_14, c_24⟩), cif_f (fun q => q.elim c_49 c_56 : ¬ ((crd T (nI j) ∨ ¬ has T (nI j)) ∨ tac T = 0)), ix_n (j := j) (by omega), ix_n (j := b) (by omega), ← hg, sgo_cr hlf e2 c_317, stR_2] <;> rfl)]) dX4_step_447
                      · have e2n : stp T1 (tac T = 3) (idB T1 (tac T = 3) kk) = none := stp_n ((ap_T c_77).symm.trans (by rw [hkp.2.2.1]; exact is_n c_219))
                        refine lv_iconst (v := 1) hx hb dX4_step_222 (by decide) ?_
                        refine lv_goto (tgt := 227) hx hb dX4_step_223 (by decide) ?_
                        refine lv_istore (lv' := [(9, .int 1), (13, .int 1), (12, .int (nI (idB T1 (tac T = 3) kk))), (0, .ref (a 0)), (1, .int (nI j)), (2, .int (nI b)), (3, .int z), (4, .int 1), (5, .int 1), (6, .int (nI (tlv T + 1))), (7, .int (nI ch)), (8, .int 1), (10, .int (nI p9)), (11, .int (nI kk))]) hx hb dX4_step_227 hl (by decide) rfl (fun ls hl => ?_)
                        refine lv_iload hx hb dX4_step_229 (lv_at hl 0 rfl) ?_
                        refine lv_if_ne (tgt := 238) hx hb dX4_step_231 (by decide) (fun c_231 => ?_) (fun c_231 => False.elim (by revert c_231; decide))
                        refine lv_iconst (v := 0) hx hb dX4_step_238 (by decide) ?_
                        refine lv_istore (lv' := [(8, .int 0), (9, .int 1), (13, .int 1), (12, .int (nI (idB T1 (tac T = 3) kk))), (0, .ref (a 0)), (1, .int (nI j)), (2, .int (nI b)), (3, .int z), (4, .int 1), (5, .int 1), (6, .int (nI (tlv T + 1))), (7, .int (nI ch)), (10, .int (nI p9)), (11, .int (nI kk))]) hx hb dX4_step_239 hl (by decide) rfl (fun ls hl => ?_)
                        refine lv_iload hx hb dX4_step_241 (lv_at hl 2 rfl) ?_
                        refine lv_if_eq (tgt := 339) hx hb dX4_step_243 (by decide) (fun c_243 => False.elim (by revert c_243; decide)) (fun c_243 => ?_)
                        refine lv_iload hx hb dX4_step_246 (lv_at hl 0 rfl) ?_
                        refine lv_if_eq (tgt := 339) hx hb dX4_step_248 (by decide) (fun c_248 => ?_) (fun c_248 => False.elim (by revert c_248; decide))
                        refine lv_iload hx hb dX4_step_339 (lv_at hl 12 rfl) ?_
                        refine lv_iload hx hb dX4_step_341 (lv_at hl 0 rfl) ?_
                        refine lv_if_ne (tgt := 350) hx hb dX4_step_343 (by decide) (fun c_343 => False.elim (by revert c_343; decide)) (fun c_343 => ?_)
                        refine lv_iconst (v := 0) hx hb dX4_step_346 (by decide) ?_
                        refine lv_goto (tgt := 360) hx hb dX4_step_347 (by decide) ?_
                        refine lv_iadd hx hb dX4_step_360 ?_
                        refine ml_eqi (nI p9) (nI_add p9 0) ?_
                        refine lv_istore (lv' := [(10, .int (nI p9)), (8, .int 0), (9, .int 1), (13, .int 1), (12, .int (nI (idB T1 (tac T = 3) kk))), (0, .ref (a 0)), (1, .int (nI j)), (2, .int (nI b)), (3, .int z), (4, .int 1), (5, .int 1), (6, .int (nI (tlv T + 1))), (7, .int (nI ch)), (11, .int (nI kk))]) hx hb dX4_step_361 hl (by decide) rfl (fun ls hl => ?_)
                        refine lv_iinc (v := nI (kk + 1)) (lv' := [(11, .int (nI (kk + 1))), (10, .int (nI p9)), (8, .int 0), (9, .int 1), (13, .int 1), (12, .int (nI (idB T1 (tac T = 3) kk))), (0, .ref (a 0)), (1, .int (nI j)), (2, .int (nI b)), (3, .int z), (4, .int 1), (5, .int 1), (6, .int (nI (tlv T + 1))), (7, .int (nI ch))]) hx hb dX4_step_363 hl (k := 13) rfl (nI_1 _) (by decide) rfl (fun ls hl => ?_)
                        refine lv_goto (tgt := 113) hx hb dX4_step_366 (by decide) ?_
                        refine lv_iload hx hb dX4_step_113 (lv_at hl 0 rfl) ?_
                        refine lv_iload_n hx hb dX4_step_115 rfl (lv_at hl 8 rfl) ?_
                        refine lv_icmp_ge (tgt := 369) hx hb dX4_step_116 (by decide) (fun c_116 => ?_) (fun c_116 => ?_)
                        · refine lv_aload_n hx hb dX4_step_369 rfl (lv_at hl 6 rfl) ?_
                          refine va_get (D := G) (ci := 4) (v := .ref (a 8)) (C := RX4) (T := TX4) (N := 16) hx hb hts hin_X4 hown hK hP 0 rfl rfl 15 (by decide) (hts (.fieldLink RX4 36 "MigrationledgerModel" "hasCrashed" "[Z") (by decide +kernel)) (fun _ h9 => h9) rfl dX4_step_370 ?_
                          refine lv_iload_n hx hb dX4_step_373 rfl (lv_at hl 7 rfl) ?_
                          refine ml_zald hx hb hK hP 8 2 rfl rfl (j) rfl (by omega) (Nat.le_of_ble_eq_true rfl) (0) hcr1 dX4_step_374 ?_
                          refine lv_if_ne (tgt := 433) hx hb dX4_step_375 (by decide) (fun c_375 => False.elim (by revert c_375; decide)) (fun c_375 => ?_)
                          refine lv_aload_n hx hb dX4_step_378 rfl (lv_at hl 6 rfl) ?_
                          refine lv_iload hx hb dX4_step_379 (lv_at hl 1 rfl) ?_
                          refine va_put (D := G) (ci := 4) (v := .int (nI p9)) (ty := .int) (C := RX4) (T := TX4) (N := 16) hx hb hts hin_X4 tyX4 tyX4_ok nmX4 hown hK hP hD hS 0 rfl rfl 8 (by decide) (hts (.fieldLink RX4 93 "MigrationledgerModel" "cursor" "I") (by decide +kernel)) (fun _ h9 => h9) rfl (by decide +kernel) rfl rfl (Nat.le_of_ble_eq_true rfl) dX4_step_381 (fun H locs hP hD hS => ?_)
                          have hP : va_P G vwCl (wM a cy (ucu T1 p9) 0 u_216) H := hP
                          have hD : va_D A (wM a cy (ucu T1 p9) 0 u_216) := hD
                          refine lv_iload hx hb dX4_step_384 (lv_at hl 11 rfl) ?_
                          refine lv_if_ne (tgt := 416) hx hb dX4_step_386 (by decide) (fun c_386 => ?_) (fun c_386 => False.elim (by revert c_386; decide))
                          refine lv_iload hx hb dX4_step_416 (lv_at hl 11 rfl) ?_
                          refine lv_if_eq (tgt := 433) hx hb dX4_step_418 (by decide) (fun c_418 => False.elim (by revert c_418; decide)) (fun c_418 => ?_)
                          refine lv_aload_n hx hb dX4_step_421 rfl (lv_at hl 6 rfl) ?_
                          refine va_get (D := G) (ci := 4) (v := .int (nI p9)) (C := RX4) (T := TX4) (N := 16) hx hb hts hin_X4 hown hK hP 0 rfl rfl 8 (by decide) (hts (.fieldLink RX4 93 "MigrationledgerModel" "cursor" "I") (by decide +kernel)) (fun _ h9 => h9) rfl dX4_step_422 ?_
                          refine lv_if_ne (tgt := 433) hx hb dX4_step_425 (by decide) (fun c_425 => ?_) (fun c_425 => False.elim (absurd (l0_of (by omega) c_425) (by have q := hin.1 c_77; omega)))
                          refine lv_iload hx hb dX4_step_433 (lv_at hl 13 rfl) ?_
                          refine lv_iload hx hb dX4_step_435 (lv_at hl 3 rfl) ?_
                          refine lv_if_eq (tgt := 445) hx hb dX4_step_437 (by decide) (fun c_437 => False.elim (by revert c_437; decide)) (fun c_437 => ?_)
                          refine lv_bipush (v := 100) hx hb dX4_step_440 (by decide) ?_
                          refine lv_goto (tgt := 446) hx hb dX4_step_442 (by decide) ?_
                          refine lv_isub hx hb dX4_step_446 ?_
                          exact ml_ri u_216 hx hb hr hlocks hP hK hD hS (by rw [(show sp_step T (nI j) (nI b) z = (0, (nI ch) - 100, ucu T1 p9) from by unfold sp_step; rw [cif_f (not_not_intro ⟨c_4, c_14, c_24⟩), cif_f (fun q => q.elim c_49 c_56 : ¬ ((crd T (nI j) ∨ ¬ has T (nI j)) ∨ tac T = 0)), ix_n (j := j) (by omega), ix_n (j := b) (by omega), ← hg, sgo_blk hlf e2n, stR_1, ← hp9] <;> rfl)]) (by rw [(show sp_step T (nI j) (nI b) z = (0, (nI ch) - 100, ucu T1 p9) from by unfold sp_step; rw [cif_f (not_not_intro ⟨c_4, c_14, c_24⟩), cif_f (fun q => q.elim c_49 c_56 : ¬ ((crd T (nI j) ∨ ¬ has T (nI j)) ∨ tac T = 0)), ix_n (j := j) (by omega), ix_n (j := b) (by omega), ← hg, sgo_blk hlf e2n, stR_1, ← hp9] <;> rfl)]) dX4_step_447
                        · refine lv_iload hx hb dX4_step_119 (lv_at hl 2 rfl) ?_
                          refine lv_if_eq (tgt := 369) hx hb dX4_step_121 (by decide) (fun c_121 => ?_) (fun c_121 => False.elim (by revert c_121; decide))
                          refine lv_aload_n hx hb dX4_step_369 rfl (lv_at hl 6 rfl) ?_
                          refine va_get (D := G) (ci := 4) (v := .ref (a 8)) (C := RX4) (T := TX4) (N := 16) hx hb hts hin_X4 hown hK hP 0 rfl rfl 15 (by decide) (hts (.fieldLink RX4 36 "MigrationledgerModel" "hasCrashed" "[Z") (by decide +kernel)) (fun _ h9 => h9) rfl dX4_step_370 ?_
                          refine lv_iload_n hx hb dX4_step_373 rfl (lv_at hl 7 rfl) ?_
                          refine ml_zald hx hb hK hP 8 2 rfl rfl (j) rfl (by omega) (Nat.le_of_ble_eq_true rfl) (0) hcr1 dX4_step_374 ?_
                          refine lv_if_ne (tgt := 433) hx hb dX4_step_375 (by decide) (fun c_375 => False.elim (by revert c_375; decide)) (fun c_375 => ?_)
                          refine lv_aload_n hx hb dX4_step_378 rfl (lv_at hl 6 rfl) ?_
                          refine lv_iload hx hb dX4_step_379 (lv_at hl 1 rfl) ?_
                          refine va_put (D := G) (ci := 4) (v := .int (nI p9)) (ty := .int) (C := RX4) (T := TX4) (N := 16) hx hb hts hin_X4 tyX4 tyX4_ok nmX4 hown hK hP hD hS 0 rfl rfl 8 (by decide) (hts (.fieldLink RX4 93 "MigrationledgerModel" "cursor" "I") (by decide +kernel)) (fun _ h9 => h9) rfl (by decide +kernel) rfl rfl (Nat.le_of_ble_eq_true rfl) dX4_step_381 (fun H locs hP hD hS => ?_)
                          have hP : va_P G vwCl (wM a cy (ucu T1 p9) 0 u_216) H := hP
                          have hD : va_D A (wM a cy (ucu T1 p9) 0 u_216) := hD
                          refine lv_iload hx hb dX4_step_384 (lv_at hl 11 rfl) ?_
                          refine lv_if_ne (tgt := 416) hx hb dX4_step_386 (by decide) (fun c_386 => ?_) (fun c_386 => False.elim (by revert c_386; decide))
                          refine lv_iload hx hb dX4_step_416 (lv_at hl 11 rfl) ?_
                          refine lv_if_eq (tgt := 433) hx hb dX4_step_418 (by decide) (fun c_418 => False.elim (by revert c_418; decide)) (fun c_418 => ?_)
                          refine lv_aload_n hx hb dX4_step_421 rfl (lv_at hl 6 rfl) ?_
                          refine va_get (D := G) (ci := 4) (v := .int (nI p9)) (C := RX4) (T := TX4) (N := 16) hx hb hts hin_X4 hown hK hP 0 rfl rfl 8 (by decide) (hts (.fieldLink RX4 93 "MigrationledgerModel" "cursor" "I") (by decide +kernel)) (fun _ h9 => h9) rfl dX4_step_422 ?_
                          refine lv_if_ne (tgt := 433) hx hb dX4_step_425 (by decide) (fun c_425 => ?_) (fun c_425 => False.elim (absurd (l0_of (by omega) c_425) (by have q := hin.1 c_77; omega)))
                          refine lv_iload hx hb dX4_step_433 (lv_at hl 13 rfl) ?_
                          refine lv_iload hx hb dX4_step_435 (lv_at hl 3 rfl) ?_
                          refine lv_if_eq (tgt := 445) hx hb dX4_step_437 (by decide) (fun c_437 => False.elim (by revert c_437; decide)) (fun c_437 => ?_)
                          refine lv_bipush (v := 100) hx hb dX4_step_440 (by decide) ?_
                          refine lv_goto (tgt := 446) hx hb dX4_step_442 (by decide) ?_
                          refine lv_isub hx hb dX4_step_446 ?_
                          exact ml_ri u_216 hx hb hr hlocks hP hK hD hS (by rw [(show sp_step T (nI j) (nI b) z = (0, (nI ch) - 100, ucu T1 p9) from by unfold sp_step; rw [cif_f (not_not_intro ⟨c_4, c_14, c_24⟩), cif_f (fun q => q.elim c_49 c_56 : ¬ ((crd T (nI j) ∨ ¬ has T (nI j)) ∨ tac T = 0)), ix_n (j := j) (by omega), ix_n (j := b) (by omega), ← hg, sgo_blk hlf e2n, stR_1, ← hp9] <;> rfl)]) (by rw [(show sp_step T (nI j) (nI b) z = (0, (nI ch) - 100, ucu T1 p9) from by unfold sp_step; rw [cif_f (not_not_intro ⟨c_4, c_14, c_24⟩), cif_f (fun q => q.elim c_49 c_56 : ¬ ((crd T (nI j) ∨ ¬ has T (nI j)) ∨ tac T = 0)), ix_n (j := j) (by omega), ix_n (j := b) (by omega), ← hg, sgo_blk hlf e2n, stR_1, ← hp9] <;> rfl)]) dX4_step_447
              exact LOOP (min b (left T (tac T = 3))) 0 0 (tcu T) T sp (by omega) poB_0.symm rfl hW ⟨rfl, rfl, rfl, rfl⟩ _ _ _ hP hD hS (lv_sub hl [8, 9, 10, 11, 7, 6, 5, 4, 3, 2, 1, 0] rfl)
          · refine lv_iconst (v := 2) hx hb dX4_step_59 (by decide) ?_
            refine lv_goto (tgt := 64) hx hb dX4_step_60 (by decide) ?_
            refine ml_Vi (G := G) (As := [.int 2]) (rest := []) ⟨hx, hb, hml, hown, hts⟩ (c_X4_refused l G cy a H.size T rf sp 2) (cwV 1 hts gX4_step_X4_refused rfl rfl rfl (by decide +kernel) ⟨Nat.le_of_ble_eq_true rfl, Nat.le_of_ble_eq_true rfl⟩) (va_recv hK hP (ci := 4) (q0 := 0) rfl rfl) hP hK hD hS hN hA rfl hl.1 (Nat.le_of_ble_eq_true rfl) dX4_step_64 ⟨Nat.le_of_ble_eq_true rfl, Nat.le_of_ble_eq_true rfl⟩ (fun r_64 u_64 H locs hw hP hD hS => ?_)
            obtain rfl : r_64 = 1 := hw.trans (b2i_t (by decide))
            have hP : va_P G vwCl (wM a cy T 2 sp) H := hP
            have hD : va_D A (wM a cy T 2 sp) := hD
            refine lv_if_eq (tgt := 72) hx hb dX4_step_67 (by decide) (fun c_67 => False.elim (by revert c_67; decide)) (fun c_67 => ?_)
            refine lv_iconst (v := 0) hx hb dX4_step_70 (by decide) ?_
            exact ml_ri sp hx hb hr hlocks hP hK hD hS (by rw [(show sp_step T (nI j) (nI b) z = (2, 0, T) from by unfold sp_step; rw [cif_f (not_not_intro ⟨c_4, c_14, c_24⟩), cif_t (Or.inr c_56)] <;> rfl)]) (by rw [(show sp_step T (nI j) (nI b) z = (2, 0, T) from by unfold sp_step; rw [cif_f (not_not_intro ⟨c_4, c_14, c_24⟩), cif_t (Or.inr c_56)] <;> rfl)]) dX4_step_71
