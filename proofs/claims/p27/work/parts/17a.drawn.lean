theorem nar01 {v : Int32} (h : v = 0 ∨ v = 1) : narrow .boolean (.int v) = .int v := by
  rcases h with rfl | rfl <;> rfl
/-- the script, for drawn -/
def ml_PD (b L : Nat) (xs : Nat → Int32) (jj sz : Nat) : Array Value → State → Prop := va_Pc [.ref b, .int (nI jj)] (fun U => U.heap.size = sz ∧ va_X b L xs U U.heap ∧ b < sz)
theorem ml_blindD {b L : Nat} {xs : Nat → Int32} {jj sz : Nat} : FrameBlind (ml_PD b L xs jj sz) := fun a U g mk q => by
  obtain ⟨q0, q1, q2, q3⟩ := q
  exact ⟨q0, q1, va_X.moved (u := U) (U := U.calling g mk a) (Vm.Alike.refl U.vm) q2, q3⟩
set_option maxHeartbeats 4000000 in
set_option maxRecDepth 100000 in
theorem c_L_drawn (l : Launch) (b L : Nat) (xs : Nat → Int32) (jj sz : Nat) (hL : L < 2 ^ 31) (hj : jj < 2 ^ 31) : Met l yL_drawn wsL_drawn ({ frames := 0, cells := 0, slots := 0, locals := 0 } : Room) (ml_PD b L xs jj sz) (va_Qi (fun (r : Int32) (_ : Unit) => (∃ j : Nat, j < 2 ^ 31 ∧ r = nI j) ∧ (jj < L → r = xs jj &&& 2147483647)) (fun _ _ => True) (fun q => sz ≤ q)) 0 0 (fun q => sz ≤ q) := by
  refine Met.ofW (cc := cL_drawn) (maxL := 2) (ret := some .int) (by decide) rfl ?_
  intro p e s m args below meth c s₁ B hml hv
  obtain ⟨rfl, hsz, hX, hbl⟩ := hv
  have hx := B.exec
  have hb := B.bytes
  have hr := B.returns
  have hts := atoms_spec (ws := wsL_drawn) B.pre
  have hown : s.vm.findClass RL = some m.cls := findClass_of_methodNamed B.named
  have hlocks := B.notSynchronized
  subst hsz
  have hS : va_S (fun q => s.heap.size ≤ q) s.heap s.heap [] := va_S.rf
  have hbA : ¬ s.heap.size ≤ b := by omega
  have hl := lv_entry ([.ref b, .int (nI jj)]) (n := 2) (Nat.le_of_ble_eq_true rfl)
  rw [lg_entry_eq]
  generalize (lg_sl ([.ref b, .int (nI jj)]) ++ List.replicate (2 - (lg_sl ([.ref b, .int (nI jj)])).length) Slot.unset).toArray = ls at hl ⊢
  have hl : lv_has ls 2 [(0, .ref b), (1, .int (nI jj))] := hl
  have K22 : ∀ v : Int32, (jj < L → v = xs jj) → W p l e (headSpec wsL_drawn ({ frames := 0, cells := 0, slots := 0, locals := 0 } : Room)).room s m (#[.ref b, .int (nI jj)] : Array Value) below meth c s.heap [] 0 0 (MQ below (va_Qi (fun (r : Int32) (_ : Unit) => (∃ j : Nat, j < 2 ^ 31 ∧ r = nI j) ∧ (jj < L → r = xs jj &&& 2147483647)) (fun _ _ => True) (fun q => s.heap.size ≤ q)) (#[.ref b, .int (nI jj)] : Array Value) s 0 0 (fun q => s.heap.size ≤ q)) (F0 m 22 ls [.int v]) := by
    intro v hv9
    refine lv_ldc hx hb hown (hts (.constant RL 88 (2147483647)) (by decide +kernel)) dL_drawn_22 ?_
    refine lv_iand hx hb dL_drawn_24 ?_
    exact W.iret hx hb hr (fun t ht hW => ⟨⟨_, (), rfl, ⟨pk_andE v 31 (by decide), fun h9 => by rw [hv9 h9]⟩, trivial⟩, hS.F ht⟩) hS.2.2 dL_drawn_25 hlocks
  refine lv_iload_n hx hb dL_drawn_0 rfl (lv_at hl 1 rfl) ?_
  refine lv_aload_n hx hb dL_drawn_1 rfl (lv_at hl 0 rfl) ?_
  refine va_slen hx hb hX hbl hbA hS dL_drawn_2 ?_
  refine lv_icmp_ge (tgt := 12) hx hb dL_drawn_3 (by decide) (fun c_3 => ?_) (fun c_3 => ?_)
  · refine lv_ldc hx hb hown (hts (.constant RL 87 (15522853)) (by decide +kernel)) dL_drawn_12 ?_
    refine lv_iload_n hx hb dL_drawn_14 rfl (lv_at hl 1 rfl) ?_
    refine lv_iconst (v := 3) hx hb dL_drawn_15 (by decide) ?_
    refine lv_iadd hx hb dL_drawn_16 ?_
    refine lv_imul hx hb dL_drawn_17 ?_
    refine lv_sipush (v := 13477) hx hb dL_drawn_18 (by decide) ?_
    refine lv_iadd hx hb dL_drawn_21 ?_
    exact K22 _ (fun h9 => absurd h9 (Nat.not_lt.mpr ((nI_leI (a := L) (b := jj) hL hj).mp c_3)))
  · refine lv_aload_n hx hb dL_drawn_6 rfl (lv_at hl 0 rfl) ?_
    refine lv_iload_n hx hb dL_drawn_7 rfl (lv_at hl 1 rfl) ?_
    refine va_sld hx hb hX hbl hbA hS (vp_in_nI (n := jj) (Nat.not_le.mp (fun q => c_3 ((nI_leI (a := L) (b := jj) hL hj).mpr q))) hL) dL_drawn_8 ?_
    refine lv_goto (tgt := 22) hx hb dL_drawn_9 (by decide) ?_
    exact K22 _ (fun _ => by rw [nI_clamp hj])
