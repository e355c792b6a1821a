/-! the law from its entry, until 160 cells are new, or to its end with 0 -/
/-- a wide room -/
def R9 : Room := { frames := 13, cells := 20000, slots := 140000, locals := 496 }
def far_Q (below : List Frame) (s : State) : State → Prop := fun t => s.heap.size + 160 ≤ t.heap.size ∨ ∃ o, t.status = .running ∧ Ended t below o ∧ o = .returned (some (.int 0))
theorem far_ret0 {p : Program} {l : Launch} {e : Env} {s : State} {m : MethodId} {args : Array Value} {below : List Frame} {meth : Method} {c : Code} {R : Room} {cc : ByteArray} {A : Nat → Prop} {H : Heap} {locs : List Loc} {cells slots pc : Nat} {ls : Array Slot} (hx : p.tables.exec = Jvm.exec) (hb : c.code = cc) (hr : meth.sig.returnType = some .boolean) (hlocks : meth.locks = false) (hS : va_S A s.heap H locs) (hdg : decode cc pc = .ok (.ireturn, 1)) :
    W p l e R s m args below meth c H locs cells slots (far_Q below s) (F0 m pc ls [.int 0]) := by
  intro T hT X
  obtain ⟨t, a1, o, b1, b2, b3⟩ := (W.zret (Qc := fun _ _ o _ => o = .returned (some (.int 0))) hx hb hr rfl (fun _ _ _ => rfl) hS.2.2 hdg hlocks : W p l e R s m args below meth c H locs cells slots (MQ below (fun _ _ o _ => o = .returned (some (.int 0))) args s cells slots A) (F0 m pc ls [.int 0])) T hT X
  exact ⟨t, a1, Or.inr ⟨o, b1, b2, b3.1⟩⟩
theorem far_stop {p : Program} {l : Launch} {e : Env} {s : State} {m : MethodId} {args : Array Value} {below : List Frame} {meth : Method} {c : Code} {R : Room} {H : Heap} {locs : List Loc} {cells slots : Nat} {g : JFrame} (h : s.heap.size + 160 ≤ H.size) :
    W p l e R s m args below meth c H locs cells slots (far_Q below s) g := by
  intro T hT X
  exact ⟨T.setTop g, Steps.refl _, Or.inl (by rw [show (T.setTop g).heap = T.heap from rfl, hT]; exact h)⟩
theorem st_in : ∀ q ∈ mlS, Cond.stringRef "Migrationledger" q.1 q.2 ∈ lw_tbl := by decide +kernel
theorem d499 {j : Nat} : j % 499 < 997 := Nat.lt_trans (Nat.mod_lt _ (by decide)) (by decide)
theorem d997 {j : Nat} : j % 997 < 997 := Nat.mod_lt _ (by decide)
set_option maxHeartbeats 16000000 in
set_option maxRecDepth 100000 in
theorem whole_far {p : Program} {e : Env} {s : State} {m : MethodId} {below : List Frame} {meth : Method} {c : Code} (l : Launch) (hflags : l.flags = flags0) {b9 L : Nat} {xs : Nat → Int32} (hL : L ≤ 260) (C0 : lw_At p s m meth c b9 L xs) (hL0 : 0 < L) (hx0 : xs 0 = -49) : W p l e R9 s m #[Value.ref b9] below meth c s.heap [] 0 0 (far_Q below s) (entryFrame m ([Value.ref b9] : List Value).toArray 16) := by
  obtain ⟨hx, hb, hr, hml, hown, hts0, hX, hbl, hlocks, hgv⟩ := id C0
  have hb : c.code = cL_law := hb
  have hown : s.vm.findClass RL = some m.cls := hown
  have hts : ∀ w ∈ wsL_law, w.before #[Value.ref b9] s = true := fun w h => hts0 w (wsL_law_in w h)
  have hlt : l.stackTraces = false := by unfold Launch.stackTraces; rw [hflags]; decide +kernel
  have hA : ∀ q : Nat, s.heap.size ≤ q → (fun q : Nat => s.heap.size ≤ q) q := fun _ h => h
  have hbA : ¬ (fun q : Nat => s.heap.size ≤ q) b9 := Nat.not_le.mpr hbl
  have hgs := flat_of_before _ hgv
  obtain ⟨c0, iS0, hKn0⟩ := u_known (C := RX0) (T := TX0) (N := 5) (n := 5) hts0 inX0 (hts (.instantiable RX0 5) (by decide +kernel))
  obtain ⟨c1, iS1, hKn1⟩ := u_known (C := RX1) (T := TX1) (N := 4) (n := 4) hts0 inX1 (hts (.instantiable RX1 4) (by decide +kernel))
  obtain ⟨c2, iS2, hKn2⟩ := u_known (C := RX2) (T := TX2) (N := 2) (n := 2) hts0 inX2 (hts (.instantiable RX2 2) (by decide +kernel))
  obtain ⟨c3, iS3, hKn3⟩ := u_known (C := RX3) (T := TX3) (N := 7) (n := 7) hts0 inX3 (hts (.instantiable RX3 7) (by decide +kernel))
  obtain ⟨G, hKc⟩ : ∃ G : va_G, ∀ (k : Nat) (q : vw_C), vwCl[k]? = some q → u_Kn s q.1 q.2.1 q.2.2 (G.1 k) (G.2 k) := by
    refine ⟨(fun k => if k = 0 then c0 else if k = 1 then c1 else if k = 2 then c2 else c3, fun k => if k = 0 then iS0 else if k = 1 then iS1 else if k = 2 then iS2 else iS3), ?_⟩
    intro k q hq
    match k, hq with
    | 0, hq => cases hq; exact hKn0
    | 1, hq => cases hq; exact hKn1
    | 2, hq => cases hq; exact hKn2
    | 3, hq => cases hq; exact hKn3
    | k + 4, hq => simp [vwCl] at hq
  obtain ⟨a0, k0, m0, hf0, hk0, hn0⟩ := Cond.arrayClass_spec (hts (.arrayClass .int) (by decide +kernel))
  obtain ⟨a2, k2, m2, hf2, hk2, hn2⟩ := Cond.arrayClass_spec (hts (.arrayClass .boolean) (by decide +kernel))
  obtain ⟨cy, hcy⟩ : ∃ cy : Nat → ClassId, ∀ (k : Nat) (q : ClassId × FieldType), (tyA cy)[k]? = some q → ArrOfT s q.1 q.2 ∧ va_RA s q.1 q.2 := by
    refine ⟨fun k => if k = 0 then a0 else a2, ?_⟩
    intro k q hq
    match k, hq with
    | 0, hq => cases hq; exact ⟨fun n z => ⟨fun k h => (by cases h), k0, hk0, m0, hn0⟩, hf0⟩
    | 1, hq => cases hq; exact ⟨fun n z => ⟨fun k h => (by cases h), k2, hk2, m2, hn2⟩, hf2⟩
    | k + 2, hq => simp at hq
  have hK : va_K G vwCl (tyA cy) s := ⟨hKc, hcy⟩
  have hN0 := hts0 (.methodLinkNest RX0 49 yX3_isTableValue "Migrationledger") (by decide +kernel)
  have hN1 := hts0 (.methodLinkNest RX3 9 yX0_init "Migrationledger") (by decide +kernel)
  have hN2 := hts0 (.methodLinkNest RX3 25 yX1_init "Migrationledger") (by decide +kernel)
  have hN : ml_N s := ⟨va_Nw.of rfl hN0, va_Nw.of rfl hN1, va_Nw.of rfl hN2⟩
  have hst : ml_st s := fun q hq => by
    have h := hts0 _ (st_in q hq)
    obtain ⟨-, -, -, z, -, -, -, -, -, hev⟩ := Cond.stringRef_spec (show s.vm.findClass "Migrationledger" = some c3 from hKn3.2.1) h
    exact ⟨z, vk_R.of h hev⟩
  have hca : ml_ca s := ⟨⟨va_Nw.of rfl (hts0 (.castable eIA eIA) (by decide +kernel)), va_Nw.of rfl (hts0 (.castable eIS eIS) (by decide +kernel)), va_Nw.of rfl (hts0 (.castable eIB eIB) (by decide +kernel))⟩, ⟨va_Nc.of (hgs (.not (.castable eIS eIA)) (by decide +kernel)), va_Nc.of (hgs (.not (.castable eIB eIA)) (by decide +kernel)), va_Nc.of (hgs (.not (.castable eIS eIB)) (by decide +kernel)), va_Nc.of (hgs (.not (.castable eIB eIS)) (by decide +kernel))⟩, va_Nw.of rfl (hts0 (.declares ⟨"java/lang/RuntimeException", "<init>", "(Ljava/lang/String;)V"⟩) (by decide +kernel)), va_Nw.of rfl (hts0 (.declares ⟨"java/lang/Exception", "<init>", "(Ljava/lang/String;)V"⟩) (by decide +kernel)), va_Nw.of rfl (hts0 (.declares ⟨"java/lang/Throwable", "<init>", "(Ljava/lang/String;)V"⟩) (by decide +kernel))⟩
  have hE : ml_eX (fun q : Nat => s.heap.size ≤ q) s s.heap := ⟨vx_Zqof (hts0 (.laysStatic Bundle.tN "UNASSIGNED_STACK" Bundle.steD) (by decide +kernel)) (hts0 (.initialized Bundle.tN) (by decide +kernel)) (hgs (.isRef (.static Bundle.tN "UNASSIGNED_STACK" Bundle.steD)) (by decide +kernel)) (fun _ h => Nat.not_le.mpr h), vx_Zqof (hts0 (.laysStatic Bundle.tN "SUPPRESSED_SENTINEL" Bundle.listD) (by decide +kernel)) (hts0 (.initialized Bundle.tN) (by decide +kernel)) (hgs (.isRef (.static Bundle.tN "SUPPRESSED_SENTINEL" Bundle.listD)) (by decide +kernel)) (fun _ h => Nat.not_le.mpr h), hst, hca⟩
  have hS : va_S (fun q : Nat => s.heap.size ≤ q) s.heap s.heap [] := va_S.rf
  have hP : va_P G vwCl [] s.heap := fun k q h => by simp at h
  have hD : va_D (fun q : Nat => s.heap.size ≤ q) [] := ⟨fun i j p q h => by simp at h, fun k q h => by simp at h⟩
  obtain ⟨A, hA, hbA, hE, hS, hP, hD⟩ : ∃ A : Nat → Prop, (∀ q, s.heap.size ≤ q → A q) ∧ ¬ A b9 ∧ ml_eX A s s.heap ∧ va_S A s.heap s.heap [] ∧ va_P G vwCl [] s.heap ∧ va_D A [] := ⟨_, hA, hbA, hE, hS, hP, hD⟩
  have hL31 : L < 2 ^ 31 := by omega
  have hl := lv_entry ([.ref b9]) (n := 16) (Nat.le_of_ble_eq_true rfl)
  rw [lg_entry_eq]
  generalize (lg_sl ([.ref b9]) ++ List.replicate (16 - (lg_sl ([.ref b9])).length) Slot.unset).toArray = ls at hl ⊢
  have hl : lv_has ls 16 [(0, .ref b9)] := hl
  refine va_new (ci := 3) (fs := [.null, .null, .null, .null, .int 0, .int 0, .int 0]) (C := RX3) (T := TX3) (N := 7) hx hb hts inlX3 tyX3 tyX3_ok hown (hts (.classLink RL 8 RX3) (by decide +kernel)) (hts (.instantiable RX3 7) (by decide +kernel)) (hts (.initialized RX3) (by decide +kernel)) hK hP hD hS hA rfl (fun j hj => by rcases (show j = 0 ∨ j = 1 ∨ j = 2 ∨ j = 3 ∨ j = 4 ∨ j = 5 ∨ j = 6 by omega) with rfl | rfl | rfl | rfl | rfl | rfl | rfl <;> rfl) (Nat.le_of_ble_eq_true rfl) (Nat.le_of_ble_eq_true rfl) dL_law_0 (fun q0 H hP hD hS => ?_)
  have hP : va_P G vwCl [(q0, .inr (3, [.null, .null, .null, .null, .int 0, .int 0, .int 0]))] H := hP
  have hD : va_D A [(q0, .inr (3, [.null, .null, .null, .null, .int 0, .int 0, .int 0]))] := hD
  refine W.widen (k := 1) (n := 7) (Nat.le_of_ble_eq_true rfl) (Nat.le_of_ble_eq_true rfl) ?_
  refine lv_dup hx hb dL_law_3 rfl ?_
  have hPc := hP.sub (ws' := [(q0, .inr (3, [.null, .null, .null, .null, .int 0, .int 0, .int 0]))]) [0] rfl
  have hDc := hD.sub (ws' := [(q0, .inr (3, [.null, .null, .null, .null, .int 0, .int 0, .int 0]))]) [0] (by decide) rfl
  have hFc := va_free (wc := [(q0, .inr (3, [.null, .null, .null, .null, .int 0, .int 0, .int 0]))]) hD hS hA [0] rfl
  refine va_callv (va_runI (As := []) (rest := [.ref q0]) ⟨hx, hb, hml, hown, hts⟩ (c_X3_init l G cy q0 H.size) (cwI 0 hts gL_law_X3_init rfl rfl rfl (hts (.initialized RX3) (by decide +kernel)) (hts (.methodLink RL 162 yX3_init) (by decide +kernel)) (hts (.instanceMethod yX3_init) (by decide +kernel)) rfl (by decide +kernel) ⟨Nat.le_of_ble_eq_true rfl, Nat.le_of_ble_eq_true rfl⟩) ⟨ml_blind, fun U hU hW => ⟨rfl, by rw [hU], by rw [hU]; exact hPc, va_K.moved hW.alike hK, hDc.weaken (fun _ _ _ _ => trivial), ml_N.warm hW hN⟩⟩ rfl rfl hl.1 rfl (lv_room (Nat.le_of_ble_eq_true rfl)) dL_law_4 ⟨Nat.le_of_ble_eq_true rfl, Nat.le_of_ble_eq_true rfl⟩) hS (fun q _ h => hFc q h) hFc (fun a t H1 locs ht hvm hw hB hz1 hk1 hS => ?_)
  obtain ⟨hP1, hK1, hD1⟩ := hB
  rw [ht] at hP1
  obtain rfl : a 0 = q0 := hw
  obtain ⟨hP, hD⟩ := va_join (wr := []) (w1 := (wC a cy TSI z0)) hP hD [0] [] rfl rfl (by decide) (by decide) hk1 hFc hP1 hD1
  generalize H1 = H at hP hS ⊢
  have hP : va_P G vwCl (wC a cy TSI z0) H := hP
  have hD : va_D A (wC a cy TSI z0) := hD
  refine W.widen (k := 12) (n := 233) (Nat.le_of_ble_eq_true rfl) (Nat.le_of_ble_eq_true rfl) ?_
  refine lv_astore_n (lv' := [(1, .ref (a 0)), (0, .ref b9)]) hx hb dL_law_7 rfl hl (by decide) rfl (fun ls hl => ?_)
  refine va_new (ci := 3) (fs := [.null, .null, .null, .null, .int 0, .int 0, .int 0]) (C := RX3) (T := TX3) (N := 7) hx hb hts inlX3 tyX3 tyX3_ok hown (hts (.classLink RL 8 RX3) (by decide +kernel)) (hts (.instantiable RX3 7) (by decide +kernel)) (hts (.initialized RX3) (by decide +kernel)) hK hP hD hS hA rfl (fun j hj => by rcases (show j = 0 ∨ j = 1 ∨ j = 2 ∨ j = 3 ∨ j = 4 ∨ j = 5 ∨ j = 6 by omega) with rfl | rfl | rfl | rfl | rfl | rfl | rfl <;> rfl) (Nat.le_of_ble_eq_true rfl) (Nat.le_of_ble_eq_true rfl) dL_law_8 (fun q8 H hP hD hS => ?_)
  have hP : va_P G vwCl ((wC a cy TSI z0) ++ [(q8, .inr (3, [.null, .null, .null, .null, .int 0, .int 0, .int 0]))]) H := hP
  have hD : va_D A ((wC a cy TSI z0) ++ [(q8, .inr (3, [.null, .null, .null, .null, .int 0, .int 0, .int 0]))]) := hD
  refine W.widen (k := 13) (n := 240) (Nat.le_of_ble_eq_true rfl) (Nat.le_of_ble_eq_true rfl) ?_
  refine lv_dup hx hb dL_law_11 rfl ?_
  have hPc := hP.sub (ws' := [(q8, .inr (3, [.null, .null, .null, .null, .int 0, .int 0, .int 0]))]) [12] rfl
  have hDc := hD.sub (ws' := [(q8, .inr (3, [.null, .null, .null, .null, .int 0, .int 0, .int 0]))]) [12] (by decide) rfl
  have hFc := va_free (wc := [(q8, .inr (3, [.null, .null, .null, .null, .int 0, .int 0, .int 0]))]) hD hS hA [12] rfl
  refine va_callv (va_runI (As := []) (rest := [.ref q8]) ⟨hx, hb, hml, hown, hts⟩ (c_X3_init l G cy q8 H.size) (cwI 0 hts gL_law_X3_init rfl rfl rfl (hts (.initialized RX3) (by decide +kernel)) (hts (.methodLink RL 162 yX3_init) (by decide +kernel)) (hts (.instanceMethod yX3_init) (by decide +kernel)) rfl (by decide +kernel) ⟨Nat.le_of_ble_eq_true rfl, Nat.le_of_ble_eq_true rfl⟩) ⟨ml_blind, fun U hU hW => ⟨rfl, by rw [hU], by rw [hU]; exact hPc, va_K.moved hW.alike hK, hDc.weaken (fun _ _ _ _ => trivial), ml_N.warm hW hN⟩⟩ rfl rfl hl.1 rfl (lv_room (Nat.le_of_ble_eq_true rfl)) dL_law_12 ⟨Nat.le_of_ble_eq_true rfl, Nat.le_of_ble_eq_true rfl⟩) hS (fun q _ h => hFc q h) hFc (fun b t H1 locs ht hvm hw hB hz1 hk1 hS => ?_)
  obtain ⟨hP1, hK1, hD1⟩ := hB
  rw [ht] at hP1
  obtain rfl : b 0 = q8 := hw
  obtain ⟨hP, hD⟩ := va_join (wr := (wC a cy TSI z0)) (w1 := (wC b cy TSI z0)) hP hD [12] [0, 1, 2, 3, 4, 5, 6, 7, 8, 9, 10, 11] rfl rfl (by decide) (by decide) hk1 hFc hP1 hD1
  generalize H1 = H at hP hS ⊢
  have hP : va_P G vwCl (wC a cy TSI z0 ++ wC b cy TSI z0) H := hP
  have hD : va_D A (wC a cy TSI z0 ++ wC b cy TSI z0) := hD
  refine W.widen (k := 24) (n := 466) (Nat.le_of_ble_eq_true rfl) (Nat.le_of_ble_eq_true rfl) ?_
  refine lv_astore_n (lv' := [(2, .ref (b 0)), (1, .ref (a 0)), (0, .ref b9)]) hx hb dL_law_15 rfl hl (by decide) rfl (fun ls hl => ?_)
  have hz : s.heap.size + 0 ≤ H.size := hS.1
  have hIa := invTSI
  have hIb := invTSI
  refine W.widen (k := 0 + 24) (n := 6 * (0 + 24) + 322) (by omega) (by omega) ?_
  refine lv_aload_n hx hb dL_law_16 rfl (lv_at hl 2 rfl) ?_
  refine lv_iconst (v := 0) hx hb dL_law_17 (by decide) ?_
  refine va_calli (va_runS (As := [.ref b9, .int (nI 0)]) (rest := []) ⟨hx, hb, hml, hown, hts⟩ (c_L_drawn l b9 L xs 0 H.size hL31 (by omega)) (va_cwS 2 hts gL_law_L_drawn rfl rfl rfl (by decide +kernel) ⟨Nat.le_of_ble_eq_true rfl, Nat.le_of_ble_eq_true rfl⟩) ⟨ml_blindD, fun U hU hW => ⟨rfl, by rw [hU], by rw [hU]; exact va_X.moved hW.alike (hX.kept (hS.2.1 b9 hbl hbA)), Nat.lt_of_lt_of_le hbl hS.1⟩⟩ rfl rfl hl.1 rfl (lv_room (Nat.le_of_ble_eq_true rfl)) dL_law_18 ⟨by show _ ≤ (20000 : Nat); omega, by show _ ≤ (140000 : Nat); omega⟩) hS (fun q h h9 => absurd h (Nat.not_lt.mpr h9)) (fun q h => hA q (Nat.le_trans hS.1 h)) (fun r_18 u_18 t H1 locs ht hvm hw hB hz1 hk1 hS => ?_)
  have hP : va_P G vwCl (wC a cy TSI z0 ++ wC b cy TSI z0) H1 := hP.kept (fun k q hk => hk1 q.1 ((hP k q hk).lt) (Nat.not_le.mpr ((hP k q hk).lt)))
  have hz : s.heap.size + 0 ≤ H1.size := Nat.le_trans hz hz1
  generalize H1 = H at hP hS hz ⊢
  obtain ⟨⟨j_18, hj_18, rfl⟩, hr_18⟩ := hw
  refine lv_istore_n (lv' := [(3, .int (nI j_18)), (2, .ref (b 0)), (1, .ref (a 0)), (0, .ref b9)]) hx hb dL_law_21 rfl hl (by decide) rfl (fun ls hl => ?_)
  refine lv_iconst (v := 1) hx hb dL_law_22 (by decide) ?_
  refine lv_iload_n hx hb dL_law_23 rfl (lv_at hl 0 rfl) ?_
  refine lv_bipush (v := 20) hx hb dL_law_24 (by decide) ?_
  refine lv_irem hx hb dL_law_26 (by decide) ?_
  refine lv_iadd hx hb dL_law_27 ?_
  refine ml_eqi (20) (by rw [hr_18 hL0, hx0]; decide) ?_
  refine lv_istore (lv' := [(4, .int 20), (3, .int (nI j_18)), (2, .ref (b 0)), (1, .ref (a 0)), (0, .ref b9)]) hx hb dL_law_28 hl (by decide) rfl (fun ls hl => ?_)
  refine lv_iconst (v := 1) hx hb dL_law_30 (by decide) ?_
  refine lv_iload_n hx hb dL_law_31 rfl (lv_at hl 1 rfl) ?_
  refine lv_bipush (v := 20) hx hb dL_law_32 (by decide) ?_
  refine lv_idiv hx hb dL_law_34 (by decide) ?_
  refine lv_bipush (v := 8) hx hb dL_law_35 (by decide) ?_
  refine lv_irem hx hb dL_law_37 (by decide) ?_
  refine lv_iadd hx hb dL_law_38 ?_
  refine ml_eqi (4) (by rw [hr_18 hL0, hx0]; decide) ?_
  refine lv_istore (lv' := [(5, .int 4), (4, .int 20), (3, .int (nI j_18)), (2, .ref (b 0)), (1, .ref (a 0)), (0, .ref b9)]) hx hb dL_law_39 hl (by decide) rfl (fun ls hl => ?_)
  refine lv_bipush (v := 40) hx hb dL_law_41 (by decide) ?_
  refine ml_newa (atype := .int) (a0 := (40, .inl (fun _ => (0 : Int32)))) hx hb (hts (.arrayClass .int) (by decide +kernel)) rfl (Or.inl rfl) 0 0 (by decide) rfl hK hP hD hS hA (fun _ => rfl) (by decide) (N' := 40) (by decide) (Nat.le_of_ble_eq_true rfl) (by show _ ≤ (20000 : Nat); omega) (by show _ ≤ (140000 : Nat); omega) dL_law_43 (fun q_43 H hP hD hS => ?_)
  have hP : va_P G vwCl (wC a cy TSI z0 ++ wC b cy TSI z0 ++ [(q_43, .inl (cy 0, 40, .inl (fun _ => (0 : Int32))))]) H := hP
  have hD : va_D A (wC a cy TSI z0 ++ wC b cy TSI z0 ++ [(q_43, .inl (cy 0, 40, .inl (fun _ => (0 : Int32))))]) := hD
  have hz : s.heap.size + 0 ≤ H.size := hS.1
  refine W.widen (k := 0 + 25) (n := 6 * (0 + 25) + 356) (by omega) (by omega) ?_
  refine lv_astore (lv' := [(6, .ref q_43), (5, .int 4), (4, .int 20), (3, .int (nI j_18)), (2, .ref (b 0)), (1, .ref (a 0)), (0, .ref b9)]) hx hb dL_law_45 hl (by decide) rfl (fun ls hl => ?_)
  refine lv_bipush (v := 40) hx hb dL_law_47 (by decide) ?_
  refine ml_newa (atype := .int) (a0 := (40, .inl (fun _ => (0 : Int32)))) hx hb (hts (.arrayClass .int) (by decide +kernel)) rfl (Or.inl rfl) 0 0 (by decide) rfl hK hP hD hS hA (fun _ => rfl) (by decide) (N' := 40) (by decide) (Nat.le_of_ble_eq_true rfl) (by show _ ≤ (20000 : Nat); omega) (by show _ ≤ (140000 : Nat); omega) dL_law_49 (fun q_49 H hP hD hS => ?_)
  have hP : va_P G vwCl (wC a cy TSI z0 ++ wC b cy TSI z0 ++ [(q_43, .inl (cy 0, 40, .inl (fun _ => (0 : Int32)))), (q_49, .inl (cy 0, 40, .inl (fun _ => (0 : Int32))))]) H := hP
  have hD : va_D A (wC a cy TSI z0 ++ wC b cy TSI z0 ++ [(q_43, .inl (cy 0, 40, .inl (fun _ => (0 : Int32)))), (q_49, .inl (cy 0, 40, .inl (fun _ => (0 : Int32))))]) := hD
  have hz : s.heap.size + 0 ≤ H.size := hS.1
  refine W.widen (k := 0 + 26) (n := 6 * (0 + 26) + 390) (by omega) (by omega) ?_
  refine lv_astore (lv' := [(7, .ref q_49), (6, .ref q_43), (5, .int 4), (4, .int 20), (3, .int (nI j_18)), (2, .ref (b 0)), (1, .ref (a 0)), (0, .ref b9)]) hx hb dL_law_51 hl (by decide) rfl (fun ls hl => ?_)
  refine lv_iconst (v := 1) hx hb dL_law_53 (by decide) ?_
  refine lv_istore (lv' := [(8, .int 1), (7, .ref q_49), (6, .ref q_43), (5, .int 4), (4, .int 20), (3, .int (nI j_18)), (2, .ref (b 0)), (1, .ref (a 0)), (0, .ref b9)]) hx hb dL_law_54 hl (by decide) rfl (fun ls hl => ?_)
  have J186 : ∀ (T_1 : TS) (tr_2 : Nat → Int32) (hI_3 : Inv T_1) (T_4 : TS) (tr_5 : Nat → Int32) (hI_6 : Inv T_4) (fa : Nat → Int32) (fb : Nat → Int32) (g1 : Int32) (hg1 : g1 = 0 ∨ g1 = 1) (H : Heap) (locs : List Loc) (ls : Array Slot), va_P G vwCl (wC a cy T_1 tr_2 ++ wC b cy T_4 tr_5 ++ [(q_43, .inl (cy 0, 40, .inl fa)), (q_49, .inl (cy 0, 40, .inl fb))]) H → va_D A (wC a cy T_1 tr_2 ++ wC b cy T_4 tr_5 ++ [(q_43, .inl (cy 0, 40, .inl fa)), (q_49, .inl (cy 0, 40, .inl fb))]) → va_S A s.heap H locs → s.heap.size + 0 ≤ H.size → lv_has ls 16 [(7, .ref q_49), (6, .ref q_43), (5, .int 4), (4, .int 20), (3, .int (nI j_18)), (2, .ref (b 0)), (1, .ref (a 0)), (0, .ref b9), (8, .int g1)] → W p l e R9 s m #[Value.ref b9] below meth c H locs (0 + 126) (6 * (0 + 126) + 390) (far_Q below s) (F0 m 186 ls []) := by
    intro T_1 tr_2 hI_3 T_4 tr_5 hI_6 fa fb g1 hg1 H locs ls hP hD hS hz hl
    have J472 : ∀ (T_7 : TS) (tr_8 : Nat → Int32) (hI_9 : Inv T_7) (T_10 : TS) (tr_11 : Nat → Int32) (hI_12 : Inv T_10) (H : Heap) (locs : List Loc) (ls : Array Slot), va_P G vwCl (wC a cy T_7 tr_8 ++ wC b cy T_10 tr_11 ++ [(q_43, .inl (cy 0, 40, .inl fa)), (q_49, .inl (cy 0, 40, .inl fb))]) H → va_D A (wC a cy T_7 tr_8 ++ wC b cy T_10 tr_11 ++ [(q_43, .inl (cy 0, 40, .inl fa)), (q_49, .inl (cy 0, 40, .inl fb))]) → va_S A s.heap H locs → s.heap.size + 0 ≤ H.size → lv_has ls 16 [(7, .ref q_49), (6, .ref q_43), (5, .int 4), (4, .int 20), (2, .ref (b 0)), (1, .ref (a 0)), (0, .ref b9), (8, .int 0)] → W p l e R9 s m #[Value.ref b9] below meth c H locs (0 + 15126) (6 * (0 + 15126) + 390) (far_Q below s) (F0 m 472 ls []) := by
      intro T_7 tr_8 hI_9 T_10 tr_11 hI_12 H locs ls hP hD hS hz hl
      refine lv_iconst (v := 0) hx hb dL_law_472 (by decide) ?_
      refine lv_istore (lv' := [(10, .int 0), (7, .ref q_49), (6, .ref q_43), (5, .int 4), (4, .int 20), (2, .ref (b 0)), (1, .ref (a 0)), (0, .ref b9), (8, .int 0)]) hx hb dL_law_473 hl (by decide) rfl (fun ls hl => ?_)
      refine lv_iload hx hb dL_law_475 (lv_at hl 0 rfl) ?_
      refine lv_bipush (v := 40) hx hb dL_law_477 (by decide) ?_
      refine lv_icmp_ge (tgt := 573) hx hb dL_law_479 (by decide) (fun c_479 => False.elim (by revert c_479; decide)) (fun c_479 => ?_)
      refine lv_iload hx hb dL_law_482 (lv_at hl 8 rfl) ?_
      refine lv_if_eq (tgt := 573) hx hb dL_law_484 (by decide) (fun c_484 => ?_) (fun c_484 => False.elim (by revert c_484; decide))
      refine lv_iload hx hb dL_law_573 (lv_at hl 3 rfl) ?_
      refine lv_istore (lv' := [(10, .int 4), (7, .ref q_49), (6, .ref q_43), (5, .int 4), (4, .int 20), (2, .ref (b 0)), (1, .ref (a 0)), (0, .ref b9), (8, .int 0)]) hx hb dL_law_575 hl (by decide) rfl (fun ls hl => ?_)
      refine lv_iload hx hb dL_law_577 (lv_at hl 0 rfl) ?_
      refine lv_iconst (v := 1) hx hb dL_law_579 (by decide) ?_
      refine lv_icmp_lt (tgt := 711) hx hb dL_law_580 (by decide) (fun c_580 => False.elim (by revert c_580; decide)) (fun c_580 => ?_)
      refine lv_iload hx hb dL_law_583 (lv_at hl 8 rfl) ?_
      refine lv_if_eq (tgt := 711) hx hb dL_law_585 (by decide) (fun c_585 => ?_) (fun c_585 => False.elim (by revert c_585; decide))
      refine lv_iconst (v := 0) hx hb dL_law_711 (by decide) ?_
      refine lv_istore (lv' := [(10, .int 0), (7, .ref q_49), (6, .ref q_43), (5, .int 4), (4, .int 20), (2, .ref (b 0)), (1, .ref (a 0)), (0, .ref b9), (8, .int 0)]) hx hb dL_law_712 hl (by decide) rfl (fun ls hl => ?_)
      refine lv_iload hx hb dL_law_714 (lv_at hl 0 rfl) ?_
      refine lv_bipush (v := 40) hx hb dL_law_716 (by decide) ?_
      refine lv_icmp_ge (tgt := 799) hx hb dL_law_718 (by decide) (fun c_718 => False.elim (by revert c_718; decide)) (fun c_718 => ?_)
      refine lv_iload hx hb dL_law_721 (lv_at hl 8 rfl) ?_
      refine lv_if_eq (tgt := 799) hx hb dL_law_723 (by decide) (fun c_723 => ?_) (fun c_723 => False.elim (by revert c_723; decide))
      refine lv_iload hx hb dL_law_799 (lv_at hl 8 rfl) ?_
      exact far_ret0 hx hb hr hlocks hS dL_law_801
    rcases hg1 with rfl | rfl
    · refine lv_aload_n hx hb dL_law_186 rfl (lv_at hl 6 rfl) ?_
      refine lv_iconst (v := 0) hx hb dL_law_187 (by decide) ?_
      have hPc := hP.sub (ws' := (wC a cy T_1 tr_2)) [0, 1, 2, 3, 4, 5, 6, 7, 8, 9, 10, 11] rfl
      have hDc := hD.sub (ws' := (wC a cy T_1 tr_2)) [0, 1, 2, 3, 4, 5, 6, 7, 8, 9, 10, 11] (by decide) rfl
      refine mo_SWz (G := G) (wr := (wC b cy T_4 tr_5 ++ [(q_43, .inl (cy 0, 40, .inl fa)), (q_49, .inl (cy 0, 40, .inl fb))])) (As := [.ref (a 0), .int 0]) (rest := []) ⟨hx, hb, hml, hown, hts⟩ (c_L_rowsAt l hlt G cy a H.size T_1 tr_2 0 hI_3) (vx_cwSW 2 hts gL_law_L_rowsAt rfl rfl rfl (by decide +kernel) ⟨Nat.le_of_ble_eq_true rfl, Nat.le_of_ble_eq_true rfl⟩) hPc hDc hP hK hD hS hA [0, 1, 2, 3, 4, 5, 6, 7, 8, 9, 10, 11] [12, 13, 14, 15, 16, 17, 18, 19, 20, 21, 22, 23, 24, 25] rfl rfl (by decide) (by decide) hN hE rfl hl.1 (Nat.le_of_ble_eq_true rfl) dL_law_188 ⟨by show _ ≤ (20000 : Nat); omega, by show _ ≤ (140000 : Nat); omega⟩ (fun r_188 u_188 H locs hw hP hD hS hz9 => ?_)
      obtain ⟨T_188, hT9⟩ : ∃ z, z = (sp_rowsAt T_1 0).2.2 := ⟨_, rfl⟩
      rw [← hT9] at hP hD
      have hI_188 : Inv T_188 := by rw [hT9]; exact inv_rowsAt hI_3 0
      have hP := hP.sub (ws' := (wC a cy T_188 u_188 ++ wC b cy T_4 tr_5 ++ [(q_43, .inl (cy 0, 40, .inl fa)), (q_49, .inl (cy 0, 40, .inl fb))])) [14, 15, 16, 17, 18, 19, 20, 21, 22, 23, 24, 25, 0, 1, 2, 3, 4, 5, 6, 7, 8, 9, 10, 11, 12, 13] rfl
      have hD := hD.sub (ws' := (wC a cy T_188 u_188 ++ wC b cy T_4 tr_5 ++ [(q_43, .inl (cy 0, 40, .inl fa)), (q_49, .inl (cy 0, 40, .inl fb))])) [14, 15, 16, 17, 18, 19, 20, 21, 22, 23, 24, 25, 0, 1, 2, 3, 4, 5, 6, 7, 8, 9, 10, 11, 12, 13] (by decide) rfl
      have hP : va_P G vwCl (wC a cy T_188 u_188 ++ wC b cy T_4 tr_5 ++ [(q_43, .inl (cy 0, 40, .inl fa)), (q_49, .inl (cy 0, 40, .inl fb))]) H := hP
      have hD : va_D A (wC a cy T_188 u_188 ++ wC b cy T_4 tr_5 ++ [(q_43, .inl (cy 0, 40, .inl fa)), (q_49, .inl (cy 0, 40, .inl fb))]) := hD
      have hz : s.heap.size + 0 ≤ H.size := rz_0 hz hz9
      refine lv_istore (lv' := [(9, .int r_188), (7, .ref q_49), (6, .ref q_43), (5, .int 4), (4, .int 20), (3, .int (nI j_18)), (2, .ref (b 0)), (1, .ref (a 0)), (0, .ref b9), (8, .int 0)]) hx hb dL_law_191 hl (by decide) rfl (fun ls hl => ?_)
      refine lv_iconst (v := 1) hx hb dL_law_193 (by decide) ?_
      refine lv_istore (lv' := [(10, .int 1), (9, .int r_188), (7, .ref q_49), (6, .ref q_43), (5, .int 4), (4, .int 20), (3, .int (nI j_18)), (2, .ref (b 0)), (1, .ref (a 0)), (0, .ref b9), (8, .int 0)]) hx hb dL_law_194 hl (by decide) rfl (fun ls hl => ?_)
      refine lv_iload hx hb dL_law_196 (lv_at hl 0 rfl) ?_
      refine lv_iload hx hb dL_law_198 (lv_at hl 4 rfl) ?_
      refine lv_icmp_gt (tgt := 472) hx hb dL_law_200 (by decide) (fun c_200 => False.elim (by revert c_200; decide)) (fun c_200 => ?_)
      refine lv_iload hx hb dL_law_203 (lv_at hl 10 rfl) ?_
      refine lv_if_eq (tgt := 472) hx hb dL_law_205 (by decide) (fun c_205 => ?_) (fun c_205 => False.elim (by revert c_205; decide))
      refine W.widen (k := 0 + 15126) (n := 6 * (0 + 15126) + 390) (by omega) (by omega) ?_
      exact J472 T_188 u_188 hI_188 T_4 tr_5 hI_6 _ _ _ hP hD hS (by omega) (lv_sub hl [2, 3, 4, 5, 7, 8, 9, 10] rfl)
    · refine lv_aload_n hx hb dL_law_186 rfl (lv_at hl 6 rfl) ?_
      refine lv_iconst (v := 0) hx hb dL_law_187 (by decide) ?_
      have hPc := hP.sub (ws' := (wC a cy T_1 tr_2)) [0, 1, 2, 3, 4, 5, 6, 7, 8, 9, 10, 11] rfl
      have hDc := hD.sub (ws' := (wC a cy T_1 tr_2)) [0, 1, 2, 3, 4, 5, 6, 7, 8, 9, 10, 11] (by decide) rfl
      refine mo_SWz (G := G) (wr := (wC b cy T_4 tr_5 ++ [(q_43, .inl (cy 0, 40, .inl fa)), (q_49, .inl (cy 0, 40, .inl fb))])) (As := [.ref (a 0), .int 0]) (rest := []) ⟨hx, hb, hml, hown, hts⟩ (c_L_rowsAt l hlt G cy a H.size T_1 tr_2 0 hI_3) (vx_cwSW 2 hts gL_law_L_rowsAt rfl rfl rfl (by decide +kernel) ⟨Nat.le_of_ble_eq_true rfl, Nat.le_of_ble_eq_true rfl⟩) hPc hDc hP hK hD hS hA [0, 1, 2, 3, 4, 5, 6, 7, 8, 9, 10, 11] [12, 13, 14, 15, 16, 17, 18, 19, 20, 21, 22, 23, 24, 25] rfl rfl (by decide) (by decide) hN hE rfl hl.1 (Nat.le_of_ble_eq_true rfl) dL_law_188 ⟨by show _ ≤ (20000 : Nat); omega, by show _ ≤ (140000 : Nat); omega⟩ (fun r_188 u_188 H locs hw hP hD hS hz9 => ?_)
      obtain ⟨T_188, hT9⟩ : ∃ z, z = (sp_rowsAt T_1 0).2.2 := ⟨_, rfl⟩
      rw [← hT9] at hP hD
      have hI_188 : Inv T_188 := by rw [hT9]; exact inv_rowsAt hI_3 0
      have hP := hP.sub (ws' := (wC a cy T_188 u_188 ++ wC b cy T_4 tr_5 ++ [(q_43, .inl (cy 0, 40, .inl fa)), (q_49, .inl (cy 0, 40, .inl fb))])) [14, 15, 16, 17, 18, 19, 20, 21, 22, 23, 24, 25, 0, 1, 2, 3, 4, 5, 6, 7, 8, 9, 10, 11, 12, 13] rfl
      have hD := hD.sub (ws' := (wC a cy T_188 u_188 ++ wC b cy T_4 tr_5 ++ [(q_43, .inl (cy 0, 40, .inl fa)), (q_49, .inl (cy 0, 40, .inl fb))])) [14, 15, 16, 17, 18, 19, 20, 21, 22, 23, 24, 25, 0, 1, 2, 3, 4, 5, 6, 7, 8, 9, 10, 11, 12, 13] (by decide) rfl
      have hP : va_P G vwCl (wC a cy T_188 u_188 ++ wC b cy T_4 tr_5 ++ [(q_43, .inl (cy 0, 40, .inl fa)), (q_49, .inl (cy 0, 40, .inl fb))]) H := hP
      have hD : va_D A (wC a cy T_188 u_188 ++ wC b cy T_4 tr_5 ++ [(q_43, .inl (cy 0, 40, .inl fa)), (q_49, .inl (cy 0, 40, .inl fb))]) := hD
      have hz : s.heap.size + 0 ≤ H.size := rz_0 hz hz9
      refine lv_istore (lv' := [(9, .int r_188), (7, .ref q_49), (6, .ref q_43), (5, .int 4), (4, .int 20), (3, .int (nI j_18)), (2, .ref (b 0)), (1, .ref (a 0)), (0, .ref b9), (8, .int 1)]) hx hb dL_law_191 hl (by decide) rfl (fun ls hl => ?_)
      refine lv_iconst (v := 1) hx hb dL_law_193 (by decide) ?_
      refine lv_istore (lv' := [(10, .int 1), (9, .int r_188), (7, .ref q_49), (6, .ref q_43), (5, .int 4), (4, .int 20), (3, .int (nI j_18)), (2, .ref (b 0)), (1, .ref (a 0)), (0, .ref b9), (8, .int 1)]) hx hb dL_law_194 hl (by decide) rfl (fun ls hl => ?_)
      have LOOP196 : ∀ (r : Nat) (i : Nat) (T_13 : TS) (tr_14 : Nat → Int32) (hI_15 : Inv T_13) (T_16 : TS) (tr_17 : Nat → Int32) (hI_18 : Inv T_16) (hi : i + r = 4) (h1i : 1 ≤ i) (H : Heap) (locs : List Loc) (ls : Array Slot), va_P G vwCl (wC a cy T_13 tr_14 ++ wC b cy T_16 tr_17 ++ [(q_43, .inl (cy 0, 40, .inl fa)), (q_49, .inl (cy 0, 40, .inl fb))]) H → va_D A (wC a cy T_13 tr_14 ++ wC b cy T_16 tr_17 ++ [(q_43, .inl (cy 0, 40, .inl fa)), (q_49, .inl (cy 0, 40, .inl fb))]) → va_S A s.heap H locs → s.heap.size + (74 * (i - 1)) ≤ H.size → lv_has ls 16 [(9, .int r_188), (7, .ref q_49), (6, .ref q_43), (5, .int 4), (4, .int 20), (3, .int (nI j_18)), (2, .ref (b 0)), (1, .ref (a 0)), (0, .ref b9), (8, .int 1), (10, .int (nI i))] → W p l e R9 s m #[Value.ref b9] below meth c H locs (127 + 2900 * i) (6 * (127 + 2900 * i) + 390) (far_Q below s) (F0 m 196 ls []) := by
        intro r
        induction r with
        | zero =>
          intro i T_13 tr_14 hI_15 T_16 tr_17 hI_18 hi h1i H locs ls hP hD hS hz hl
          obtain rfl : i = 4 := by omega
          exact far_stop (by omega)
        | succ r ih =>
          intro i T_13 tr_14 hI_15 T_16 tr_17 hI_18 hi h1i H locs ls hP hD hS hz hl
          refine lv_iload hx hb dL_law_196 (lv_at hl 10 rfl) ?_
          refine lv_iload hx hb dL_law_198 (lv_at hl 3 rfl) ?_
          refine lv_icmp_gt (tgt := 472) hx hb dL_law_200 (by decide) (fun c_200 => False.elim (absurd ((nI_ltI (a := 4) (b := i) (by decide) (by omega)).mp c_200) (by omega))) (fun c_200 => ?_)
          refine lv_iload hx hb dL_law_203 (lv_at hl 9 rfl) ?_
          refine lv_if_eq (tgt := 472) hx hb dL_law_205 (by decide) (fun c_205 => False.elim (by revert c_205; decide)) (fun c_205 => ?_)
          have J463 : ∀ (T_19 : TS) (tr_20 : Nat → Int32) (hI_21 : Inv T_19) (T_22 : TS) (tr_23 : Nat → Int32) (hI_24 : Inv T_22) (H : Heap) (locs : List Loc) (ls : Array Slot), va_P G vwCl (wC a cy T_19 tr_20 ++ wC b cy T_22 tr_23 ++ [(q_43, .inl (cy 0, 40, .inl fa)), (q_49, .inl (cy 0, 40, .inl fb))]) H → va_D A (wC a cy T_19 tr_20 ++ wC b cy T_22 tr_23 ++ [(q_43, .inl (cy 0, 40, .inl fa)), (q_49, .inl (cy 0, 40, .inl fb))]) → va_S A s.heap H locs → s.heap.size + 0 ≤ H.size → lv_has ls 16 [(9, .int r_188), (7, .ref q_49), (6, .ref q_43), (5, .int 4), (4, .int 20), (3, .int (nI j_18)), (2, .ref (b 0)), (1, .ref (a 0)), (0, .ref b9), (10, .int (nI i))] → W p l e R9 s m #[Value.ref b9] below meth c H locs (127 + 2900 * i + 2895) (6 * (127 + 2900 * i + 2895) + 390) (far_Q below s) (F0 m 463 ls []) := by
            intro T_19 tr_20 hI_21 T_22 tr_23 hI_24 H locs ls hP hD hS hz hl
            refine lv_iconst (v := 0) hx hb dL_law_463 (by decide) ?_
            refine lv_istore (lv' := [(8, .int 0), (9, .int r_188), (7, .ref q_49), (6, .ref q_43), (5, .int 4), (4, .int 20), (3, .int (nI j_18)), (2, .ref (b 0)), (1, .ref (a 0)), (0, .ref b9), (10, .int (nI i))]) hx hb dL_law_464 hl (by decide) rfl (fun ls hl => ?_)
            refine lv_iinc (v := nI (i + 1)) (lv' := [(10, .int (nI (i + 1))), (8, .int 0), (9, .int r_188), (7, .ref q_49), (6, .ref q_43), (5, .int 4), (4, .int 20), (3, .int (nI j_18)), (2, .ref (b 0)), (1, .ref (a 0)), (0, .ref b9)]) hx hb dL_law_466 hl (k := 10) rfl (nI_1 _) (by decide) rfl (fun ls hl => ?_)
            refine lv_goto (tgt := 196) hx hb dL_law_469 (by decide) ?_
            refine lv_iload hx hb dL_law_196 (lv_at hl 0 rfl) ?_
            refine lv_iload hx hb dL_law_198 (lv_at hl 5 rfl) ?_
            refine lv_icmp_gt (tgt := 472) hx hb dL_law_200 (by decide) (fun c_200 => False.elim (absurd ((nI_ltI (a := 4) (b := i + 1) (by decide) (by omega)).mp c_200) (by omega))) (fun c_200 => ?_)
            refine lv_iload hx hb dL_law_203 (lv_at hl 1 rfl) ?_
            refine lv_if_eq (tgt := 472) hx hb dL_law_205 (by decide) (fun c_205 => ?_) (fun c_205 => False.elim (by revert c_205; decide))
            refine W.widen (k := 0 + 15126) (n := 6 * (0 + 15126) + 390) (by omega) (by omega) ?_
            exact J472 T_19 tr_20 hI_21 T_22 tr_23 hI_24 _ _ _ hP hD hS (by omega) (lv_sub hl [3, 4, 5, 6, 8, 9, 10, 1] rfl)
          have J376 : ∀ (T_25 : TS) (tr_26 : Nat → Int32) (hI_27 : Inv T_25) (T_28 : TS) (tr_29 : Nat → Int32) (hI_30 : Inv T_28) (H : Heap) (locs : List Loc) (ls : Array Slot), va_P G vwCl (wC a cy T_25 tr_26 ++ wC b cy T_28 tr_29 ++ [(q_43, .inl (cy 0, 40, .inl fa)), (q_49, .inl (cy 0, 40, .inl fb))]) H → va_D A (wC a cy T_25 tr_26 ++ wC b cy T_28 tr_29 ++ [(q_43, .inl (cy 0, 40, .inl fa)), (q_49, .inl (cy 0, 40, .inl fb))]) → va_S A s.heap H locs → s.heap.size + 0 ≤ H.size → lv_has ls 16 [(9, .int r_188), (7, .ref q_49), (6, .ref q_43), (5, .int 4), (4, .int 20), (3, .int (nI j_18)), (2, .ref (b 0)), (1, .ref (a 0)), (0, .ref b9), (10, .int (nI i))] → W p l e R9 s m #[Value.ref b9] below meth c H locs (127 + 2900 * i + 200) (6 * (127 + 2900 * i + 200) + 390) (far_Q below s) (F0 m 376 ls []) := by
            intro T_25 tr_26 hI_27 T_28 tr_29 hI_30 H locs ls hP hD hS hz hl
            refine lv_iconst (v := 0) hx hb dL_law_376 (by decide) ?_
            refine lv_istore (lv' := [(8, .int 0), (9, .int r_188), (7, .ref q_49), (6, .ref q_43), (5, .int 4), (4, .int 20), (3, .int (nI j_18)), (2, .ref (b 0)), (1, .ref (a 0)), (0, .ref b9), (10, .int (nI i))]) hx hb dL_law_377 hl (by decide) rfl (fun ls hl => ?_)
            refine lv_iload hx hb dL_law_379 (lv_at hl 0 rfl) ?_
            refine lv_if_eq (tgt := 393) hx hb dL_law_381 (by decide) (fun c_381 => ?_) (fun c_381 => False.elim (by revert c_381; decide))
            refine lv_iconst (v := 0) hx hb dL_law_393 (by decide) ?_
            refine lv_istore (lv' := [(15, .int 0), (8, .int 0), (9, .int r_188), (7, .ref q_49), (6, .ref q_43), (5, .int 4), (4, .int 20), (3, .int (nI j_18)), (2, .ref (b 0)), (1, .ref (a 0)), (0, .ref b9), (10, .int (nI i))]) hx hb dL_law_394 hl (by decide) rfl (fun ls hl => ?_)
            refine lv_iload hx hb dL_law_396 (lv_at hl 1 rfl) ?_
            refine lv_if_eq (tgt := 463) hx hb dL_law_398 (by decide) (fun c_398 => ?_) (fun c_398 => False.elim (by revert c_398; decide))
            refine W.widen (k := 127 + 2900 * i + 2895) (n := 6 * (127 + 2900 * i + 2895) + 390) (by omega) (by omega) ?_
            exact J463 T_25 tr_26 hI_27 T_28 tr_29 hI_30 _ _ _ hP hD hS (by omega) (lv_sub hl [2, 3, 4, 5, 6, 7, 8, 9, 10, 11] rfl)
          refine lv_aload_n hx hb dL_law_208 rfl (lv_at hl 8 rfl) ?_
          refine lv_bipush (v := 21) hx hb dL_law_209 (by decide) ?_
          refine lv_iload hx hb dL_law_211 (lv_at hl 10 rfl) ?_
          refine lv_iadd hx hb dL_law_213 ?_
          refine ml_eqi (nI (21 + i)) (nI_add 21 i) ?_
          refine va_calli (va_runS (As := [.ref b9, .int (nI (21 + i))]) (rest := []) ⟨hx, hb, hml, hown, hts⟩ (c_L_drawn l b9 L xs (21 + i) H.size hL31 (by omega)) (va_cwS 2 hts gL_law_L_drawn rfl rfl rfl (by decide +kernel) ⟨Nat.le_of_ble_eq_true rfl, Nat.le_of_ble_eq_true rfl⟩) ⟨ml_blindD, fun U hU hW => ⟨rfl, by rw [hU], by rw [hU]; exact va_X.moved hW.alike (hX.kept (hS.2.1 b9 hbl hbA)), Nat.lt_of_lt_of_le hbl hS.1⟩⟩ rfl rfl hl.1 rfl (lv_room (Nat.le_of_ble_eq_true rfl)) dL_law_214 ⟨by show _ ≤ (20000 : Nat); omega, by show _ ≤ (140000 : Nat); omega⟩) hS (fun q h h9 => absurd h (Nat.not_lt.mpr h9)) (fun q h => hA q (Nat.le_trans hS.1 h)) (fun r_214 u_214 t H1 locs ht hvm hw hB hz1 hk1 hS => ?_)
          have hP : va_P G vwCl (wC a cy T_13 tr_14 ++ wC b cy T_16 tr_17 ++ [(q_43, .inl (cy 0, 40, .inl fa)), (q_49, .inl (cy 0, 40, .inl fb))]) H1 := hP.kept (fun k q hk => hk1 q.1 ((hP k q hk).lt) (Nat.not_le.mpr ((hP k q hk).lt)))
          have hz : s.heap.size + (74 * (i - 1)) ≤ H1.size := Nat.le_trans hz hz1
          generalize H1 = H at hP hS hz ⊢
          obtain ⟨⟨j_214, hj_214, rfl⟩, hr_214⟩ := hw
          refine lv_istore (lv' := [(11, .int (nI j_214)), (9, .int r_188), (7, .ref q_49), (6, .ref q_43), (5, .int 4), (4, .int 20), (3, .int (nI j_18)), (2, .ref (b 0)), (1, .ref (a 0)), (0, .ref b9), (8, .int 1), (10, .int (nI i))]) hx hb dL_law_217 hl (by decide) rfl (fun ls hl => ?_)
          refine lv_iload hx hb dL_law_219 (lv_at hl 0 rfl) ?_
          refine lv_iconst (v := 3) hx hb dL_law_221 (by decide) ?_
          refine lv_irem hx hb dL_law_222 (by decide) ?_
          refine lv_istore (lv' := [(12, .int ((nI j_214) - (nI j_214) / 3 * 3)), (11, .int (nI j_214)), (9, .int r_188), (7, .ref q_49), (6, .ref q_43), (5, .int 4), (4, .int 20), (3, .int (nI j_18)), (2, .ref (b 0)), (1, .ref (a 0)), (0, .ref b9), (8, .int 1), (10, .int (nI i))]) hx hb dL_law_223 hl (by decide) rfl (fun ls hl => ?_)
          refine lv_iload hx hb dL_law_225 (lv_at hl 1 rfl) ?_
          refine lv_iconst (v := 3) hx hb dL_law_227 (by decide) ?_
          refine lv_idiv hx hb dL_law_228 (by decide) ?_
          refine lv_iconst (v := 3) hx hb dL_law_229 (by decide) ?_
          refine lv_irem hx hb dL_law_230 (by decide) ?_
          refine lv_istore (lv' := [(13, .int (((nI j_214) / 3) - ((nI j_214) / 3) / 3 * 3)), (12, .int ((nI j_214) - (nI j_214) / 3 * 3)), (11, .int (nI j_214)), (9, .int r_188), (7, .ref q_49), (6, .ref q_43), (5, .int 4), (4, .int 20), (3, .int (nI j_18)), (2, .ref (b 0)), (1, .ref (a 0)), (0, .ref b9), (8, .int 1), (10, .int (nI i))]) hx hb dL_law_231 hl (by decide) rfl (fun ls hl => ?_)
          refine lv_iload hx hb dL_law_233 (lv_at hl 1 rfl) ?_
          have J285 : ∀ (v12 : Int32) (v13 : Int32) (v14 : Int32) (H : Heap) (locs : List Loc) (ls : Array Slot), va_P G vwCl (wC a cy T_13 tr_14 ++ wC b cy T_16 tr_17 ++ [(q_43, .inl (cy 0, 40, .inl fa)), (q_49, .inl (cy 0, 40, .inl fb))]) H → va_D A (wC a cy T_13 tr_14 ++ wC b cy T_16 tr_17 ++ [(q_43, .inl (cy 0, 40, .inl fa)), (q_49, .inl (cy 0, 40, .inl fb))]) → va_S A s.heap H locs → s.heap.size + (74 * (i - 1)) ≤ H.size → lv_has ls 16 [(11, .int (nI j_214)), (9, .int r_188), (7, .ref q_49), (6, .ref q_43), (5, .int 4), (4, .int 20), (3, .int (nI j_18)), (2, .ref (b 0)), (1, .ref (a 0)), (0, .ref b9), (8, .int 1), (10, .int (nI i)), (12, .int v12), (13, .int v13)] → W p l e R9 s m #[Value.ref b9] below meth c H locs (127 + 2900 * i) (6 * (127 + 2900 * i) + 390) (far_Q below s) (F0 m 285 ls [.int v14]) := by
            intro v12 v13 v14 H locs ls hP hD hS hz hl
            refine lv_istore (lv' := [(14, .int v14), (11, .int (nI j_214)), (9, .int r_188), (7, .ref q_49), (6, .ref q_43), (5, .int 4), (4, .int 20), (3, .int (nI j_18)), (2, .ref (b 0)), (1, .ref (a 0)), (0, .ref b9), (8, .int 1), (10, .int (nI i)), (12, .int v12), (13, .int v13)]) hx hb dL_law_285 hl (by decide) rfl (fun ls hl => ?_)
            refine lv_aload_n hx hb dL_law_287 rfl (lv_at hl 9 rfl) ?_
            refine lv_iload hx hb dL_law_288 (lv_at hl 13 rfl) ?_
            refine lv_iload hx hb dL_law_290 (lv_at hl 14 rfl) ?_
            refine lv_iload hx hb dL_law_292 (lv_at hl 0 rfl) ?_
            have hPc := hP.sub (ws' := (wC a cy T_13 tr_14)) [0, 1, 2, 3, 4, 5, 6, 7, 8, 9, 10, 11] rfl
            have hDc := hD.sub (ws' := (wC a cy T_13 tr_14)) [0, 1, 2, 3, 4, 5, 6, 7, 8, 9, 10, 11] (by decide) rfl
            refine mo_SWz (G := G) (wr := (wC b cy T_16 tr_17 ++ [(q_43, .inl (cy 0, 40, .inl fa)), (q_49, .inl (cy 0, 40, .inl fb))])) (As := [.ref (a 0), .int v12, .int v13, .int v14]) (rest := []) ⟨hx, hb, hml, hown, hts⟩ (c_L_adds l hlt G cy a H.size T_13 tr_14 v12 v13 v14 hI_15) (vx_cwSW 4 hts gL_law_L_adds rfl rfl rfl (by decide +kernel) ⟨Nat.le_of_ble_eq_true rfl, Nat.le_of_ble_eq_true rfl⟩) hPc hDc hP hK hD hS hA [0, 1, 2, 3, 4, 5, 6, 7, 8, 9, 10, 11] [12, 13, 14, 15, 16, 17, 18, 19, 20, 21, 22, 23, 24, 25] rfl rfl (by decide) (by decide) hN hE rfl hl.1 (Nat.le_of_ble_eq_true rfl) dL_law_294 ⟨by show _ ≤ (20000 : Nat); omega, by show _ ≤ (140000 : Nat); omega⟩ (fun r_294 u_294 H locs hw hP hD hS hz9 => ?_)
            obtain ⟨T_294, hT9⟩ : ∃ z, z = (sp_addChange T_13 v12 v13 v14).2.2 := ⟨_, rfl⟩
            rw [← hT9] at hP hD
            have hI_294 : Inv T_294 := by rw [hT9]; exact inv_addChange hI_15 v12 v13 v14
            have hP := hP.sub (ws' := (wC a cy T_294 u_294 ++ wC b cy T_16 tr_17 ++ [(q_43, .inl (cy 0, 40, .inl fa)), (q_49, .inl (cy 0, 40, .inl fb))])) [14, 15, 16, 17, 18, 19, 20, 21, 22, 23, 24, 25, 0, 1, 2, 3, 4, 5, 6, 7, 8, 9, 10, 11, 12, 13] rfl
            have hD := hD.sub (ws' := (wC a cy T_294 u_294 ++ wC b cy T_16 tr_17 ++ [(q_43, .inl (cy 0, 40, .inl fa)), (q_49, .inl (cy 0, 40, .inl fb))])) [14, 15, 16, 17, 18, 19, 20, 21, 22, 23, 24, 25, 0, 1, 2, 3, 4, 5, 6, 7, 8, 9, 10, 11, 12, 13] (by decide) rfl
            have hP : va_P G vwCl (wC a cy T_294 u_294 ++ wC b cy T_16 tr_17 ++ [(q_43, .inl (cy 0, 40, .inl fa)), (q_49, .inl (cy 0, 40, .inl fb))]) H := hP
            have hD : va_D A (wC a cy T_294 u_294 ++ wC b cy T_16 tr_17 ++ [(q_43, .inl (cy 0, 40, .inl fa)), (q_49, .inl (cy 0, 40, .inl fb))]) := hD
            have hz : s.heap.size + (74 * (i - 1)) ≤ H.size := rz_0 hz hz9
            refine lv_iload hx hb dL_law_297 (lv_at hl 12 rfl) ?_
            refine lv_icmp_ne (tgt := 376) hx hb dL_law_299 (by decide) (fun c_299 => ?_) (fun c_299 => ?_)
            · refine W.widen (k := 127 + 2900 * i + 200) (n := 6 * (127 + 2900 * i + 200) + 390) (by omega) (by omega) ?_
              exact J376 T_294 u_294 hI_294 T_16 tr_17 hI_18 _ _ _ hP hD hS (by omega) (lv_sub hl [2, 3, 4, 5, 6, 7, 8, 9, 10, 12] rfl)
            · refine lv_aload_n hx hb dL_law_302 rfl (lv_at hl 8 rfl) ?_
              refine lv_iload hx hb dL_law_303 (lv_at hl 13 rfl) ?_
              refine lv_iload hx hb dL_law_305 (lv_at hl 14 rfl) ?_
              refine lv_iload hx hb dL_law_307 (lv_at hl 0 rfl) ?_
              have hPc := hP.sub (ws' := (wC b cy T_16 tr_17)) [12, 13, 14, 15, 16, 17, 18, 19, 20, 21, 22, 23] rfl
              have hDc := hD.sub (ws' := (wC b cy T_16 tr_17)) [12, 13, 14, 15, 16, 17, 18, 19, 20, 21, 22, 23] (by decide) rfl
              refine mo_SWz (G := G) (wr := (wC a cy T_294 u_294 ++ [(q_43, .inl (cy 0, 40, .inl fa)), (q_49, .inl (cy 0, 40, .inl fb))])) (As := [.ref (b 0), .int v12, .int v13, .int v14]) (rest := []) ⟨hx, hb, hml, hown, hts⟩ (c_L_adds l hlt G cy b H.size T_16 tr_17 v12 v13 v14 hI_18) (vx_cwSW 4 hts gL_law_L_adds rfl rfl rfl (by decide +kernel) ⟨Nat.le_of_ble_eq_true rfl, Nat.le_of_ble_eq_true rfl⟩) hPc hDc hP hK hD hS hA [12, 13, 14, 15, 16, 17, 18, 19, 20, 21, 22, 23] [0, 1, 2, 3, 4, 5, 6, 7, 8, 9, 10, 11, 24, 25] rfl rfl (by decide) (by decide) hN hE rfl hl.1 (Nat.le_of_ble_eq_true rfl) dL_law_309 ⟨by show _ ≤ (20000 : Nat); omega, by show _ ≤ (140000 : Nat); omega⟩ (fun r_309 u_309 H locs hw hP hD hS hz9 => ?_)
              obtain ⟨T_309, hT9⟩ : ∃ z, z = (sp_addChange T_16 v12 v13 v14).2.2 := ⟨_, rfl⟩
              rw [← hT9] at hP hD
              have hI_309 : Inv T_309 := by rw [hT9]; exact inv_addChange hI_18 v12 v13 v14
              have hP := hP.sub (ws' := (wC a cy T_294 u_294 ++ wC b cy T_309 u_309 ++ [(q_43, .inl (cy 0, 40, .inl fa)), (q_49, .inl (cy 0, 40, .inl fb))])) [0, 1, 2, 3, 4, 5, 6, 7, 8, 9, 10, 11, 14, 15, 16, 17, 18, 19, 20, 21, 22, 23, 24, 25, 12, 13] rfl
              have hD := hD.sub (ws' := (wC a cy T_294 u_294 ++ wC b cy T_309 u_309 ++ [(q_43, .inl (cy 0, 40, .inl fa)), (q_49, .inl (cy 0, 40, .inl fb))])) [0, 1, 2, 3, 4, 5, 6, 7, 8, 9, 10, 11, 14, 15, 16, 17, 18, 19, 20, 21, 22, 23, 24, 25, 12, 13] (by decide) rfl
              have hP : va_P G vwCl (wC a cy T_294 u_294 ++ wC b cy T_309 u_309 ++ [(q_43, .inl (cy 0, 40, .inl fa)), (q_49, .inl (cy 0, 40, .inl fb))]) H := hP
              have hD : va_D A (wC a cy T_294 u_294 ++ wC b cy T_309 u_309 ++ [(q_43, .inl (cy 0, 40, .inl fa)), (q_49, .inl (cy 0, 40, .inl fb))]) := hD
              have hz : s.heap.size + (74 * (i - 1)) ≤ H.size := rz_0 hz hz9
              refine lv_iload hx hb dL_law_312 (lv_at hl 12 rfl) ?_
              refine lv_icmp_ne (tgt := 376) hx hb dL_law_314 (by decide) (fun c_314 => ?_) (fun c_314 => ?_)
              · refine W.widen (k := 127 + 2900 * i + 200) (n := 6 * (127 + 2900 * i + 200) + 390) (by omega) (by omega) ?_
                exact J376 T_294 u_294 hI_294 T_309 u_309 hI_309 _ _ _ hP hD hS (by omega) (lv_sub hl [2, 3, 4, 5, 6, 7, 8, 9, 10, 12] rfl)
              · refine lv_aload_n hx hb dL_law_317 rfl (lv_at hl 8 rfl) ?_
                refine lv_iload hx hb dL_law_318 (lv_at hl 1 rfl) ?_
                refine lv_sipush (v := 997) hx hb dL_law_320 (by decide) ?_
                refine lv_irem hx hb dL_law_323 (by decide) ?_
                refine ml_eqi (nI (j_214 % 997)) (pk_rem (a := j_214) (d := 997) (by omega) (by decide) (by decide)) ?_
                have hPc := hP.sub (ws' := (wC b cy T_309 u_309)) [12, 13, 14, 15, 16, 17, 18, 19, 20, 21, 22, 23] rfl
                have hDc := hD.sub (ws' := (wC b cy T_309 u_309)) [12, 13, 14, 15, 16, 17, 18, 19, 20, 21, 22, 23] (by decide) rfl
                refine mo_Sz (G := G) (wr := (wC a cy T_294 u_294 ++ [(q_43, .inl (cy 0, 40, .inl fa)), (q_49, .inl (cy 0, 40, .inl fb))])) (As := [.ref (b 0), .int (nI (j_214 % 997))]) (rest := []) ⟨hx, hb, hml, hown, hts⟩ (c_L_refuses l hlt G cy b H.size T_309 u_309 (j_214 % 997) d997 hI_309) (va_cwS 2 hts gL_law_L_refuses rfl rfl rfl (by decide +kernel) ⟨Nat.le_of_ble_eq_true rfl, Nat.le_of_ble_eq_true rfl⟩) hPc hDc hP hK hD hS hA [12, 13, 14, 15, 16, 17, 18, 19, 20, 21, 22, 23] [0, 1, 2, 3, 4, 5, 6, 7, 8, 9, 10, 11, 24, 25] rfl rfl (by decide) (by decide) hN hE rfl hl.1 (Nat.le_of_ble_eq_true rfl) dL_law_324 ⟨by show _ ≤ (20000 : Nat); omega, by show _ ≤ (140000 : Nat); omega⟩ (fun r_324 u_324 H locs hw hP hD hS hz9 => ?_)
                have hP := hP.sub (ws' := (wC a cy T_294 u_294 ++ wC b cy T_309 u_324 ++ [(q_43, .inl (cy 0, 40, .inl fa)), (q_49, .inl (cy 0, 40, .inl fb))])) [0, 1, 2, 3, 4, 5, 6, 7, 8, 9, 10, 11, 14, 15, 16, 17, 18, 19, 20, 21, 22, 23, 24, 25, 12, 13] rfl
                have hD := hD.sub (ws' := (wC a cy T_294 u_294 ++ wC b cy T_309 u_324 ++ [(q_43, .inl (cy 0, 40, .inl fa)), (q_49, .inl (cy 0, 40, .inl fb))])) [0, 1, 2, 3, 4, 5, 6, 7, 8, 9, 10, 11, 14, 15, 16, 17, 18, 19, 20, 21, 22, 23, 24, 25, 12, 13] (by decide) rfl
                have hP : va_P G vwCl (wC a cy T_294 u_294 ++ wC b cy T_309 u_324 ++ [(q_43, .inl (cy 0, 40, .inl fa)), (q_49, .inl (cy 0, 40, .inl fb))]) H := hP
                have hD : va_D A (wC a cy T_294 u_294 ++ wC b cy T_309 u_324 ++ [(q_43, .inl (cy 0, 40, .inl fa)), (q_49, .inl (cy 0, 40, .inl fb))]) := hD
                have hz : s.heap.size + (74 * (i - 1) + 37) ≤ H.size := by have h9 : _ + 37 ≤ H.size := hz9; omega
                obtain rfl : r_324 = 1 := hw
                refine lv_if_eq (tgt := 376) hx hb dL_law_327 (by decide) (fun c_327 => False.elim (by revert c_327; decide)) (fun c_327 => ?_)
                refine lv_aload_n hx hb dL_law_330 rfl (lv_at hl 9 rfl) ?_
                refine lv_iconst (v := 0) hx hb dL_law_331 (by decide) ?_
                refine lv_bipush (v := 9) hx hb dL_law_332 (by decide) ?_
                have hPc := hP.sub (ws' := (wC a cy T_294 u_294)) [0, 1, 2, 3, 4, 5, 6, 7, 8, 9, 10, 11] rfl
                have hDc := hD.sub (ws' := (wC a cy T_294 u_294)) [0, 1, 2, 3, 4, 5, 6, 7, 8, 9, 10, 11] (by decide) rfl
                refine mo_SWz (G := G) (wr := (wC b cy T_309 u_324 ++ [(q_43, .inl (cy 0, 40, .inl fa)), (q_49, .inl (cy 0, 40, .inl fb))])) (As := [.ref (a 0), .int 0, .int 9]) (rest := []) ⟨hx, hb, hml, hown, hts⟩ (c_L_takes l hlt G cy a H.size T_294 u_294 0 9 hI_294) (vx_cwSW 3 hts gL_law_L_takes rfl rfl rfl (by decide +kernel) ⟨Nat.le_of_ble_eq_true rfl, Nat.le_of_ble_eq_true rfl⟩) hPc hDc hP hK hD hS hA [0, 1, 2, 3, 4, 5, 6, 7, 8, 9, 10, 11] [12, 13, 14, 15, 16, 17, 18, 19, 20, 21, 22, 23, 24, 25] rfl rfl (by decide) (by decide) hN hE rfl hl.1 (Nat.le_of_ble_eq_true rfl) dL_law_334 ⟨by show _ ≤ (20000 : Nat); omega, by show _ ≤ (140000 : Nat); omega⟩ (fun r_334 u_334 H locs hw hP hD hS hz9 => ?_)
                obtain ⟨T_334, hT9⟩ : ∃ z, z = (sp_take T_294 0 9).2.2 := ⟨_, rfl⟩
                rw [← hT9] at hP hD
                have hI_334 : Inv T_334 := by rw [hT9]; exact inv_take hI_294 0 9
                have hP := hP.sub (ws' := (wC a cy T_334 u_334 ++ wC b cy T_309 u_324 ++ [(q_43, .inl (cy 0, 40, .inl fa)), (q_49, .inl (cy 0, 40, .inl fb))])) [14, 15, 16, 17, 18, 19, 20, 21, 22, 23, 24, 25, 0, 1, 2, 3, 4, 5, 6, 7, 8, 9, 10, 11, 12, 13] rfl
                have hD := hD.sub (ws' := (wC a cy T_334 u_334 ++ wC b cy T_309 u_324 ++ [(q_43, .inl (cy 0, 40, .inl fa)), (q_49, .inl (cy 0, 40, .inl fb))])) [14, 15, 16, 17, 18, 19, 20, 21, 22, 23, 24, 25, 0, 1, 2, 3, 4, 5, 6, 7, 8, 9, 10, 11, 12, 13] (by decide) rfl
                have hP : va_P G vwCl (wC a cy T_334 u_334 ++ wC b cy T_309 u_324 ++ [(q_43, .inl (cy 0, 40, .inl fa)), (q_49, .inl (cy 0, 40, .inl fb))]) H := hP
                have hD : va_D A (wC a cy T_334 u_334 ++ wC b cy T_309 u_324 ++ [(q_43, .inl (cy 0, 40, .inl fa)), (q_49, .inl (cy 0, 40, .inl fb))]) := hD
                have hz : s.heap.size + (74 * (i - 1) + 37) ≤ H.size := rz_0 hz hz9
                refine lv_if_le (tgt := 376) hx hb dL_law_337 (by decide) (fun c_337 => ?_) (fun c_337 => ?_)
                · refine W.widen (k := 127 + 2900 * i + 200) (n := 6 * (127 + 2900 * i + 200) + 390) (by omega) (by omega) ?_
                  exact J376 T_334 u_334 hI_334 T_309 u_324 hI_309 _ _ _ hP hD hS (by omega) (lv_sub hl [2, 3, 4, 5, 6, 7, 8, 9, 10, 12] rfl)
                · refine lv_aload_n hx hb dL_law_340 rfl (lv_at hl 9 rfl) ?_
                  refine lv_iconst (v := 0) hx hb dL_law_341 (by decide) ?_
                  have hPc := hP.sub (ws' := (wC a cy T_334 u_334)) [0, 1, 2, 3, 4, 5, 6, 7, 8, 9, 10, 11] rfl
                  have hDc := hD.sub (ws' := (wC a cy T_334 u_334)) [0, 1, 2, 3, 4, 5, 6, 7, 8, 9, 10, 11] (by decide) rfl
                  refine mo_SWz (G := G) (wr := (wC b cy T_309 u_324 ++ [(q_43, .inl (cy 0, 40, .inl fa)), (q_49, .inl (cy 0, 40, .inl fb))])) (As := [.ref (a 0), .int 0]) (rest := []) ⟨hx, hb, hml, hown, hts⟩ (c_L_begins l hlt G cy a H.size T_334 u_334 0 hI_334) (vx_cwSW 2 hts gL_law_L_begins rfl rfl rfl (by decide +kernel) ⟨Nat.le_of_ble_eq_true rfl, Nat.le_of_ble_eq_true rfl⟩) hPc hDc hP hK hD hS hA [0, 1, 2, 3, 4, 5, 6, 7, 8, 9, 10, 11] [12, 13, 14, 15, 16, 17, 18, 19, 20, 21, 22, 23, 24, 25] rfl rfl (by decide) (by decide) hN hE rfl hl.1 (Nat.le_of_ble_eq_true rfl) dL_law_342 ⟨by show _ ≤ (20000 : Nat); omega, by show _ ≤ (140000 : Nat); omega⟩ (fun r_342 u_342 H locs hw hP hD hS hz9 => ?_)
                  obtain ⟨T_342, hT9⟩ : ∃ z, z = (sp_begin T_334 0).2.2 := ⟨_, rfl⟩
                  rw [← hT9] at hP hD
                  have hI_342 : Inv T_342 := by rw [hT9]; exact inv_begin hI_334 0
                  have hP := hP.sub (ws' := (wC a cy T_342 u_342 ++ wC b cy T_309 u_324 ++ [(q_43, .inl (cy 0, 40, .inl fa)), (q_49, .inl (cy 0, 40, .inl fb))])) [14, 15, 16, 17, 18, 19, 20, 21, 22, 23, 24, 25, 0, 1, 2, 3, 4, 5, 6, 7, 8, 9, 10, 11, 12, 13] rfl
                  have hD := hD.sub (ws' := (wC a cy T_342 u_342 ++ wC b cy T_309 u_324 ++ [(q_43, .inl (cy 0, 40, .inl fa)), (q_49, .inl (cy 0, 40, .inl fb))])) [14, 15, 16, 17, 18, 19, 20, 21, 22, 23, 24, 25, 0, 1, 2, 3, 4, 5, 6, 7, 8, 9, 10, 11, 12, 13] (by decide) rfl
                  have hP : va_P G vwCl (wC a cy T_342 u_342 ++ wC b cy T_309 u_324 ++ [(q_43, .inl (cy 0, 40, .inl fa)), (q_49, .inl (cy 0, 40, .inl fb))]) H := hP
                  have hD : va_D A (wC a cy T_342 u_342 ++ wC b cy T_309 u_324 ++ [(q_43, .inl (cy 0, 40, .inl fa)), (q_49, .inl (cy 0, 40, .inl fb))]) := hD
                  have hz : s.heap.size + (74 * (i - 1) + 37) ≤ H.size := rz_0 hz hz9
                  refine lv_iload hx hb dL_law_345 (lv_at hl 12 rfl) ?_
                  refine lv_icmp_ne (tgt := 376) hx hb dL_law_347 (by decide) (fun c_347 => ?_) (fun c_347 => ?_)
                  · refine W.widen (k := 127 + 2900 * i + 200) (n := 6 * (127 + 2900 * i + 200) + 390) (by omega) (by omega) ?_
                    exact J376 T_342 u_342 hI_342 T_309 u_324 hI_309 _ _ _ hP hD hS (by omega) (lv_sub hl [2, 3, 4, 5, 6, 7, 8, 9, 10, 12] rfl)
                  · refine lv_aload_n hx hb dL_law_350 rfl (lv_at hl 9 rfl) ?_
                    refine lv_iconst (v := 0) hx hb dL_law_351 (by decide) ?_
                    refine lv_bipush (v := 40) hx hb dL_law_352 (by decide) ?_
                    refine lv_iconst (v := 0) hx hb dL_law_354 (by decide) ?_
                    have hPc := hP.sub (ws' := (wC a cy T_342 u_342)) [0, 1, 2, 3, 4, 5, 6, 7, 8, 9, 10, 11] rfl
                    have hDc := hD.sub (ws' := (wC a cy T_342 u_342)) [0, 1, 2, 3, 4, 5, 6, 7, 8, 9, 10, 11] (by decide) rfl
                    refine mo_SWz (G := G) (wr := (wC b cy T_309 u_324 ++ [(q_43, .inl (cy 0, 40, .inl fa)), (q_49, .inl (cy 0, 40, .inl fb))])) (As := [.ref (a 0), .int 0, .int 40, .int 0]) (rest := []) ⟨hx, hb, hml, hown, hts⟩ (c_L_steps l hlt G cy a H.size T_342 u_342 0 40 0 hI_342) (vx_cwSW 4 hts gL_law_L_steps rfl rfl rfl (by decide +kernel) ⟨Nat.le_of_ble_eq_true rfl, Nat.le_of_ble_eq_true rfl⟩) hPc hDc hP hK hD hS hA [0, 1, 2, 3, 4, 5, 6, 7, 8, 9, 10, 11] [12, 13, 14, 15, 16, 17, 18, 19, 20, 21, 22, 23, 24, 25] rfl rfl (by decide) (by decide) hN hE rfl hl.1 (Nat.le_of_ble_eq_true rfl) dL_law_355 ⟨by show _ ≤ (20000 : Nat); omega, by show _ ≤ (140000 : Nat); omega⟩ (fun r_355 u_355 H locs hw hP hD hS hz9 => ?_)
                    obtain ⟨T_355, hT9⟩ : ∃ z, z = (sp_step T_342 0 40 0).2.2 := ⟨_, rfl⟩
                    rw [← hT9] at hP hD
                    have hI_355 : Inv T_355 := by rw [hT9]; exact inv_step hI_342 0 40 0
                    have hP := hP.sub (ws' := (wC a cy T_355 u_355 ++ wC b cy T_309 u_324 ++ [(q_43, .inl (cy 0, 40, .inl fa)), (q_49, .inl (cy 0, 40, .inl fb))])) [14, 15, 16, 17, 18, 19, 20, 21, 22, 23, 24, 25, 0, 1, 2, 3, 4, 5, 6, 7, 8, 9, 10, 11, 12, 13] rfl
                    have hD := hD.sub (ws' := (wC a cy T_355 u_355 ++ wC b cy T_309 u_324 ++ [(q_43, .inl (cy 0, 40, .inl fa)), (q_49, .inl (cy 0, 40, .inl fb))])) [14, 15, 16, 17, 18, 19, 20, 21, 22, 23, 24, 25, 0, 1, 2, 3, 4, 5, 6, 7, 8, 9, 10, 11, 12, 13] (by decide) rfl
                    have hP : va_P G vwCl (wC a cy T_355 u_355 ++ wC b cy T_309 u_324 ++ [(q_43, .inl (cy 0, 40, .inl fa)), (q_49, .inl (cy 0, 40, .inl fb))]) H := hP
                    have hD : va_D A (wC a cy T_355 u_355 ++ wC b cy T_309 u_324 ++ [(q_43, .inl (cy 0, 40, .inl fa)), (q_49, .inl (cy 0, 40, .inl fb))]) := hD
                    have hz : s.heap.size + (74 * (i - 1) + 37) ≤ H.size := rz_0 hz hz9
                    refine lv_iload hx hb dL_law_358 (lv_at hl 2 rfl) ?_
                    refine lv_icmp_ne (tgt := 376) hx hb dL_law_360 (by decide) (fun c_360 => ?_) (fun c_360 => ?_)
                    · refine W.widen (k := 127 + 2900 * i + 200) (n := 6 * (127 + 2900 * i + 200) + 390) (by omega) (by omega) ?_
                      exact J376 T_355 u_355 hI_355 T_309 u_324 hI_309 _ _ _ hP hD hS (by omega) (lv_sub hl [2, 3, 4, 5, 6, 7, 8, 9, 10, 12] rfl)
                    · refine lv_aload_n hx hb dL_law_363 rfl (lv_at hl 9 rfl) ?_
                      have hPc := hP.sub (ws' := (wC a cy T_355 u_355)) [0, 1, 2, 3, 4, 5, 6, 7, 8, 9, 10, 11] rfl
                      have hDc := hD.sub (ws' := (wC a cy T_355 u_355)) [0, 1, 2, 3, 4, 5, 6, 7, 8, 9, 10, 11] (by decide) rfl
                      refine mo_Ve (G := G) (wr := (wC b cy T_309 u_324 ++ [(q_43, .inl (cy 0, 40, .inl fa)), (q_49, .inl (cy 0, 40, .inl fb))])) (As := []) (rest := []) ⟨hx, hb, hml, hown, hts⟩ (c_X3_level l G cy a H.size T_355 u_355 hI_355) (cwV 0 hts gL_law_X3_level rfl rfl rfl (by decide +kernel) ⟨Nat.le_of_ble_eq_true rfl, Nat.le_of_ble_eq_true rfl⟩) (va_recv hK hPc (ci := 3) (q0 := 0) rfl rfl) hPc hDc hP hK hD hS hA [0, 1, 2, 3, 4, 5, 6, 7, 8, 9, 10, 11] [12, 13, 14, 15, 16, 17, 18, 19, 20, 21, 22, 23, 24, 25] rfl rfl (by decide) (by decide) hN rfl hl.1 (Nat.le_of_ble_eq_true rfl) dL_law_364 ⟨by show _ ≤ (20000 : Nat); omega, by show _ ≤ (140000 : Nat); omega⟩ (fun r_364 u_364 H locs hw hP hD hS hz9 => ?_)
                      have hP := hP.sub (ws' := (wC a cy T_355 u_355 ++ wC b cy T_309 u_324 ++ [(q_43, .inl (cy 0, 40, .inl fa)), (q_49, .inl (cy 0, 40, .inl fb))])) [14, 15, 16, 17, 18, 19, 20, 21, 22, 23, 24, 25, 0, 1, 2, 3, 4, 5, 6, 7, 8, 9, 10, 11, 12, 13] rfl
                      have hD := hD.sub (ws' := (wC a cy T_355 u_355 ++ wC b cy T_309 u_324 ++ [(q_43, .inl (cy 0, 40, .inl fa)), (q_49, .inl (cy 0, 40, .inl fb))])) [14, 15, 16, 17, 18, 19, 20, 21, 22, 23, 24, 25, 0, 1, 2, 3, 4, 5, 6, 7, 8, 9, 10, 11, 12, 13] (by decide) rfl
                      have hP : va_P G vwCl (wC a cy T_355 u_355 ++ wC b cy T_309 u_324 ++ [(q_43, .inl (cy 0, 40, .inl fa)), (q_49, .inl (cy 0, 40, .inl fb))]) H := hP
                      have hD : va_D A (wC a cy T_355 u_355 ++ wC b cy T_309 u_324 ++ [(q_43, .inl (cy 0, 40, .inl fa)), (q_49, .inl (cy 0, 40, .inl fb))]) := hD
                      have hz : s.heap.size + (74 * (i - 1) + 37) ≤ H.size := Nat.le_trans hz hz9
                      obtain rfl : r_364 = nI (tlv T_355) := hw
                      refine lv_iload hx hb dL_law_367 (lv_at hl 12 rfl) ?_
                      refine lv_icmp_ne (tgt := 376) hx hb dL_law_369 (by decide) (fun c_369 => ?_) (fun c_369 => ?_)
                      · refine W.widen (k := 127 + 2900 * i + 200) (n := 6 * (127 + 2900 * i + 200) + 390) (by omega) (by omega) ?_
                        exact J376 T_355 u_355 hI_355 T_309 u_324 hI_309 _ _ _ hP hD hS (by omega) (lv_sub hl [2, 3, 4, 5, 6, 7, 8, 9, 10, 12] rfl)
                      · refine lv_iconst (v := 1) hx hb dL_law_372 (by decide) ?_
                        refine lv_goto (tgt := 377) hx hb dL_law_373 (by decide) ?_
                        refine lv_istore (lv' := [(8, .int 1), (14, .int v14), (11, .int (nI j_214)), (9, .int r_188), (7, .ref q_49), (6, .ref q_43), (5, .int 4), (4, .int 20), (3, .int (nI j_18)), (2, .ref (b 0)), (1, .ref (a 0)), (0, .ref b9), (10, .int (nI i)), (12, .int v12), (13, .int v13)]) hx hb dL_law_377 hl (by decide) rfl (fun ls hl => ?_)
                        refine lv_iload hx hb dL_law_379 (lv_at hl 0 rfl) ?_
                        refine lv_if_eq (tgt := 393) hx hb dL_law_381 (by decide) (fun c_381 => False.elim (by revert c_381; decide)) (fun c_381 => ?_)
                        refine lv_aload_n hx hb dL_law_384 rfl (lv_at hl 9 rfl) ?_
                        refine lv_iload hx hb dL_law_385 (lv_at hl 2 rfl) ?_
                        have hPc := hP.sub (ws' := (wC b cy T_309 u_324)) [12, 13, 14, 15, 16, 17, 18, 19, 20, 21, 22, 23] rfl
                        have hDc := hD.sub (ws' := (wC b cy T_309 u_324)) [12, 13, 14, 15, 16, 17, 18, 19, 20, 21, 22, 23] (by decide) rfl
                        refine mo_Sz (G := G) (wr := (wC a cy T_355 u_355 ++ [(q_43, .inl (cy 0, 40, .inl fa)), (q_49, .inl (cy 0, 40, .inl fb))])) (As := [.ref (b 0), .int (nI j_214)]) (rest := []) ⟨hx, hb, hml, hown, hts⟩ (c_L_ledgerWorker l hlt G cy b H.size T_309 u_324 (nI j_214) hI_309) (va_cwS 2 hts gL_law_L_ledgerWorker rfl rfl rfl (by decide +kernel) ⟨Nat.le_of_ble_eq_true rfl, Nat.le_of_ble_eq_true rfl⟩) hPc hDc hP hK hD hS hA [12, 13, 14, 15, 16, 17, 18, 19, 20, 21, 22, 23] [0, 1, 2, 3, 4, 5, 6, 7, 8, 9, 10, 11, 24, 25] rfl rfl (by decide) (by decide) hN hE rfl hl.1 (Nat.le_of_ble_eq_true rfl) dL_law_387 ⟨by show _ ≤ (20000 : Nat); omega, by show _ ≤ (140000 : Nat); omega⟩ (fun r_387 u_387 H locs hw hP hD hS hz9 => ?_)
                        obtain ⟨T_387, tr_387⟩ := u_387
                        have hI_387 : Inv T_387 := hw
                        have hP := hP.sub (ws' := (wC a cy T_355 u_355 ++ wC b cy T_387 tr_387 ++ [(q_43, .inl (cy 0, 40, .inl fa)), (q_49, .inl (cy 0, 40, .inl fb))])) [0, 1, 2, 3, 4, 5, 6, 7, 8, 9, 10, 11, 14, 15, 16, 17, 18, 19, 20, 21, 22, 23, 24, 25, 12, 13] rfl
                        have hD := hD.sub (ws' := (wC a cy T_355 u_355 ++ wC b cy T_387 tr_387 ++ [(q_43, .inl (cy 0, 40, .inl fa)), (q_49, .inl (cy 0, 40, .inl fb))])) [0, 1, 2, 3, 4, 5, 6, 7, 8, 9, 10, 11, 14, 15, 16, 17, 18, 19, 20, 21, 22, 23, 24, 25, 12, 13] (by decide) rfl
                        have hP : va_P G vwCl (wC a cy T_355 u_355 ++ wC b cy T_387 tr_387 ++ [(q_43, .inl (cy 0, 40, .inl fa)), (q_49, .inl (cy 0, 40, .inl fb))]) H := hP
                        have hD : va_D A (wC a cy T_355 u_355 ++ wC b cy T_387 tr_387 ++ [(q_43, .inl (cy 0, 40, .inl fa)), (q_49, .inl (cy 0, 40, .inl fb))]) := hD
                        have hz : s.heap.size + (74 * (i - 1) + 37) ≤ H.size := Nat.le_trans hz (Nat.le_trans (Nat.le_add_right _ _) hz9)
                        refine lv_goto (tgt := 394) hx hb dL_law_390 (by decide) ?_
                        refine lv_istore (lv' := [(15, .int r_387), (8, .int 1), (14, .int v14), (11, .int (nI j_214)), (9, .int r_188), (7, .ref q_49), (6, .ref q_43), (5, .int 4), (4, .int 20), (3, .int (nI j_18)), (2, .ref (b 0)), (1, .ref (a 0)), (0, .ref b9), (10, .int (nI i)), (12, .int v12), (13, .int v13)]) hx hb dL_law_394 hl (by decide) rfl (fun ls hl => ?_)
                        refine lv_iload hx hb dL_law_396 (lv_at hl 1 rfl) ?_
                        refine lv_if_eq (tgt := 463) hx hb dL_law_398 (by decide) (fun c_398 => False.elim (by revert c_398; decide)) (fun c_398 => ?_)
                        refine lv_aload_n hx hb dL_law_401 rfl (lv_at hl 10 rfl) ?_
                        refine lv_iload hx hb dL_law_402 (lv_at hl 0 rfl) ?_
                        have hPc := hP.sub (ws' := (wC b cy T_387 tr_387)) [12, 13, 14, 15, 16, 17, 18, 19, 20, 21, 22, 23] rfl
                        have hDc := hD.sub (ws' := (wC b cy T_387 tr_387)) [12, 13, 14, 15, 16, 17, 18, 19, 20, 21, 22, 23] (by decide) rfl
                        refine mo_SWz (G := G) (wr := (wC a cy T_355 u_355 ++ [(q_43, .inl (cy 0, 40, .inl fa)), (q_49, .inl (cy 0, 40, .inl fb))])) (As := [.ref (b 0), .int r_387]) (rest := []) ⟨hx, hb, hml, hown, hts⟩ (c_L_begins l hlt G cy b H.size T_387 tr_387 r_387 hI_387) (vx_cwSW 2 hts gL_law_L_begins rfl rfl rfl (by decide +kernel) ⟨Nat.le_of_ble_eq_true rfl, Nat.le_of_ble_eq_true rfl⟩) hPc hDc hP hK hD hS hA [12, 13, 14, 15, 16, 17, 18, 19, 20, 21, 22, 23] [0, 1, 2, 3, 4, 5, 6, 7, 8, 9, 10, 11, 24, 25] rfl rfl (by decide) (by decide) hN hE rfl hl.1 (Nat.le_of_ble_eq_true rfl) dL_law_404 ⟨by show _ ≤ (20000 : Nat); omega, by show _ ≤ (140000 : Nat); omega⟩ (fun r_404 u_404 H locs hw hP hD hS hz9 => ?_)
                        obtain ⟨T_404, hT9⟩ : ∃ z, z = (sp_begin T_387 r_387).2.2 := ⟨_, rfl⟩
                        rw [← hT9] at hP hD
                        have hI_404 : Inv T_404 := by rw [hT9]; exact inv_begin hI_387 r_387
                        have hP := hP.sub (ws' := (wC a cy T_355 u_355 ++ wC b cy T_404 u_404 ++ [(q_43, .inl (cy 0, 40, .inl fa)), (q_49, .inl (cy 0, 40, .inl fb))])) [0, 1, 2, 3, 4, 5, 6, 7, 8, 9, 10, 11, 14, 15, 16, 17, 18, 19, 20, 21, 22, 23, 24, 25, 12, 13] rfl
                        have hD := hD.sub (ws' := (wC a cy T_355 u_355 ++ wC b cy T_404 u_404 ++ [(q_43, .inl (cy 0, 40, .inl fa)), (q_49, .inl (cy 0, 40, .inl fb))])) [0, 1, 2, 3, 4, 5, 6, 7, 8, 9, 10, 11, 14, 15, 16, 17, 18, 19, 20, 21, 22, 23, 24, 25, 12, 13] (by decide) rfl
                        have hP : va_P G vwCl (wC a cy T_355 u_355 ++ wC b cy T_404 u_404 ++ [(q_43, .inl (cy 0, 40, .inl fa)), (q_49, .inl (cy 0, 40, .inl fb))]) H := hP
                        have hD : va_D A (wC a cy T_355 u_355 ++ wC b cy T_404 u_404 ++ [(q_43, .inl (cy 0, 40, .inl fa)), (q_49, .inl (cy 0, 40, .inl fb))]) := hD
                        have hz : s.heap.size + (74 * (i - 1) + 37) ≤ H.size := rz_0 hz hz9
                        refine lv_iload hx hb dL_law_407 (lv_at hl 13 rfl) ?_
                        refine lv_icmp_ne (tgt := 463) hx hb dL_law_409 (by decide) (fun c_409 => ?_) (fun c_409 => ?_)
                        · refine W.widen (k := 127 + 2900 * i + 2895) (n := 6 * (127 + 2900 * i + 2895) + 390) (by omega) (by omega) ?_
                          exact J463 T_355 u_355 hI_355 T_404 u_404 hI_404 _ _ _ hP hD hS (by omega) (lv_sub hl [4, 5, 6, 7, 8, 9, 10, 11, 12, 13] rfl)
                        · refine lv_aload_n hx hb dL_law_412 rfl (lv_at hl 10 rfl) ?_
                          refine lv_iload hx hb dL_law_413 (lv_at hl 3 rfl) ?_
                          refine lv_sipush (v := 499) hx hb dL_law_415 (by decide) ?_
                          refine lv_irem hx hb dL_law_418 (by decide) ?_
                          refine ml_eqi (nI (j_214 % 499)) (pk_rem (a := j_214) (d := 499) (by omega) (by decide) (by decide)) ?_
                          have hPc := hP.sub (ws' := (wC b cy T_404 u_404)) [12, 13, 14, 15, 16, 17, 18, 19, 20, 21, 22, 23] rfl
                          have hDc := hD.sub (ws' := (wC b cy T_404 u_404)) [12, 13, 14, 15, 16, 17, 18, 19, 20, 21, 22, 23] (by decide) rfl
                          refine mo_Sz (G := G) (wr := (wC a cy T_355 u_355 ++ [(q_43, .inl (cy 0, 40, .inl fa)), (q_49, .inl (cy 0, 40, .inl fb))])) (As := [.ref (b 0), .int (nI (j_214 % 499))]) (rest := []) ⟨hx, hb, hml, hown, hts⟩ (c_L_refuses l hlt G cy b H.size T_404 u_404 (j_214 % 499) d499 hI_404) (va_cwS 2 hts gL_law_L_refuses rfl rfl rfl (by decide +kernel) ⟨Nat.le_of_ble_eq_true rfl, Nat.le_of_ble_eq_true rfl⟩) hPc hDc hP hK hD hS hA [12, 13, 14, 15, 16, 17, 18, 19, 20, 21, 22, 23] [0, 1, 2, 3, 4, 5, 6, 7, 8, 9, 10, 11, 24, 25] rfl rfl (by decide) (by decide) hN hE rfl hl.1 (Nat.le_of_ble_eq_true rfl) dL_law_419 ⟨by show _ ≤ (20000 : Nat); omega, by show _ ≤ (140000 : Nat); omega⟩ (fun r_419 u_419 H locs hw hP hD hS hz9 => ?_)
                          have hP := hP.sub (ws' := (wC a cy T_355 u_355 ++ wC b cy T_404 u_419 ++ [(q_43, .inl (cy 0, 40, .inl fa)), (q_49, .inl (cy 0, 40, .inl fb))])) [0, 1, 2, 3, 4, 5, 6, 7, 8, 9, 10, 11, 14, 15, 16, 17, 18, 19, 20, 21, 22, 23, 24, 25, 12, 13] rfl
                          have hD := hD.sub (ws' := (wC a cy T_355 u_355 ++ wC b cy T_404 u_419 ++ [(q_43, .inl (cy 0, 40, .inl fa)), (q_49, .inl (cy 0, 40, .inl fb))])) [0, 1, 2, 3, 4, 5, 6, 7, 8, 9, 10, 11, 14, 15, 16, 17, 18, 19, 20, 21, 22, 23, 24, 25, 12, 13] (by decide) rfl
                          have hP : va_P G vwCl (wC a cy T_355 u_355 ++ wC b cy T_404 u_419 ++ [(q_43, .inl (cy 0, 40, .inl fa)), (q_49, .inl (cy 0, 40, .inl fb))]) H := hP
                          have hD : va_D A (wC a cy T_355 u_355 ++ wC b cy T_404 u_419 ++ [(q_43, .inl (cy 0, 40, .inl fa)), (q_49, .inl (cy 0, 40, .inl fb))]) := hD
                          have hz : s.heap.size + (74 * (i - 1) + 37 + 37) ≤ H.size := by have h9 : _ + 37 ≤ H.size := hz9; omega
                          obtain rfl : r_419 = 1 := hw
                          refine lv_if_eq (tgt := 463) hx hb dL_law_422 (by decide) (fun c_422 => False.elim (by revert c_422; decide)) (fun c_422 => ?_)
                          refine lv_aload_n hx hb dL_law_425 rfl (lv_at hl 10 rfl) ?_
                          refine lv_iload hx hb dL_law_426 (lv_at hl 3 rfl) ?_
                          refine lv_bipush (v := 7) hx hb dL_law_428 (by decide) ?_
                          refine lv_idiv hx hb dL_law_430 (by decide) ?_
                          refine lv_iconst (v := 0) hx hb dL_law_431 (by decide) ?_
                          have hPc := hP.sub (ws' := (wC b cy T_404 u_419)) [12, 13, 14, 15, 16, 17, 18, 19, 20, 21, 22, 23] rfl
                          have hDc := hD.sub (ws' := (wC b cy T_404 u_419)) [12, 13, 14, 15, 16, 17, 18, 19, 20, 21, 22, 23] (by decide) rfl
                          refine mo_Sz (G := G) (wr := (wC a cy T_355 u_355 ++ [(q_43, .inl (cy 0, 40, .inl fa)), (q_49, .inl (cy 0, 40, .inl fb))])) (As := [.ref (b 0), .int ((nI j_214) / 7), .int 0]) (rest := []) ⟨hx, hb, hml, hown, hts⟩ (c_L_comes l hlt G cy b H.size T_404 u_419 ((nI j_214) / 7) 0 hI_404) (va_cwS 3 hts gL_law_L_comes rfl rfl rfl (by decide +kernel) ⟨Nat.le_of_ble_eq_true rfl, Nat.le_of_ble_eq_true rfl⟩) hPc hDc hP hK hD hS hA [12, 13, 14, 15, 16, 17, 18, 19, 20, 21, 22, 23] [0, 1, 2, 3, 4, 5, 6, 7, 8, 9, 10, 11, 24, 25] rfl rfl (by decide) (by decide) hN hE rfl hl.1 (Nat.le_of_ble_eq_true rfl) dL_law_432 ⟨by show _ ≤ (20000 : Nat); omega, by show _ ≤ (140000 : Nat); omega⟩ (fun r_432 u_432 H locs hw hP hD hS hz9 => ?_)
                          obtain ⟨T_432, tr_432⟩ := u_432
                          have hI_432 : Inv T_432 := hw
                          have hP := hP.sub (ws' := (wC a cy T_355 u_355 ++ wC b cy T_432 tr_432 ++ [(q_43, .inl (cy 0, 40, .inl fa)), (q_49, .inl (cy 0, 40, .inl fb))])) [0, 1, 2, 3, 4, 5, 6, 7, 8, 9, 10, 11, 14, 15, 16, 17, 18, 19, 20, 21, 22, 23, 24, 25, 12, 13] rfl
                          have hD := hD.sub (ws' := (wC a cy T_355 u_355 ++ wC b cy T_432 tr_432 ++ [(q_43, .inl (cy 0, 40, .inl fa)), (q_49, .inl (cy 0, 40, .inl fb))])) [0, 1, 2, 3, 4, 5, 6, 7, 8, 9, 10, 11, 14, 15, 16, 17, 18, 19, 20, 21, 22, 23, 24, 25, 12, 13] (by decide) rfl
                          have hP : va_P G vwCl (wC a cy T_355 u_355 ++ wC b cy T_432 tr_432 ++ [(q_43, .inl (cy 0, 40, .inl fa)), (q_49, .inl (cy 0, 40, .inl fb))]) H := hP
                          have hD : va_D A (wC a cy T_355 u_355 ++ wC b cy T_432 tr_432 ++ [(q_43, .inl (cy 0, 40, .inl fa)), (q_49, .inl (cy 0, 40, .inl fb))]) := hD
                          have hz : s.heap.size + (74 * (i - 1) + 37 + 37) ≤ H.size := Nat.le_trans hz (Nat.le_trans (Nat.le_add_right _ _) hz9)
                          refine lv_iload hx hb dL_law_435 (lv_at hl 4 rfl) ?_
                          refine lv_icmp_ne (tgt := 463) hx hb dL_law_437 (by decide) (fun c_437 => ?_) (fun c_437 => ?_)
                          · refine W.widen (k := 127 + 2900 * i + 2895) (n := 6 * (127 + 2900 * i + 2895) + 390) (by omega) (by omega) ?_
                            exact J463 T_355 u_355 hI_355 T_432 tr_432 hI_432 _ _ _ hP hD hS (by omega) (lv_sub hl [4, 5, 6, 7, 8, 9, 10, 11, 12, 13] rfl)
                          · refine lv_aload_n hx hb dL_law_440 rfl (lv_at hl 11 rfl) ?_
                            refine lv_aload_n hx hb dL_law_441 rfl (lv_at hl 10 rfl) ?_
                            have hPc := hP.sub (ws' := (wC a cy T_355 u_355 ++ wC b cy T_432 tr_432)) [0, 1, 2, 3, 4, 5, 6, 7, 8, 9, 10, 11, 12, 13, 14, 15, 16, 17, 18, 19, 20, 21, 22, 23] rfl
                            have hDc := hD.sub (ws' := (wC a cy T_355 u_355 ++ wC b cy T_432 tr_432)) [0, 1, 2, 3, 4, 5, 6, 7, 8, 9, 10, 11, 12, 13, 14, 15, 16, 17, 18, 19, 20, 21, 22, 23] (by decide) rfl
                            refine mo_Sz (G := G) (wr := [(q_43, .inl (cy 0, 40, .inl fa)), (q_49, .inl (cy 0, 40, .inl fb))]) (As := [.ref (a 0), .ref (b 0)]) (rest := []) ⟨hx, hb, hml, hown, hts⟩ (c_L_alike l hlt G cy a b H.size T_355 u_355 T_432 tr_432 hI_355 hI_432) (va_cwS 2 hts gL_law_L_alike rfl rfl rfl (by decide +kernel) ⟨Nat.le_of_ble_eq_true rfl, Nat.le_of_ble_eq_true rfl⟩) hPc hDc hP hK hD hS hA [0, 1, 2, 3, 4, 5, 6, 7, 8, 9, 10, 11, 12, 13, 14, 15, 16, 17, 18, 19, 20, 21, 22, 23] [24, 25] rfl rfl (by decide) (by decide) hN hE rfl hl.1 (Nat.le_of_ble_eq_true rfl) dL_law_442 ⟨by show _ ≤ (20000 : Nat); omega, by show _ ≤ (140000 : Nat); omega⟩ (fun r_442 u_442 H locs hw hP hD hS hz9 => ?_)
                            obtain ⟨⟨T_442, tr_442⟩, ⟨S_442, ts_442⟩⟩ := u_442
                            have hIa_442 : Inv T_442 := hw.1
                            have hIb_442 : Inv S_442 := hw.2
                            have hP := hP.sub (ws' := (wC a cy T_442 tr_442 ++ wC b cy S_442 ts_442 ++ [(q_43, .inl (cy 0, 40, .inl fa)), (q_49, .inl (cy 0, 40, .inl fb))])) [2, 3, 4, 5, 6, 7, 8, 9, 10, 11, 12, 13, 14, 15, 16, 17, 18, 19, 20, 21, 22, 23, 24, 25, 0, 1] rfl
                            have hD := hD.sub (ws' := (wC a cy T_442 tr_442 ++ wC b cy S_442 ts_442 ++ [(q_43, .inl (cy 0, 40, .inl fa)), (q_49, .inl (cy 0, 40, .inl fb))])) [2, 3, 4, 5, 6, 7, 8, 9, 10, 11, 12, 13, 14, 15, 16, 17, 18, 19, 20, 21, 22, 23, 24, 25, 0, 1] (by decide) rfl
                            have hP : va_P G vwCl (wC a cy T_442 tr_442 ++ wC b cy S_442 ts_442 ++ [(q_43, .inl (cy 0, 40, .inl fa)), (q_49, .inl (cy 0, 40, .inl fb))]) H := hP
                            have hD : va_D A (wC a cy T_442 tr_442 ++ wC b cy S_442 ts_442 ++ [(q_43, .inl (cy 0, 40, .inl fa)), (q_49, .inl (cy 0, 40, .inl fb))]) := hD
                            have hz : s.heap.size + (74 * (i - 1) + 37 + 37) ≤ H.size := Nat.le_trans hz (Nat.le_trans (Nat.le_add_right _ _) hz9)
                            refine lv_if_eq (tgt := 463) hx hb dL_law_445 (by decide) (fun c_445 => ?_) (fun c_445 => ?_)
                            · refine W.widen (k := 127 + 2900 * i + 2895) (n := 6 * (127 + 2900 * i + 2895) + 390) (by omega) (by omega) ?_
                              exact J463 T_442 tr_442 hIa_442 S_442 ts_442 hIb_442 _ _ _ hP hD hS (by omega) (lv_sub hl [4, 5, 6, 7, 8, 9, 10, 11, 12, 13] rfl)
                            · refine lv_aload_n hx hb dL_law_448 rfl (lv_at hl 10 rfl) ?_
                              refine lv_iload hx hb dL_law_449 (lv_at hl 13 rfl) ?_
                              have hPc := hP.sub (ws' := (wC b cy S_442 ts_442)) [12, 13, 14, 15, 16, 17, 18, 19, 20, 21, 22, 23] rfl
                              have hDc := hD.sub (ws' := (wC b cy S_442 ts_442)) [12, 13, 14, 15, 16, 17, 18, 19, 20, 21, 22, 23] (by decide) rfl
                              refine mo_SWz (G := G) (wr := (wC a cy T_442 tr_442 ++ [(q_43, .inl (cy 0, 40, .inl fa)), (q_49, .inl (cy 0, 40, .inl fb))])) (As := [.ref (b 0), .int (nI i)]) (rest := []) ⟨hx, hb, hml, hown, hts⟩ (c_L_rowsAt l hlt G cy b H.size S_442 ts_442 (nI i) hIb_442) (vx_cwSW 2 hts gL_law_L_rowsAt rfl rfl rfl (by decide +kernel) ⟨Nat.le_of_ble_eq_true rfl, Nat.le_of_ble_eq_true rfl⟩) hPc hDc hP hK hD hS hA [12, 13, 14, 15, 16, 17, 18, 19, 20, 21, 22, 23] [0, 1, 2, 3, 4, 5, 6, 7, 8, 9, 10, 11, 24, 25] rfl rfl (by decide) (by decide) hN hE rfl hl.1 (Nat.le_of_ble_eq_true rfl) dL_law_451 ⟨by show _ ≤ (20000 : Nat); omega, by show _ ≤ (140000 : Nat); omega⟩ (fun r_451 u_451 H locs hw hP hD hS hz9 => ?_)
                              obtain ⟨T_451, hT9⟩ : ∃ z, z = (sp_rowsAt S_442 (nI i)).2.2 := ⟨_, rfl⟩
                              rw [← hT9] at hP hD
                              have hI_451 : Inv T_451 := by rw [hT9]; exact inv_rowsAt hIb_442 (nI i)
                              have hP := hP.sub (ws' := (wC a cy T_442 tr_442 ++ wC b cy T_451 u_451 ++ [(q_43, .inl (cy 0, 40, .inl fa)), (q_49, .inl (cy 0, 40, .inl fb))])) [0, 1, 2, 3, 4, 5, 6, 7, 8, 9, 10, 11, 14, 15, 16, 17, 18, 19, 20, 21, 22, 23, 24, 25, 12, 13] rfl
                              have hD := hD.sub (ws' := (wC a cy T_442 tr_442 ++ wC b cy T_451 u_451 ++ [(q_43, .inl (cy 0, 40, .inl fa)), (q_49, .inl (cy 0, 40, .inl fb))])) [0, 1, 2, 3, 4, 5, 6, 7, 8, 9, 10, 11, 14, 15, 16, 17, 18, 19, 20, 21, 22, 23, 24, 25, 12, 13] (by decide) rfl
                              have hP : va_P G vwCl (wC a cy T_442 tr_442 ++ wC b cy T_451 u_451 ++ [(q_43, .inl (cy 0, 40, .inl fa)), (q_49, .inl (cy 0, 40, .inl fb))]) H := hP
                              have hD : va_D A (wC a cy T_442 tr_442 ++ wC b cy T_451 u_451 ++ [(q_43, .inl (cy 0, 40, .inl fa)), (q_49, .inl (cy 0, 40, .inl fb))]) := hD
                              have hz : s.heap.size + (74 * (i - 1) + 37 + 37) ≤ H.size := rz_0 hz hz9
                              refine lv_iload hx hb dL_law_454 (lv_at hl 4 rfl) ?_
                              refine lv_icmp_ne (tgt := 463) hx hb dL_law_456 (by decide) (fun c_456 => ?_) (fun c_456 => ?_)
                              · refine W.widen (k := 127 + 2900 * i + 2895) (n := 6 * (127 + 2900 * i + 2895) + 390) (by omega) (by omega) ?_
                                exact J463 T_442 tr_442 hIa_442 T_451 u_451 hI_451 _ _ _ hP hD hS (by omega) (lv_sub hl [4, 5, 6, 7, 8, 9, 10, 11, 12, 13] rfl)
                              · refine lv_iconst (v := 1) hx hb dL_law_459 (by decide) ?_
                                refine lv_goto (tgt := 464) hx hb dL_law_460 (by decide) ?_
                                refine lv_istore (lv' := [(8, .int 1), (15, .int r_387), (14, .int v14), (11, .int (nI j_214)), (9, .int r_188), (7, .ref q_49), (6, .ref q_43), (5, .int 4), (4, .int 20), (3, .int (nI j_18)), (2, .ref (b 0)), (1, .ref (a 0)), (0, .ref b9), (10, .int (nI i)), (12, .int v12), (13, .int v13)]) hx hb dL_law_464 hl (by decide) rfl (fun ls hl => ?_)
                                refine lv_iinc (v := nI (i + 1)) (lv' := [(10, .int (nI (i + 1))), (8, .int 1), (15, .int r_387), (14, .int v14), (11, .int (nI j_214)), (9, .int r_188), (7, .ref q_49), (6, .ref q_43), (5, .int 4), (4, .int 20), (3, .int (nI j_18)), (2, .ref (b 0)), (1, .ref (a 0)), (0, .ref b9), (12, .int v12), (13, .int v13)]) hx hb dL_law_466 hl (k := 13) rfl (nI_1 _) (by decide) rfl (fun ls hl => ?_)
                                refine lv_goto (tgt := 196) hx hb dL_law_469 (by decide) ?_
                                refine W.widen (k := 127 + 2900 * (i + 1)) (n := 6 * (127 + 2900 * (i + 1)) + 390) (by omega) (by omega) ?_
                                exact ih (i + 1) T_442 tr_442 hIa_442 T_451 u_451 hI_451 (by omega) (by omega) _ _ _ hP hD hS (by omega) (lv_sub hl [5, 6, 7, 8, 9, 10, 11, 12, 13, 1, 0] rfl)
          refine lv_if_ne (tgt := 253) hx hb dL_law_235 (by decide) (fun c_235 => ?_) (fun c_235 => ?_)
          · refine lv_iload hx hb dL_law_253 (lv_at hl 1 rfl) ?_
            refine lv_iconst (v := 1) hx hb dL_law_255 (by decide) ?_
            refine lv_icmp_ne (tgt := 271) hx hb dL_law_256 (by decide) (fun c_256 => ?_) (fun c_256 => ?_)
            · refine lv_iload hx hb dL_law_271 (lv_at hl 0 rfl) ?_
              refine lv_iconst (v := 1) hx hb dL_law_273 (by decide) ?_
              refine lv_iadd hx hb dL_law_274 ?_
              refine lv_iload hx hb dL_law_275 (lv_at hl 2 rfl) ?_
              refine lv_bipush (v := 9) hx hb dL_law_277 (by decide) ?_
              refine lv_idiv hx hb dL_law_279 (by decide) ?_
              refine lv_iconst (v := 2) hx hb dL_law_280 (by decide) ?_
              refine lv_irem hx hb dL_law_281 (by decide) ?_
              refine lv_iadd hx hb dL_law_282 ?_
              refine lv_iconst (v := 3) hx hb dL_law_283 (by decide) ?_
              refine lv_irem hx hb dL_law_284 (by decide) ?_
              refine W.widen (k := 127 + 2900 * i) (n := 6 * (127 + 2900 * i) + 390) (by omega) (by omega) ?_
              exact J285 ((nI j_214) - (nI j_214) / 3 * 3) (((nI j_214) / 3) - ((nI j_214) / 3) / 3 * 3) ((((((nI j_214) / 3) - ((nI j_214) / 3) / 3 * 3) + 1) + (((nI j_214) / 9) - ((nI j_214) / 9) / 2 * 2)) - (((((nI j_214) / 3) - ((nI j_214) / 3) / 3 * 3) + 1) + (((nI j_214) / 9) - ((nI j_214) / 9) / 2 * 2)) / 3 * 3) _ _ _ hP hD hS hz (lv_sub hl [2, 3, 4, 5, 6, 7, 8, 9, 10, 11, 12, 13, 1, 0] rfl)
            · refine lv_iload hx hb dL_law_259 (lv_at hl 2 rfl) ?_
              refine lv_bipush (v := 9) hx hb dL_law_261 (by decide) ?_
              refine lv_idiv hx hb dL_law_263 (by decide) ?_
              refine lv_iconst (v := 3) hx hb dL_law_264 (by decide) ?_
              refine lv_irem hx hb dL_law_265 (by decide) ?_
              refine lv_iconst (v := 1) hx hb dL_law_266 (by decide) ?_
              refine lv_iadd hx hb dL_law_267 ?_
              refine lv_goto (tgt := 285) hx hb dL_law_268 (by decide) ?_
              refine W.widen (k := 127 + 2900 * i) (n := 6 * (127 + 2900 * i) + 390) (by omega) (by omega) ?_
              exact J285 ((nI j_214) - (nI j_214) / 3 * 3) (((nI j_214) / 3) - ((nI j_214) / 3) / 3 * 3) ((((nI j_214) / 9) - ((nI j_214) / 9) / 3 * 3) + 1) _ _ _ hP hD hS hz (lv_sub hl [2, 3, 4, 5, 6, 7, 8, 9, 10, 11, 12, 13, 1, 0] rfl)
          · refine lv_iload hx hb dL_law_238 (lv_at hl 2 rfl) ?_
            refine lv_bipush (v := 9) hx hb dL_law_240 (by decide) ?_
            refine lv_idiv hx hb dL_law_242 (by decide) ?_
            refine lv_sipush (v := 201) hx hb dL_law_243 (by decide) ?_
            refine lv_irem hx hb dL_law_246 (by decide) ?_
            refine lv_bipush (v := 100) hx hb dL_law_247 (by decide) ?_
            refine lv_isub hx hb dL_law_249 ?_
            refine lv_goto (tgt := 285) hx hb dL_law_250 (by decide) ?_
            refine W.widen (k := 127 + 2900 * i) (n := 6 * (127 + 2900 * i) + 390) (by omega) (by omega) ?_
            exact J285 ((nI j_214) - (nI j_214) / 3 * 3) (((nI j_214) / 3) - ((nI j_214) / 3) / 3 * 3) ((((nI j_214) / 9) - ((nI j_214) / 9) / 201 * 201) - 100) _ _ _ hP hD hS hz (lv_sub hl [2, 3, 4, 5, 6, 7, 8, 9, 10, 11, 12, 13, 1, 0] rfl)
      refine W.widen (k := 127 + 2900 * 1) (n := 6 * (127 + 2900 * 1) + 390) (by omega) (by omega) ?_
      exact LOOP196 3 1 T_188 u_188 hI_188 T_4 tr_5 hI_6 (by omega) (by decide) _ _ _ hP hD hS (by omega) (lv_sub hl [1, 2, 3, 4, 5, 6, 7, 8, 9, 10, 0] rfl)
  refine lv_iconst (v := 0) hx hb dL_law_56 (by decide) ?_
  refine lv_istore (lv' := [(9, .int 0), (8, .int 1), (7, .ref q_49), (6, .ref q_43), (5, .int 4), (4, .int 20), (3, .int (nI j_18)), (2, .ref (b 0)), (1, .ref (a 0)), (0, .ref b9)]) hx hb dL_law_57 hl (by decide) rfl (fun ls hl => ?_)
  have LOOP59 : ∀ (r : Nat) (i : Nat) (T_31 : TS) (tr_32 : Nat → Int32) (hI_33 : Inv T_31) (T_34 : TS) (tr_35 : Nat → Int32) (hI_36 : Inv T_34) (fa : Nat → Int32) (fb : Nat → Int32) (g0 : Int32) (hi : i + r = 20) (hg0 : g0 = 0 ∨ g0 = 1) (H : Heap) (locs : List Loc) (ls : Array Slot), va_P G vwCl (wC a cy T_31 tr_32 ++ wC b cy T_34 tr_35 ++ [(q_43, .inl (cy 0, 40, .inl fa)), (q_49, .inl (cy 0, 40, .inl fb))]) H → va_D A (wC a cy T_31 tr_32 ++ wC b cy T_34 tr_35 ++ [(q_43, .inl (cy 0, 40, .inl fa)), (q_49, .inl (cy 0, 40, .inl fb))]) → va_S A s.heap H locs → s.heap.size + 0 ≤ H.size → lv_has ls 16 [(7, .ref q_49), (6, .ref q_43), (5, .int 4), (4, .int 20), (3, .int (nI j_18)), (2, .ref (b 0)), (1, .ref (a 0)), (0, .ref b9), (9, .int (nI i)), (8, .int g0)] → W p l e R9 s m #[Value.ref b9] below meth c H locs (26 + 4 * i) (6 * (26 + 4 * i) + 390) (far_Q below s) (F0 m 59 ls []) := by
    intro r
    induction r with
    | zero =>
      intro i T_31 tr_32 hI_33 T_34 tr_35 hI_36 fa fb g0 hi hg0 H locs ls hP hD hS hz hl
      obtain rfl : i = 20 := by omega
      refine lv_iload hx hb dL_law_59 (lv_at hl 8 rfl) ?_
      refine lv_iload hx hb dL_law_61 (lv_at hl 3 rfl) ?_
      refine lv_icmp_ge (tgt := 186) hx hb dL_law_63 (by decide) (fun c_63 => ?_) (fun c_63 => False.elim (c_63 ((nI_leI (a := 20) (b := 20) (by decide) (by decide)).mpr (Nat.le_refl 20))))
      refine W.widen (k := 0 + 126) (n := 6 * (0 + 126) + 390) (by omega) (by omega) ?_
      exact J186 T_31 tr_32 hI_33 T_34 tr_35 hI_36 fa fb g0 hg0 _ _ _ hP hD hS (by omega) (lv_sub hl [0, 1, 2, 3, 4, 5, 6, 7, 9] rfl)
    | succ r ih =>
      intro i T_31 tr_32 hI_33 T_34 tr_35 hI_36 fa fb g0 hi hg0 H locs ls hP hD hS hz hl
      refine lv_iload hx hb dL_law_59 (lv_at hl 8 rfl) ?_
      refine lv_iload hx hb dL_law_61 (lv_at hl 3 rfl) ?_
      refine lv_icmp_ge (tgt := 186) hx hb dL_law_63 (by decide) (fun c_63 => False.elim (absurd ((nI_leI (a := 20) (by decide) (by omega)).mp c_63) (by omega))) (fun c_63 => ?_)
      refine lv_iload hx hb dL_law_66 (lv_at hl 9 rfl) ?_
      refine lv_if_eq (tgt := 186) hx hb dL_law_68 (by decide) (fun c_68 => ?_) (fun c_68 => ?_)
      · refine W.widen (k := 0 + 126) (n := 6 * (0 + 126) + 390) (by omega) (by omega) ?_
        exact J186 T_31 tr_32 hI_33 T_34 tr_35 hI_36 fa fb g0 hg0 _ _ _ hP hD hS (by omega) (lv_sub hl [0, 1, 2, 3, 4, 5, 6, 7, 9] rfl)
      · refine lv_aload_n hx hb dL_law_71 rfl (lv_at hl 7 rfl) ?_
        refine lv_iconst (v := 1) hx hb dL_law_72 (by decide) ?_
        refine lv_iload hx hb dL_law_73 (lv_at hl 8 rfl) ?_
        refine lv_iadd hx hb dL_law_75 ?_
        refine ml_eqi (nI (1 + i)) (nI_add 1 i) ?_
        refine va_calli (va_runS (As := [.ref b9, .int (nI (1 + i))]) (rest := []) ⟨hx, hb, hml, hown, hts⟩ (c_L_drawn l b9 L xs (1 + i) H.size hL31 (by omega)) (va_cwS 2 hts gL_law_L_drawn rfl rfl rfl (by decide +kernel) ⟨Nat.le_of_ble_eq_true rfl, Nat.le_of_ble_eq_true rfl⟩) ⟨ml_blindD, fun U hU hW => ⟨rfl, by rw [hU], by rw [hU]; exact va_X.moved hW.alike (hX.kept (hS.2.1 b9 hbl hbA)), Nat.lt_of_lt_of_le hbl hS.1⟩⟩ rfl rfl hl.1 rfl (lv_room (Nat.le_of_ble_eq_true rfl)) dL_law_76 ⟨by show _ ≤ (20000 : Nat); omega, by show _ ≤ (140000 : Nat); omega⟩) hS (fun q h h9 => absurd h (Nat.not_lt.mpr h9)) (fun q h => hA q (Nat.le_trans hS.1 h)) (fun r_76 u_76 t H1 locs ht hvm hw hB hz1 hk1 hS => ?_)
        have hP : va_P G vwCl (wC a cy T_31 tr_32 ++ wC b cy T_34 tr_35 ++ [(q_43, .inl (cy 0, 40, .inl fa)), (q_49, .inl (cy 0, 40, .inl fb))]) H1 := hP.kept (fun k q hk => hk1 q.1 ((hP k q hk).lt) (Nat.not_le.mpr ((hP k q hk).lt)))
        have hz : s.heap.size + 0 ≤ H1.size := Nat.le_trans hz hz1
        generalize H1 = H at hP hS hz ⊢
        obtain ⟨⟨j_76, hj_76, rfl⟩, hr_76⟩ := hw
        refine lv_istore (lv' := [(10, .int (nI j_76)), (7, .ref q_49), (6, .ref q_43), (5, .int 4), (4, .int 20), (3, .int (nI j_18)), (2, .ref (b 0)), (1, .ref (a 0)), (0, .ref b9), (9, .int (nI i)), (8, .int g0)]) hx hb dL_law_79 hl (by decide) rfl (fun ls hl => ?_)
        refine lv_iload hx hb dL_law_81 (lv_at hl 0 rfl) ?_
        refine lv_bipush (v := 40) hx hb dL_law_83 (by decide) ?_
        refine lv_irem hx hb dL_law_85 (by decide) ?_
        refine ml_eqi (nI (j_76 % 40)) (pk_rem (a := j_76) (d := 40) (by omega) (by decide) (by decide)) ?_
        refine lv_istore (lv' := [(11, .int (nI (j_76 % 40))), (10, .int (nI j_76)), (7, .ref q_49), (6, .ref q_43), (5, .int 4), (4, .int 20), (3, .int (nI j_18)), (2, .ref (b 0)), (1, .ref (a 0)), (0, .ref b9), (9, .int (nI i)), (8, .int g0)]) hx hb dL_law_86 hl (by decide) rfl (fun ls hl => ?_)
        refine lv_aload_n hx hb dL_law_88 rfl (lv_at hl 8 rfl) ?_
        refine lv_iload hx hb dL_law_89 (lv_at hl 0 rfl) ?_
        have hPc := hP.sub (ws' := (wC a cy T_31 tr_32)) [0, 1, 2, 3, 4, 5, 6, 7, 8, 9, 10, 11] rfl
        have hDc := hD.sub (ws' := (wC a cy T_31 tr_32)) [0, 1, 2, 3, 4, 5, 6, 7, 8, 9, 10, 11] (by decide) rfl
        refine mo_SWz (G := G) (wr := (wC b cy T_34 tr_35 ++ [(q_43, .inl (cy 0, 40, .inl fa)), (q_49, .inl (cy 0, 40, .inl fb))])) (As := [.ref (a 0), .int (nI (j_76 % 40))]) (rest := []) ⟨hx, hb, hml, hown, hts⟩ (c_L_version l hlt G cy a H.size T_31 tr_32 (nI (j_76 % 40)) hI_33) (vx_cwSW 2 hts gL_law_L_version rfl rfl rfl (by decide +kernel) ⟨Nat.le_of_ble_eq_true rfl, Nat.le_of_ble_eq_true rfl⟩) hPc hDc hP hK hD hS hA [0, 1, 2, 3, 4, 5, 6, 7, 8, 9, 10, 11] [12, 13, 14, 15, 16, 17, 18, 19, 20, 21, 22, 23, 24, 25] rfl rfl (by decide) (by decide) hN hE rfl hl.1 (Nat.le_of_ble_eq_true rfl) dL_law_91 ⟨by show _ ≤ (20000 : Nat); omega, by show _ ≤ (140000 : Nat); omega⟩ (fun r_91 u_91 H locs hw hP hD hS hz9 => ?_)
        obtain ⟨T_91, hT9⟩ : ∃ z, z = (sp_version T_31 (nI (j_76 % 40))).2.2 := ⟨_, rfl⟩
        rw [← hT9] at hP hD
        have hI_91 : Inv T_91 := by rw [hT9]; exact inv_version hI_33 (nI (j_76 % 40))
        have hP := hP.sub (ws' := (wC a cy T_91 u_91 ++ wC b cy T_34 tr_35 ++ [(q_43, .inl (cy 0, 40, .inl fa)), (q_49, .inl (cy 0, 40, .inl fb))])) [14, 15, 16, 17, 18, 19, 20, 21, 22, 23, 24, 25, 0, 1, 2, 3, 4, 5, 6, 7, 8, 9, 10, 11, 12, 13] rfl
        have hD := hD.sub (ws' := (wC a cy T_91 u_91 ++ wC b cy T_34 tr_35 ++ [(q_43, .inl (cy 0, 40, .inl fa)), (q_49, .inl (cy 0, 40, .inl fb))])) [14, 15, 16, 17, 18, 19, 20, 21, 22, 23, 24, 25, 0, 1, 2, 3, 4, 5, 6, 7, 8, 9, 10, 11, 12, 13] (by decide) rfl
        have hP : va_P G vwCl (wC a cy T_91 u_91 ++ wC b cy T_34 tr_35 ++ [(q_43, .inl (cy 0, 40, .inl fa)), (q_49, .inl (cy 0, 40, .inl fb))]) H := hP
        have hD : va_D A (wC a cy T_91 u_91 ++ wC b cy T_34 tr_35 ++ [(q_43, .inl (cy 0, 40, .inl fa)), (q_49, .inl (cy 0, 40, .inl fb))]) := hD
        have hz : s.heap.size + 0 ≤ H.size := rz_0 hz hz9
        have J180 : ∀ (T_37 : TS) (tr_38 : Nat → Int32) (hI_39 : Inv T_37) (T_40 : TS) (tr_41 : Nat → Int32) (hI_42 : Inv T_40) (fa : Nat → Int32) (fb : Nat → Int32) (g8 : Int32) (hg8 : g8 = 0 ∨ g8 = 1) (H : Heap) (locs : List Loc) (ls : Array Slot), va_P G vwCl (wC a cy T_37 tr_38 ++ wC b cy T_40 tr_41 ++ [(q_43, .inl (cy 0, 40, .inl fa)), (q_49, .inl (cy 0, 40, .inl fb))]) H → va_D A (wC a cy T_37 tr_38 ++ wC b cy T_40 tr_41 ++ [(q_43, .inl (cy 0, 40, .inl fa)), (q_49, .inl (cy 0, 40, .inl fb))]) → va_S A s.heap H locs → s.heap.size + 0 ≤ H.size → lv_has ls 16 [(7, .ref q_49), (6, .ref q_43), (5, .int 4), (4, .int 20), (3, .int (nI j_18)), (2, .ref (b 0)), (1, .ref (a 0)), (0, .ref b9), (9, .int (nI i)), (8, .int g8)] → W p l e R9 s m #[Value.ref b9] below meth c H locs (26 + 4 * i + 3) (6 * (26 + 4 * i + 3) + 390) (far_Q below s) (F0 m 180 ls []) := by
          intro T_37 tr_38 hI_39 T_40 tr_41 hI_42 fa fb g8 hg8 H locs ls hP hD hS hz hl
          refine lv_iinc (v := nI (i + 1)) (lv' := [(9, .int (nI (i + 1))), (7, .ref q_49), (6, .ref q_43), (5, .int 4), (4, .int 20), (3, .int (nI j_18)), (2, .ref (b 0)), (1, .ref (a 0)), (0, .ref b9), (8, .int g8)]) hx hb dL_law_180 hl (k := 8) rfl (nI_1 _) (by decide) rfl (fun ls hl => ?_)
          refine lv_goto (tgt := 59) hx hb dL_law_183 (by decide) ?_
          refine W.widen (k := 26 + 4 * (i + 1)) (n := 6 * (26 + 4 * (i + 1)) + 390) (by omega) (by omega) ?_
          exact ih (i + 1) T_37 tr_38 hI_39 T_40 tr_41 hI_42 fa fb g8 (by omega) hg8 _ _ _ hP hD hS (by omega) (lv_sub hl [1, 2, 3, 4, 5, 6, 7, 8, 0, 9] rfl)
        refine lv_if_ge (tgt := 180) hx hb dL_law_94 (by decide) (fun c_94 => ?_) (fun c_94 => ?_)
        · refine W.widen (k := 26 + 4 * i + 3) (n := 6 * (26 + 4 * i + 3) + 390) (by omega) (by omega) ?_
          exact J180 T_91 u_91 hI_91 T_34 tr_35 hI_36 fa fb g0 hg0 _ _ _ hP hD hS (by omega) (lv_sub hl [2, 3, 4, 5, 6, 7, 8, 9, 10, 11] rfl)
        · refine lv_aload hx hb dL_law_97 (lv_at hl 3 rfl) ?_
          refine lv_iload hx hb dL_law_99 (lv_at hl 0 rfl) ?_
          refine lv_iload hx hb dL_law_101 (lv_at hl 1 rfl) ?_
          refine lv_bipush (v := 40) hx hb dL_law_103 (by decide) ?_
          refine lv_idiv hx hb dL_law_105 (by decide) ?_
          refine lv_bipush (v := 19) hx hb dL_law_106 (by decide) ?_
          refine lv_irem hx hb dL_law_108 (by decide) ?_
          refine lv_bipush (v := 9) hx hb dL_law_109 (by decide) ?_
          refine lv_isub hx hb dL_law_111 ?_
          refine ml_iast hx hb hK hP hD hS 24 0 rfl rfl ((j_76 % 40)) rfl (by omega) (Nat.le_of_ble_eq_true rfl) dL_law_112 (fun H locs hP hD hS => ?_)
          have hP : va_P G vwCl (wC a cy T_91 u_91 ++ wC b cy T_34 tr_35 ++ [(q_43, .inl (cy 0, 40, .inl (upd fa (j_76 % 40) ((((nI j_76) / 40) - ((nI j_76) / 40) / 19 * 19) - 9)))), (q_49, .inl (cy 0, 40, .inl fb))]) H := hP
          have hD : va_D A (wC a cy T_91 u_91 ++ wC b cy T_34 tr_35 ++ [(q_43, .inl (cy 0, 40, .inl (upd fa (j_76 % 40) ((((nI j_76) / 40) - ((nI j_76) / 40) / 19 * 19) - 9)))), (q_49, .inl (cy 0, 40, .inl fb))]) := hD
          have hz : s.heap.size + 0 ≤ H.size := hS.1
          refine lv_aload hx hb dL_law_113 (lv_at hl 2 rfl) ?_
          refine lv_iload hx hb dL_law_115 (lv_at hl 0 rfl) ?_
          refine lv_iload hx hb dL_law_117 (lv_at hl 1 rfl) ?_
          refine lv_sipush (v := 760) hx hb dL_law_119 (by decide) ?_
          refine lv_idiv hx hb dL_law_122 (by decide) ?_
          refine lv_sipush (v := 201) hx hb dL_law_123 (by decide) ?_
          refine lv_irem hx hb dL_law_126 (by decide) ?_
          refine lv_bipush (v := 100) hx hb dL_law_127 (by decide) ?_
          refine lv_isub hx hb dL_law_129 ?_
          refine ml_iast hx hb hK hP hD hS 25 0 rfl rfl ((j_76 % 40)) rfl (by omega) (Nat.le_of_ble_eq_true rfl) dL_law_130 (fun H locs hP hD hS => ?_)
          have hP : va_P G vwCl (wC a cy T_91 u_91 ++ wC b cy T_34 tr_35 ++ [(q_43, .inl (cy 0, 40, .inl (upd fa (j_76 % 40) ((((nI j_76) / 40) - ((nI j_76) / 40) / 19 * 19) - 9)))), (q_49, .inl (cy 0, 40, .inl (upd fb (j_76 % 40) ((((nI j_76) / 760) - ((nI j_76) / 760) / 201 * 201) - 100))))]) H := hP
          have hD : va_D A (wC a cy T_91 u_91 ++ wC b cy T_34 tr_35 ++ [(q_43, .inl (cy 0, 40, .inl (upd fa (j_76 % 40) ((((nI j_76) / 40) - ((nI j_76) / 40) / 19 * 19) - 9)))), (q_49, .inl (cy 0, 40, .inl (upd fb (j_76 % 40) ((((nI j_76) / 760) - ((nI j_76) / 760) / 201 * 201) - 100))))]) := hD
          have hz : s.heap.size + 0 ≤ H.size := hS.1
          refine lv_aload_n hx hb dL_law_131 rfl (lv_at hl 8 rfl) ?_
          refine lv_iload hx hb dL_law_132 (lv_at hl 0 rfl) ?_
          refine lv_aload hx hb dL_law_134 (lv_at hl 3 rfl) ?_
          refine lv_iload hx hb dL_law_136 (lv_at hl 0 rfl) ?_
          refine ml_iald hx hb hK hP 24 0 rfl rfl ((j_76 % 40)) rfl (by omega) (Nat.le_of_ble_eq_true rfl) ((upd fa (j_76 % 40) ((((nI j_76) / 40) - ((nI j_76) / 40) / 19 * 19) - 9)) (j_76 % 40)) rfl dL_law_138 ?_
          refine lv_aload hx hb dL_law_139 (lv_at hl 2 rfl) ?_
          refine lv_iload hx hb dL_law_141 (lv_at hl 0 rfl) ?_
          refine ml_iald hx hb hK hP 25 0 rfl rfl ((j_76 % 40)) rfl (by omega) (Nat.le_of_ble_eq_true rfl) ((upd fb (j_76 % 40) ((((nI j_76) / 760) - ((nI j_76) / 760) / 201 * 201) - 100)) (j_76 % 40)) rfl dL_law_143 ?_
          refine lv_iload hx hb dL_law_144 (lv_at hl 0 rfl) ?_
          have hPc := hP.sub (ws' := (wC a cy T_91 u_91)) [0, 1, 2, 3, 4, 5, 6, 7, 8, 9, 10, 11] rfl
          have hDc := hD.sub (ws' := (wC a cy T_91 u_91)) [0, 1, 2, 3, 4, 5, 6, 7, 8, 9, 10, 11] (by decide) rfl
          refine mo_SWz (G := G) (wr := (wC b cy T_34 tr_35 ++ [(q_43, .inl (cy 0, 40, .inl (upd fa (j_76 % 40) ((((nI j_76) / 40) - ((nI j_76) / 40) / 19 * 19) - 9)))), (q_49, .inl (cy 0, 40, .inl (upd fb (j_76 % 40) ((((nI j_76) / 760) - ((nI j_76) / 760) / 201 * 201) - 100))))])) (As := [.ref (a 0), .int (nI (j_76 % 40)), .int ((upd fa (j_76 % 40) ((((nI j_76) / 40) - ((nI j_76) / 40) / 19 * 19) - 9)) (j_76 % 40)), .int ((upd fb (j_76 % 40) ((((nI j_76) / 760) - ((nI j_76) / 760) / 201 * 201) - 100)) (j_76 % 40)), .int (nI (j_76 % 40))]) (rest := []) ⟨hx, hb, hml, hown, hts⟩ (c_L_inserts l hlt G cy a H.size T_91 u_91 (nI (j_76 % 40)) ((upd fa (j_76 % 40) ((((nI j_76) / 40) - ((nI j_76) / 40) / 19 * 19) - 9)) (j_76 % 40)) ((upd fb (j_76 % 40) ((((nI j_76) / 760) - ((nI j_76) / 760) / 201 * 201) - 100)) (j_76 % 40)) (nI (j_76 % 40)) hI_91) (vx_cwSW 5 hts gL_law_L_inserts rfl rfl rfl (by decide +kernel) ⟨Nat.le_of_ble_eq_true rfl, Nat.le_of_ble_eq_true rfl⟩) hPc hDc hP hK hD hS hA [0, 1, 2, 3, 4, 5, 6, 7, 8, 9, 10, 11] [12, 13, 14, 15, 16, 17, 18, 19, 20, 21, 22, 23, 24, 25] rfl rfl (by decide) (by decide) hN hE rfl hl.1 (Nat.le_of_ble_eq_true rfl) dL_law_146 ⟨by show _ ≤ (20000 : Nat); omega, by show _ ≤ (140000 : Nat); omega⟩ (fun r_146 u_146 H locs hw hP hD hS hz9 => ?_)
          obtain ⟨T_146, hT9⟩ : ∃ z, z = (sp_insert T_91 (nI (j_76 % 40)) ((upd fa (j_76 % 40) ((((nI j_76) / 40) - ((nI j_76) / 40) / 19 * 19) - 9)) (j_76 % 40)) ((upd fb (j_76 % 40) ((((nI j_76) / 760) - ((nI j_76) / 760) / 201 * 201) - 100)) (j_76 % 40)) (nI (j_76 % 40))).2.2 := ⟨_, rfl⟩
          rw [← hT9] at hP hD
          have hI_146 : Inv T_146 := by rw [hT9]; exact inv_insert hI_91 (nI (j_76 % 40)) ((upd fa (j_76 % 40) ((((nI j_76) / 40) - ((nI j_76) / 40) / 19 * 19) - 9)) (j_76 % 40)) ((upd fb (j_76 % 40) ((((nI j_76) / 760) - ((nI j_76) / 760) / 201 * 201) - 100)) (j_76 % 40)) (nI (j_76 % 40))
          have hP := hP.sub (ws' := (wC a cy T_146 u_146 ++ wC b cy T_34 tr_35 ++ [(q_43, .inl (cy 0, 40, .inl (upd fa (j_76 % 40) ((((nI j_76) / 40) - ((nI j_76) / 40) / 19 * 19) - 9)))), (q_49, .inl (cy 0, 40, .inl (upd fb (j_76 % 40) ((((nI j_76) / 760) - ((nI j_76) / 760) / 201 * 201) - 100))))])) [14, 15, 16, 17, 18, 19, 20, 21, 22, 23, 24, 25, 0, 1, 2, 3, 4, 5, 6, 7, 8, 9, 10, 11, 12, 13] rfl
          have hD := hD.sub (ws' := (wC a cy T_146 u_146 ++ wC b cy T_34 tr_35 ++ [(q_43, .inl (cy 0, 40, .inl (upd fa (j_76 % 40) ((((nI j_76) / 40) - ((nI j_76) / 40) / 19 * 19) - 9)))), (q_49, .inl (cy 0, 40, .inl (upd fb (j_76 % 40) ((((nI j_76) / 760) - ((nI j_76) / 760) / 201 * 201) - 100))))])) [14, 15, 16, 17, 18, 19, 20, 21, 22, 23, 24, 25, 0, 1, 2, 3, 4, 5, 6, 7, 8, 9, 10, 11, 12, 13] (by decide) rfl
          have hP : va_P G vwCl (wC a cy T_146 u_146 ++ wC b cy T_34 tr_35 ++ [(q_43, .inl (cy 0, 40, .inl (upd fa (j_76 % 40) ((((nI j_76) / 40) - ((nI j_76) / 40) / 19 * 19) - 9)))), (q_49, .inl (cy 0, 40, .inl (upd fb (j_76 % 40) ((((nI j_76) / 760) - ((nI j_76) / 760) / 201 * 201) - 100))))]) H := hP
          have hD : va_D A (wC a cy T_146 u_146 ++ wC b cy T_34 tr_35 ++ [(q_43, .inl (cy 0, 40, .inl (upd fa (j_76 % 40) ((((nI j_76) / 40) - ((nI j_76) / 40) / 19 * 19) - 9)))), (q_49, .inl (cy 0, 40, .inl (upd fb (j_76 % 40) ((((nI j_76) / 760) - ((nI j_76) / 760) / 201 * 201) - 100))))]) := hD
          have hz : s.heap.size + 0 ≤ H.size := rz_0 hz hz9
          refine lv_if_ne (tgt := 177) hx hb dL_law_149 (by decide) (fun c_149 => ?_) (fun c_149 => ?_)
          · refine lv_iconst (v := 0) hx hb dL_law_177 (by decide) ?_
            refine lv_istore (lv' := [(8, .int 0), (11, .int (nI (j_76 % 40))), (10, .int (nI j_76)), (7, .ref q_49), (6, .ref q_43), (5, .int 4), (4, .int 20), (3, .int (nI j_18)), (2, .ref (b 0)), (1, .ref (a 0)), (0, .ref b9), (9, .int (nI i))]) hx hb dL_law_178 hl (by decide) rfl (fun ls hl => ?_)
            refine W.widen (k := 26 + 4 * i + 3) (n := 6 * (26 + 4 * i + 3) + 390) (by omega) (by omega) ?_
            exact J180 T_146 u_146 hI_146 T_34 tr_35 hI_36 (upd fa (j_76 % 40) ((((nI j_76) / 40) - ((nI j_76) / 40) / 19 * 19) - 9)) (upd fb (j_76 % 40) ((((nI j_76) / 760) - ((nI j_76) / 760) / 201 * 201) - 100)) 0 (Or.inl rfl) _ _ _ hP hD hS (by omega) (lv_sub hl [3, 4, 5, 6, 7, 8, 9, 10, 11, 0] rfl)
          · refine lv_aload_n hx hb dL_law_152 rfl (lv_at hl 7 rfl) ?_
            refine lv_iload hx hb dL_law_153 (lv_at hl 0 rfl) ?_
            refine lv_aload hx hb dL_law_155 (lv_at hl 3 rfl) ?_
            refine lv_iload hx hb dL_law_157 (lv_at hl 0 rfl) ?_
            refine ml_iald hx hb hK hP 24 0 rfl rfl ((j_76 % 40)) rfl (by omega) (Nat.le_of_ble_eq_true rfl) ((upd fa (j_76 % 40) ((((nI j_76) / 40) - ((nI j_76) / 40) / 19 * 19) - 9)) (j_76 % 40)) rfl dL_law_159 ?_
            refine lv_aload hx hb dL_law_160 (lv_at hl 2 rfl) ?_
            refine lv_iload hx hb dL_law_162 (lv_at hl 0 rfl) ?_
            refine ml_iald hx hb hK hP 25 0 rfl rfl ((j_76 % 40)) rfl (by omega) (Nat.le_of_ble_eq_true rfl) ((upd fb (j_76 % 40) ((((nI j_76) / 760) - ((nI j_76) / 760) / 201 * 201) - 100)) (j_76 % 40)) rfl dL_law_164 ?_
            refine lv_iload hx hb dL_law_165 (lv_at hl 0 rfl) ?_
            have hPc := hP.sub (ws' := (wC b cy T_34 tr_35)) [12, 13, 14, 15, 16, 17, 18, 19, 20, 21, 22, 23] rfl
            have hDc := hD.sub (ws' := (wC b cy T_34 tr_35)) [12, 13, 14, 15, 16, 17, 18, 19, 20, 21, 22, 23] (by decide) rfl
            refine mo_SWz (G := G) (wr := (wC a cy T_146 u_146 ++ [(q_43, .inl (cy 0, 40, .inl (upd fa (j_76 % 40) ((((nI j_76) / 40) - ((nI j_76) / 40) / 19 * 19) - 9)))), (q_49, .inl (cy 0, 40, .inl (upd fb (j_76 % 40) ((((nI j_76) / 760) - ((nI j_76) / 760) / 201 * 201) - 100))))])) (As := [.ref (b 0), .int (nI (j_76 % 40)), .int ((upd fa (j_76 % 40) ((((nI j_76) / 40) - ((nI j_76) / 40) / 19 * 19) - 9)) (j_76 % 40)), .int ((upd fb (j_76 % 40) ((((nI j_76) / 760) - ((nI j_76) / 760) / 201 * 201) - 100)) (j_76 % 40)), .int (nI (j_76 % 40))]) (rest := []) ⟨hx, hb, hml, hown, hts⟩ (c_L_inserts l hlt G cy b H.size T_34 tr_35 (nI (j_76 % 40)) ((upd fa (j_76 % 40) ((((nI j_76) / 40) - ((nI j_76) / 40) / 19 * 19) - 9)) (j_76 % 40)) ((upd fb (j_76 % 40) ((((nI j_76) / 760) - ((nI j_76) / 760) / 201 * 201) - 100)) (j_76 % 40)) (nI (j_76 % 40)) hI_36) (vx_cwSW 5 hts gL_law_L_inserts rfl rfl rfl (by decide +kernel) ⟨Nat.le_of_ble_eq_true rfl, Nat.le_of_ble_eq_true rfl⟩) hPc hDc hP hK hD hS hA [12, 13, 14, 15, 16, 17, 18, 19, 20, 21, 22, 23] [0, 1, 2, 3, 4, 5, 6, 7, 8, 9, 10, 11, 24, 25] rfl rfl (by decide) (by decide) hN hE rfl hl.1 (Nat.le_of_ble_eq_true rfl) dL_law_167 ⟨by show _ ≤ (20000 : Nat); omega, by show _ ≤ (140000 : Nat); omega⟩ (fun r_167 u_167 H locs hw hP hD hS hz9 => ?_)
            obtain ⟨T_167, hT9⟩ : ∃ z, z = (sp_insert T_34 (nI (j_76 % 40)) ((upd fa (j_76 % 40) ((((nI j_76) / 40) - ((nI j_76) / 40) / 19 * 19) - 9)) (j_76 % 40)) ((upd fb (j_76 % 40) ((((nI j_76) / 760) - ((nI j_76) / 760) / 201 * 201) - 100)) (j_76 % 40)) (nI (j_76 % 40))).2.2 := ⟨_, rfl⟩
            rw [← hT9] at hP hD
            have hI_167 : Inv T_167 := by rw [hT9]; exact inv_insert hI_36 (nI (j_76 % 40)) ((upd fa (j_76 % 40) ((((nI j_76) / 40) - ((nI j_76) / 40) / 19 * 19) - 9)) (j_76 % 40)) ((upd fb (j_76 % 40) ((((nI j_76) / 760) - ((nI j_76) / 760) / 201 * 201) - 100)) (j_76 % 40)) (nI (j_76 % 40))
            have hP := hP.sub (ws' := (wC a cy T_146 u_146 ++ wC b cy T_167 u_167 ++ [(q_43, .inl (cy 0, 40, .inl (upd fa (j_76 % 40) ((((nI j_76) / 40) - ((nI j_76) / 40) / 19 * 19) - 9)))), (q_49, .inl (cy 0, 40, .inl (upd fb (j_76 % 40) ((((nI j_76) / 760) - ((nI j_76) / 760) / 201 * 201) - 100))))])) [0, 1, 2, 3, 4, 5, 6, 7, 8, 9, 10, 11, 14, 15, 16, 17, 18, 19, 20, 21, 22, 23, 24, 25, 12, 13] rfl
            have hD := hD.sub (ws' := (wC a cy T_146 u_146 ++ wC b cy T_167 u_167 ++ [(q_43, .inl (cy 0, 40, .inl (upd fa (j_76 % 40) ((((nI j_76) / 40) - ((nI j_76) / 40) / 19 * 19) - 9)))), (q_49, .inl (cy 0, 40, .inl (upd fb (j_76 % 40) ((((nI j_76) / 760) - ((nI j_76) / 760) / 201 * 201) - 100))))])) [0, 1, 2, 3, 4, 5, 6, 7, 8, 9, 10, 11, 14, 15, 16, 17, 18, 19, 20, 21, 22, 23, 24, 25, 12, 13] (by decide) rfl
            have hP : va_P G vwCl (wC a cy T_146 u_146 ++ wC b cy T_167 u_167 ++ [(q_43, .inl (cy 0, 40, .inl (upd fa (j_76 % 40) ((((nI j_76) / 40) - ((nI j_76) / 40) / 19 * 19) - 9)))), (q_49, .inl (cy 0, 40, .inl (upd fb (j_76 % 40) ((((nI j_76) / 760) - ((nI j_76) / 760) / 201 * 201) - 100))))]) H := hP
            have hD : va_D A (wC a cy T_146 u_146 ++ wC b cy T_167 u_167 ++ [(q_43, .inl (cy 0, 40, .inl (upd fa (j_76 % 40) ((((nI j_76) / 40) - ((nI j_76) / 40) / 19 * 19) - 9)))), (q_49, .inl (cy 0, 40, .inl (upd fb (j_76 % 40) ((((nI j_76) / 760) - ((nI j_76) / 760) / 201 * 201) - 100))))]) := hD
            have hz : s.heap.size + 0 ≤ H.size := rz_0 hz hz9
            refine lv_if_ne (tgt := 177) hx hb dL_law_170 (by decide) (fun c_170 => ?_) (fun c_170 => ?_)
            · refine lv_iconst (v := 0) hx hb dL_law_177 (by decide) ?_
              refine lv_istore (lv' := [(8, .int 0), (11, .int (nI (j_76 % 40))), (10, .int (nI j_76)), (7, .ref q_49), (6, .ref q_43), (5, .int 4), (4, .int 20), (3, .int (nI j_18)), (2, .ref (b 0)), (1, .ref (a 0)), (0, .ref b9), (9, .int (nI i))]) hx hb dL_law_178 hl (by decide) rfl (fun ls hl => ?_)
              refine W.widen (k := 26 + 4 * i + 3) (n := 6 * (26 + 4 * i + 3) + 390) (by omega) (by omega) ?_
              exact J180 T_146 u_146 hI_146 T_167 u_167 hI_167 (upd fa (j_76 % 40) ((((nI j_76) / 40) - ((nI j_76) / 40) / 19 * 19) - 9)) (upd fb (j_76 % 40) ((((nI j_76) / 760) - ((nI j_76) / 760) / 201 * 201) - 100)) 0 (Or.inl rfl) _ _ _ hP hD hS (by omega) (lv_sub hl [3, 4, 5, 6, 7, 8, 9, 10, 11, 0] rfl)
            · refine lv_iconst (v := 1) hx hb dL_law_173 (by decide) ?_
              refine lv_goto (tgt := 178) hx hb dL_law_174 (by decide) ?_
              refine lv_istore (lv' := [(8, .int 1), (11, .int (nI (j_76 % 40))), (10, .int (nI j_76)), (7, .ref q_49), (6, .ref q_43), (5, .int 4), (4, .int 20), (3, .int (nI j_18)), (2, .ref (b 0)), (1, .ref (a 0)), (0, .ref b9), (9, .int (nI i))]) hx hb dL_law_178 hl (by decide) rfl (fun ls hl => ?_)
              refine W.widen (k := 26 + 4 * i + 3) (n := 6 * (26 + 4 * i + 3) + 390) (by omega) (by omega) ?_
              exact J180 T_146 u_146 hI_146 T_167 u_167 hI_167 (upd fa (j_76 % 40) ((((nI j_76) / 40) - ((nI j_76) / 40) / 19 * 19) - 9)) (upd fb (j_76 % 40) ((((nI j_76) / 760) - ((nI j_76) / 760) / 201 * 201) - 100)) 1 (Or.inr rfl) _ _ _ hP hD hS (by omega) (lv_sub hl [3, 4, 5, 6, 7, 8, 9, 10, 11, 0] rfl)
  refine W.widen (k := 26 + 4 * 0) (n := 6 * (26 + 4 * 0) + 390) (by omega) (by omega) ?_
  exact LOOP59 20 0 TSI z0 hIa TSI z0 hIb (fun _ => (0 : Int32)) (fun _ => (0 : Int32)) 1 (by omega) (Or.inr rfl) _ _ _ hP hD hS (by omega) (lv_sub hl [2, 3, 4, 5, 6, 7, 8, 9, 0, 1] rfl)
