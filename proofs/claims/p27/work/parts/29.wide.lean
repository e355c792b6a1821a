/-! THE LAW IN A WIDE ROOM: it answers 1, and nothing that was there before is written (not a claim: the statement's room is 159 cells) -/
def Rw : Room := { frames := 13, cells := 20000, slots := 130000, locals := 496 }
def wd_Q (_ : Array Value) (s : State) (o : Outcome) (t : State) : Prop := o = .returned (some (.int 1)) ∧ Framed s o t [] 20000 130000
def wd_Z (below : List Frame) (a : Array Value) (s : State) : State → Prop := fun t => ∃ o, t.status = .running ∧ Ended t below o ∧ wd_Q a s o t
/-- the law's own end, with 1 on the stack, nothing written that was there before, its room as the claim has it -/
theorem wd_ret {p : Program} {l : Launch} {e : Env} {s : State} {m : MethodId} {below : List Frame} {meth : Method} {c : Code} {b : Nat} (hx : p.tables.exec = Jvm.exec) (hb : c.code = code) (hr : meth.sig.returnType = ret) (hlocks : meth.locks = false) {pc : Nat} {H : Heap} {ls : Array Slot} (hdg : decode code pc = .ok (.ireturn, 1)) : W p l e Rw s m #[Value.ref b] below meth c H [] 20000 130000 (wd_Z below #[Value.ref b] s) (F0 m pc ls [.int 1]) := by
  intro T hT X
  obtain ⟨fs, hret, hrun, hended, hW, hframe⟩ := X.leave (v := some (.int 1)) (hlocks := hlocks) (fun h => by rw [hr] at h; cases h)
  have hmeth' : T.vm.method? m = some meth := X.method'
  refine ⟨T.setFrames fs, ?_, .returned (some (.int 1)), hrun, hended, rfl, ⟨_, rfl⟩, hW, hframe⟩
  jvm_step X.here [X.here.top, hx, hb, hdg, hmeth', hr, ret, narrow_b1]
  (try refine ⟨rfl, ?_⟩); (try refine ⟨rfl, ?_⟩)
  first | (intro acts; rw [hret _ acts rfl rfl rfl]) | rw [hret _ _ rfl rfl rfl]
  exact Steps.refl _
theorem rs_Vp {K C O X0 : Nat → Int32} {pr : Nat → Prop} {n lv t : Nat} {T : TS} (h : RS K C O X0 pr n lv t T) {j : Nat} (hj : j < 40) (hpr : pr j) : tV T j = nI lv := (rs_V h hj).elim (fun z => z.2) (fun z => absurd hpr z.1)
theorem V_ne {x : Int32} {v : Nat} (hv : v ≤ 12) (h : x = nI v) : x ≠ -1 := by rw [h]; exact nI_m1 (by omega)
set_option maxHeartbeats 32000000 in
set_option maxRecDepth 100000 in
theorem whole_wide {p : Program} {e : Env} {s : State} {m : MethodId} {below : List Frame} {meth : Method} {c : Code} (l : Launch) (hflags : l.flags = flags0) {b9 L : Nat} {xs : Nat → Int32} (hL : L ≤ 260) (C0 : lw_At p s m meth c b9 L xs) : W p l e Rw s m #[Value.ref b9] below meth c s.heap [] 0 0 (wd_Z below #[Value.ref b9] s) (entryFrame m ([Value.ref b9] : List Value).toArray 16) := by
  obtain ⟨hx, hb, hr, hml, hown, hts0, hX, hbl, hlocks, hgv⟩ := id C0
  have hb : c.code = cL_law := hb
  have hown : s.vm.findClass RL = some m.cls := hown
  have hts : ∀ w ∈ wsL_law, w.before #[Value.ref b9] s = true := fun w h => hts0 w (wsL_law_in w h)
  have hlt : l.stackTraces = false := by unfold Launch.stackTraces; rw [hflags]; decide +kernel
  have hA : ∀ q : Nat, s.heap.size ≤ q → (fun q : Nat => s.heap.size ≤ q) q := fun _ h => h
  have hbA : ¬ (fun q : Nat => s.heap.size ≤ q) b9 := Nat.not_le.mpr hbl
  have hgs := flat_of_before _ hgv
  obtain ⟨c0, iS0, hKn0⟩ := u_known (C := RX0) (T := TX0) (N := 5) (n := 5) hts0 inX0 (hts (.instantiable RX0 5) (by decide +kernel))
  obtain ⟨c1, iS1, hKn1⟩ := u_known (C := RX1) (T := TX1) (N := 4) (n := 4) hts0 inX1 (hts (.instantiable RX1 4) (by decide +kernel))
  obtain ⟨c2, iS2, hKn2⟩ := u_known (C := RX2) (T := TX2) (N := 2) (n := 2) hts0 inX2 (hts (.instantiable RX2 2) (by decide +kernel))
  obtain ⟨c3, iS3, hKn3⟩ := u_known (C := RX3) (T := TX3) (N := 7) (n := 7) hts0 inX3 (hts (.instantiable RX3 7) (by decide +kernel))
  obtain ⟨G, hKc⟩ : ∃ G : va_G, ∀ (k : Nat) (q : vw_C), vwCl[k]? = some q → u_Kn s q.1 q.2.1 q.2.2 (G.1 k) (G.2 k) := by
    refine ⟨(fun k => if k = 0 then c0 else if k = 1 then c1 else if k = 2 then c2 else c3, fun k => if k = 0 then iS0 else if k = 1 then iS1 else if k = 2 then iS2 else iS3), ?_⟩
    intro k q hq
    match k, hq with
    | 0, hq => cases hq; exact hKn0
    | 1, hq => cases hq; exact hKn1
    | 2, hq => cases hq; exact hKn2
    | 3, hq => cases hq; exact hKn3
    | k + 4, hq => simp [vwCl] at hq
  obtain ⟨a0, k0, m0, hf0, hk0, hn0⟩ := Cond.arrayClass_spec (hts (.arrayClass .int) (by decide +kernel))
  obtain ⟨a2, k2, m2, hf2, hk2, hn2⟩ := Cond.arrayClass_spec (hts (.arrayClass .boolean) (by decide +kernel))
  obtain ⟨cy, hcy⟩ : ∃ cy : Nat → ClassId, ∀ (k : Nat) (q : ClassId × FieldType), (tyA cy)[k]? = some q → ArrOfT s q.1 q.2 ∧ va_RA s q.1 q.2 := by
    refine ⟨fun k => if k = 0 then a0 else a2, ?_⟩
    intro k q hq
    match k, hq with
    | 0, hq => cases hq; exact ⟨fun n z => ⟨fun k h => (by cases h), k0, hk0, m0, hn0⟩, hf0⟩
    | 1, hq => cases hq; exact ⟨fun n z => ⟨fun k h => (by cases h), k2, hk2, m2, hn2⟩, hf2⟩
    | k + 2, hq => simp at hq
  have hK : va_K G vwCl (tyA cy) s := ⟨hKc, hcy⟩
  have hN0 := hts0 (.methodLinkNest RX0 49 yX3_isTableValue "Migrationledger") (by decide +kernel)
  have hN1 := hts0 (.methodLinkNest RX3 9 yX0_init "Migrationledger") (by decide +kernel)
  have hN2 := hts0 (.methodLinkNest RX3 25 yX1_init "Migrationledger") (by decide +kernel)
  have hN : ml_N s := ⟨va_Nw.of rfl hN0, va_Nw.of rfl hN1, va_Nw.of rfl hN2⟩
  have hst : ml_st s := fun q hq => by
    have h := hts0 _ (st_in q hq)
    obtain ⟨-, -, -, z, -, -, -, -, -, hev⟩ := Cond.stringRef_spec (show s.vm.findClass "Migrationledger" = some c3 from hKn3.2.1) h
    exact ⟨z, vk_R.of h hev⟩
  have hca : ml_ca s := ⟨⟨va_Nw.of rfl (hts0 (.castable eIA eIA) (by decide +kernel)), va_Nw.of rfl (hts0 (.castable eIS eIS) (by decide +kernel)), va_Nw.of rfl (hts0 (.castable eIB eIB) (by decide +kernel))⟩, ⟨va_Nc.of (hgs (.not (.castable eIS eIA)) (by decide +kernel)), va_Nc.of (hgs (.not (.castable eIB eIA)) (by decide +kernel)), va_Nc.of (hgs (.not (.castable eIS eIB)) (by decide +kernel)), va_Nc.of (hgs (.not (.castable eIB eIS)) (by decide +kernel))⟩, va_Nw.of rfl (hts0 (.declares ⟨"java/lang/RuntimeException", "<init>", "(Ljava/lang/String;)V"⟩) (by decide +kernel)), va_Nw.of rfl (hts0 (.declares ⟨"java/lang/Exception", "<init>", "(Ljava/lang/String;)V"⟩) (by decide +kernel)), va_Nw.of rfl (hts0 (.declares ⟨"java/lang/Throwable", "<init>", "(Ljava/lang/String;)V"⟩) (by decide +kernel))⟩
  have hE : ml_eX (fun q : Nat => s.heap.size ≤ q) s s.heap := ⟨vx_Zqof (hts0 (.laysStatic Bundle.tN "UNASSIGNED_STACK" Bundle.steD) (by decide +kernel)) (hts0 (.initialized Bundle.tN) (by decide +kernel)) (hgs (.isRef (.static Bundle.tN "UNASSIGNED_STACK" Bundle.steD)) (by decide +kernel)) (fun _ h => Nat.not_le.mpr h), vx_Zqof (hts0 (.laysStatic Bundle.tN "SUPPRESSED_SENTINEL" Bundle.listD) (by decide +kernel)) (hts0 (.initialized Bundle.tN) (by decide +kernel)) (hgs (.isRef (.static Bundle.tN "SUPPRESSED_SENTINEL" Bundle.listD)) (by decide +kernel)) (fun _ h => Nat.not_le.mpr h), hst, hca⟩
  have hS : va_S (fun q : Nat => s.heap.size ≤ q) s.heap s.heap [] := va_S.rf
  have hP : va_P G vwCl [] s.heap := fun k q h => by simp at h
  have hD : va_D (fun q : Nat => s.heap.size ≤ q) [] := ⟨fun i j p q h => by simp at h, fun k q h => by simp at h⟩
  obtain ⟨A, hA, hA2, hbA, hE, hS, hP, hD⟩ : ∃ A : Nat → Prop, (∀ q, s.heap.size ≤ q → A q) ∧ (∀ q, A q → s.heap.size ≤ q) ∧ ¬ A b9 ∧ ml_eX A s s.heap ∧ va_S A s.heap s.heap [] ∧ va_P G vwCl [] s.heap ∧ va_D A [] := ⟨_, hA, fun _ h => h, hbA, hE, hS, hP, hD⟩
  have hL31 : L < 2 ^ 31 := by omega
  have hl := lv_entry ([.ref b9]) (n := 16) (Nat.le_of_ble_eq_true rfl)
  rw [lg_entry_eq]
  generalize (lg_sl ([.ref b9]) ++ List.replicate (16 - (lg_sl ([.ref b9])).length) Slot.unset).toArray = ls at hl ⊢
  have hl : lv_has ls 16 [(0, .ref b9)] := hl
  refine va_new (ci := 3) (fs := [.null, .null, .null, .null, .int 0, .int 0, .int 0]) (C := RX3) (T := TX3) (N := 7) hx hb hts inlX3 tyX3 tyX3_ok hown (hts (.classLink RL 8 RX3) (by decide +kernel)) (hts (.instantiable RX3 7) (by decide +kernel)) (hts (.initialized RX3) (by decide +kernel)) hK hP hD hS hA rfl (fun j hj => by rcases (show j = 0 ∨ j = 1 ∨ j = 2 ∨ j = 3 ∨ j = 4 ∨ j = 5 ∨ j = 6 by omega) with rfl | rfl | rfl | rfl | rfl | rfl | rfl <;> rfl) (Nat.le_of_ble_eq_true rfl) (Nat.le_of_ble_eq_true rfl) dL_law_0 (fun q0 H hP hD hS => ?_)
  have hP : va_P G vwCl [(q0, .inr (3, [.null, .null, .null, .null, .int 0, .int 0, .int 0]))] H := hP
  have hD : va_D A [(q0, .inr (3, [.null, .null, .null, .null, .int 0, .int 0, .int 0]))] := hD
  refine W.widen (k := 1) (n := 7) (Nat.le_of_ble_eq_true rfl) (Nat.le_of_ble_eq_true rfl) ?_
  refine lv_dup hx hb dL_law_3 rfl ?_
  have hPc := hP.sub (ws' := [(q0, .inr (3, [.null, .null, .null, .null, .int 0, .int 0, .int 0]))]) [0] rfl
  have hDc := hD.sub (ws' := [(q0, .inr (3, [.null, .null, .null, .null, .int 0, .int 0, .int 0]))]) [0] (by decide) rfl
  have hFc := va_free (wc := [(q0, .inr (3, [.null, .null, .null, .null, .int 0, .int 0, .int 0]))]) hD hS hA [0] rfl
  refine va_callv (va_runI (As := []) (rest := [.ref q0]) ⟨hx, hb, hml, hown, hts⟩ (c_X3_init l G cy q0 H.size) (cwI 0 hts gL_law_X3_init rfl rfl rfl (hts (.initialized RX3) (by decide +kernel)) (hts (.methodLink RL 162 yX3_init) (by decide +kernel)) (hts (.instanceMethod yX3_init) (by decide +kernel)) rfl (by decide +kernel) ⟨Nat.le_of_ble_eq_true rfl, Nat.le_of_ble_eq_true rfl⟩) ⟨ml_blind, fun U hU hW => ⟨rfl, by rw [hU], by rw [hU]; exact hPc, va_K.moved hW.alike hK, hDc.weaken (fun _ _ _ _ => trivial), ml_N.warm hW hN⟩⟩ rfl rfl hl.1 rfl (lv_room (Nat.le_of_ble_eq_true rfl)) dL_law_4 ⟨Nat.le_of_ble_eq_true rfl, Nat.le_of_ble_eq_true rfl⟩) hS (fun q _ h => hFc q h) hFc (fun a t H1 locs ht hvm hw hB hz1 hk1 hS => ?_)
  obtain ⟨hP1, hK1, hD1⟩ := hB
  rw [ht] at hP1
  obtain rfl : a 0 = q0 := hw
  obtain ⟨hP, hD⟩ := va_join (wr := []) (w1 := (wC a cy TSI z0)) hP hD [0] [] rfl rfl (by decide) (by decide) hk1 hFc hP1 hD1
  generalize H1 = H at hP hS ⊢
  have hP : va_P G vwCl (wC a cy TSI z0) H := hP
  have hD : va_D A (wC a cy TSI z0) := hD
  refine W.widen (k := 12) (n := 233) (Nat.le_of_ble_eq_true rfl) (Nat.le_of_ble_eq_true rfl) ?_
  refine lv_astore_n (lv' := [(1, .ref (a 0)), (0, .ref b9)]) hx hb dL_law_7 rfl hl (by decide) rfl (fun ls hl => ?_)
  refine va_new (ci := 3) (fs := [.null, .null, .null, .null, .int 0, .int 0, .int 0]) (C := RX3) (T := TX3) (N := 7) hx hb hts inlX3 tyX3 tyX3_ok hown (hts (.classLink RL 8 RX3) (by decide +kernel)) (hts (.instantiable RX3 7) (by decide +kernel)) (hts (.initialized RX3) (by decide +kernel)) hK hP hD hS hA rfl (fun j hj => by rcases (show j = 0 ∨ j = 1 ∨ j = 2 ∨ j = 3 ∨ j = 4 ∨ j = 5 ∨ j = 6 by omega) with rfl | rfl | rfl | rfl | rfl | rfl | rfl <;> rfl) (Nat.le_of_ble_eq_true rfl) (Nat.le_of_ble_eq_true rfl) dL_law_8 (fun q8 H hP hD hS => ?_)
  have hP : va_P G vwCl ((wC a cy TSI z0) ++ [(q8, .inr (3, [.null, .null, .null, .null, .int 0, .int 0, .int 0]))]) H := hP
  have hD : va_D A ((wC a cy TSI z0) ++ [(q8, .inr (3, [.null, .null, .null, .null, .int 0, .int 0, .int 0]))]) := hD
  refine W.widen (k := 13) (n := 240) (Nat.le_of_ble_eq_true rfl) (Nat.le_of_ble_eq_true rfl) ?_
  refine lv_dup hx hb dL_law_11 rfl ?_
  have hPc := hP.sub (ws' := [(q8, .inr (3, [.null, .null, .null, .null, .int 0, .int 0, .int 0]))]) [12] rfl
  have hDc := hD.sub (ws' := [(q8, .inr (3, [.null, .null, .null, .null, .int 0, .int 0, .int 0]))]) [12] (by decide) rfl
  have hFc := va_free (wc := [(q8, .inr (3, [.null, .null, .null, .null, .int 0, .int 0, .int 0]))]) hD hS hA [12] rfl
  refine va_callv (va_runI (As := []) (rest := [.ref q8]) ⟨hx, hb, hml, hown, hts⟩ (c_X3_init l G cy q8 H.size) (cwI 0 hts gL_law_X3_init rfl rfl rfl (hts (.initialized RX3) (by decide +kernel)) (hts (.methodLink RL 162 yX3_init) (by decide +kernel)) (hts (.instanceMethod yX3_init) (by decide +kernel)) rfl (by decide +kernel) ⟨Nat.le_of_ble_eq_true rfl, Nat.le_of_ble_eq_true rfl⟩) ⟨ml_blind, fun U hU hW => ⟨rfl, by rw [hU], by rw [hU]; exact hPc, va_K.moved hW.alike hK, hDc.weaken (fun _ _ _ _ => trivial), ml_N.warm hW hN⟩⟩ rfl rfl hl.1 rfl (lv_room (Nat.le_of_ble_eq_true rfl)) dL_law_12 ⟨Nat.le_of_ble_eq_true rfl, Nat.le_of_ble_eq_true rfl⟩) hS (fun q _ h => hFc q h) hFc (fun b t H1 locs ht hvm hw hB hz1 hk1 hS => ?_)
  obtain ⟨hP1, hK1, hD1⟩ := hB
  rw [ht] at hP1
  obtain rfl : b 0 = q8 := hw
  obtain ⟨hP, hD⟩ := va_join (wr := (wC a cy TSI z0)) (w1 := (wC b cy TSI z0)) hP hD [12] [0, 1, 2, 3, 4, 5, 6, 7, 8, 9, 10, 11] rfl rfl (by decide) (by decide) hk1 hFc hP1 hD1
  generalize H1 = H at hP hS ⊢
  have hP : va_P G vwCl (wC a cy TSI z0 ++ wC b cy TSI z0) H := hP
  have hD : va_D A (wC a cy TSI z0 ++ wC b cy TSI z0) := hD
  refine W.widen (k := 24) (n := 466) (Nat.le_of_ble_eq_true rfl) (Nat.le_of_ble_eq_true rfl) ?_
  refine lv_astore_n (lv' := [(2, .ref (b 0)), (1, .ref (a 0)), (0, .ref b9)]) hx hb dL_law_15 rfl hl (by decide) rfl (fun ls hl => ?_)
  have hz : s.heap.size + 0 ≤ H.size := hS.1
  have hIa := invTSI
  have hIb := invTSI
  have hR0 : R0 TSI TSI (fun _ => (0 : Int32)) (fun _ => (0 : Int32)) := r0_start
  refine W.widen (k := 0 + 24) (n := 6 * (0 + 24) + 322) (by omega) (by omega) ?_
  refine lv_aload_n hx hb dL_law_16 rfl (lv_at hl 2 rfl) ?_
  refine lv_iconst (v := 0) hx hb dL_law_17 (by decide) ?_
  refine va_calli (va_runS (As := [.ref b9, .int (nI 0)]) (rest := []) ⟨hx, hb, hml, hown, hts⟩ (c_L_drawn l b9 L xs 0 H.size hL31 (by omega)) (va_cwS 2 hts gL_law_L_drawn rfl rfl rfl (by decide +kernel) ⟨Nat.le_of_ble_eq_true rfl, Nat.le_of_ble_eq_true rfl⟩) ⟨ml_blindD, fun U hU hW => ⟨rfl, by rw [hU], by rw [hU]; exact va_X.moved hW.alike (hX.kept (hS.2.1 b9 hbl hbA)), Nat.lt_of_lt_of_le hbl hS.1⟩⟩ rfl rfl hl.1 rfl (lv_room (Nat.le_of_ble_eq_true rfl)) dL_law_18 ⟨by show _ ≤ (20000 : Nat); omega, by show _ ≤ (130000 : Nat); omega⟩) hS (fun q h h9 => absurd h (Nat.not_lt.mpr h9)) (fun q h => hA q (Nat.le_trans hS.1 h)) (fun r_18 u_18 t H1 locs ht hvm hw hB hz1 hk1 hS => ?_)
  have hP : va_P G vwCl (wC a cy TSI z0 ++ wC b cy TSI z0) H1 := hP.kept (fun k q hk => hk1 q.1 ((hP k q hk).lt) (Nat.not_le.mpr ((hP k q hk).lt)))
  have hz : s.heap.size + 0 ≤ H1.size := Nat.le_trans hz hz1
  generalize H1 = H at hP hS hz ⊢
  obtain ⟨⟨j_18, hj_18, rfl⟩, hr_18⟩ := hw
  refine lv_istore_n (lv' := [(3, .int (nI j_18)), (2, .ref (b 0)), (1, .ref (a 0)), (0, .ref b9)]) hx hb dL_law_21 rfl hl (by decide) rfl (fun ls hl => ?_)
  refine lv_iconst (v := 1) hx hb dL_law_22 (by decide) ?_
  refine lv_iload_n hx hb dL_law_23 rfl (lv_at hl 0 rfl) ?_
  refine lv_bipush (v := 20) hx hb dL_law_24 (by decide) ?_
  refine lv_irem hx hb dL_law_26 (by decide) ?_
  refine ml_eqi (nI (j_18 % 20)) (pk_rem (a := j_18) (d := 20) (by omega) (by decide) (by decide)) ?_
  refine lv_iadd hx hb dL_law_27 ?_
  refine ml_eqi (nI (1 + j_18 % 20)) (nI_add 1 _) ?_
  refine lv_istore (lv' := [(4, .int (nI (1 + j_18 % 20))), (3, .int (nI j_18)), (2, .ref (b 0)), (1, .ref (a 0)), (0, .ref b9)]) hx hb dL_law_28 hl (by decide) rfl (fun ls hl => ?_)
  refine lv_iconst (v := 1) hx hb dL_law_30 (by decide) ?_
  refine lv_iload_n hx hb dL_law_31 rfl (lv_at hl 1 rfl) ?_
  refine lv_bipush (v := 20) hx hb dL_law_32 (by decide) ?_
  refine lv_idiv hx hb dL_law_34 (by decide) ?_
  refine ml_eqi (nI (j_18 / 20)) (pk_div (a := j_18) (d := 20) (by omega) (by decide) (by decide)) ?_
  refine lv_bipush (v := 8) hx hb dL_law_35 (by decide) ?_
  refine lv_irem hx hb dL_law_37 (by decide) ?_
  refine ml_eqi (nI (j_18 / 20 % 8)) (pk_rem (a := j_18 / 20) (d := 8) (by omega) (by decide) (by decide)) ?_
  refine lv_iadd hx hb dL_law_38 ?_
  refine ml_eqi (nI (1 + j_18 / 20 % 8)) (nI_add 1 _) ?_
  refine lv_istore (lv' := [(5, .int (nI (1 + j_18 / 20 % 8))), (4, .int (nI (1 + j_18 % 20))), (3, .int (nI j_18)), (2, .ref (b 0)), (1, .ref (a 0)), (0, .ref b9)]) hx hb dL_law_39 hl (by decide) rfl (fun ls hl => ?_)
  refine lv_bipush (v := 40) hx hb dL_law_41 (by decide) ?_
  refine ml_newa (atype := .int) (a0 := (40, .inl (fun _ => (0 : Int32)))) hx hb (hts (.arrayClass .int) (by decide +kernel)) rfl (Or.inl rfl) 0 0 (by decide) rfl hK hP hD hS hA (fun _ => rfl) (by decide) (N' := 40) (by decide) (Nat.le_of_ble_eq_true rfl) (by show _ ≤ (20000 : Nat); omega) (by show _ ≤ (130000 : Nat); omega) dL_law_43 (fun q_43 H hP hD hS => ?_)
  have hP : va_P G vwCl (wC a cy TSI z0 ++ wC b cy TSI z0 ++ [(q_43, .inl (cy 0, 40, .inl (fun _ => (0 : Int32))))]) H := hP
  have hD : va_D A (wC a cy TSI z0 ++ wC b cy TSI z0 ++ [(q_43, .inl (cy 0, 40, .inl (fun _ => (0 : Int32))))]) := hD
  have hz : s.heap.size + 0 ≤ H.size := hS.1
  refine W.widen (k := 0 + 25) (n := 6 * (0 + 25) + 356) (by omega) (by omega) ?_
  refine lv_astore (lv' := [(6, .ref q_43), (5, .int (nI (1 + j_18 / 20 % 8))), (4, .int (nI (1 + j_18 % 20))), (3, .int (nI j_18)), (2, .ref (b 0)), (1, .ref (a 0)), (0, .ref b9)]) hx hb dL_law_45 hl (by decide) rfl (fun ls hl => ?_)
  refine lv_bipush (v := 40) hx hb dL_law_47 (by decide) ?_
  refine ml_newa (atype := .int) (a0 := (40, .inl (fun _ => (0 : Int32)))) hx hb (hts (.arrayClass .int) (by decide +kernel)) rfl (Or.inl rfl) 0 0 (by decide) rfl hK hP hD hS hA (fun _ => rfl) (by decide) (N' := 40) (by decide) (Nat.le_of_ble_eq_true rfl) (by show _ ≤ (20000 : Nat); omega) (by show _ ≤ (130000 : Nat); omega) dL_law_49 (fun q_49 H hP hD hS => ?_)
  have hP : va_P G vwCl (wC a cy TSI z0 ++ wC b cy TSI z0 ++ [(q_43, .inl (cy 0, 40, .inl (fun _ => (0 : Int32)))), (q_49, .inl (cy 0, 40, .inl (fun _ => (0 : Int32))))]) H := hP
  have hD : va_D A (wC a cy TSI z0 ++ wC b cy TSI z0 ++ [(q_43, .inl (cy 0, 40, .inl (fun _ => (0 : Int32)))), (q_49, .inl (cy 0, 40, .inl (fun _ => (0 : Int32))))]) := hD
  have hz : s.heap.size + 0 ≤ H.size := hS.1
  refine W.widen (k := 0 + 26) (n := 6 * (0 + 26) + 390) (by omega) (by omega) ?_
  refine lv_astore (lv' := [(7, .ref q_49), (6, .ref q_43), (5, .int (nI (1 + j_18 / 20 % 8))), (4, .int (nI (1 + j_18 % 20))), (3, .int (nI j_18)), (2, .ref (b 0)), (1, .ref (a 0)), (0, .ref b9)]) hx hb dL_law_51 hl (by decide) rfl (fun ls hl => ?_)
  refine lv_iconst (v := 1) hx hb dL_law_53 (by decide) ?_
  refine lv_istore (lv' := [(8, .int 1), (7, .ref q_49), (6, .ref q_43), (5, .int (nI (1 + j_18 / 20 % 8))), (4, .int (nI (1 + j_18 % 20))), (3, .int (nI j_18)), (2, .ref (b 0)), (1, .ref (a 0)), (0, .ref b9)]) hx hb dL_law_54 hl (by decide) rfl (fun ls hl => ?_)
  refine lv_iconst (v := 0) hx hb dL_law_56 (by decide) ?_
  refine lv_istore (lv' := [(9, .int 0), (8, .int 1), (7, .ref q_49), (6, .ref q_43), (5, .int (nI (1 + j_18 / 20 % 8))), (4, .int (nI (1 + j_18 % 20))), (3, .int (nI j_18)), (2, .ref (b 0)), (1, .ref (a 0)), (0, .ref b9)]) hx hb dL_law_57 hl (by decide) rfl (fun ls hl => ?_)
  have LOOP59 : ∀ (r : Nat) (i1 : Nat) (T_1 : TS) (tr_2 : Nat → Int32) (hI_3 : Inv T_1) (T_4 : TS) (tr_5 : Nat → Int32) (hI_6 : Inv T_4) (fa : Nat → Int32) (fb : Nat → Int32) (hi : i1 + r = (1 + j_18 % 20)) (hR0 : R0 T_1 T_4 fa fb) (H : Heap) (locs : List Loc) (ls : Array Slot), va_P G vwCl (wC a cy T_1 tr_2 ++ wC b cy T_4 tr_5 ++ [(q_43, .inl (cy 0, 40, .inl fa)), (q_49, .inl (cy 0, 40, .inl fb))]) H → va_D A (wC a cy T_1 tr_2 ++ wC b cy T_4 tr_5 ++ [(q_43, .inl (cy 0, 40, .inl fa)), (q_49, .inl (cy 0, 40, .inl fb))]) → va_S A s.heap H locs → s.heap.size + 0 ≤ H.size → lv_has ls 16 [(8, .int 1), (7, .ref q_49), (6, .ref q_43), (5, .int (nI (1 + j_18 / 20 % 8))), (4, .int (nI (1 + j_18 % 20))), (3, .int (nI j_18)), (2, .ref (b 0)), (1, .ref (a 0)), (0, .ref b9), (9, .int (nI i1))] → W p l e Rw s m #[Value.ref b9] below meth c H locs (26 + 4 * i1) (6 * (26 + 4 * i1) + 390) (wd_Z below #[Value.ref b9] s) (F0 m 59 ls []) := by
    intro r
    induction r with
    | zero =>
      intro i1 T_1 tr_2 hI_3 T_4 tr_5 hI_6 fa fb hi hR0 H locs ls hP hD hS hz hl
      have hie1 : i1 = 1 + j_18 % 20 := by omega
      refine lv_iload hx hb dL_law_59 (lv_at hl 9 rfl) ?_
      refine lv_iload hx hb dL_law_61 (lv_at hl 4 rfl) ?_
      refine lv_icmp_ge (tgt := 186) hx hb dL_law_63 (by decide) (fun c_63 => ?_) (fun c_63 => False.elim (c_63 (by rw [hie1]; exact Int32.le_refl _)))
      obtain ⟨X0, pr, hL2, hfab, hnp0⟩ := r0_rs hR0
      refine lv_aload_n hx hb dL_law_186 rfl (lv_at hl 7 rfl) ?_
      refine lv_iconst (v := 0) hx hb dL_law_187 (by decide) ?_
      have hPc := hP.sub (ws' := (wC a cy T_1 tr_2)) [0, 1, 2, 3, 4, 5, 6, 7, 8, 9, 10, 11] rfl
      have hDc := hD.sub (ws' := (wC a cy T_1 tr_2)) [0, 1, 2, 3, 4, 5, 6, 7, 8, 9, 10, 11] (by decide) rfl
      refine mo_SWz (G := G) (wr := (wC b cy T_4 tr_5 ++ [(q_43, .inl (cy 0, 40, .inl fa)), (q_49, .inl (cy 0, 40, .inl fb))])) (As := [.ref (a 0), .int 0]) (rest := []) ⟨hx, hb, hml, hown, hts⟩ (c_L_rowsAt l hlt G cy a H.size T_1 tr_2 0 hI_3) (vx_cwSW 2 hts gL_law_L_rowsAt rfl rfl rfl (by decide +kernel) ⟨Nat.le_of_ble_eq_true rfl, Nat.le_of_ble_eq_true rfl⟩) hPc hDc hP hK hD hS hA [0, 1, 2, 3, 4, 5, 6, 7, 8, 9, 10, 11] [12, 13, 14, 15, 16, 17, 18, 19, 20, 21, 22, 23, 24, 25] rfl rfl (by decide) (by decide) hN hE rfl hl.1 (Nat.le_of_ble_eq_true rfl) dL_law_188 ⟨by show _ ≤ (20000 : Nat); omega, by show _ ≤ (130000 : Nat); omega⟩ (fun r_188 u_188 H locs hw hP hD hS hz9 => ?_)
      have e9 : (sp_rowsAt T_1 0) = (0, nI (NP pr), T_1) := (q0_rowsAt (v := 0) (by decide)).trans (by rw [hnp0])
      rw [e9] at hP hD
      have hP := hP.sub (ws' := (wC a cy T_1 u_188 ++ wC b cy T_4 tr_5 ++ [(q_43, .inl (cy 0, 40, .inl fa)), (q_49, .inl (cy 0, 40, .inl fb))])) [14, 15, 16, 17, 18, 19, 20, 21, 22, 23, 24, 25, 0, 1, 2, 3, 4, 5, 6, 7, 8, 9, 10, 11, 12, 13] rfl
      have hD := hD.sub (ws' := (wC a cy T_1 u_188 ++ wC b cy T_4 tr_5 ++ [(q_43, .inl (cy 0, 40, .inl fa)), (q_49, .inl (cy 0, 40, .inl fb))])) [14, 15, 16, 17, 18, 19, 20, 21, 22, 23, 24, 25, 0, 1, 2, 3, 4, 5, 6, 7, 8, 9, 10, 11, 12, 13] (by decide) rfl
      have hP : va_P G vwCl (wC a cy T_1 u_188 ++ wC b cy T_4 tr_5 ++ [(q_43, .inl (cy 0, 40, .inl fa)), (q_49, .inl (cy 0, 40, .inl fb))]) H := hP
      have hD : va_D A (wC a cy T_1 u_188 ++ wC b cy T_4 tr_5 ++ [(q_43, .inl (cy 0, 40, .inl fa)), (q_49, .inl (cy 0, 40, .inl fb))]) := hD
      have hz : s.heap.size + 0 ≤ H.size := rz_0 hz hz9
      obtain rfl : r_188 = nI (NP pr) := rf_0 e9 hw
      refine lv_istore (lv' := [(9, .int (nI (NP pr))), (8, .int 1), (7, .ref q_49), (6, .ref q_43), (5, .int (nI (1 + j_18 / 20 % 8))), (4, .int (nI (1 + j_18 % 20))), (3, .int (nI j_18)), (2, .ref (b 0)), (1, .ref (a 0)), (0, .ref b9)]) hx hb dL_law_191 hl (by decide) rfl (fun ls hl => ?_)
      refine lv_iconst (v := 1) hx hb dL_law_193 (by decide) ?_
      refine lv_istore (lv' := [(10, .int 1), (9, .int (nI (NP pr))), (8, .int 1), (7, .ref q_49), (6, .ref q_43), (5, .int (nI (1 + j_18 / 20 % 8))), (4, .int (nI (1 + j_18 % 20))), (3, .int (nI j_18)), (2, .ref (b 0)), (1, .ref (a 0)), (0, .ref b9)]) hx hb dL_law_194 hl (by decide) rfl (fun ls hl => ?_)
      have LOOP196 : ∀ (r : Nat) (i2 : Nat) (T_7 : TS) (tr_8 : Nat → Int32) (hI_9 : Inv T_7) (T_10 : TS) (tr_11 : Nat → Int32) (hI_12 : Inv T_10) (hi : i2 + r = (1 + j_18 / 20 % 8)) (hL2 : L2 X0 pr i2 T_7 T_10) (H : Heap) (locs : List Loc) (ls : Array Slot), va_P G vwCl (wC a cy T_7 tr_8 ++ wC b cy T_10 tr_11 ++ [(q_43, .inl (cy 0, 40, .inl fa)), (q_49, .inl (cy 0, 40, .inl fb))]) H → va_D A (wC a cy T_7 tr_8 ++ wC b cy T_10 tr_11 ++ [(q_43, .inl (cy 0, 40, .inl fa)), (q_49, .inl (cy 0, 40, .inl fb))]) → va_S A s.heap H locs → s.heap.size + 0 ≤ H.size → lv_has ls 16 [(9, .int (nI (NP pr))), (8, .int 1), (7, .ref q_49), (6, .ref q_43), (5, .int (nI (1 + j_18 / 20 % 8))), (4, .int (nI (1 + j_18 % 20))), (3, .int (nI j_18)), (2, .ref (b 0)), (1, .ref (a 0)), (0, .ref b9), (10, .int (nI (i2 + 1)))] → W p l e Rw s m #[Value.ref b9] below meth c H locs (26 + 4 * i1 + 1 + 1150 * i2) (6 * (26 + 4 * i1 + 1 + 1150 * i2) + 390) (wd_Z below #[Value.ref b9] s) (F0 m 196 ls []) := by
        intro r
        induction r with
        | zero =>
          intro i2 T_7 tr_8 hI_9 T_10 tr_11 hI_12 hi hL2 H locs ls hP hD hS hz hl
          have hie2 : i2 = 1 + j_18 / 20 % 8 := by omega
          refine lv_iload hx hb dL_law_196 (lv_at hl 10 rfl) ?_
          refine lv_iload hx hb dL_law_198 (lv_at hl 4 rfl) ?_
          refine lv_icmp_gt (tgt := 472) hx hb dL_law_200 (by decide) (fun c_200 => ?_) (fun c_200 => False.elim (c_200 (by rw [hie2]; exact nI_lt (by omega) (by omega))))
          obtain ⟨K, C, O, hPl, hRT, hHo, hRS⟩ := hL2
          rw [hie2] at hPl hRT hRS
          refine lv_iconst (v := 0) hx hb dL_law_472 (by decide) ?_
          refine lv_istore (lv' := [(10, .int 0), (9, .int (nI (NP pr))), (8, .int 1), (7, .ref q_49), (6, .ref q_43), (5, .int (nI (1 + j_18 / 20 % 8))), (4, .int (nI (1 + j_18 % 20))), (3, .int (nI j_18)), (2, .ref (b 0)), (1, .ref (a 0)), (0, .ref b9)]) hx hb dL_law_473 hl (by decide) rfl (fun ls hl => ?_)
          have LOOP475 : ∀ (r : Nat) (i3 : Nat) (tr_13 : Nat → Int32) (tr_14 : Nat → Int32) (hi : i3 + r = 40) (H : Heap) (locs : List Loc) (ls : Array Slot), va_P G vwCl (wC a cy T_7 tr_13 ++ wC b cy T_10 tr_14 ++ [(q_43, .inl (cy 0, 40, .inl fa)), (q_49, .inl (cy 0, 40, .inl fb))]) H → va_D A (wC a cy T_7 tr_13 ++ wC b cy T_10 tr_14 ++ [(q_43, .inl (cy 0, 40, .inl fa)), (q_49, .inl (cy 0, 40, .inl fb))]) → va_S A s.heap H locs → s.heap.size + 0 ≤ H.size → lv_has ls 16 [(9, .int (nI (NP pr))), (8, .int 1), (7, .ref q_49), (6, .ref q_43), (5, .int (nI (1 + j_18 / 20 % 8))), (4, .int (nI (1 + j_18 % 20))), (3, .int (nI j_18)), (2, .ref (b 0)), (1, .ref (a 0)), (0, .ref b9), (10, .int (nI i3))] → W p l e Rw s m #[Value.ref b9] below meth c H locs (26 + 4 * i1 + 1 + 1150 * i2 + 0 + 6 * i3) (6 * (26 + 4 * i1 + 1 + 1150 * i2 + 0 + 6 * i3) + 390) (wd_Z below #[Value.ref b9] s) (F0 m 475 ls []) := by
            intro r
            induction r with
            | zero =>
              intro i3 tr_13 tr_14 hi H locs ls hP hD hS hz hl
              have hie3 : i3 = 40 := by omega
              refine lv_iload hx hb dL_law_475 (lv_at hl 10 rfl) ?_
              refine lv_bipush (v := 40) hx hb dL_law_477 (by decide) ?_
              refine lv_icmp_ge (tgt := 573) hx hb dL_law_479 (by decide) (fun c_479 => ?_) (fun c_479 => False.elim (c_479 (by rw [hie3]; exact (nI_leI (a := 40) (b := 40) (by decide) (by decide)).mpr (Nat.le_refl 40))))
              refine lv_iload hx hb dL_law_573 (lv_at hl 4 rfl) ?_
              refine lv_istore (lv' := [(10, .int (nI (1 + j_18 / 20 % 8))), (9, .int (nI (NP pr))), (8, .int 1), (7, .ref q_49), (6, .ref q_43), (5, .int (nI (1 + j_18 / 20 % 8))), (4, .int (nI (1 + j_18 % 20))), (3, .int (nI j_18)), (2, .ref (b 0)), (1, .ref (a 0)), (0, .ref b9)]) hx hb dL_law_575 hl (by decide) rfl (fun ls hl => ?_)
              have LOOP577 : ∀ (r : Nat) (i4 : Nat) (T_15 : TS) (tr_16 : Nat → Int32) (hI_17 : Inv T_15) (T_18 : TS) (tr_19 : Nat → Int32) (hI_20 : Inv T_18) (hi : i4 + r = (1 + j_18 / 20 % 8)) (hU : LU K C O X0 pr (1 + j_18 / 20 % 8) r i4 T_15 T_18) (H : Heap) (locs : List Loc) (ls : Array Slot), va_P G vwCl (wC a cy T_15 tr_16 ++ wC b cy T_18 tr_19 ++ [(q_43, .inl (cy 0, 40, .inl fa)), (q_49, .inl (cy 0, 40, .inl fb))]) H → va_D A (wC a cy T_15 tr_16 ++ wC b cy T_18 tr_19 ++ [(q_43, .inl (cy 0, 40, .inl fa)), (q_49, .inl (cy 0, 40, .inl fb))]) → va_S A s.heap H locs → s.heap.size + 0 ≤ H.size → lv_has ls 16 [(9, .int (nI (NP pr))), (8, .int 1), (7, .ref q_49), (6, .ref q_43), (5, .int (nI (1 + j_18 / 20 % 8))), (4, .int (nI (1 + j_18 % 20))), (3, .int (nI j_18)), (2, .ref (b 0)), (1, .ref (a 0)), (0, .ref b9), (10, .int (nI r))] → W p l e Rw s m #[Value.ref b9] below meth c H locs (26 + 4 * i1 + 1 + 1150 * i2 + 0 + 6 * i3 + 0 + 1150 * i4) (6 * (26 + 4 * i1 + 1 + 1150 * i2 + 0 + 6 * i3 + 0 + 1150 * i4) + 390) (wd_Z below #[Value.ref b9] s) (F0 m 577 ls []) := by
                intro r
                induction r with
                | zero =>
                  intro i4 T_15 tr_16 hI_17 T_18 tr_19 hI_20 hi hU H locs ls hP hD hS hz hl
                  refine lv_iload hx hb dL_law_577 (lv_at hl 10 rfl) ?_
                  refine lv_iconst (v := 1) hx hb dL_law_579 (by decide) ?_
                  refine lv_icmp_lt (tgt := 711) hx hb dL_law_580 (by decide) (fun c_580 => ?_) (fun c_580 => False.elim (c_580 (by decide)))
                  obtain ⟨hRT, hHo, hRS⟩ := hU
                  refine lv_iconst (v := 0) hx hb dL_law_711 (by decide) ?_
                  refine lv_istore (lv' := [(10, .int 0), (9, .int (nI (NP pr))), (8, .int 1), (7, .ref q_49), (6, .ref q_43), (5, .int (nI (1 + j_18 / 20 % 8))), (4, .int (nI (1 + j_18 % 20))), (3, .int (nI j_18)), (2, .ref (b 0)), (1, .ref (a 0)), (0, .ref b9)]) hx hb dL_law_712 hl (by decide) rfl (fun ls hl => ?_)
                  have LOOP714 : ∀ (r : Nat) (i5 : Nat) (tr_21 : Nat → Int32) (tr_22 : Nat → Int32) (hi : i5 + r = 40) (H : Heap) (locs : List Loc) (ls : Array Slot), va_P G vwCl (wC a cy T_15 tr_21 ++ wC b cy T_18 tr_22 ++ [(q_43, .inl (cy 0, 40, .inl fa)), (q_49, .inl (cy 0, 40, .inl fb))]) H → va_D A (wC a cy T_15 tr_21 ++ wC b cy T_18 tr_22 ++ [(q_43, .inl (cy 0, 40, .inl fa)), (q_49, .inl (cy 0, 40, .inl fb))]) → va_S A s.heap H locs → s.heap.size + 0 ≤ H.size → lv_has ls 16 [(9, .int (nI (NP pr))), (8, .int 1), (7, .ref q_49), (6, .ref q_43), (5, .int (nI (1 + j_18 / 20 % 8))), (4, .int (nI (1 + j_18 % 20))), (3, .int (nI j_18)), (2, .ref (b 0)), (1, .ref (a 0)), (0, .ref b9), (10, .int (nI i5))] → W p l e Rw s m #[Value.ref b9] below meth c H locs (26 + 4 * i1 + 1 + 1150 * i2 + 0 + 6 * i3 + 0 + 1150 * i4 + 0 + 5 * i5) (6 * (26 + 4 * i1 + 1 + 1150 * i2 + 0 + 6 * i3 + 0 + 1150 * i4 + 0 + 5 * i5) + 390) (wd_Z below #[Value.ref b9] s) (F0 m 714 ls []) := by
                    intro r
                    induction r with
                    | zero =>
                      intro i5 tr_21 tr_22 hi H locs ls hP hD hS hz hl
                      have hie5 : i5 = 40 := by omega
                      refine lv_iload hx hb dL_law_714 (lv_at hl 10 rfl) ?_
                      refine lv_bipush (v := 40) hx hb dL_law_716 (by decide) ?_
                      refine lv_icmp_ge (tgt := 799) hx hb dL_law_718 (by decide) (fun c_718 => ?_) (fun c_718 => False.elim (c_718 (by rw [hie5]; exact (nI_leI (a := 40) (b := 40) (by decide) (by decide)).mpr (Nat.le_refl 40))))
                      refine lv_iload hx hb dL_law_799 (lv_at hl 1 rfl) ?_
                      refine va_forget (fun q hq => hA2 _ (hS.2.2 q hq)) ?_
                      refine W.widen (k := 20000) (n := 130000) (by omega) (by omega) ?_
                      exact wd_ret hx hb hr hlocks dL_law_801
                    | succ r ih =>
                      intro i5 tr_21 tr_22 hi H locs ls hP hD hS hz hl
                      refine lv_iload hx hb dL_law_714 (lv_at hl 10 rfl) ?_
                      refine lv_bipush (v := 40) hx hb dL_law_716 (by decide) ?_
                      refine lv_icmp_ge (tgt := 799) hx hb dL_law_718 (by decide) (fun c_718 => False.elim (absurd ((nI_leI (a := 40) (by decide) (by omega)).mp c_718) (by omega))) (fun c_718 => ?_)
                      refine lv_iload hx hb dL_law_721 (lv_at hl 1 rfl) ?_
                      refine lv_if_eq (tgt := 799) hx hb dL_law_723 (by decide) (fun c_723 => False.elim (by revert c_723; decide)) (fun c_723 => ?_)
                      have J786 : ∀ (tr_23 : Nat → Int32) (tr_24 : Nat → Int32) (H : Heap) (locs : List Loc) (ls : Array Slot), va_P G vwCl (wC a cy T_15 tr_23 ++ wC b cy T_18 tr_24 ++ [(q_43, .inl (cy 0, 40, .inl fa)), (q_49, .inl (cy 0, 40, .inl fb))]) H → va_D A (wC a cy T_15 tr_23 ++ wC b cy T_18 tr_24 ++ [(q_43, .inl (cy 0, 40, .inl fa)), (q_49, .inl (cy 0, 40, .inl fb))]) → va_S A s.heap H locs → s.heap.size + 0 ≤ H.size → lv_has ls 16 [(9, .int (nI (NP pr))), (8, .int 1), (7, .ref q_49), (6, .ref q_43), (5, .int (nI (1 + j_18 / 20 % 8))), (4, .int (nI (1 + j_18 % 20))), (3, .int (nI j_18)), (2, .ref (b 0)), (1, .ref (a 0)), (0, .ref b9), (10, .int (nI i5))] → W p l e Rw s m #[Value.ref b9] below meth c H locs (26 + 4 * i1 + 1 + 1150 * i2 + 0 + 6 * i3 + 0 + 1150 * i4 + 0 + 5 * i5 + 5) (6 * (26 + 4 * i1 + 1 + 1150 * i2 + 0 + 6 * i3 + 0 + 1150 * i4 + 0 + 5 * i5 + 5) + 390) (wd_Z below #[Value.ref b9] s) (F0 m 786 ls []) := by
                        intro tr_23 tr_24 H locs ls hP hD hS hz hl
                        refine lv_iconst (v := 1) hx hb dL_law_786 (by decide) ?_
                        refine lv_goto (tgt := 791) hx hb dL_law_787 (by decide) ?_
                        refine lv_istore (lv' := [(8, .int 1), (9, .int (nI (NP pr))), (7, .ref q_49), (6, .ref q_43), (5, .int (nI (1 + j_18 / 20 % 8))), (4, .int (nI (1 + j_18 % 20))), (3, .int (nI j_18)), (2, .ref (b 0)), (1, .ref (a 0)), (0, .ref b9), (10, .int (nI i5))]) hx hb dL_law_791 hl (by decide) rfl (fun ls hl => ?_)
                        refine lv_iinc (v := nI (i5 + 1)) (lv' := [(10, .int (nI (i5 + 1))), (8, .int 1), (9, .int (nI (NP pr))), (7, .ref q_49), (6, .ref q_43), (5, .int (nI (1 + j_18 / 20 % 8))), (4, .int (nI (1 + j_18 % 20))), (3, .int (nI j_18)), (2, .ref (b 0)), (1, .ref (a 0)), (0, .ref b9)]) hx hb dL_law_793 hl (k := 10) rfl (nI_1 _) (by decide) rfl (fun ls hl => ?_)
                        refine lv_goto (tgt := 714) hx hb dL_law_796 (by decide) ?_
                        refine W.widen (k := 26 + 4 * i1 + 1 + 1150 * i2 + 0 + 6 * i3 + 0 + 1150 * i4 + 0 + 5 * (i5 + 1)) (n := 6 * (26 + 4 * i1 + 1 + 1150 * i2 + 0 + 6 * i3 + 0 + 1150 * i4 + 0 + 5 * (i5 + 1)) + 390) (by omega) (by omega) ?_
                        exact ih (i5 + 1) tr_23 tr_24 (by omega) _ _ _ hP hD hS (by omega) (lv_sub hl [2, 1, 3, 4, 5, 6, 7, 8, 9, 10, 0] rfl)
                      rcases rs_V hRT (j := i5) (by omega) with ⟨hp9, hv9⟩ | ⟨hp9, hv9⟩
                      · refine lv_aload_n hx hb dL_law_726 rfl (lv_at hl 8 rfl) ?_
                        refine lv_iload hx hb dL_law_727 (lv_at hl 10 rfl) ?_
                        have hPc := hP.sub (ws' := (wC a cy T_15 tr_21)) [0, 1, 2, 3, 4, 5, 6, 7, 8, 9, 10, 11] rfl
                        have hDc := hD.sub (ws' := (wC a cy T_15 tr_21)) [0, 1, 2, 3, 4, 5, 6, 7, 8, 9, 10, 11] (by decide) rfl
                        refine mo_SWz (G := G) (wr := (wC b cy T_18 tr_22 ++ [(q_43, .inl (cy 0, 40, .inl fa)), (q_49, .inl (cy 0, 40, .inl fb))])) (As := [.ref (a 0), .int (nI i5)]) (rest := []) ⟨hx, hb, hml, hown, hts⟩ (c_L_version l hlt G cy a H.size T_15 tr_21 (nI i5) hI_17) (vx_cwSW 2 hts gL_law_L_version rfl rfl rfl (by decide +kernel) ⟨Nat.le_of_ble_eq_true rfl, Nat.le_of_ble_eq_true rfl⟩) hPc hDc hP hK hD hS hA [0, 1, 2, 3, 4, 5, 6, 7, 8, 9, 10, 11] [12, 13, 14, 15, 16, 17, 18, 19, 20, 21, 22, 23, 24, 25] rfl rfl (by decide) (by decide) hN hE rfl hl.1 (Nat.le_of_ble_eq_true rfl) dL_law_729 ⟨by show _ ≤ (20000 : Nat); omega, by show _ ≤ (130000 : Nat); omega⟩ (fun r_729 u_729 H locs hw hP hD hS hz9 => ?_)
                        have e9 : (sp_version T_15 (nI i5)) = (0, tV T_15 i5, T_15) := q0_version (by omega)
                        rw [e9] at hP hD
                        have hP := hP.sub (ws' := (wC a cy T_15 u_729 ++ wC b cy T_18 tr_22 ++ [(q_43, .inl (cy 0, 40, .inl fa)), (q_49, .inl (cy 0, 40, .inl fb))])) [14, 15, 16, 17, 18, 19, 20, 21, 22, 23, 24, 25, 0, 1, 2, 3, 4, 5, 6, 7, 8, 9, 10, 11, 12, 13] rfl
                        have hD := hD.sub (ws' := (wC a cy T_15 u_729 ++ wC b cy T_18 tr_22 ++ [(q_43, .inl (cy 0, 40, .inl fa)), (q_49, .inl (cy 0, 40, .inl fb))])) [14, 15, 16, 17, 18, 19, 20, 21, 22, 23, 24, 25, 0, 1, 2, 3, 4, 5, 6, 7, 8, 9, 10, 11, 12, 13] (by decide) rfl
                        have hP : va_P G vwCl (wC a cy T_15 u_729 ++ wC b cy T_18 tr_22 ++ [(q_43, .inl (cy 0, 40, .inl fa)), (q_49, .inl (cy 0, 40, .inl fb))]) H := hP
                        have hD : va_D A (wC a cy T_15 u_729 ++ wC b cy T_18 tr_22 ++ [(q_43, .inl (cy 0, 40, .inl fa)), (q_49, .inl (cy 0, 40, .inl fb))]) := hD
                        have hz : s.heap.size + 0 ≤ H.size := rz_0 hz hz9
                        obtain rfl : r_729 = tV T_15 i5 := rf_0 e9 hw
                        refine lv_if_lt (tgt := 786) hx hb dL_law_732 (by decide) (fun c_732 => False.elim (nI_pos (by decide) (hv9 ▸ c_732))) (fun c_732 => ?_)
                        refine lv_aload_n hx hb dL_law_735 rfl (lv_at hl 8 rfl) ?_
                        refine lv_iload hx hb dL_law_736 (lv_at hl 10 rfl) ?_
                        refine lv_iconst (v := 0) hx hb dL_law_738 (by decide) ?_
                        have hPc := hP.sub (ws' := (wC a cy T_15 u_729)) [0, 1, 2, 3, 4, 5, 6, 7, 8, 9, 10, 11] rfl
                        have hDc := hD.sub (ws' := (wC a cy T_15 u_729)) [0, 1, 2, 3, 4, 5, 6, 7, 8, 9, 10, 11] (by decide) rfl
                        refine mo_SWz (G := G) (wr := (wC b cy T_18 tr_22 ++ [(q_43, .inl (cy 0, 40, .inl fa)), (q_49, .inl (cy 0, 40, .inl fb))])) (As := [.ref (a 0), .int (nI i5), .int 0]) (rest := []) ⟨hx, hb, hml, hown, hts⟩ (c_L_value l hlt G cy a H.size T_15 u_729 (nI i5) 0 hI_17) (vx_cwSW 3 hts gL_law_L_value rfl rfl rfl (by decide +kernel) ⟨Nat.le_of_ble_eq_true rfl, Nat.le_of_ble_eq_true rfl⟩) hPc hDc hP hK hD hS hA [0, 1, 2, 3, 4, 5, 6, 7, 8, 9, 10, 11] [12, 13, 14, 15, 16, 17, 18, 19, 20, 21, 22, 23, 24, 25] rfl rfl (by decide) (by decide) hN hE rfl hl.1 (Nat.le_of_ble_eq_true rfl) dL_law_739 ⟨by show _ ≤ (20000 : Nat); omega, by show _ ≤ (130000 : Nat); omega⟩ (fun r_739 u_739 H locs hw hP hD hS hz9 => ?_)
                        have e9 : (sp_value T_15 (nI i5) 0) = (0, tX T_15 (3 * i5 + 0), T_15) := q0_value (c := 0) (by omega) (by decide) (V_ne (by omega) (rs_Vp hRT (by omega) hp9))
                        rw [e9] at hP hD
                        have hP := hP.sub (ws' := (wC a cy T_15 u_739 ++ wC b cy T_18 tr_22 ++ [(q_43, .inl (cy 0, 40, .inl fa)), (q_49, .inl (cy 0, 40, .inl fb))])) [14, 15, 16, 17, 18, 19, 20, 21, 22, 23, 24, 25, 0, 1, 2, 3, 4, 5, 6, 7, 8, 9, 10, 11, 12, 13] rfl
                        have hD := hD.sub (ws' := (wC a cy T_15 u_739 ++ wC b cy T_18 tr_22 ++ [(q_43, .inl (cy 0, 40, .inl fa)), (q_49, .inl (cy 0, 40, .inl fb))])) [14, 15, 16, 17, 18, 19, 20, 21, 22, 23, 24, 25, 0, 1, 2, 3, 4, 5, 6, 7, 8, 9, 10, 11, 12, 13] (by decide) rfl
                        have hP : va_P G vwCl (wC a cy T_15 u_739 ++ wC b cy T_18 tr_22 ++ [(q_43, .inl (cy 0, 40, .inl fa)), (q_49, .inl (cy 0, 40, .inl fb))]) H := hP
                        have hD : va_D A (wC a cy T_15 u_739 ++ wC b cy T_18 tr_22 ++ [(q_43, .inl (cy 0, 40, .inl fa)), (q_49, .inl (cy 0, 40, .inl fb))]) := hD
                        have hz : s.heap.size + 0 ≤ H.size := rz_0 hz hz9
                        obtain rfl : r_739 = tX T_15 (3 * i5 + 0) := rf_0 e9 hw
                        refine lv_aload hx hb dL_law_742 (lv_at hl 3 rfl) ?_
                        refine lv_iload hx hb dL_law_744 (lv_at hl 10 rfl) ?_
                        refine ml_iald hx hb hK hP 24 0 rfl rfl (i5) rfl (by omega) (Nat.le_of_ble_eq_true rfl) (fa i5) rfl dL_law_746 ?_
                        refine lv_icmp_ne (tgt := 790) hx hb dL_law_747 (by decide) (fun c_747 => False.elim (c_747 ((rs_X hRT (by omega) hp9 (by decide)).trans (hfab i5 (by omega) hp9).1))) (fun c_747 => ?_)
                        refine lv_aload_n hx hb dL_law_750 rfl (lv_at hl 7 rfl) ?_
                        refine lv_iload hx hb dL_law_751 (lv_at hl 10 rfl) ?_
                        refine lv_iconst (v := 1) hx hb dL_law_753 (by decide) ?_
                        have hPc := hP.sub (ws' := (wC b cy T_18 tr_22)) [12, 13, 14, 15, 16, 17, 18, 19, 20, 21, 22, 23] rfl
                        have hDc := hD.sub (ws' := (wC b cy T_18 tr_22)) [12, 13, 14, 15, 16, 17, 18, 19, 20, 21, 22, 23] (by decide) rfl
                        refine mo_SWz (G := G) (wr := (wC a cy T_15 u_739 ++ [(q_43, .inl (cy 0, 40, .inl fa)), (q_49, .inl (cy 0, 40, .inl fb))])) (As := [.ref (b 0), .int (nI i5), .int 1]) (rest := []) ⟨hx, hb, hml, hown, hts⟩ (c_L_value l hlt G cy b H.size T_18 tr_22 (nI i5) 1 hI_20) (vx_cwSW 3 hts gL_law_L_value rfl rfl rfl (by decide +kernel) ⟨Nat.le_of_ble_eq_true rfl, Nat.le_of_ble_eq_true rfl⟩) hPc hDc hP hK hD hS hA [12, 13, 14, 15, 16, 17, 18, 19, 20, 21, 22, 23] [0, 1, 2, 3, 4, 5, 6, 7, 8, 9, 10, 11, 24, 25] rfl rfl (by decide) (by decide) hN hE rfl hl.1 (Nat.le_of_ble_eq_true rfl) dL_law_754 ⟨by show _ ≤ (20000 : Nat); omega, by show _ ≤ (130000 : Nat); omega⟩ (fun r_754 u_754 H locs hw hP hD hS hz9 => ?_)
                        have e9 : (sp_value T_18 (nI i5) 1) = (0, tX T_18 (3 * i5 + 1), T_18) := q0_value (c := 1) (by omega) (by decide) (V_ne (by omega) (rs_Vp hRS (by omega) hp9))
                        rw [e9] at hP hD
                        have hP := hP.sub (ws' := (wC a cy T_15 u_739 ++ wC b cy T_18 u_754 ++ [(q_43, .inl (cy 0, 40, .inl fa)), (q_49, .inl (cy 0, 40, .inl fb))])) [0, 1, 2, 3, 4, 5, 6, 7, 8, 9, 10, 11, 14, 15, 16, 17, 18, 19, 20, 21, 22, 23, 24, 25, 12, 13] rfl
                        have hD := hD.sub (ws' := (wC a cy T_15 u_739 ++ wC b cy T_18 u_754 ++ [(q_43, .inl (cy 0, 40, .inl fa)), (q_49, .inl (cy 0, 40, .inl fb))])) [0, 1, 2, 3, 4, 5, 6, 7, 8, 9, 10, 11, 14, 15, 16, 17, 18, 19, 20, 21, 22, 23, 24, 25, 12, 13] (by decide) rfl
                        have hP : va_P G vwCl (wC a cy T_15 u_739 ++ wC b cy T_18 u_754 ++ [(q_43, .inl (cy 0, 40, .inl fa)), (q_49, .inl (cy 0, 40, .inl fb))]) H := hP
                        have hD : va_D A (wC a cy T_15 u_739 ++ wC b cy T_18 u_754 ++ [(q_43, .inl (cy 0, 40, .inl fa)), (q_49, .inl (cy 0, 40, .inl fb))]) := hD
                        have hz : s.heap.size + 0 ≤ H.size := rz_0 hz hz9
                        obtain rfl : r_754 = tX T_18 (3 * i5 + 1) := rf_0 e9 hw
                        refine lv_aload hx hb dL_law_757 (lv_at hl 2 rfl) ?_
                        refine lv_iload hx hb dL_law_759 (lv_at hl 10 rfl) ?_
                        refine ml_iald hx hb hK hP 25 0 rfl rfl (i5) rfl (by omega) (Nat.le_of_ble_eq_true rfl) (fb i5) rfl dL_law_761 ?_
                        refine lv_icmp_ne (tgt := 790) hx hb dL_law_762 (by decide) (fun c_762 => False.elim (c_762 ((rs_X hRS (by omega) hp9 (by decide)).trans (hfab i5 (by omega) hp9).2.1))) (fun c_762 => ?_)
                        refine lv_aload_n hx hb dL_law_765 rfl (lv_at hl 8 rfl) ?_
                        refine lv_iload hx hb dL_law_766 (lv_at hl 10 rfl) ?_
                        refine lv_iconst (v := 2) hx hb dL_law_768 (by decide) ?_
                        have hPc := hP.sub (ws' := (wC a cy T_15 u_739)) [0, 1, 2, 3, 4, 5, 6, 7, 8, 9, 10, 11] rfl
                        have hDc := hD.sub (ws' := (wC a cy T_15 u_739)) [0, 1, 2, 3, 4, 5, 6, 7, 8, 9, 10, 11] (by decide) rfl
                        refine mo_SWz (G := G) (wr := (wC b cy T_18 u_754 ++ [(q_43, .inl (cy 0, 40, .inl fa)), (q_49, .inl (cy 0, 40, .inl fb))])) (As := [.ref (a 0), .int (nI i5), .int 2]) (rest := []) ⟨hx, hb, hml, hown, hts⟩ (c_L_value l hlt G cy a H.size T_15 u_739 (nI i5) 2 hI_17) (vx_cwSW 3 hts gL_law_L_value rfl rfl rfl (by decide +kernel) ⟨Nat.le_of_ble_eq_true rfl, Nat.le_of_ble_eq_true rfl⟩) hPc hDc hP hK hD hS hA [0, 1, 2, 3, 4, 5, 6, 7, 8, 9, 10, 11] [12, 13, 14, 15, 16, 17, 18, 19, 20, 21, 22, 23, 24, 25] rfl rfl (by decide) (by decide) hN hE rfl hl.1 (Nat.le_of_ble_eq_true rfl) dL_law_769 ⟨by show _ ≤ (20000 : Nat); omega, by show _ ≤ (130000 : Nat); omega⟩ (fun r_769 u_769 H locs hw hP hD hS hz9 => ?_)
                        have e9 : (sp_value T_15 (nI i5) 2) = (0, tX T_15 (3 * i5 + 2), T_15) := q0_value (c := 2) (by omega) (by decide) (V_ne (by omega) (rs_Vp hRT (by omega) hp9))
                        rw [e9] at hP hD
                        have hP := hP.sub (ws' := (wC a cy T_15 u_769 ++ wC b cy T_18 u_754 ++ [(q_43, .inl (cy 0, 40, .inl fa)), (q_49, .inl (cy 0, 40, .inl fb))])) [14, 15, 16, 17, 18, 19, 20, 21, 22, 23, 24, 25, 0, 1, 2, 3, 4, 5, 6, 7, 8, 9, 10, 11, 12, 13] rfl
                        have hD := hD.sub (ws' := (wC a cy T_15 u_769 ++ wC b cy T_18 u_754 ++ [(q_43, .inl (cy 0, 40, .inl fa)), (q_49, .inl (cy 0, 40, .inl fb))])) [14, 15, 16, 17, 18, 19, 20, 21, 22, 23, 24, 25, 0, 1, 2, 3, 4, 5, 6, 7, 8, 9, 10, 11, 12, 13] (by decide) rfl
                        have hP : va_P G vwCl (wC a cy T_15 u_769 ++ wC b cy T_18 u_754 ++ [(q_43, .inl (cy 0, 40, .inl fa)), (q_49, .inl (cy 0, 40, .inl fb))]) H := hP
                        have hD : va_D A (wC a cy T_15 u_769 ++ wC b cy T_18 u_754 ++ [(q_43, .inl (cy 0, 40, .inl fa)), (q_49, .inl (cy 0, 40, .inl fb))]) := hD
                        have hz : s.heap.size + 0 ≤ H.size := rz_0 hz hz9
                        obtain rfl : r_769 = tX T_15 (3 * i5 + 2) := rf_0 e9 hw
                        refine lv_iload hx hb dL_law_772 (lv_at hl 10 rfl) ?_
                        refine lv_icmp_ne (tgt := 790) hx hb dL_law_774 (by decide) (fun c_774 => False.elim (c_774 ((rs_X hRT (by omega) hp9 (by decide)).trans (hfab i5 (by omega) hp9).2.2))) (fun c_774 => ?_)
                        refine lv_aload_n hx hb dL_law_777 rfl (lv_at hl 7 rfl) ?_
                        refine lv_iload hx hb dL_law_778 (lv_at hl 10 rfl) ?_
                        have hPc := hP.sub (ws' := (wC b cy T_18 u_754)) [12, 13, 14, 15, 16, 17, 18, 19, 20, 21, 22, 23] rfl
                        have hDc := hD.sub (ws' := (wC b cy T_18 u_754)) [12, 13, 14, 15, 16, 17, 18, 19, 20, 21, 22, 23] (by decide) rfl
                        refine mo_SWz (G := G) (wr := (wC a cy T_15 u_769 ++ [(q_43, .inl (cy 0, 40, .inl fa)), (q_49, .inl (cy 0, 40, .inl fb))])) (As := [.ref (b 0), .int (nI i5)]) (rest := []) ⟨hx, hb, hml, hown, hts⟩ (c_L_version l hlt G cy b H.size T_18 u_754 (nI i5) hI_20) (vx_cwSW 2 hts gL_law_L_version rfl rfl rfl (by decide +kernel) ⟨Nat.le_of_ble_eq_true rfl, Nat.le_of_ble_eq_true rfl⟩) hPc hDc hP hK hD hS hA [12, 13, 14, 15, 16, 17, 18, 19, 20, 21, 22, 23] [0, 1, 2, 3, 4, 5, 6, 7, 8, 9, 10, 11, 24, 25] rfl rfl (by decide) (by decide) hN hE rfl hl.1 (Nat.le_of_ble_eq_true rfl) dL_law_780 ⟨by show _ ≤ (20000 : Nat); omega, by show _ ≤ (130000 : Nat); omega⟩ (fun r_780 u_780 H locs hw hP hD hS hz9 => ?_)
                        have e9 : (sp_version T_18 (nI i5)) = (0, tV T_18 i5, T_18) := q0_version (by omega)
                        rw [e9] at hP hD
                        have hP := hP.sub (ws' := (wC a cy T_15 u_769 ++ wC b cy T_18 u_780 ++ [(q_43, .inl (cy 0, 40, .inl fa)), (q_49, .inl (cy 0, 40, .inl fb))])) [0, 1, 2, 3, 4, 5, 6, 7, 8, 9, 10, 11, 14, 15, 16, 17, 18, 19, 20, 21, 22, 23, 24, 25, 12, 13] rfl
                        have hD := hD.sub (ws' := (wC a cy T_15 u_769 ++ wC b cy T_18 u_780 ++ [(q_43, .inl (cy 0, 40, .inl fa)), (q_49, .inl (cy 0, 40, .inl fb))])) [0, 1, 2, 3, 4, 5, 6, 7, 8, 9, 10, 11, 14, 15, 16, 17, 18, 19, 20, 21, 22, 23, 24, 25, 12, 13] (by decide) rfl
                        have hP : va_P G vwCl (wC a cy T_15 u_769 ++ wC b cy T_18 u_780 ++ [(q_43, .inl (cy 0, 40, .inl fa)), (q_49, .inl (cy 0, 40, .inl fb))]) H := hP
                        have hD : va_D A (wC a cy T_15 u_769 ++ wC b cy T_18 u_780 ++ [(q_43, .inl (cy 0, 40, .inl fa)), (q_49, .inl (cy 0, 40, .inl fb))]) := hD
                        have hz : s.heap.size + 0 ≤ H.size := rz_0 hz hz9
                        obtain rfl : r_780 = tV T_18 i5 := rf_0 e9 hw
                        refine lv_if_ne (tgt := 790) hx hb dL_law_783 (by decide) (fun c_783 => False.elim (c_783 (rs_Vp hRS (by omega) hp9))) (fun c_783 => ?_)
                        refine W.widen (k := 26 + 4 * i1 + 1 + 1150 * i2 + 0 + 6 * i3 + 0 + 1150 * i4 + 0 + 5 * i5 + 5) (n := 6 * (26 + 4 * i1 + 1 + 1150 * i2 + 0 + 6 * i3 + 0 + 1150 * i4 + 0 + 5 * i5 + 5) + 390) (by omega) (by omega) ?_
                        exact J786 u_769 u_780 _ _ _ hP hD hS (by omega) (lv_sub hl [0, 1, 2, 3, 4, 5, 6, 7, 8, 9, 10] rfl)
                      · refine lv_aload_n hx hb dL_law_726 rfl (lv_at hl 8 rfl) ?_
                        refine lv_iload hx hb dL_law_727 (lv_at hl 10 rfl) ?_
                        have hPc := hP.sub (ws' := (wC a cy T_15 tr_21)) [0, 1, 2, 3, 4, 5, 6, 7, 8, 9, 10, 11] rfl
                        have hDc := hD.sub (ws' := (wC a cy T_15 tr_21)) [0, 1, 2, 3, 4, 5, 6, 7, 8, 9, 10, 11] (by decide) rfl
                        refine mo_SWz (G := G) (wr := (wC b cy T_18 tr_22 ++ [(q_43, .inl (cy 0, 40, .inl fa)), (q_49, .inl (cy 0, 40, .inl fb))])) (As := [.ref (a 0), .int (nI i5)]) (rest := []) ⟨hx, hb, hml, hown, hts⟩ (c_L_version l hlt G cy a H.size T_15 tr_21 (nI i5) hI_17) (vx_cwSW 2 hts gL_law_L_version rfl rfl rfl (by decide +kernel) ⟨Nat.le_of_ble_eq_true rfl, Nat.le_of_ble_eq_true rfl⟩) hPc hDc hP hK hD hS hA [0, 1, 2, 3, 4, 5, 6, 7, 8, 9, 10, 11] [12, 13, 14, 15, 16, 17, 18, 19, 20, 21, 22, 23, 24, 25] rfl rfl (by decide) (by decide) hN hE rfl hl.1 (Nat.le_of_ble_eq_true rfl) dL_law_729 ⟨by show _ ≤ (20000 : Nat); omega, by show _ ≤ (130000 : Nat); omega⟩ (fun r_729 u_729 H locs hw hP hD hS hz9 => ?_)
                        have e9 : (sp_version T_15 (nI i5)) = (0, tV T_15 i5, T_15) := q0_version (by omega)
                        rw [e9] at hP hD
                        have hP := hP.sub (ws' := (wC a cy T_15 u_729 ++ wC b cy T_18 tr_22 ++ [(q_43, .inl (cy 0, 40, .inl fa)), (q_49, .inl (cy 0, 40, .inl fb))])) [14, 15, 16, 17, 18, 19, 20, 21, 22, 23, 24, 25, 0, 1, 2, 3, 4, 5, 6, 7, 8, 9, 10, 11, 12, 13] rfl
                        have hD := hD.sub (ws' := (wC a cy T_15 u_729 ++ wC b cy T_18 tr_22 ++ [(q_43, .inl (cy 0, 40, .inl fa)), (q_49, .inl (cy 0, 40, .inl fb))])) [14, 15, 16, 17, 18, 19, 20, 21, 22, 23, 24, 25, 0, 1, 2, 3, 4, 5, 6, 7, 8, 9, 10, 11, 12, 13] (by decide) rfl
                        have hP : va_P G vwCl (wC a cy T_15 u_729 ++ wC b cy T_18 tr_22 ++ [(q_43, .inl (cy 0, 40, .inl fa)), (q_49, .inl (cy 0, 40, .inl fb))]) H := hP
                        have hD : va_D A (wC a cy T_15 u_729 ++ wC b cy T_18 tr_22 ++ [(q_43, .inl (cy 0, 40, .inl fa)), (q_49, .inl (cy 0, 40, .inl fb))]) := hD
                        have hz : s.heap.size + 0 ≤ H.size := rz_0 hz hz9
                        obtain rfl : r_729 = tV T_15 i5 := rf_0 e9 hw
                        refine lv_if_lt (tgt := 786) hx hb dL_law_732 (by decide) (fun c_732 => ?_) (fun c_732 => False.elim (c_732 (by rw [hv9]; decide)))
                        refine W.widen (k := 26 + 4 * i1 + 1 + 1150 * i2 + 0 + 6 * i3 + 0 + 1150 * i4 + 0 + 5 * i5 + 5) (n := 6 * (26 + 4 * i1 + 1 + 1150 * i2 + 0 + 6 * i3 + 0 + 1150 * i4 + 0 + 5 * i5 + 5) + 390) (by omega) (by omega) ?_
                        exact J786 u_729 tr_22 _ _ _ hP hD hS (by omega) (lv_sub hl [0, 1, 2, 3, 4, 5, 6, 7, 8, 9, 10] rfl)
                  refine W.widen (k := 26 + 4 * i1 + 1 + 1150 * i2 + 0 + 6 * i3 + 0 + 1150 * i4 + 0 + 5 * 0) (n := 6 * (26 + 4 * i1 + 1 + 1150 * i2 + 0 + 6 * i3 + 0 + 1150 * i4 + 0 + 5 * 0) + 390) (by omega) (by omega) ?_
                  exact LOOP714 40 0 tr_16 tr_19 (by omega) _ _ _ hP hD hS (by omega) (lv_sub hl [1, 2, 3, 4, 5, 6, 7, 8, 9, 10, 0] rfl)
                | succ r ih =>
                  intro i4 T_15 tr_16 hI_17 T_18 tr_19 hI_20 hi hU H locs ls hP hD hS hz hl
                  refine lv_iload hx hb dL_law_577 (lv_at hl 10 rfl) ?_
                  refine lv_iconst (v := 1) hx hb dL_law_579 (by decide) ?_
                  refine lv_icmp_lt (tgt := 711) hx hb dL_law_580 (by decide) (fun c_580 => False.elim (absurd ((nI_ltI (b := 1) (by omega) (by decide)).mp c_580) (by omega))) (fun c_580 => ?_)
                  refine lv_iload hx hb dL_law_583 (lv_at hl 1 rfl) ?_
                  refine lv_if_eq (tgt := 711) hx hb dL_law_585 (by decide) (fun c_585 => False.elim (by revert c_585; decide)) (fun c_585 => ?_)
                  obtain ⟨hRT, hHo, hRS⟩ := hU
                  refine lv_aload_n hx hb dL_law_588 rfl (lv_at hl 9 rfl) ?_
                  refine lv_bipush (v := 30) hx hb dL_law_589 (by decide) ?_
                  refine lv_iload hx hb dL_law_591 (lv_at hl 10 rfl) ?_
                  refine lv_iadd hx hb dL_law_593 ?_
                  refine ml_eqi (nI (30 + (r + 1))) (nI_add 30 (r + 1)) ?_
                  refine va_calli (va_runS (As := [.ref b9, .int (nI (30 + (r + 1)))]) (rest := []) ⟨hx, hb, hml, hown, hts⟩ (c_L_drawn l b9 L xs (30 + (r + 1)) H.size hL31 (by omega)) (va_cwS 2 hts gL_law_L_drawn rfl rfl rfl (by decide +kernel) ⟨Nat.le_of_ble_eq_true rfl, Nat.le_of_ble_eq_true rfl⟩) ⟨ml_blindD, fun U hU hW => ⟨rfl, by rw [hU], by rw [hU]; exact va_X.moved hW.alike (hX.kept (hS.2.1 b9 hbl hbA)), Nat.lt_of_lt_of_le hbl hS.1⟩⟩ rfl rfl hl.1 rfl (lv_room (Nat.le_of_ble_eq_true rfl)) dL_law_594 ⟨by show _ ≤ (20000 : Nat); omega, by show _ ≤ (130000 : Nat); omega⟩) hS (fun q h h9 => absurd h (Nat.not_lt.mpr h9)) (fun q h => hA q (Nat.le_trans hS.1 h)) (fun r_594 u_594 t H1 locs ht hvm hw hB hz1 hk1 hS => ?_)
                  have hP : va_P G vwCl (wC a cy T_15 tr_16 ++ wC b cy T_18 tr_19 ++ [(q_43, .inl (cy 0, 40, .inl fa)), (q_49, .inl (cy 0, 40, .inl fb))]) H1 := hP.kept (fun k q hk => hk1 q.1 ((hP k q hk).lt) (Nat.not_le.mpr ((hP k q hk).lt)))
                  have hz : s.heap.size + 0 ≤ H1.size := Nat.le_trans hz hz1
                  generalize H1 = H at hP hS hz ⊢
                  obtain ⟨⟨j_594, hj_594, rfl⟩, hr_594⟩ := hw
                  refine lv_istore (lv' := [(11, .int (nI j_594)), (9, .int (nI (NP pr))), (8, .int 1), (7, .ref q_49), (6, .ref q_43), (5, .int (nI (1 + j_18 / 20 % 8))), (4, .int (nI (1 + j_18 % 20))), (3, .int (nI j_18)), (2, .ref (b 0)), (1, .ref (a 0)), (0, .ref b9), (10, .int (nI (r + 1)))]) hx hb dL_law_597 hl (by decide) rfl (fun ls hl => ?_)
                  refine lv_aload_n hx hb dL_law_599 rfl (lv_at hl 8 rfl) ?_
                  refine lv_iload hx hb dL_law_600 (lv_at hl 0 rfl) ?_
                  have hPc := hP.sub (ws' := (wC b cy T_18 tr_19)) [12, 13, 14, 15, 16, 17, 18, 19, 20, 21, 22, 23] rfl
                  have hDc := hD.sub (ws' := (wC b cy T_18 tr_19)) [12, 13, 14, 15, 16, 17, 18, 19, 20, 21, 22, 23] (by decide) rfl
                  refine mo_Sz (G := G) (wr := (wC a cy T_15 tr_16 ++ [(q_43, .inl (cy 0, 40, .inl fa)), (q_49, .inl (cy 0, 40, .inl fb))])) (As := [.ref (b 0), .int (nI j_594)]) (rest := []) ⟨hx, hb, hml, hown, hts⟩ (c_L_ledgerWorker2 l hlt G cy b H.size T_18 tr_19 j_594 _ hj_594 (by omega) hRS.2.2.2.1 hI_20) (va_cwS 2 hts gL_law_L_ledgerWorker rfl rfl rfl (by decide +kernel) ⟨Nat.le_of_ble_eq_true rfl, Nat.le_of_ble_eq_true rfl⟩) hPc hDc hP hK hD hS hA [12, 13, 14, 15, 16, 17, 18, 19, 20, 21, 22, 23] [0, 1, 2, 3, 4, 5, 6, 7, 8, 9, 10, 11, 24, 25] rfl rfl (by decide) (by decide) hN hE rfl hl.1 (Nat.le_of_ble_eq_true rfl) dL_law_602 ⟨by show _ ≤ (20000 : Nat); omega, by show _ ≤ (130000 : Nat); omega⟩ (fun r_602 u_602 H locs hw hP hD hS hz9 => ?_)
                  obtain ⟨Se, tre⟩ := u_602
                  obtain ⟨w, y9, hw4, rfl, hSe, hLKe, hhe, hIe⟩ := hw
                  have hSe : Se = ule (uho T_18 (nI w)) y9 := hSe
                  have hRe := rs_ul hRS (x := nI w) (y := y9) (by rw [← hSe]; exact hLKe)
                  rw [← hSe] at hRe
                  have hP := hP.sub (ws' := (wC a cy T_15 tr_16 ++ wC b cy Se tre ++ [(q_43, .inl (cy 0, 40, .inl fa)), (q_49, .inl (cy 0, 40, .inl fb))])) [0, 1, 2, 3, 4, 5, 6, 7, 8, 9, 10, 11, 14, 15, 16, 17, 18, 19, 20, 21, 22, 23, 24, 25, 12, 13] rfl
                  have hD := hD.sub (ws' := (wC a cy T_15 tr_16 ++ wC b cy Se tre ++ [(q_43, .inl (cy 0, 40, .inl fa)), (q_49, .inl (cy 0, 40, .inl fb))])) [0, 1, 2, 3, 4, 5, 6, 7, 8, 9, 10, 11, 14, 15, 16, 17, 18, 19, 20, 21, 22, 23, 24, 25, 12, 13] (by decide) rfl
                  have hP : va_P G vwCl (wC a cy T_15 tr_16 ++ wC b cy Se tre ++ [(q_43, .inl (cy 0, 40, .inl fa)), (q_49, .inl (cy 0, 40, .inl fb))]) H := hP
                  have hD : va_D A (wC a cy T_15 tr_16 ++ wC b cy Se tre ++ [(q_43, .inl (cy 0, 40, .inl fa)), (q_49, .inl (cy 0, 40, .inl fb))]) := hD
                  have hz : s.heap.size + 0 ≤ H.size := Nat.le_trans hz (Nat.le_trans (Nat.le_add_right _ _) hz9)
                  refine lv_istore (lv' := [(12, .int (nI w)), (11, .int (nI j_594)), (9, .int (nI (NP pr))), (8, .int 1), (7, .ref q_49), (6, .ref q_43), (5, .int (nI (1 + j_18 / 20 % 8))), (4, .int (nI (1 + j_18 % 20))), (3, .int (nI j_18)), (2, .ref (b 0)), (1, .ref (a 0)), (0, .ref b9), (10, .int (nI (r + 1)))]) hx hb dL_law_605 hl (by decide) rfl (fun ls hl => ?_)
                  refine lv_aload_n hx hb dL_law_607 rfl (lv_at hl 10 rfl) ?_
                  refine lv_iconst (v := 0) hx hb dL_law_608 (by decide) ?_
                  refine lv_bipush (v := 9) hx hb dL_law_609 (by decide) ?_
                  obtain ⟨Tb, vb, ec, hvp, hRc, hhc, hHc⟩ := rs_take hRT (by decide) (w := 0) (e := 9) (by decide) (by decide) (one_free hHo)
                  have hPc := hP.sub (ws' := (wC a cy T_15 tr_16)) [0, 1, 2, 3, 4, 5, 6, 7, 8, 9, 10, 11] rfl
                  have hDc := hD.sub (ws' := (wC a cy T_15 tr_16)) [0, 1, 2, 3, 4, 5, 6, 7, 8, 9, 10, 11] (by decide) rfl
                  refine mo_SWz (G := G) (wr := (wC b cy Se tre ++ [(q_43, .inl (cy 0, 40, .inl fa)), (q_49, .inl (cy 0, 40, .inl fb))])) (As := [.ref (a 0), .int 0, .int 9]) (rest := []) ⟨hx, hb, hml, hown, hts⟩ (c_L_takes l hlt G cy a H.size T_15 tr_16 0 9 hI_17) (vx_cwSW 3 hts gL_law_L_takes rfl rfl rfl (by decide +kernel) ⟨Nat.le_of_ble_eq_true rfl, Nat.le_of_ble_eq_true rfl⟩) hPc hDc hP hK hD hS hA [0, 1, 2, 3, 4, 5, 6, 7, 8, 9, 10, 11] [12, 13, 14, 15, 16, 17, 18, 19, 20, 21, 22, 23, 24, 25] rfl rfl (by decide) (by decide) hN hE rfl hl.1 (Nat.le_of_ble_eq_true rfl) dL_law_611 ⟨by show _ ≤ (20000 : Nat); omega, by show _ ≤ (130000 : Nat); omega⟩ (fun r_611 u_611 H locs hw hP hD hS hz9 => ?_)
                  have e9 : (sp_take T_15 0 9) = (0, vb, Tb) := ec
                  rw [e9] at hP hD
                  have hP := hP.sub (ws' := (wC a cy Tb u_611 ++ wC b cy Se tre ++ [(q_43, .inl (cy 0, 40, .inl fa)), (q_49, .inl (cy 0, 40, .inl fb))])) [14, 15, 16, 17, 18, 19, 20, 21, 22, 23, 24, 25, 0, 1, 2, 3, 4, 5, 6, 7, 8, 9, 10, 11, 12, 13] rfl
                  have hD := hD.sub (ws' := (wC a cy Tb u_611 ++ wC b cy Se tre ++ [(q_43, .inl (cy 0, 40, .inl fa)), (q_49, .inl (cy 0, 40, .inl fb))])) [14, 15, 16, 17, 18, 19, 20, 21, 22, 23, 24, 25, 0, 1, 2, 3, 4, 5, 6, 7, 8, 9, 10, 11, 12, 13] (by decide) rfl
                  have hP : va_P G vwCl (wC a cy Tb u_611 ++ wC b cy Se tre ++ [(q_43, .inl (cy 0, 40, .inl fa)), (q_49, .inl (cy 0, 40, .inl fb))]) H := hP
                  have hD : va_D A (wC a cy Tb u_611 ++ wC b cy Se tre ++ [(q_43, .inl (cy 0, 40, .inl fa)), (q_49, .inl (cy 0, 40, .inl fb))]) := hD
                  have hz : s.heap.size + 0 ≤ H.size := rz_0 hz hz9
                  have hr9 : r_611 = vb := rf_0 e9 hw
                  refine lv_if_le (tgt := 702) hx hb dL_law_614 (by decide) (fun c_614 => False.elim (hvp (hr9 ▸ c_614))) (fun c_614 => ?_)
                  refine lv_aload_n hx hb dL_law_617 rfl (lv_at hl 10 rfl) ?_
                  refine lv_iconst (v := 0) hx hb dL_law_618 (by decide) ?_
                  obtain ⟨Tc, ed, hRAt, htc1, htc2, htc3⟩ := rs_undo hRc (w := 0) (by decide) hhc
                  have hPc := hP.sub (ws' := (wC a cy Tb u_611)) [0, 1, 2, 3, 4, 5, 6, 7, 8, 9, 10, 11] rfl
                  have hDc := hD.sub (ws' := (wC a cy Tb u_611)) [0, 1, 2, 3, 4, 5, 6, 7, 8, 9, 10, 11] (by decide) rfl
                  refine mo_SWz (G := G) (wr := (wC b cy Se tre ++ [(q_43, .inl (cy 0, 40, .inl fa)), (q_49, .inl (cy 0, 40, .inl fb))])) (As := [.ref (a 0), .int 0]) (rest := []) ⟨hx, hb, hml, hown, hts⟩ (c_L_undoes l hlt G cy a H.size Tb u_611 0 hRc.1) (vx_cwSW 2 hts gL_law_L_undoes rfl rfl rfl (by decide +kernel) ⟨Nat.le_of_ble_eq_true rfl, Nat.le_of_ble_eq_true rfl⟩) hPc hDc hP hK hD hS hA [0, 1, 2, 3, 4, 5, 6, 7, 8, 9, 10, 11] [12, 13, 14, 15, 16, 17, 18, 19, 20, 21, 22, 23, 24, 25] rfl rfl (by decide) (by decide) hN hE rfl hl.1 (Nat.le_of_ble_eq_true rfl) dL_law_619 ⟨by show _ ≤ (20000 : Nat); omega, by show _ ≤ (130000 : Nat); omega⟩ (fun r_619 u_619 H locs hw hP hD hS hz9 => ?_)
                  have e9 : (sp_undo Tb 0) = (0, nI (r + 1), Tc) := ed
                  rw [e9] at hP hD
                  have hP := hP.sub (ws' := (wC a cy Tc u_619 ++ wC b cy Se tre ++ [(q_43, .inl (cy 0, 40, .inl fa)), (q_49, .inl (cy 0, 40, .inl fb))])) [14, 15, 16, 17, 18, 19, 20, 21, 22, 23, 24, 25, 0, 1, 2, 3, 4, 5, 6, 7, 8, 9, 10, 11, 12, 13] rfl
                  have hD := hD.sub (ws' := (wC a cy Tc u_619 ++ wC b cy Se tre ++ [(q_43, .inl (cy 0, 40, .inl fa)), (q_49, .inl (cy 0, 40, .inl fb))])) [14, 15, 16, 17, 18, 19, 20, 21, 22, 23, 24, 25, 0, 1, 2, 3, 4, 5, 6, 7, 8, 9, 10, 11, 12, 13] (by decide) rfl
                  have hP : va_P G vwCl (wC a cy Tc u_619 ++ wC b cy Se tre ++ [(q_43, .inl (cy 0, 40, .inl fa)), (q_49, .inl (cy 0, 40, .inl fb))]) H := hP
                  have hD : va_D A (wC a cy Tc u_619 ++ wC b cy Se tre ++ [(q_43, .inl (cy 0, 40, .inl fa)), (q_49, .inl (cy 0, 40, .inl fb))]) := hD
                  have hz : s.heap.size + 0 ≤ H.size := rz_0 hz hz9
                  obtain rfl : r_619 = nI (r + 1) := rf_0 e9 hw
                  refine lv_iload hx hb dL_law_622 (lv_at hl 12 rfl) ?_
                  refine lv_icmp_ne (tgt := 702) hx hb dL_law_624 (by decide) (fun c_624 => False.elim (c_624 rfl)) (fun c_624 => ?_)
                  refine lv_aload_n hx hb dL_law_627 rfl (lv_at hl 10 rfl) ?_
                  refine lv_iconst (v := 0) hx hb dL_law_628 (by decide) ?_
                  refine lv_bipush (v := 40) hx hb dL_law_629 (by decide) ?_
                  refine lv_iconst (v := 0) hx hb dL_law_631 (by decide) ?_
                  obtain ⟨Td, ee, hRd, hHd⟩ := rs_step hPl hRAt (by decide)
                  have hgd : gl Tc (tac Tc = 3) = r := by unfold gl; rw [htc1, cif_t rfl, htc2]
                  rw [hgd] at hRd
                  have hPc := hP.sub (ws' := (wC a cy Tc u_619)) [0, 1, 2, 3, 4, 5, 6, 7, 8, 9, 10, 11] rfl
                  have hDc := hD.sub (ws' := (wC a cy Tc u_619)) [0, 1, 2, 3, 4, 5, 6, 7, 8, 9, 10, 11] (by decide) rfl
                  refine mo_SWz (G := G) (wr := (wC b cy Se tre ++ [(q_43, .inl (cy 0, 40, .inl fa)), (q_49, .inl (cy 0, 40, .inl fb))])) (As := [.ref (a 0), .int 0, .int 40, .int 0]) (rest := []) ⟨hx, hb, hml, hown, hts⟩ (c_L_steps l hlt G cy a H.size Tc u_619 0 40 0 hRAt.1) (vx_cwSW 4 hts gL_law_L_steps rfl rfl rfl (by decide +kernel) ⟨Nat.le_of_ble_eq_true rfl, Nat.le_of_ble_eq_true rfl⟩) hPc hDc hP hK hD hS hA [0, 1, 2, 3, 4, 5, 6, 7, 8, 9, 10, 11] [12, 13, 14, 15, 16, 17, 18, 19, 20, 21, 22, 23, 24, 25] rfl rfl (by decide) (by decide) hN hE rfl hl.1 (Nat.le_of_ble_eq_true rfl) dL_law_632 ⟨by show _ ≤ (20000 : Nat); omega, by show _ ≤ (130000 : Nat); omega⟩ (fun r_632 u_632 H locs hw hP hD hS hz9 => ?_)
                  have e9 : (sp_step Tc 0 40 0) = (0, nI (NP pr), Td) := ee
                  rw [e9] at hP hD
                  have hP := hP.sub (ws' := (wC a cy Td u_632 ++ wC b cy Se tre ++ [(q_43, .inl (cy 0, 40, .inl fa)), (q_49, .inl (cy 0, 40, .inl fb))])) [14, 15, 16, 17, 18, 19, 20, 21, 22, 23, 24, 25, 0, 1, 2, 3, 4, 5, 6, 7, 8, 9, 10, 11, 12, 13] rfl
                  have hD := hD.sub (ws' := (wC a cy Td u_632 ++ wC b cy Se tre ++ [(q_43, .inl (cy 0, 40, .inl fa)), (q_49, .inl (cy 0, 40, .inl fb))])) [14, 15, 16, 17, 18, 19, 20, 21, 22, 23, 24, 25, 0, 1, 2, 3, 4, 5, 6, 7, 8, 9, 10, 11, 12, 13] (by decide) rfl
                  have hP : va_P G vwCl (wC a cy Td u_632 ++ wC b cy Se tre ++ [(q_43, .inl (cy 0, 40, .inl fa)), (q_49, .inl (cy 0, 40, .inl fb))]) H := hP
                  have hD : va_D A (wC a cy Td u_632 ++ wC b cy Se tre ++ [(q_43, .inl (cy 0, 40, .inl fa)), (q_49, .inl (cy 0, 40, .inl fb))]) := hD
                  have hz : s.heap.size + 0 ≤ H.size := rz_0 hz hz9
                  obtain rfl : r_632 = nI (NP pr) := rf_0 e9 hw
                  refine lv_iload hx hb dL_law_635 (lv_at hl 2 rfl) ?_
                  refine lv_icmp_ne (tgt := 702) hx hb dL_law_637 (by decide) (fun c_637 => False.elim (c_637 rfl)) (fun c_637 => ?_)
                  refine lv_aload_n hx hb dL_law_640 rfl (lv_at hl 9 rfl) ?_
                  refine lv_iload hx hb dL_law_641 (lv_at hl 0 rfl) ?_
                  obtain ⟨Sf, ef, hRAs, hsf1, hsf2, hsf3⟩ := rs_undo hRe hw4 hhe
                  have hPc := hP.sub (ws' := (wC b cy Se tre)) [12, 13, 14, 15, 16, 17, 18, 19, 20, 21, 22, 23] rfl
                  have hDc := hD.sub (ws' := (wC b cy Se tre)) [12, 13, 14, 15, 16, 17, 18, 19, 20, 21, 22, 23] (by decide) rfl
                  refine mo_SWz (G := G) (wr := (wC a cy Td u_632 ++ [(q_43, .inl (cy 0, 40, .inl fa)), (q_49, .inl (cy 0, 40, .inl fb))])) (As := [.ref (b 0), .int (nI w)]) (rest := []) ⟨hx, hb, hml, hown, hts⟩ (c_L_undoes l hlt G cy b H.size Se tre (nI w) hRe.1) (vx_cwSW 2 hts gL_law_L_undoes rfl rfl rfl (by decide +kernel) ⟨Nat.le_of_ble_eq_true rfl, Nat.le_of_ble_eq_true rfl⟩) hPc hDc hP hK hD hS hA [12, 13, 14, 15, 16, 17, 18, 19, 20, 21, 22, 23] [0, 1, 2, 3, 4, 5, 6, 7, 8, 9, 10, 11, 24, 25] rfl rfl (by decide) (by decide) hN hE rfl hl.1 (Nat.le_of_ble_eq_true rfl) dL_law_643 ⟨by show _ ≤ (20000 : Nat); omega, by show _ ≤ (130000 : Nat); omega⟩ (fun r_643 u_643 H locs hw hP hD hS hz9 => ?_)
                  have e9 : (sp_undo Se (nI w)) = (0, nI (r + 1), Sf) := ef
                  rw [e9] at hP hD
                  have hP := hP.sub (ws' := (wC a cy Td u_632 ++ wC b cy Sf u_643 ++ [(q_43, .inl (cy 0, 40, .inl fa)), (q_49, .inl (cy 0, 40, .inl fb))])) [0, 1, 2, 3, 4, 5, 6, 7, 8, 9, 10, 11, 14, 15, 16, 17, 18, 19, 20, 21, 22, 23, 24, 25, 12, 13] rfl
                  have hD := hD.sub (ws' := (wC a cy Td u_632 ++ wC b cy Sf u_643 ++ [(q_43, .inl (cy 0, 40, .inl fa)), (q_49, .inl (cy 0, 40, .inl fb))])) [0, 1, 2, 3, 4, 5, 6, 7, 8, 9, 10, 11, 14, 15, 16, 17, 18, 19, 20, 21, 22, 23, 24, 25, 12, 13] (by decide) rfl
                  have hP : va_P G vwCl (wC a cy Td u_632 ++ wC b cy Sf u_643 ++ [(q_43, .inl (cy 0, 40, .inl fa)), (q_49, .inl (cy 0, 40, .inl fb))]) H := hP
                  have hD : va_D A (wC a cy Td u_632 ++ wC b cy Sf u_643 ++ [(q_43, .inl (cy 0, 40, .inl fa)), (q_49, .inl (cy 0, 40, .inl fb))]) := hD
                  have hz : s.heap.size + 0 ≤ H.size := rz_0 hz hz9
                  obtain rfl : r_643 = nI (r + 1) := rf_0 e9 hw
                  refine lv_iload hx hb dL_law_646 (lv_at hl 12 rfl) ?_
                  refine lv_icmp_ne (tgt := 702) hx hb dL_law_648 (by decide) (fun c_648 => False.elim (c_648 rfl)) (fun c_648 => ?_)
                  refine lv_aload_n hx hb dL_law_651 rfl (lv_at hl 9 rfl) ?_
                  refine lv_iload hx hb dL_law_652 (lv_at hl 1 rfl) ?_
                  refine lv_sipush (v := 499) hx hb dL_law_654 (by decide) ?_
                  refine lv_irem hx hb dL_law_657 (by decide) ?_
                  refine ml_eqi (nI (j_594 % 499)) (pk_rem (a := j_594) (d := 499) (by omega) (by decide) (by decide)) ?_
                  have hPc := hP.sub (ws' := (wC b cy Sf u_643)) [12, 13, 14, 15, 16, 17, 18, 19, 20, 21, 22, 23] rfl
                  have hDc := hD.sub (ws' := (wC b cy Sf u_643)) [12, 13, 14, 15, 16, 17, 18, 19, 20, 21, 22, 23] (by decide) rfl
                  refine mo_Sz (G := G) (wr := (wC a cy Td u_632 ++ [(q_43, .inl (cy 0, 40, .inl fa)), (q_49, .inl (cy 0, 40, .inl fb))])) (As := [.ref (b 0), .int (nI (j_594 % 499))]) (rest := []) ⟨hx, hb, hml, hown, hts⟩ (c_L_refuses l hlt G cy b H.size Sf u_643 (j_594 % 499) d499 hRAs.1) (va_cwS 2 hts gL_law_L_refuses rfl rfl rfl (by decide +kernel) ⟨Nat.le_of_ble_eq_true rfl, Nat.le_of_ble_eq_true rfl⟩) hPc hDc hP hK hD hS hA [12, 13, 14, 15, 16, 17, 18, 19, 20, 21, 22, 23] [0, 1, 2, 3, 4, 5, 6, 7, 8, 9, 10, 11, 24, 25] rfl rfl (by decide) (by decide) hN hE rfl hl.1 (Nat.le_of_ble_eq_true rfl) dL_law_658 ⟨by show _ ≤ (20000 : Nat); omega, by show _ ≤ (130000 : Nat); omega⟩ (fun r_658 u_658 H locs hw hP hD hS hz9 => ?_)
                  have hP := hP.sub (ws' := (wC a cy Td u_632 ++ wC b cy Sf u_658 ++ [(q_43, .inl (cy 0, 40, .inl fa)), (q_49, .inl (cy 0, 40, .inl fb))])) [0, 1, 2, 3, 4, 5, 6, 7, 8, 9, 10, 11, 14, 15, 16, 17, 18, 19, 20, 21, 22, 23, 24, 25, 12, 13] rfl
                  have hD := hD.sub (ws' := (wC a cy Td u_632 ++ wC b cy Sf u_658 ++ [(q_43, .inl (cy 0, 40, .inl fa)), (q_49, .inl (cy 0, 40, .inl fb))])) [0, 1, 2, 3, 4, 5, 6, 7, 8, 9, 10, 11, 14, 15, 16, 17, 18, 19, 20, 21, 22, 23, 24, 25, 12, 13] (by decide) rfl
                  have hP : va_P G vwCl (wC a cy Td u_632 ++ wC b cy Sf u_658 ++ [(q_43, .inl (cy 0, 40, .inl fa)), (q_49, .inl (cy 0, 40, .inl fb))]) H := hP
                  have hD : va_D A (wC a cy Td u_632 ++ wC b cy Sf u_658 ++ [(q_43, .inl (cy 0, 40, .inl fa)), (q_49, .inl (cy 0, 40, .inl fb))]) := hD
                  have hz : s.heap.size + (0 + 37) ≤ H.size := by have h9 : _ + 37 ≤ H.size := hz9; omega
                  obtain rfl : r_658 = 1 := hw
                  refine lv_if_eq (tgt := 702) hx hb dL_law_661 (by decide) (fun c_661 => False.elim (by revert c_661; decide)) (fun c_661 => ?_)
                  refine lv_aload_n hx hb dL_law_664 rfl (lv_at hl 9 rfl) ?_
                  refine lv_iload hx hb dL_law_665 (lv_at hl 1 rfl) ?_
                  refine lv_bipush (v := 7) hx hb dL_law_667 (by decide) ?_
                  refine lv_idiv hx hb dL_law_669 (by decide) ?_
                  refine ml_eqi (nI (j_594 / 7)) (pk_div (a := j_594) (d := 7) (by omega) (by decide) (by decide)) ?_
                  refine lv_iconst (v := 1) hx hb dL_law_670 (by decide) ?_
                  have hPc := hP.sub (ws' := (wC b cy Sf u_658)) [12, 13, 14, 15, 16, 17, 18, 19, 20, 21, 22, 23] rfl
                  have hDc := hD.sub (ws' := (wC b cy Sf u_658)) [12, 13, 14, 15, 16, 17, 18, 19, 20, 21, 22, 23] (by decide) rfl
                  refine mo_Sz (G := G) (wr := (wC a cy Td u_632 ++ [(q_43, .inl (cy 0, 40, .inl fa)), (q_49, .inl (cy 0, 40, .inl fb))])) (As := [.ref (b 0), .int (nI (j_594 / 7)), .int 1]) (rest := []) ⟨hx, hb, hml, hown, hts⟩ (c_L_comesD l hlt G cy b H.size Sf u_658 (nI (j_594 / 7)) _ _ _ _ _ _ _ hPl (by omega) hsf1 (ra_ci hRAs)) (va_cwS 3 hts gL_law_L_comes rfl rfl rfl (by decide +kernel) ⟨Nat.le_of_ble_eq_true rfl, Nat.le_of_ble_eq_true rfl⟩) hPc hDc hP hK hD hS hA [12, 13, 14, 15, 16, 17, 18, 19, 20, 21, 22, 23] [0, 1, 2, 3, 4, 5, 6, 7, 8, 9, 10, 11, 24, 25] rfl rfl (by decide) (by decide) hN hE rfl hl.1 (Nat.le_of_ble_eq_true rfl) dL_law_671 ⟨by show _ ≤ (20000 : Nat); omega, by show _ ≤ (130000 : Nat); omega⟩ (fun r_671 u_671 H locs hw hP hD hS hz9 => ?_)
                  obtain ⟨Sg, trg⟩ := u_671
                  obtain ⟨rfl, i9, v9, hi9, hCI9, ha9⟩ := hw
                  have hRg := rs_ci (T := Sg) hRAs hCI9 hi9 ha9
                  have hgg : gl Sf (tac Sf = 3) = r := by unfold gl; rw [hsf1, cif_t rfl, hsf2]
                  rw [hgg] at hRg
                  have hP := hP.sub (ws' := (wC a cy Td u_632 ++ wC b cy Sg trg ++ [(q_43, .inl (cy 0, 40, .inl fa)), (q_49, .inl (cy 0, 40, .inl fb))])) [0, 1, 2, 3, 4, 5, 6, 7, 8, 9, 10, 11, 14, 15, 16, 17, 18, 19, 20, 21, 22, 23, 24, 25, 12, 13] rfl
                  have hD := hD.sub (ws' := (wC a cy Td u_632 ++ wC b cy Sg trg ++ [(q_43, .inl (cy 0, 40, .inl fa)), (q_49, .inl (cy 0, 40, .inl fb))])) [0, 1, 2, 3, 4, 5, 6, 7, 8, 9, 10, 11, 14, 15, 16, 17, 18, 19, 20, 21, 22, 23, 24, 25, 12, 13] (by decide) rfl
                  have hP : va_P G vwCl (wC a cy Td u_632 ++ wC b cy Sg trg ++ [(q_43, .inl (cy 0, 40, .inl fa)), (q_49, .inl (cy 0, 40, .inl fb))]) H := hP
                  have hD : va_D A (wC a cy Td u_632 ++ wC b cy Sg trg ++ [(q_43, .inl (cy 0, 40, .inl fa)), (q_49, .inl (cy 0, 40, .inl fb))]) := hD
                  have hz : s.heap.size + (0 + 37) ≤ H.size := Nat.le_trans hz (Nat.le_trans (Nat.le_add_right _ _) hz9)
                  refine lv_iload hx hb dL_law_674 (lv_at hl 2 rfl) ?_
                  refine lv_icmp_ne (tgt := 702) hx hb dL_law_676 (by decide) (fun c_676 => False.elim (c_676 rfl)) (fun c_676 => ?_)
                  refine lv_aload_n hx hb dL_law_679 rfl (lv_at hl 10 rfl) ?_
                  refine lv_aload_n hx hb dL_law_680 rfl (lv_at hl 9 rfl) ?_
                  have hPc := hP.sub (ws' := (wC a cy Td u_632 ++ wC b cy Sg trg)) [0, 1, 2, 3, 4, 5, 6, 7, 8, 9, 10, 11, 12, 13, 14, 15, 16, 17, 18, 19, 20, 21, 22, 23] rfl
                  have hDc := hD.sub (ws' := (wC a cy Td u_632 ++ wC b cy Sg trg)) [0, 1, 2, 3, 4, 5, 6, 7, 8, 9, 10, 11, 12, 13, 14, 15, 16, 17, 18, 19, 20, 21, 22, 23] (by decide) rfl
                  refine mo_Sz (G := G) (wr := [(q_43, .inl (cy 0, 40, .inl fa)), (q_49, .inl (cy 0, 40, .inl fb))]) (As := [.ref (a 0), .ref (b 0)]) (rest := []) ⟨hx, hb, hml, hown, hts⟩ (c_L_alike2 l hlt G cy a b H.size Td u_632 Sg trg (rs_al hRd hRg) hRd.1 hRg.1) (va_cwS 2 hts gL_law_L_alike rfl rfl rfl (by decide +kernel) ⟨Nat.le_of_ble_eq_true rfl, Nat.le_of_ble_eq_true rfl⟩) hPc hDc hP hK hD hS hA [0, 1, 2, 3, 4, 5, 6, 7, 8, 9, 10, 11, 12, 13, 14, 15, 16, 17, 18, 19, 20, 21, 22, 23] [24, 25] rfl rfl (by decide) (by decide) hN hE rfl hl.1 (Nat.le_of_ble_eq_true rfl) dL_law_681 ⟨by show _ ≤ (20000 : Nat); omega, by show _ ≤ (130000 : Nat); omega⟩ (fun r_681 u_681 H locs hw hP hD hS hz9 => ?_)
                  obtain ⟨tr_681, ts_681⟩ := u_681
                  have hP := hP.sub (ws' := (wC a cy Td tr_681 ++ wC b cy Sg ts_681 ++ [(q_43, .inl (cy 0, 40, .inl fa)), (q_49, .inl (cy 0, 40, .inl fb))])) [2, 3, 4, 5, 6, 7, 8, 9, 10, 11, 12, 13, 14, 15, 16, 17, 18, 19, 20, 21, 22, 23, 24, 25, 0, 1] rfl
                  have hD := hD.sub (ws' := (wC a cy Td tr_681 ++ wC b cy Sg ts_681 ++ [(q_43, .inl (cy 0, 40, .inl fa)), (q_49, .inl (cy 0, 40, .inl fb))])) [2, 3, 4, 5, 6, 7, 8, 9, 10, 11, 12, 13, 14, 15, 16, 17, 18, 19, 20, 21, 22, 23, 24, 25, 0, 1] (by decide) rfl
                  have hP : va_P G vwCl (wC a cy Td tr_681 ++ wC b cy Sg ts_681 ++ [(q_43, .inl (cy 0, 40, .inl fa)), (q_49, .inl (cy 0, 40, .inl fb))]) H := hP
                  have hD : va_D A (wC a cy Td tr_681 ++ wC b cy Sg ts_681 ++ [(q_43, .inl (cy 0, 40, .inl fa)), (q_49, .inl (cy 0, 40, .inl fb))]) := hD
                  have hz : s.heap.size + (0 + 37) ≤ H.size := Nat.le_trans hz (Nat.le_trans (Nat.le_add_right _ _) hz9)
                  obtain rfl : r_681 = 1 := hw
                  refine lv_if_eq (tgt := 702) hx hb dL_law_684 (by decide) (fun c_684 => False.elim (by revert c_684; decide)) (fun c_684 => ?_)
                  refine lv_aload_n hx hb dL_law_687 rfl (lv_at hl 10 rfl) ?_
                  have hPc := hP.sub (ws' := (wC a cy Td tr_681)) [0, 1, 2, 3, 4, 5, 6, 7, 8, 9, 10, 11] rfl
                  have hDc := hD.sub (ws' := (wC a cy Td tr_681)) [0, 1, 2, 3, 4, 5, 6, 7, 8, 9, 10, 11] (by decide) rfl
                  refine mo_Ve (G := G) (wr := (wC b cy Sg ts_681 ++ [(q_43, .inl (cy 0, 40, .inl fa)), (q_49, .inl (cy 0, 40, .inl fb))])) (As := []) (rest := []) ⟨hx, hb, hml, hown, hts⟩ (c_X3_level l G cy a H.size Td tr_681 hRd.1) (cwV 0 hts gL_law_X3_level rfl rfl rfl (by decide +kernel) ⟨Nat.le_of_ble_eq_true rfl, Nat.le_of_ble_eq_true rfl⟩) (va_recv hK hPc (ci := 3) (q0 := 0) rfl rfl) hPc hDc hP hK hD hS hA [0, 1, 2, 3, 4, 5, 6, 7, 8, 9, 10, 11] [12, 13, 14, 15, 16, 17, 18, 19, 20, 21, 22, 23, 24, 25] rfl rfl (by decide) (by decide) hN rfl hl.1 (Nat.le_of_ble_eq_true rfl) dL_law_688 ⟨by show _ ≤ (20000 : Nat); omega, by show _ ≤ (130000 : Nat); omega⟩ (fun r_688 u_688 H locs hw hP hD hS hz9 => ?_)
                  have hP := hP.sub (ws' := (wC a cy Td tr_681 ++ wC b cy Sg ts_681 ++ [(q_43, .inl (cy 0, 40, .inl fa)), (q_49, .inl (cy 0, 40, .inl fb))])) [14, 15, 16, 17, 18, 19, 20, 21, 22, 23, 24, 25, 0, 1, 2, 3, 4, 5, 6, 7, 8, 9, 10, 11, 12, 13] rfl
                  have hD := hD.sub (ws' := (wC a cy Td tr_681 ++ wC b cy Sg ts_681 ++ [(q_43, .inl (cy 0, 40, .inl fa)), (q_49, .inl (cy 0, 40, .inl fb))])) [14, 15, 16, 17, 18, 19, 20, 21, 22, 23, 24, 25, 0, 1, 2, 3, 4, 5, 6, 7, 8, 9, 10, 11, 12, 13] (by decide) rfl
                  have hP : va_P G vwCl (wC a cy Td tr_681 ++ wC b cy Sg ts_681 ++ [(q_43, .inl (cy 0, 40, .inl fa)), (q_49, .inl (cy 0, 40, .inl fb))]) H := hP
                  have hD : va_D A (wC a cy Td tr_681 ++ wC b cy Sg ts_681 ++ [(q_43, .inl (cy 0, 40, .inl fa)), (q_49, .inl (cy 0, 40, .inl fb))]) := hD
                  have hz : s.heap.size + (0 + 37) ≤ H.size := Nat.le_trans hz hz9
                  obtain rfl : r_688 = nI (tlv Td) := hw
                  refine lv_iload hx hb dL_law_691 (lv_at hl 12 rfl) ?_
                  refine lv_iconst (v := 1) hx hb dL_law_693 (by decide) ?_
                  refine lv_isub hx hb dL_law_694 ?_
                  refine ml_eqi (nI r) (nI_pred r) ?_
                  refine lv_icmp_ne (tgt := 702) hx hb dL_law_695 (by decide) (fun c_695 => False.elim (c_695 (by rw [hRd.2.2.2.2.2.1]))) (fun c_695 => ?_)
                  refine lv_iconst (v := 1) hx hb dL_law_698 (by decide) ?_
                  refine lv_goto (tgt := 703) hx hb dL_law_699 (by decide) ?_
                  refine lv_istore (lv' := [(8, .int 1), (12, .int (nI w)), (11, .int (nI j_594)), (9, .int (nI (NP pr))), (7, .ref q_49), (6, .ref q_43), (5, .int (nI (1 + j_18 / 20 % 8))), (4, .int (nI (1 + j_18 % 20))), (3, .int (nI j_18)), (2, .ref (b 0)), (1, .ref (a 0)), (0, .ref b9), (10, .int (nI (r + 1)))]) hx hb dL_law_703 hl (by decide) rfl (fun ls hl => ?_)
                  refine lv_iinc (v := nI r) (lv' := [(10, .int (nI r)), (8, .int 1), (12, .int (nI w)), (11, .int (nI j_594)), (9, .int (nI (NP pr))), (7, .ref q_49), (6, .ref q_43), (5, .int (nI (1 + j_18 / 20 % 8))), (4, .int (nI (1 + j_18 % 20))), (3, .int (nI j_18)), (2, .ref (b 0)), (1, .ref (a 0)), (0, .ref b9)]) hx hb dL_law_705 hl (k := 12) rfl (pk_m1 r) (by decide) rfl (fun ls hl => ?_)
                  refine lv_goto (tgt := 577) hx hb dL_law_708 (by decide) ?_
                  refine W.widen (k := 26 + 4 * i1 + 1 + 1150 * i2 + 0 + 6 * i3 + 0 + 1150 * (i4 + 1)) (n := 6 * (26 + 4 * i1 + 1 + 1150 * i2 + 0 + 6 * i3 + 0 + 1150 * (i4 + 1)) + 390) (by omega) (by omega) ?_
                  exact ih (i4 + 1) Td tr_681 hRd.1 Sg ts_681 hRg.1 (by omega) (⟨hRd, Or.inr (hHd.trans (htc3.trans hHc)), rs_le hRg (by omega)⟩) _ _ _ hP hD hS (by omega) (lv_sub hl [4, 1, 5, 6, 7, 8, 9, 10, 11, 12, 0] rfl)
              refine W.widen (k := 26 + 4 * i1 + 1 + 1150 * i2 + 0 + 6 * i3 + 0 + 1150 * 0) (n := 6 * (26 + 4 * i1 + 1 + 1150 * i2 + 0 + 6 * i3 + 0 + 1150 * 0) + 390) (by omega) (by omega) ?_
              exact LOOP577 (1 + j_18 / 20 % 8) 0 T_7 tr_13 hI_9 T_10 tr_14 hI_12 (by omega) (⟨hRT, hHo, rs_le hRS (by omega)⟩) _ _ _ hP hD hS (by omega) (lv_sub hl [1, 2, 3, 4, 5, 6, 7, 8, 9, 10, 0] rfl)
            | succ r ih =>
              intro i3 tr_13 tr_14 hi H locs ls hP hD hS hz hl
              refine lv_iload hx hb dL_law_475 (lv_at hl 10 rfl) ?_
              refine lv_bipush (v := 40) hx hb dL_law_477 (by decide) ?_
              refine lv_icmp_ge (tgt := 573) hx hb dL_law_479 (by decide) (fun c_479 => False.elim (absurd ((nI_leI (a := 40) (by decide) (by omega)).mp c_479) (by omega))) (fun c_479 => ?_)
              refine lv_iload hx hb dL_law_482 (lv_at hl 1 rfl) ?_
              refine lv_if_eq (tgt := 573) hx hb dL_law_484 (by decide) (fun c_484 => False.elim (by revert c_484; decide)) (fun c_484 => ?_)
              have J560 : ∀ (tr_25 : Nat → Int32) (tr_26 : Nat → Int32) (H : Heap) (locs : List Loc) (ls : Array Slot), va_P G vwCl (wC a cy T_7 tr_25 ++ wC b cy T_10 tr_26 ++ [(q_43, .inl (cy 0, 40, .inl fa)), (q_49, .inl (cy 0, 40, .inl fb))]) H → va_D A (wC a cy T_7 tr_25 ++ wC b cy T_10 tr_26 ++ [(q_43, .inl (cy 0, 40, .inl fa)), (q_49, .inl (cy 0, 40, .inl fb))]) → va_S A s.heap H locs → s.heap.size + 0 ≤ H.size → lv_has ls 16 [(9, .int (nI (NP pr))), (8, .int 1), (7, .ref q_49), (6, .ref q_43), (5, .int (nI (1 + j_18 / 20 % 8))), (4, .int (nI (1 + j_18 % 20))), (3, .int (nI j_18)), (2, .ref (b 0)), (1, .ref (a 0)), (0, .ref b9), (10, .int (nI i3))] → W p l e Rw s m #[Value.ref b9] below meth c H locs (26 + 4 * i1 + 1 + 1150 * i2 + 0 + 6 * i3 + 6) (6 * (26 + 4 * i1 + 1 + 1150 * i2 + 0 + 6 * i3 + 6) + 390) (wd_Z below #[Value.ref b9] s) (F0 m 560 ls []) := by
                intro tr_25 tr_26 H locs ls hP hD hS hz hl
                refine lv_iconst (v := 1) hx hb dL_law_560 (by decide) ?_
                refine lv_goto (tgt := 565) hx hb dL_law_561 (by decide) ?_
                refine lv_istore (lv' := [(8, .int 1), (9, .int (nI (NP pr))), (7, .ref q_49), (6, .ref q_43), (5, .int (nI (1 + j_18 / 20 % 8))), (4, .int (nI (1 + j_18 % 20))), (3, .int (nI j_18)), (2, .ref (b 0)), (1, .ref (a 0)), (0, .ref b9), (10, .int (nI i3))]) hx hb dL_law_565 hl (by decide) rfl (fun ls hl => ?_)
                refine lv_iinc (v := nI (i3 + 1)) (lv' := [(10, .int (nI (i3 + 1))), (8, .int 1), (9, .int (nI (NP pr))), (7, .ref q_49), (6, .ref q_43), (5, .int (nI (1 + j_18 / 20 % 8))), (4, .int (nI (1 + j_18 % 20))), (3, .int (nI j_18)), (2, .ref (b 0)), (1, .ref (a 0)), (0, .ref b9)]) hx hb dL_law_567 hl (k := 10) rfl (nI_1 _) (by decide) rfl (fun ls hl => ?_)
                refine lv_goto (tgt := 475) hx hb dL_law_570 (by decide) ?_
                refine W.widen (k := 26 + 4 * i1 + 1 + 1150 * i2 + 0 + 6 * (i3 + 1)) (n := 6 * (26 + 4 * i1 + 1 + 1150 * i2 + 0 + 6 * (i3 + 1)) + 390) (by omega) (by omega) ?_
                exact ih (i3 + 1) tr_25 tr_26 (by omega) _ _ _ hP hD hS (by omega) (lv_sub hl [2, 1, 3, 4, 5, 6, 7, 8, 9, 10, 0] rfl)
              rcases rs_V hRT (j := i3) (by omega) with ⟨hp9, hv9⟩ | ⟨hp9, hv9⟩
              · refine lv_aload_n hx hb dL_law_487 rfl (lv_at hl 8 rfl) ?_
                refine lv_iload hx hb dL_law_488 (lv_at hl 10 rfl) ?_
                have hPc := hP.sub (ws' := (wC a cy T_7 tr_13)) [0, 1, 2, 3, 4, 5, 6, 7, 8, 9, 10, 11] rfl
                have hDc := hD.sub (ws' := (wC a cy T_7 tr_13)) [0, 1, 2, 3, 4, 5, 6, 7, 8, 9, 10, 11] (by decide) rfl
                refine mo_SWz (G := G) (wr := (wC b cy T_10 tr_14 ++ [(q_43, .inl (cy 0, 40, .inl fa)), (q_49, .inl (cy 0, 40, .inl fb))])) (As := [.ref (a 0), .int (nI i3)]) (rest := []) ⟨hx, hb, hml, hown, hts⟩ (c_L_version l hlt G cy a H.size T_7 tr_13 (nI i3) hI_9) (vx_cwSW 2 hts gL_law_L_version rfl rfl rfl (by decide +kernel) ⟨Nat.le_of_ble_eq_true rfl, Nat.le_of_ble_eq_true rfl⟩) hPc hDc hP hK hD hS hA [0, 1, 2, 3, 4, 5, 6, 7, 8, 9, 10, 11] [12, 13, 14, 15, 16, 17, 18, 19, 20, 21, 22, 23, 24, 25] rfl rfl (by decide) (by decide) hN hE rfl hl.1 (Nat.le_of_ble_eq_true rfl) dL_law_490 ⟨by show _ ≤ (20000 : Nat); omega, by show _ ≤ (130000 : Nat); omega⟩ (fun r_490 u_490 H locs hw hP hD hS hz9 => ?_)
                have e9 : (sp_version T_7 (nI i3)) = (0, tV T_7 i3, T_7) := q0_version (by omega)
                rw [e9] at hP hD
                have hP := hP.sub (ws' := (wC a cy T_7 u_490 ++ wC b cy T_10 tr_14 ++ [(q_43, .inl (cy 0, 40, .inl fa)), (q_49, .inl (cy 0, 40, .inl fb))])) [14, 15, 16, 17, 18, 19, 20, 21, 22, 23, 24, 25, 0, 1, 2, 3, 4, 5, 6, 7, 8, 9, 10, 11, 12, 13] rfl
                have hD := hD.sub (ws' := (wC a cy T_7 u_490 ++ wC b cy T_10 tr_14 ++ [(q_43, .inl (cy 0, 40, .inl fa)), (q_49, .inl (cy 0, 40, .inl fb))])) [14, 15, 16, 17, 18, 19, 20, 21, 22, 23, 24, 25, 0, 1, 2, 3, 4, 5, 6, 7, 8, 9, 10, 11, 12, 13] (by decide) rfl
                have hP : va_P G vwCl (wC a cy T_7 u_490 ++ wC b cy T_10 tr_14 ++ [(q_43, .inl (cy 0, 40, .inl fa)), (q_49, .inl (cy 0, 40, .inl fb))]) H := hP
                have hD : va_D A (wC a cy T_7 u_490 ++ wC b cy T_10 tr_14 ++ [(q_43, .inl (cy 0, 40, .inl fa)), (q_49, .inl (cy 0, 40, .inl fb))]) := hD
                have hz : s.heap.size + 0 ≤ H.size := rz_0 hz hz9
                obtain rfl : r_490 = tV T_7 i3 := rf_0 e9 hw
                refine lv_if_lt (tgt := 560) hx hb dL_law_493 (by decide) (fun c_493 => False.elim (nI_pos (by omega) (hv9 ▸ c_493))) (fun c_493 => ?_)
                refine lv_aload_n hx hb dL_law_496 rfl (lv_at hl 8 rfl) ?_
                refine lv_iload hx hb dL_law_497 (lv_at hl 10 rfl) ?_
                refine lv_iconst (v := 0) hx hb dL_law_499 (by decide) ?_
                refine lv_iconst (v := 0) hx hb dL_law_500 (by decide) ?_
                have hPc := hP.sub (ws' := (wC a cy T_7 u_490)) [0, 1, 2, 3, 4, 5, 6, 7, 8, 9, 10, 11] rfl
                have hDc := hD.sub (ws' := (wC a cy T_7 u_490)) [0, 1, 2, 3, 4, 5, 6, 7, 8, 9, 10, 11] (by decide) rfl
                refine mo_SWz (G := G) (wr := (wC b cy T_10 tr_14 ++ [(q_43, .inl (cy 0, 40, .inl fa)), (q_49, .inl (cy 0, 40, .inl fb))])) (As := [.ref (a 0), .int (nI i3), .int 0, .int 0]) (rest := []) ⟨hx, hb, hml, hown, hts⟩ (c_L_valueAt l hlt G cy a H.size T_7 u_490 (nI i3) 0 0 hI_9) (vx_cwSW 4 hts gL_law_L_valueAt rfl rfl rfl (by decide +kernel) ⟨Nat.le_of_ble_eq_true rfl, Nat.le_of_ble_eq_true rfl⟩) hPc hDc hP hK hD hS hA [0, 1, 2, 3, 4, 5, 6, 7, 8, 9, 10, 11] [12, 13, 14, 15, 16, 17, 18, 19, 20, 21, 22, 23, 24, 25] rfl rfl (by decide) (by decide) hN hE rfl hl.1 (Nat.le_of_ble_eq_true rfl) dL_law_501 ⟨by show _ ≤ (20000 : Nat); omega, by show _ ≤ (130000 : Nat); omega⟩ (fun r_501 u_501 H locs hw hP hD hS hz9 => ?_)
                have e9 : (sp_valueAt T_7 (nI i3) 0 0) = (0, hist K C O X0 0 (3 * i3 + 0), T_7) := rs_valueAt hPl hRT (by omega) hp9 (c := 0) (v := 0) (by decide) (Nat.zero_le _)
                rw [e9] at hP hD
                have hP := hP.sub (ws' := (wC a cy T_7 u_501 ++ wC b cy T_10 tr_14 ++ [(q_43, .inl (cy 0, 40, .inl fa)), (q_49, .inl (cy 0, 40, .inl fb))])) [14, 15, 16, 17, 18, 19, 20, 21, 22, 23, 24, 25, 0, 1, 2, 3, 4, 5, 6, 7, 8, 9, 10, 11, 12, 13] rfl
                have hD := hD.sub (ws' := (wC a cy T_7 u_501 ++ wC b cy T_10 tr_14 ++ [(q_43, .inl (cy 0, 40, .inl fa)), (q_49, .inl (cy 0, 40, .inl fb))])) [14, 15, 16, 17, 18, 19, 20, 21, 22, 23, 24, 25, 0, 1, 2, 3, 4, 5, 6, 7, 8, 9, 10, 11, 12, 13] (by decide) rfl
                have hP : va_P G vwCl (wC a cy T_7 u_501 ++ wC b cy T_10 tr_14 ++ [(q_43, .inl (cy 0, 40, .inl fa)), (q_49, .inl (cy 0, 40, .inl fb))]) H := hP
                have hD : va_D A (wC a cy T_7 u_501 ++ wC b cy T_10 tr_14 ++ [(q_43, .inl (cy 0, 40, .inl fa)), (q_49, .inl (cy 0, 40, .inl fb))]) := hD
                have hz : s.heap.size + 0 ≤ H.size := rz_0 hz hz9
                obtain rfl : r_501 = hist K C O X0 0 (3 * i3 + 0) := rf_0 e9 hw
                refine lv_aload hx hb dL_law_504 (lv_at hl 3 rfl) ?_
                refine lv_iload hx hb dL_law_506 (lv_at hl 10 rfl) ?_
                refine ml_iald hx hb hK hP 24 0 rfl rfl (i3) rfl (by omega) (Nat.le_of_ble_eq_true rfl) (fa i3) rfl dL_law_508 ?_
                refine lv_icmp_ne (tgt := 564) hx hb dL_law_509 (by decide) (fun c_509 => False.elim (c_509 (hfab i3 (by omega) hp9).1)) (fun c_509 => ?_)
                refine lv_aload_n hx hb dL_law_512 rfl (lv_at hl 7 rfl) ?_
                refine lv_iload hx hb dL_law_513 (lv_at hl 10 rfl) ?_
                refine lv_iconst (v := 1) hx hb dL_law_515 (by decide) ?_
                refine lv_iconst (v := 0) hx hb dL_law_516 (by decide) ?_
                have hPc := hP.sub (ws' := (wC b cy T_10 tr_14)) [12, 13, 14, 15, 16, 17, 18, 19, 20, 21, 22, 23] rfl
                have hDc := hD.sub (ws' := (wC b cy T_10 tr_14)) [12, 13, 14, 15, 16, 17, 18, 19, 20, 21, 22, 23] (by decide) rfl
                refine mo_SWz (G := G) (wr := (wC a cy T_7 u_501 ++ [(q_43, .inl (cy 0, 40, .inl fa)), (q_49, .inl (cy 0, 40, .inl fb))])) (As := [.ref (b 0), .int (nI i3), .int 1, .int 0]) (rest := []) ⟨hx, hb, hml, hown, hts⟩ (c_L_valueAt l hlt G cy b H.size T_10 tr_14 (nI i3) 1 0 hI_12) (vx_cwSW 4 hts gL_law_L_valueAt rfl rfl rfl (by decide +kernel) ⟨Nat.le_of_ble_eq_true rfl, Nat.le_of_ble_eq_true rfl⟩) hPc hDc hP hK hD hS hA [12, 13, 14, 15, 16, 17, 18, 19, 20, 21, 22, 23] [0, 1, 2, 3, 4, 5, 6, 7, 8, 9, 10, 11, 24, 25] rfl rfl (by decide) (by decide) hN hE rfl hl.1 (Nat.le_of_ble_eq_true rfl) dL_law_517 ⟨by show _ ≤ (20000 : Nat); omega, by show _ ≤ (130000 : Nat); omega⟩ (fun r_517 u_517 H locs hw hP hD hS hz9 => ?_)
                have e9 : (sp_valueAt T_10 (nI i3) 1 0) = (0, hist K C O X0 0 (3 * i3 + 1), T_10) := rs_valueAt hPl hRS (by omega) hp9 (c := 1) (v := 0) (by decide) (Nat.zero_le _)
                rw [e9] at hP hD
                have hP := hP.sub (ws' := (wC a cy T_7 u_501 ++ wC b cy T_10 u_517 ++ [(q_43, .inl (cy 0, 40, .inl fa)), (q_49, .inl (cy 0, 40, .inl fb))])) [0, 1, 2, 3, 4, 5, 6, 7, 8, 9, 10, 11, 14, 15, 16, 17, 18, 19, 20, 21, 22, 23, 24, 25, 12, 13] rfl
                have hD := hD.sub (ws' := (wC a cy T_7 u_501 ++ wC b cy T_10 u_517 ++ [(q_43, .inl (cy 0, 40, .inl fa)), (q_49, .inl (cy 0, 40, .inl fb))])) [0, 1, 2, 3, 4, 5, 6, 7, 8, 9, 10, 11, 14, 15, 16, 17, 18, 19, 20, 21, 22, 23, 24, 25, 12, 13] (by decide) rfl
                have hP : va_P G vwCl (wC a cy T_7 u_501 ++ wC b cy T_10 u_517 ++ [(q_43, .inl (cy 0, 40, .inl fa)), (q_49, .inl (cy 0, 40, .inl fb))]) H := hP
                have hD : va_D A (wC a cy T_7 u_501 ++ wC b cy T_10 u_517 ++ [(q_43, .inl (cy 0, 40, .inl fa)), (q_49, .inl (cy 0, 40, .inl fb))]) := hD
                have hz : s.heap.size + 0 ≤ H.size := rz_0 hz hz9
                obtain rfl : r_517 = hist K C O X0 0 (3 * i3 + 1) := rf_0 e9 hw
                refine lv_aload hx hb dL_law_520 (lv_at hl 2 rfl) ?_
                refine lv_iload hx hb dL_law_522 (lv_at hl 10 rfl) ?_
                refine ml_iald hx hb hK hP 25 0 rfl rfl (i3) rfl (by omega) (Nat.le_of_ble_eq_true rfl) (fb i3) rfl dL_law_524 ?_
                refine lv_icmp_ne (tgt := 564) hx hb dL_law_525 (by decide) (fun c_525 => False.elim (c_525 (hfab i3 (by omega) hp9).2.1)) (fun c_525 => ?_)
                refine lv_aload_n hx hb dL_law_528 rfl (lv_at hl 8 rfl) ?_
                refine lv_iload hx hb dL_law_529 (lv_at hl 10 rfl) ?_
                refine lv_iconst (v := 2) hx hb dL_law_531 (by decide) ?_
                refine lv_iconst (v := 0) hx hb dL_law_532 (by decide) ?_
                have hPc := hP.sub (ws' := (wC a cy T_7 u_501)) [0, 1, 2, 3, 4, 5, 6, 7, 8, 9, 10, 11] rfl
                have hDc := hD.sub (ws' := (wC a cy T_7 u_501)) [0, 1, 2, 3, 4, 5, 6, 7, 8, 9, 10, 11] (by decide) rfl
                refine mo_SWz (G := G) (wr := (wC b cy T_10 u_517 ++ [(q_43, .inl (cy 0, 40, .inl fa)), (q_49, .inl (cy 0, 40, .inl fb))])) (As := [.ref (a 0), .int (nI i3), .int 2, .int 0]) (rest := []) ⟨hx, hb, hml, hown, hts⟩ (c_L_valueAt l hlt G cy a H.size T_7 u_501 (nI i3) 2 0 hI_9) (vx_cwSW 4 hts gL_law_L_valueAt rfl rfl rfl (by decide +kernel) ⟨Nat.le_of_ble_eq_true rfl, Nat.le_of_ble_eq_true rfl⟩) hPc hDc hP hK hD hS hA [0, 1, 2, 3, 4, 5, 6, 7, 8, 9, 10, 11] [12, 13, 14, 15, 16, 17, 18, 19, 20, 21, 22, 23, 24, 25] rfl rfl (by decide) (by decide) hN hE rfl hl.1 (Nat.le_of_ble_eq_true rfl) dL_law_533 ⟨by show _ ≤ (20000 : Nat); omega, by show _ ≤ (130000 : Nat); omega⟩ (fun r_533 u_533 H locs hw hP hD hS hz9 => ?_)
                have e9 : (sp_valueAt T_7 (nI i3) 2 0) = (0, hist K C O X0 0 (3 * i3 + 2), T_7) := rs_valueAt hPl hRT (by omega) hp9 (c := 2) (v := 0) (by decide) (Nat.zero_le _)
                rw [e9] at hP hD
                have hP := hP.sub (ws' := (wC a cy T_7 u_533 ++ wC b cy T_10 u_517 ++ [(q_43, .inl (cy 0, 40, .inl fa)), (q_49, .inl (cy 0, 40, .inl fb))])) [14, 15, 16, 17, 18, 19, 20, 21, 22, 23, 24, 25, 0, 1, 2, 3, 4, 5, 6, 7, 8, 9, 10, 11, 12, 13] rfl
                have hD := hD.sub (ws' := (wC a cy T_7 u_533 ++ wC b cy T_10 u_517 ++ [(q_43, .inl (cy 0, 40, .inl fa)), (q_49, .inl (cy 0, 40, .inl fb))])) [14, 15, 16, 17, 18, 19, 20, 21, 22, 23, 24, 25, 0, 1, 2, 3, 4, 5, 6, 7, 8, 9, 10, 11, 12, 13] (by decide) rfl
                have hP : va_P G vwCl (wC a cy T_7 u_533 ++ wC b cy T_10 u_517 ++ [(q_43, .inl (cy 0, 40, .inl fa)), (q_49, .inl (cy 0, 40, .inl fb))]) H := hP
                have hD : va_D A (wC a cy T_7 u_533 ++ wC b cy T_10 u_517 ++ [(q_43, .inl (cy 0, 40, .inl fa)), (q_49, .inl (cy 0, 40, .inl fb))]) := hD
                have hz : s.heap.size + 0 ≤ H.size := rz_0 hz hz9
                obtain rfl : r_533 = hist K C O X0 0 (3 * i3 + 2) := rf_0 e9 hw
                refine lv_iload hx hb dL_law_536 (lv_at hl 10 rfl) ?_
                refine lv_icmp_ne (tgt := 564) hx hb dL_law_538 (by decide) (fun c_538 => False.elim (c_538 (hfab i3 (by omega) hp9).2.2)) (fun c_538 => ?_)
                refine lv_aload_n hx hb dL_law_541 rfl (lv_at hl 7 rfl) ?_
                refine lv_iload hx hb dL_law_542 (lv_at hl 10 rfl) ?_
                refine lv_iconst (v := 2) hx hb dL_law_544 (by decide) ?_
                refine lv_iload hx hb dL_law_545 (lv_at hl 4 rfl) ?_
                have hPc := hP.sub (ws' := (wC b cy T_10 u_517)) [12, 13, 14, 15, 16, 17, 18, 19, 20, 21, 22, 23] rfl
                have hDc := hD.sub (ws' := (wC b cy T_10 u_517)) [12, 13, 14, 15, 16, 17, 18, 19, 20, 21, 22, 23] (by decide) rfl
                refine mo_SWz (G := G) (wr := (wC a cy T_7 u_533 ++ [(q_43, .inl (cy 0, 40, .inl fa)), (q_49, .inl (cy 0, 40, .inl fb))])) (As := [.ref (b 0), .int (nI i3), .int 2, .int (nI (1 + j_18 / 20 % 8))]) (rest := []) ⟨hx, hb, hml, hown, hts⟩ (c_L_valueAt l hlt G cy b H.size T_10 u_517 (nI i3) 2 (nI (1 + j_18 / 20 % 8)) hI_12) (vx_cwSW 4 hts gL_law_L_valueAt rfl rfl rfl (by decide +kernel) ⟨Nat.le_of_ble_eq_true rfl, Nat.le_of_ble_eq_true rfl⟩) hPc hDc hP hK hD hS hA [12, 13, 14, 15, 16, 17, 18, 19, 20, 21, 22, 23] [0, 1, 2, 3, 4, 5, 6, 7, 8, 9, 10, 11, 24, 25] rfl rfl (by decide) (by decide) hN hE rfl hl.1 (Nat.le_of_ble_eq_true rfl) dL_law_547 ⟨by show _ ≤ (20000 : Nat); omega, by show _ ≤ (130000 : Nat); omega⟩ (fun r_547 u_547 H locs hw hP hD hS hz9 => ?_)
                have e9 : (sp_valueAt T_10 (nI i3) 2 (nI (1 + j_18 / 20 % 8))) = (0, hist K C O X0 (1 + j_18 / 20 % 8) (3 * i3 + 2), T_10) := rs_valueAt hPl hRS (by omega) hp9 (c := 2) (by decide) (Nat.le_refl _)
                rw [e9] at hP hD
                have hP := hP.sub (ws' := (wC a cy T_7 u_533 ++ wC b cy T_10 u_547 ++ [(q_43, .inl (cy 0, 40, .inl fa)), (q_49, .inl (cy 0, 40, .inl fb))])) [0, 1, 2, 3, 4, 5, 6, 7, 8, 9, 10, 11, 14, 15, 16, 17, 18, 19, 20, 21, 22, 23, 24, 25, 12, 13] rfl
                have hD := hD.sub (ws' := (wC a cy T_7 u_533 ++ wC b cy T_10 u_547 ++ [(q_43, .inl (cy 0, 40, .inl fa)), (q_49, .inl (cy 0, 40, .inl fb))])) [0, 1, 2, 3, 4, 5, 6, 7, 8, 9, 10, 11, 14, 15, 16, 17, 18, 19, 20, 21, 22, 23, 24, 25, 12, 13] (by decide) rfl
                have hP : va_P G vwCl (wC a cy T_7 u_533 ++ wC b cy T_10 u_547 ++ [(q_43, .inl (cy 0, 40, .inl fa)), (q_49, .inl (cy 0, 40, .inl fb))]) H := hP
                have hD : va_D A (wC a cy T_7 u_533 ++ wC b cy T_10 u_547 ++ [(q_43, .inl (cy 0, 40, .inl fa)), (q_49, .inl (cy 0, 40, .inl fb))]) := hD
                have hz : s.heap.size + 0 ≤ H.size := rz_0 hz hz9
                obtain rfl : r_547 = hist K C O X0 (1 + j_18 / 20 % 8) (3 * i3 + 2) := rf_0 e9 hw
                refine lv_aload_n hx hb dL_law_550 rfl (lv_at hl 8 rfl) ?_
                refine lv_iload hx hb dL_law_551 (lv_at hl 10 rfl) ?_
                refine lv_iconst (v := 2) hx hb dL_law_553 (by decide) ?_
                have hPc := hP.sub (ws' := (wC a cy T_7 u_533)) [0, 1, 2, 3, 4, 5, 6, 7, 8, 9, 10, 11] rfl
                have hDc := hD.sub (ws' := (wC a cy T_7 u_533)) [0, 1, 2, 3, 4, 5, 6, 7, 8, 9, 10, 11] (by decide) rfl
                refine mo_SWz (G := G) (wr := (wC b cy T_10 u_547 ++ [(q_43, .inl (cy 0, 40, .inl fa)), (q_49, .inl (cy 0, 40, .inl fb))])) (As := [.ref (a 0), .int (nI i3), .int 2]) (rest := [.int (hist K C O X0 (1 + j_18 / 20 % 8) (3 * i3 + 2))]) ⟨hx, hb, hml, hown, hts⟩ (c_L_value l hlt G cy a H.size T_7 u_533 (nI i3) 2 hI_9) (vx_cwSW 3 hts gL_law_L_value rfl rfl rfl (by decide +kernel) ⟨Nat.le_of_ble_eq_true rfl, Nat.le_of_ble_eq_true rfl⟩) hPc hDc hP hK hD hS hA [0, 1, 2, 3, 4, 5, 6, 7, 8, 9, 10, 11] [12, 13, 14, 15, 16, 17, 18, 19, 20, 21, 22, 23, 24, 25] rfl rfl (by decide) (by decide) hN hE rfl hl.1 (Nat.le_of_ble_eq_true rfl) dL_law_554 ⟨by show _ ≤ (20000 : Nat); omega, by show _ ≤ (130000 : Nat); omega⟩ (fun r_554 u_554 H locs hw hP hD hS hz9 => ?_)
                have e9 : (sp_value T_7 (nI i3) 2) = (0, tX T_7 (3 * i3 + 2), T_7) := q0_value (c := 2) (by omega) (by decide) (V_ne (by omega) (rs_Vp hRT (by omega) hp9))
                rw [e9] at hP hD
                have hP := hP.sub (ws' := (wC a cy T_7 u_554 ++ wC b cy T_10 u_547 ++ [(q_43, .inl (cy 0, 40, .inl fa)), (q_49, .inl (cy 0, 40, .inl fb))])) [14, 15, 16, 17, 18, 19, 20, 21, 22, 23, 24, 25, 0, 1, 2, 3, 4, 5, 6, 7, 8, 9, 10, 11, 12, 13] rfl
                have hD := hD.sub (ws' := (wC a cy T_7 u_554 ++ wC b cy T_10 u_547 ++ [(q_43, .inl (cy 0, 40, .inl fa)), (q_49, .inl (cy 0, 40, .inl fb))])) [14, 15, 16, 17, 18, 19, 20, 21, 22, 23, 24, 25, 0, 1, 2, 3, 4, 5, 6, 7, 8, 9, 10, 11, 12, 13] (by decide) rfl
                have hP : va_P G vwCl (wC a cy T_7 u_554 ++ wC b cy T_10 u_547 ++ [(q_43, .inl (cy 0, 40, .inl fa)), (q_49, .inl (cy 0, 40, .inl fb))]) H := hP
                have hD : va_D A (wC a cy T_7 u_554 ++ wC b cy T_10 u_547 ++ [(q_43, .inl (cy 0, 40, .inl fa)), (q_49, .inl (cy 0, 40, .inl fb))]) := hD
                have hz : s.heap.size + 0 ≤ H.size := rz_0 hz hz9
                obtain rfl : r_554 = tX T_7 (3 * i3 + 2) := rf_0 e9 hw
                refine lv_icmp_ne (tgt := 564) hx hb dL_law_557 (by decide) (fun c_557 => False.elim (c_557 (rs_X hRT (by omega) hp9 (by decide)).symm)) (fun c_557 => ?_)
                refine W.widen (k := 26 + 4 * i1 + 1 + 1150 * i2 + 0 + 6 * i3 + 6) (n := 6 * (26 + 4 * i1 + 1 + 1150 * i2 + 0 + 6 * i3 + 6) + 390) (by omega) (by omega) ?_
                exact J560 u_554 u_547 _ _ _ hP hD hS (by omega) (lv_sub hl [0, 1, 2, 3, 4, 5, 6, 7, 8, 9, 10] rfl)
              · refine lv_aload_n hx hb dL_law_487 rfl (lv_at hl 8 rfl) ?_
                refine lv_iload hx hb dL_law_488 (lv_at hl 10 rfl) ?_
                have hPc := hP.sub (ws' := (wC a cy T_7 tr_13)) [0, 1, 2, 3, 4, 5, 6, 7, 8, 9, 10, 11] rfl
                have hDc := hD.sub (ws' := (wC a cy T_7 tr_13)) [0, 1, 2, 3, 4, 5, 6, 7, 8, 9, 10, 11] (by decide) rfl
                refine mo_SWz (G := G) (wr := (wC b cy T_10 tr_14 ++ [(q_43, .inl (cy 0, 40, .inl fa)), (q_49, .inl (cy 0, 40, .inl fb))])) (As := [.ref (a 0), .int (nI i3)]) (rest := []) ⟨hx, hb, hml, hown, hts⟩ (c_L_version l hlt G cy a H.size T_7 tr_13 (nI i3) hI_9) (vx_cwSW 2 hts gL_law_L_version rfl rfl rfl (by decide +kernel) ⟨Nat.le_of_ble_eq_true rfl, Nat.le_of_ble_eq_true rfl⟩) hPc hDc hP hK hD hS hA [0, 1, 2, 3, 4, 5, 6, 7, 8, 9, 10, 11] [12, 13, 14, 15, 16, 17, 18, 19, 20, 21, 22, 23, 24, 25] rfl rfl (by decide) (by decide) hN hE rfl hl.1 (Nat.le_of_ble_eq_true rfl) dL_law_490 ⟨by show _ ≤ (20000 : Nat); omega, by show _ ≤ (130000 : Nat); omega⟩ (fun r_490 u_490 H locs hw hP hD hS hz9 => ?_)
                have e9 : (sp_version T_7 (nI i3)) = (0, tV T_7 i3, T_7) := q0_version (by omega)
                rw [e9] at hP hD
                have hP := hP.sub (ws' := (wC a cy T_7 u_490 ++ wC b cy T_10 tr_14 ++ [(q_43, .inl (cy 0, 40, .inl fa)), (q_49, .inl (cy 0, 40, .inl fb))])) [14, 15, 16, 17, 18, 19, 20, 21, 22, 23, 24, 25, 0, 1, 2, 3, 4, 5, 6, 7, 8, 9, 10, 11, 12, 13] rfl
                have hD := hD.sub (ws' := (wC a cy T_7 u_490 ++ wC b cy T_10 tr_14 ++ [(q_43, .inl (cy 0, 40, .inl fa)), (q_49, .inl (cy 0, 40, .inl fb))])) [14, 15, 16, 17, 18, 19, 20, 21, 22, 23, 24, 25, 0, 1, 2, 3, 4, 5, 6, 7, 8, 9, 10, 11, 12, 13] (by decide) rfl
                have hP : va_P G vwCl (wC a cy T_7 u_490 ++ wC b cy T_10 tr_14 ++ [(q_43, .inl (cy 0, 40, .inl fa)), (q_49, .inl (cy 0, 40, .inl fb))]) H := hP
                have hD : va_D A (wC a cy T_7 u_490 ++ wC b cy T_10 tr_14 ++ [(q_43, .inl (cy 0, 40, .inl fa)), (q_49, .inl (cy 0, 40, .inl fb))]) := hD
                have hz : s.heap.size + 0 ≤ H.size := rz_0 hz hz9
                obtain rfl : r_490 = tV T_7 i3 := rf_0 e9 hw
                refine lv_if_lt (tgt := 560) hx hb dL_law_493 (by decide) (fun c_493 => ?_) (fun c_493 => False.elim (c_493 (by rw [hv9]; decide)))
                refine W.widen (k := 26 + 4 * i1 + 1 + 1150 * i2 + 0 + 6 * i3 + 6) (n := 6 * (26 + 4 * i1 + 1 + 1150 * i2 + 0 + 6 * i3 + 6) + 390) (by omega) (by omega) ?_
                exact J560 u_490 tr_14 _ _ _ hP hD hS (by omega) (lv_sub hl [0, 1, 2, 3, 4, 5, 6, 7, 8, 9, 10] rfl)
          refine W.widen (k := 26 + 4 * i1 + 1 + 1150 * i2 + 0 + 6 * 0) (n := 6 * (26 + 4 * i1 + 1 + 1150 * i2 + 0 + 6 * 0) + 390) (by omega) (by omega) ?_
          exact LOOP475 40 0 tr_8 tr_11 (by omega) _ _ _ hP hD hS (by omega) (lv_sub hl [1, 2, 3, 4, 5, 6, 7, 8, 9, 10, 0] rfl)
        | succ r ih =>
          intro i2 T_7 tr_8 hI_9 T_10 tr_11 hI_12 hi hL2 H locs ls hP hD hS hz hl
          refine lv_iload hx hb dL_law_196 (lv_at hl 10 rfl) ?_
          refine lv_iload hx hb dL_law_198 (lv_at hl 4 rfl) ?_
          refine lv_icmp_gt (tgt := 472) hx hb dL_law_200 (by decide) (fun c_200 => False.elim (absurd ((nI_ltI (by omega) (by omega)).mp c_200) (by omega))) (fun c_200 => ?_)
          refine lv_iload hx hb dL_law_203 (lv_at hl 1 rfl) ?_
          refine lv_if_eq (tgt := 472) hx hb dL_law_205 (by decide) (fun c_205 => False.elim (by revert c_205; decide)) (fun c_205 => ?_)
          refine lv_aload_n hx hb dL_law_208 rfl (lv_at hl 9 rfl) ?_
          refine lv_bipush (v := 21) hx hb dL_law_209 (by decide) ?_
          refine lv_iload hx hb dL_law_211 (lv_at hl 10 rfl) ?_
          refine lv_iadd hx hb dL_law_213 ?_
          refine ml_eqi (nI (21 + (i2 + 1))) (nI_add 21 (i2 + 1)) ?_
          refine va_calli (va_runS (As := [.ref b9, .int (nI (21 + (i2 + 1)))]) (rest := []) ⟨hx, hb, hml, hown, hts⟩ (c_L_drawn l b9 L xs (21 + (i2 + 1)) H.size hL31 (by omega)) (va_cwS 2 hts gL_law_L_drawn rfl rfl rfl (by decide +kernel) ⟨Nat.le_of_ble_eq_true rfl, Nat.le_of_ble_eq_true rfl⟩) ⟨ml_blindD, fun U hU hW => ⟨rfl, by rw [hU], by rw [hU]; exact va_X.moved hW.alike (hX.kept (hS.2.1 b9 hbl hbA)), Nat.lt_of_lt_of_le hbl hS.1⟩⟩ rfl rfl hl.1 rfl (lv_room (Nat.le_of_ble_eq_true rfl)) dL_law_214 ⟨by show _ ≤ (20000 : Nat); omega, by show _ ≤ (130000 : Nat); omega⟩) hS (fun q h h9 => absurd h (Nat.not_lt.mpr h9)) (fun q h => hA q (Nat.le_trans hS.1 h)) (fun r_214 u_214 t H1 locs ht hvm hw hB hz1 hk1 hS => ?_)
          have hP : va_P G vwCl (wC a cy T_7 tr_8 ++ wC b cy T_10 tr_11 ++ [(q_43, .inl (cy 0, 40, .inl fa)), (q_49, .inl (cy 0, 40, .inl fb))]) H1 := hP.kept (fun k q hk => hk1 q.1 ((hP k q hk).lt) (Nat.not_le.mpr ((hP k q hk).lt)))
          have hz : s.heap.size + 0 ≤ H1.size := Nat.le_trans hz hz1
          generalize H1 = H at hP hS hz ⊢
          obtain ⟨⟨j_214, hj_214, rfl⟩, hr_214⟩ := hw
          refine lv_istore (lv' := [(11, .int (nI j_214)), (9, .int (nI (NP pr))), (8, .int 1), (7, .ref q_49), (6, .ref q_43), (5, .int (nI (1 + j_18 / 20 % 8))), (4, .int (nI (1 + j_18 % 20))), (3, .int (nI j_18)), (2, .ref (b 0)), (1, .ref (a 0)), (0, .ref b9), (10, .int (nI (i2 + 1)))]) hx hb dL_law_217 hl (by decide) rfl (fun ls hl => ?_)
          refine lv_iload hx hb dL_law_219 (lv_at hl 0 rfl) ?_
          refine lv_iconst (v := 3) hx hb dL_law_221 (by decide) ?_
          refine lv_irem hx hb dL_law_222 (by decide) ?_
          refine ml_eqi (nI (j_214 % 3)) (pk_rem (a := j_214) (d := 3) (by omega) (by decide) (by decide)) ?_
          refine lv_istore (lv' := [(12, .int (nI (j_214 % 3))), (11, .int (nI j_214)), (9, .int (nI (NP pr))), (8, .int 1), (7, .ref q_49), (6, .ref q_43), (5, .int (nI (1 + j_18 / 20 % 8))), (4, .int (nI (1 + j_18 % 20))), (3, .int (nI j_18)), (2, .ref (b 0)), (1, .ref (a 0)), (0, .ref b9), (10, .int (nI (i2 + 1)))]) hx hb dL_law_223 hl (by decide) rfl (fun ls hl => ?_)
          refine lv_iload hx hb dL_law_225 (lv_at hl 1 rfl) ?_
          refine lv_iconst (v := 3) hx hb dL_law_227 (by decide) ?_
          refine lv_idiv hx hb dL_law_228 (by decide) ?_
          refine ml_eqi (nI (j_214 / 3)) (pk_div (a := j_214) (d := 3) (by omega) (by decide) (by decide)) ?_
          refine lv_iconst (v := 3) hx hb dL_law_229 (by decide) ?_
          refine lv_irem hx hb dL_law_230 (by decide) ?_
          refine ml_eqi (nI (j_214 / 3 % 3)) (pk_rem (a := j_214 / 3) (d := 3) (by omega) (by decide) (by decide)) ?_
          refine lv_istore (lv' := [(13, .int (nI (j_214 / 3 % 3))), (12, .int (nI (j_214 % 3))), (11, .int (nI j_214)), (9, .int (nI (NP pr))), (8, .int 1), (7, .ref q_49), (6, .ref q_43), (5, .int (nI (1 + j_18 / 20 % 8))), (4, .int (nI (1 + j_18 % 20))), (3, .int (nI j_18)), (2, .ref (b 0)), (1, .ref (a 0)), (0, .ref b9), (10, .int (nI (i2 + 1)))]) hx hb dL_law_231 hl (by decide) rfl (fun ls hl => ?_)
          refine lv_iload hx hb dL_law_233 (lv_at hl 1 rfl) ?_
          have J285 : ∀ (v14 : Int32) (hop : lawOp (nI (j_214 % 3)) (nI (j_214 / 3 % 3)) v14) (H : Heap) (locs : List Loc) (ls : Array Slot), va_P G vwCl (wC a cy T_7 tr_8 ++ wC b cy T_10 tr_11 ++ [(q_43, .inl (cy 0, 40, .inl fa)), (q_49, .inl (cy 0, 40, .inl fb))]) H → va_D A (wC a cy T_7 tr_8 ++ wC b cy T_10 tr_11 ++ [(q_43, .inl (cy 0, 40, .inl fa)), (q_49, .inl (cy 0, 40, .inl fb))]) → va_S A s.heap H locs → s.heap.size + 0 ≤ H.size → lv_has ls 16 [(13, .int (nI (j_214 / 3 % 3))), (12, .int (nI (j_214 % 3))), (11, .int (nI j_214)), (9, .int (nI (NP pr))), (8, .int 1), (7, .ref q_49), (6, .ref q_43), (5, .int (nI (1 + j_18 / 20 % 8))), (4, .int (nI (1 + j_18 % 20))), (3, .int (nI j_18)), (2, .ref (b 0)), (1, .ref (a 0)), (0, .ref b9), (10, .int (nI (i2 + 1)))] → W p l e Rw s m #[Value.ref b9] below meth c H locs (26 + 4 * i1 + 1 + 1150 * i2) (6 * (26 + 4 * i1 + 1 + 1150 * i2) + 390) (wd_Z below #[Value.ref b9] s) (F0 m 285 ls [.int v14]) := by
            intro v14 hop H locs ls hP hD hS hz hl
            refine lv_istore (lv' := [(14, .int v14), (13, .int (nI (j_214 / 3 % 3))), (12, .int (nI (j_214 % 3))), (11, .int (nI j_214)), (9, .int (nI (NP pr))), (8, .int 1), (7, .ref q_49), (6, .ref q_43), (5, .int (nI (1 + j_18 / 20 % 8))), (4, .int (nI (1 + j_18 % 20))), (3, .int (nI j_18)), (2, .ref (b 0)), (1, .ref (a 0)), (0, .ref b9), (10, .int (nI (i2 + 1)))]) hx hb dL_law_285 hl (by decide) rfl (fun ls hl => ?_)
            refine lv_aload_n hx hb dL_law_287 rfl (lv_at hl 12 rfl) ?_
            refine lv_iload hx hb dL_law_288 (lv_at hl 2 rfl) ?_
            refine lv_iload hx hb dL_law_290 (lv_at hl 1 rfl) ?_
            refine lv_iload hx hb dL_law_292 (lv_at hl 0 rfl) ?_
            obtain ⟨K, C, O, hPl, hRT, hHo, hRS⟩ := hL2
            have hPl2 := pln_add hPl (by omega) hop
            obtain ⟨Ta, ea, hRa, hHa⟩ := rs_add hRT (by omega) hop
            obtain ⟨Sa, eb, hRb, hHb⟩ := rs_add hRS (by omega) hop
            have hPc := hP.sub (ws' := (wC a cy T_7 tr_8)) [0, 1, 2, 3, 4, 5, 6, 7, 8, 9, 10, 11] rfl
            have hDc := hD.sub (ws' := (wC a cy T_7 tr_8)) [0, 1, 2, 3, 4, 5, 6, 7, 8, 9, 10, 11] (by decide) rfl
            refine mo_SWz (G := G) (wr := (wC b cy T_10 tr_11 ++ [(q_43, .inl (cy 0, 40, .inl fa)), (q_49, .inl (cy 0, 40, .inl fb))])) (As := [.ref (a 0), .int (nI (j_214 % 3)), .int (nI (j_214 / 3 % 3)), .int v14]) (rest := []) ⟨hx, hb, hml, hown, hts⟩ (c_L_adds l hlt G cy a H.size T_7 tr_8 (nI (j_214 % 3)) (nI (j_214 / 3 % 3)) v14 hI_9) (vx_cwSW 4 hts gL_law_L_adds rfl rfl rfl (by decide +kernel) ⟨Nat.le_of_ble_eq_true rfl, Nat.le_of_ble_eq_true rfl⟩) hPc hDc hP hK hD hS hA [0, 1, 2, 3, 4, 5, 6, 7, 8, 9, 10, 11] [12, 13, 14, 15, 16, 17, 18, 19, 20, 21, 22, 23, 24, 25] rfl rfl (by decide) (by decide) hN hE rfl hl.1 (Nat.le_of_ble_eq_true rfl) dL_law_294 ⟨by show _ ≤ (20000 : Nat); omega, by show _ ≤ (130000 : Nat); omega⟩ (fun r_294 u_294 H locs hw hP hD hS hz9 => ?_)
            have e9 : (sp_addChange T_7 (nI (j_214 % 3)) (nI (j_214 / 3 % 3)) v14) = (0, nI (i2 + 1), Ta) := ea
            rw [e9] at hP hD
            have hP := hP.sub (ws' := (wC a cy Ta u_294 ++ wC b cy T_10 tr_11 ++ [(q_43, .inl (cy 0, 40, .inl fa)), (q_49, .inl (cy 0, 40, .inl fb))])) [14, 15, 16, 17, 18, 19, 20, 21, 22, 23, 24, 25, 0, 1, 2, 3, 4, 5, 6, 7, 8, 9, 10, 11, 12, 13] rfl
            have hD := hD.sub (ws' := (wC a cy Ta u_294 ++ wC b cy T_10 tr_11 ++ [(q_43, .inl (cy 0, 40, .inl fa)), (q_49, .inl (cy 0, 40, .inl fb))])) [14, 15, 16, 17, 18, 19, 20, 21, 22, 23, 24, 25, 0, 1, 2, 3, 4, 5, 6, 7, 8, 9, 10, 11, 12, 13] (by decide) rfl
            have hP : va_P G vwCl (wC a cy Ta u_294 ++ wC b cy T_10 tr_11 ++ [(q_43, .inl (cy 0, 40, .inl fa)), (q_49, .inl (cy 0, 40, .inl fb))]) H := hP
            have hD : va_D A (wC a cy Ta u_294 ++ wC b cy T_10 tr_11 ++ [(q_43, .inl (cy 0, 40, .inl fa)), (q_49, .inl (cy 0, 40, .inl fb))]) := hD
            have hz : s.heap.size + 0 ≤ H.size := rz_0 hz hz9
            obtain rfl : r_294 = nI (i2 + 1) := rf_0 e9 hw
            refine lv_iload hx hb dL_law_297 (lv_at hl 14 rfl) ?_
            refine lv_icmp_ne (tgt := 376) hx hb dL_law_299 (by decide) (fun c_299 => False.elim (c_299 rfl)) (fun c_299 => ?_)
            refine lv_aload_n hx hb dL_law_302 rfl (lv_at hl 11 rfl) ?_
            refine lv_iload hx hb dL_law_303 (lv_at hl 2 rfl) ?_
            refine lv_iload hx hb dL_law_305 (lv_at hl 1 rfl) ?_
            refine lv_iload hx hb dL_law_307 (lv_at hl 0 rfl) ?_
            have hPc := hP.sub (ws' := (wC b cy T_10 tr_11)) [12, 13, 14, 15, 16, 17, 18, 19, 20, 21, 22, 23] rfl
            have hDc := hD.sub (ws' := (wC b cy T_10 tr_11)) [12, 13, 14, 15, 16, 17, 18, 19, 20, 21, 22, 23] (by decide) rfl
            refine mo_SWz (G := G) (wr := (wC a cy Ta u_294 ++ [(q_43, .inl (cy 0, 40, .inl fa)), (q_49, .inl (cy 0, 40, .inl fb))])) (As := [.ref (b 0), .int (nI (j_214 % 3)), .int (nI (j_214 / 3 % 3)), .int v14]) (rest := []) ⟨hx, hb, hml, hown, hts⟩ (c_L_adds l hlt G cy b H.size T_10 tr_11 (nI (j_214 % 3)) (nI (j_214 / 3 % 3)) v14 hI_12) (vx_cwSW 4 hts gL_law_L_adds rfl rfl rfl (by decide +kernel) ⟨Nat.le_of_ble_eq_true rfl, Nat.le_of_ble_eq_true rfl⟩) hPc hDc hP hK hD hS hA [12, 13, 14, 15, 16, 17, 18, 19, 20, 21, 22, 23] [0, 1, 2, 3, 4, 5, 6, 7, 8, 9, 10, 11, 24, 25] rfl rfl (by decide) (by decide) hN hE rfl hl.1 (Nat.le_of_ble_eq_true rfl) dL_law_309 ⟨by show _ ≤ (20000 : Nat); omega, by show _ ≤ (130000 : Nat); omega⟩ (fun r_309 u_309 H locs hw hP hD hS hz9 => ?_)
            have e9 : (sp_addChange T_10 (nI (j_214 % 3)) (nI (j_214 / 3 % 3)) v14) = (0, nI (i2 + 1), Sa) := eb
            rw [e9] at hP hD
            have hP := hP.sub (ws' := (wC a cy Ta u_294 ++ wC b cy Sa u_309 ++ [(q_43, .inl (cy 0, 40, .inl fa)), (q_49, .inl (cy 0, 40, .inl fb))])) [0, 1, 2, 3, 4, 5, 6, 7, 8, 9, 10, 11, 14, 15, 16, 17, 18, 19, 20, 21, 22, 23, 24, 25, 12, 13] rfl
            have hD := hD.sub (ws' := (wC a cy Ta u_294 ++ wC b cy Sa u_309 ++ [(q_43, .inl (cy 0, 40, .inl fa)), (q_49, .inl (cy 0, 40, .inl fb))])) [0, 1, 2, 3, 4, 5, 6, 7, 8, 9, 10, 11, 14, 15, 16, 17, 18, 19, 20, 21, 22, 23, 24, 25, 12, 13] (by decide) rfl
            have hP : va_P G vwCl (wC a cy Ta u_294 ++ wC b cy Sa u_309 ++ [(q_43, .inl (cy 0, 40, .inl fa)), (q_49, .inl (cy 0, 40, .inl fb))]) H := hP
            have hD : va_D A (wC a cy Ta u_294 ++ wC b cy Sa u_309 ++ [(q_43, .inl (cy 0, 40, .inl fa)), (q_49, .inl (cy 0, 40, .inl fb))]) := hD
            have hz : s.heap.size + 0 ≤ H.size := rz_0 hz hz9
            obtain rfl : r_309 = nI (i2 + 1) := rf_0 e9 hw
            refine lv_iload hx hb dL_law_312 (lv_at hl 14 rfl) ?_
            refine lv_icmp_ne (tgt := 376) hx hb dL_law_314 (by decide) (fun c_314 => False.elim (c_314 rfl)) (fun c_314 => ?_)
            refine lv_aload_n hx hb dL_law_317 rfl (lv_at hl 11 rfl) ?_
            refine lv_iload hx hb dL_law_318 (lv_at hl 3 rfl) ?_
            refine lv_sipush (v := 997) hx hb dL_law_320 (by decide) ?_
            refine lv_irem hx hb dL_law_323 (by decide) ?_
            refine ml_eqi (nI (j_214 % 997)) (pk_rem (a := j_214) (d := 997) (by omega) (by decide) (by decide)) ?_
            have hPc := hP.sub (ws' := (wC b cy Sa u_309)) [12, 13, 14, 15, 16, 17, 18, 19, 20, 21, 22, 23] rfl
            have hDc := hD.sub (ws' := (wC b cy Sa u_309)) [12, 13, 14, 15, 16, 17, 18, 19, 20, 21, 22, 23] (by decide) rfl
            refine mo_Sz (G := G) (wr := (wC a cy Ta u_294 ++ [(q_43, .inl (cy 0, 40, .inl fa)), (q_49, .inl (cy 0, 40, .inl fb))])) (As := [.ref (b 0), .int (nI (j_214 % 997))]) (rest := []) ⟨hx, hb, hml, hown, hts⟩ (c_L_refuses l hlt G cy b H.size Sa u_309 (j_214 % 997) d997 hRb.1) (va_cwS 2 hts gL_law_L_refuses rfl rfl rfl (by decide +kernel) ⟨Nat.le_of_ble_eq_true rfl, Nat.le_of_ble_eq_true rfl⟩) hPc hDc hP hK hD hS hA [12, 13, 14, 15, 16, 17, 18, 19, 20, 21, 22, 23] [0, 1, 2, 3, 4, 5, 6, 7, 8, 9, 10, 11, 24, 25] rfl rfl (by decide) (by decide) hN hE rfl hl.1 (Nat.le_of_ble_eq_true rfl) dL_law_324 ⟨by show _ ≤ (20000 : Nat); omega, by show _ ≤ (130000 : Nat); omega⟩ (fun r_324 u_324 H locs hw hP hD hS hz9 => ?_)
            have hP := hP.sub (ws' := (wC a cy Ta u_294 ++ wC b cy Sa u_324 ++ [(q_43, .inl (cy 0, 40, .inl fa)), (q_49, .inl (cy 0, 40, .inl fb))])) [0, 1, 2, 3, 4, 5, 6, 7, 8, 9, 10, 11, 14, 15, 16, 17, 18, 19, 20, 21, 22, 23, 24, 25, 12, 13] rfl
            have hD := hD.sub (ws' := (wC a cy Ta u_294 ++ wC b cy Sa u_324 ++ [(q_43, .inl (cy 0, 40, .inl fa)), (q_49, .inl (cy 0, 40, .inl fb))])) [0, 1, 2, 3, 4, 5, 6, 7, 8, 9, 10, 11, 14, 15, 16, 17, 18, 19, 20, 21, 22, 23, 24, 25, 12, 13] (by decide) rfl
            have hP : va_P G vwCl (wC a cy Ta u_294 ++ wC b cy Sa u_324 ++ [(q_43, .inl (cy 0, 40, .inl fa)), (q_49, .inl (cy 0, 40, .inl fb))]) H := hP
            have hD : va_D A (wC a cy Ta u_294 ++ wC b cy Sa u_324 ++ [(q_43, .inl (cy 0, 40, .inl fa)), (q_49, .inl (cy 0, 40, .inl fb))]) := hD
            have hz : s.heap.size + (0 + 37) ≤ H.size := by have h9 : _ + 37 ≤ H.size := hz9; omega
            obtain rfl : r_324 = 1 := hw
            refine lv_if_eq (tgt := 376) hx hb dL_law_327 (by decide) (fun c_327 => False.elim (by revert c_327; decide)) (fun c_327 => ?_)
            refine lv_aload_n hx hb dL_law_330 rfl (lv_at hl 12 rfl) ?_
            refine lv_iconst (v := 0) hx hb dL_law_331 (by decide) ?_
            refine lv_bipush (v := 9) hx hb dL_law_332 (by decide) ?_
            obtain ⟨Tb, vb, ec, hvp, hRc, hhc, hHc⟩ := rs_take hRa (by decide) (w := 0) (e := 9) (by decide) (by decide) (one_free (by rw [hHa]; exact hHo))
            have hPc := hP.sub (ws' := (wC a cy Ta u_294)) [0, 1, 2, 3, 4, 5, 6, 7, 8, 9, 10, 11] rfl
            have hDc := hD.sub (ws' := (wC a cy Ta u_294)) [0, 1, 2, 3, 4, 5, 6, 7, 8, 9, 10, 11] (by decide) rfl
            refine mo_SWz (G := G) (wr := (wC b cy Sa u_324 ++ [(q_43, .inl (cy 0, 40, .inl fa)), (q_49, .inl (cy 0, 40, .inl fb))])) (As := [.ref (a 0), .int 0, .int 9]) (rest := []) ⟨hx, hb, hml, hown, hts⟩ (c_L_takes l hlt G cy a H.size Ta u_294 0 9 hRa.1) (vx_cwSW 3 hts gL_law_L_takes rfl rfl rfl (by decide +kernel) ⟨Nat.le_of_ble_eq_true rfl, Nat.le_of_ble_eq_true rfl⟩) hPc hDc hP hK hD hS hA [0, 1, 2, 3, 4, 5, 6, 7, 8, 9, 10, 11] [12, 13, 14, 15, 16, 17, 18, 19, 20, 21, 22, 23, 24, 25] rfl rfl (by decide) (by decide) hN hE rfl hl.1 (Nat.le_of_ble_eq_true rfl) dL_law_334 ⟨by show _ ≤ (20000 : Nat); omega, by show _ ≤ (130000 : Nat); omega⟩ (fun r_334 u_334 H locs hw hP hD hS hz9 => ?_)
            have e9 : (sp_take Ta 0 9) = (0, vb, Tb) := ec
            rw [e9] at hP hD
            have hP := hP.sub (ws' := (wC a cy Tb u_334 ++ wC b cy Sa u_324 ++ [(q_43, .inl (cy 0, 40, .inl fa)), (q_49, .inl (cy 0, 40, .inl fb))])) [14, 15, 16, 17, 18, 19, 20, 21, 22, 23, 24, 25, 0, 1, 2, 3, 4, 5, 6, 7, 8, 9, 10, 11, 12, 13] rfl
            have hD := hD.sub (ws' := (wC a cy Tb u_334 ++ wC b cy Sa u_324 ++ [(q_43, .inl (cy 0, 40, .inl fa)), (q_49, .inl (cy 0, 40, .inl fb))])) [14, 15, 16, 17, 18, 19, 20, 21, 22, 23, 24, 25, 0, 1, 2, 3, 4, 5, 6, 7, 8, 9, 10, 11, 12, 13] (by decide) rfl
            have hP : va_P G vwCl (wC a cy Tb u_334 ++ wC b cy Sa u_324 ++ [(q_43, .inl (cy 0, 40, .inl fa)), (q_49, .inl (cy 0, 40, .inl fb))]) H := hP
            have hD : va_D A (wC a cy Tb u_334 ++ wC b cy Sa u_324 ++ [(q_43, .inl (cy 0, 40, .inl fa)), (q_49, .inl (cy 0, 40, .inl fb))]) := hD
            have hz : s.heap.size + (0 + 37) ≤ H.size := rz_0 hz hz9
            have hr9 : r_334 = vb := rf_0 e9 hw
            refine lv_if_le (tgt := 376) hx hb dL_law_337 (by decide) (fun c_337 => False.elim (hvp (hr9 ▸ c_337))) (fun c_337 => ?_)
            refine lv_aload_n hx hb dL_law_340 rfl (lv_at hl 12 rfl) ?_
            refine lv_iconst (v := 0) hx hb dL_law_341 (by decide) ?_
            obtain ⟨Tc, ed, hRAt, htc1, htc2, htc3⟩ := rs_begin hRc (by omega) (w := 0) (by decide) hhc
            have hPc := hP.sub (ws' := (wC a cy Tb u_334)) [0, 1, 2, 3, 4, 5, 6, 7, 8, 9, 10, 11] rfl
            have hDc := hD.sub (ws' := (wC a cy Tb u_334)) [0, 1, 2, 3, 4, 5, 6, 7, 8, 9, 10, 11] (by decide) rfl
            refine mo_SWz (G := G) (wr := (wC b cy Sa u_324 ++ [(q_43, .inl (cy 0, 40, .inl fa)), (q_49, .inl (cy 0, 40, .inl fb))])) (As := [.ref (a 0), .int 0]) (rest := []) ⟨hx, hb, hml, hown, hts⟩ (c_L_begins l hlt G cy a H.size Tb u_334 0 hRc.1) (vx_cwSW 2 hts gL_law_L_begins rfl rfl rfl (by decide +kernel) ⟨Nat.le_of_ble_eq_true rfl, Nat.le_of_ble_eq_true rfl⟩) hPc hDc hP hK hD hS hA [0, 1, 2, 3, 4, 5, 6, 7, 8, 9, 10, 11] [12, 13, 14, 15, 16, 17, 18, 19, 20, 21, 22, 23, 24, 25] rfl rfl (by decide) (by decide) hN hE rfl hl.1 (Nat.le_of_ble_eq_true rfl) dL_law_342 ⟨by show _ ≤ (20000 : Nat); omega, by show _ ≤ (130000 : Nat); omega⟩ (fun r_342 u_342 H locs hw hP hD hS hz9 => ?_)
            have e9 : (sp_begin Tb 0) = (0, nI (i2 + 1), Tc) := ed
            rw [e9] at hP hD
            have hP := hP.sub (ws' := (wC a cy Tc u_342 ++ wC b cy Sa u_324 ++ [(q_43, .inl (cy 0, 40, .inl fa)), (q_49, .inl (cy 0, 40, .inl fb))])) [14, 15, 16, 17, 18, 19, 20, 21, 22, 23, 24, 25, 0, 1, 2, 3, 4, 5, 6, 7, 8, 9, 10, 11, 12, 13] rfl
            have hD := hD.sub (ws' := (wC a cy Tc u_342 ++ wC b cy Sa u_324 ++ [(q_43, .inl (cy 0, 40, .inl fa)), (q_49, .inl (cy 0, 40, .inl fb))])) [14, 15, 16, 17, 18, 19, 20, 21, 22, 23, 24, 25, 0, 1, 2, 3, 4, 5, 6, 7, 8, 9, 10, 11, 12, 13] (by decide) rfl
            have hP : va_P G vwCl (wC a cy Tc u_342 ++ wC b cy Sa u_324 ++ [(q_43, .inl (cy 0, 40, .inl fa)), (q_49, .inl (cy 0, 40, .inl fb))]) H := hP
            have hD : va_D A (wC a cy Tc u_342 ++ wC b cy Sa u_324 ++ [(q_43, .inl (cy 0, 40, .inl fa)), (q_49, .inl (cy 0, 40, .inl fb))]) := hD
            have hz : s.heap.size + (0 + 37) ≤ H.size := rz_0 hz hz9
            obtain rfl : r_342 = nI (i2 + 1) := rf_0 e9 hw
            refine lv_iload hx hb dL_law_345 (lv_at hl 14 rfl) ?_
            refine lv_icmp_ne (tgt := 376) hx hb dL_law_347 (by decide) (fun c_347 => False.elim (c_347 rfl)) (fun c_347 => ?_)
            refine lv_aload_n hx hb dL_law_350 rfl (lv_at hl 12 rfl) ?_
            refine lv_iconst (v := 0) hx hb dL_law_351 (by decide) ?_
            refine lv_bipush (v := 40) hx hb dL_law_352 (by decide) ?_
            refine lv_iconst (v := 0) hx hb dL_law_354 (by decide) ?_
            obtain ⟨Td, ee, hRd, hHd⟩ := rs_step hPl2 hRAt (by decide)
            have hgd : gl Tc (tac Tc = 3) = i2 + 1 := by unfold gl; rw [htc1, cif_f (by decide), htc2]
            rw [hgd] at hRd
            have hPc := hP.sub (ws' := (wC a cy Tc u_342)) [0, 1, 2, 3, 4, 5, 6, 7, 8, 9, 10, 11] rfl
            have hDc := hD.sub (ws' := (wC a cy Tc u_342)) [0, 1, 2, 3, 4, 5, 6, 7, 8, 9, 10, 11] (by decide) rfl
            refine mo_SWz (G := G) (wr := (wC b cy Sa u_324 ++ [(q_43, .inl (cy 0, 40, .inl fa)), (q_49, .inl (cy 0, 40, .inl fb))])) (As := [.ref (a 0), .int 0, .int 40, .int 0]) (rest := []) ⟨hx, hb, hml, hown, hts⟩ (c_L_steps l hlt G cy a H.size Tc u_342 0 40 0 hRAt.1) (vx_cwSW 4 hts gL_law_L_steps rfl rfl rfl (by decide +kernel) ⟨Nat.le_of_ble_eq_true rfl, Nat.le_of_ble_eq_true rfl⟩) hPc hDc hP hK hD hS hA [0, 1, 2, 3, 4, 5, 6, 7, 8, 9, 10, 11] [12, 13, 14, 15, 16, 17, 18, 19, 20, 21, 22, 23, 24, 25] rfl rfl (by decide) (by decide) hN hE rfl hl.1 (Nat.le_of_ble_eq_true rfl) dL_law_355 ⟨by show _ ≤ (20000 : Nat); omega, by show _ ≤ (130000 : Nat); omega⟩ (fun r_355 u_355 H locs hw hP hD hS hz9 => ?_)
            have e9 : (sp_step Tc 0 40 0) = (0, nI (NP pr), Td) := ee
            rw [e9] at hP hD
            have hP := hP.sub (ws' := (wC a cy Td u_355 ++ wC b cy Sa u_324 ++ [(q_43, .inl (cy 0, 40, .inl fa)), (q_49, .inl (cy 0, 40, .inl fb))])) [14, 15, 16, 17, 18, 19, 20, 21, 22, 23, 24, 25, 0, 1, 2, 3, 4, 5, 6, 7, 8, 9, 10, 11, 12, 13] rfl
            have hD := hD.sub (ws' := (wC a cy Td u_355 ++ wC b cy Sa u_324 ++ [(q_43, .inl (cy 0, 40, .inl fa)), (q_49, .inl (cy 0, 40, .inl fb))])) [14, 15, 16, 17, 18, 19, 20, 21, 22, 23, 24, 25, 0, 1, 2, 3, 4, 5, 6, 7, 8, 9, 10, 11, 12, 13] (by decide) rfl
            have hP : va_P G vwCl (wC a cy Td u_355 ++ wC b cy Sa u_324 ++ [(q_43, .inl (cy 0, 40, .inl fa)), (q_49, .inl (cy 0, 40, .inl fb))]) H := hP
            have hD : va_D A (wC a cy Td u_355 ++ wC b cy Sa u_324 ++ [(q_43, .inl (cy 0, 40, .inl fa)), (q_49, .inl (cy 0, 40, .inl fb))]) := hD
            have hz : s.heap.size + (0 + 37) ≤ H.size := rz_0 hz hz9
            obtain rfl : r_355 = nI (NP pr) := rf_0 e9 hw
            refine lv_iload hx hb dL_law_358 (lv_at hl 4 rfl) ?_
            refine lv_icmp_ne (tgt := 376) hx hb dL_law_360 (by decide) (fun c_360 => False.elim (c_360 rfl)) (fun c_360 => ?_)
            refine lv_aload_n hx hb dL_law_363 rfl (lv_at hl 12 rfl) ?_
            have hPc := hP.sub (ws' := (wC a cy Td u_355)) [0, 1, 2, 3, 4, 5, 6, 7, 8, 9, 10, 11] rfl
            have hDc := hD.sub (ws' := (wC a cy Td u_355)) [0, 1, 2, 3, 4, 5, 6, 7, 8, 9, 10, 11] (by decide) rfl
            refine mo_Ve (G := G) (wr := (wC b cy Sa u_324 ++ [(q_43, .inl (cy 0, 40, .inl fa)), (q_49, .inl (cy 0, 40, .inl fb))])) (As := []) (rest := []) ⟨hx, hb, hml, hown, hts⟩ (c_X3_level l G cy a H.size Td u_355 hRd.1) (cwV 0 hts gL_law_X3_level rfl rfl rfl (by decide +kernel) ⟨Nat.le_of_ble_eq_true rfl, Nat.le_of_ble_eq_true rfl⟩) (va_recv hK hPc (ci := 3) (q0 := 0) rfl rfl) hPc hDc hP hK hD hS hA [0, 1, 2, 3, 4, 5, 6, 7, 8, 9, 10, 11] [12, 13, 14, 15, 16, 17, 18, 19, 20, 21, 22, 23, 24, 25] rfl rfl (by decide) (by decide) hN rfl hl.1 (Nat.le_of_ble_eq_true rfl) dL_law_364 ⟨by show _ ≤ (20000 : Nat); omega, by show _ ≤ (130000 : Nat); omega⟩ (fun r_364 u_364 H locs hw hP hD hS hz9 => ?_)
            have hP := hP.sub (ws' := (wC a cy Td u_355 ++ wC b cy Sa u_324 ++ [(q_43, .inl (cy 0, 40, .inl fa)), (q_49, .inl (cy 0, 40, .inl fb))])) [14, 15, 16, 17, 18, 19, 20, 21, 22, 23, 24, 25, 0, 1, 2, 3, 4, 5, 6, 7, 8, 9, 10, 11, 12, 13] rfl
            have hD := hD.sub (ws' := (wC a cy Td u_355 ++ wC b cy Sa u_324 ++ [(q_43, .inl (cy 0, 40, .inl fa)), (q_49, .inl (cy 0, 40, .inl fb))])) [14, 15, 16, 17, 18, 19, 20, 21, 22, 23, 24, 25, 0, 1, 2, 3, 4, 5, 6, 7, 8, 9, 10, 11, 12, 13] (by decide) rfl
            have hP : va_P G vwCl (wC a cy Td u_355 ++ wC b cy Sa u_324 ++ [(q_43, .inl (cy 0, 40, .inl fa)), (q_49, .inl (cy 0, 40, .inl fb))]) H := hP
            have hD : va_D A (wC a cy Td u_355 ++ wC b cy Sa u_324 ++ [(q_43, .inl (cy 0, 40, .inl fa)), (q_49, .inl (cy 0, 40, .inl fb))]) := hD
            have hz : s.heap.size + (0 + 37) ≤ H.size := Nat.le_trans hz hz9
            obtain rfl : r_364 = nI (tlv Td) := hw
            refine lv_iload hx hb dL_law_367 (lv_at hl 14 rfl) ?_
            refine lv_icmp_ne (tgt := 376) hx hb dL_law_369 (by decide) (fun c_369 => False.elim (c_369 (by rw [hRd.2.2.2.2.2.1]))) (fun c_369 => ?_)
            refine lv_iconst (v := 1) hx hb dL_law_372 (by decide) ?_
            refine lv_goto (tgt := 377) hx hb dL_law_373 (by decide) ?_
            refine lv_istore (lv' := [(8, .int 1), (14, .int v14), (13, .int (nI (j_214 / 3 % 3))), (12, .int (nI (j_214 % 3))), (11, .int (nI j_214)), (9, .int (nI (NP pr))), (7, .ref q_49), (6, .ref q_43), (5, .int (nI (1 + j_18 / 20 % 8))), (4, .int (nI (1 + j_18 % 20))), (3, .int (nI j_18)), (2, .ref (b 0)), (1, .ref (a 0)), (0, .ref b9), (10, .int (nI (i2 + 1)))]) hx hb dL_law_377 hl (by decide) rfl (fun ls hl => ?_)
            refine lv_iload hx hb dL_law_379 (lv_at hl 0 rfl) ?_
            refine lv_if_eq (tgt := 393) hx hb dL_law_381 (by decide) (fun c_381 => False.elim (by revert c_381; decide)) (fun c_381 => ?_)
            refine lv_aload_n hx hb dL_law_384 rfl (lv_at hl 11 rfl) ?_
            refine lv_iload hx hb dL_law_385 (lv_at hl 4 rfl) ?_
            have hPc := hP.sub (ws' := (wC b cy Sa u_324)) [12, 13, 14, 15, 16, 17, 18, 19, 20, 21, 22, 23] rfl
            have hDc := hD.sub (ws' := (wC b cy Sa u_324)) [12, 13, 14, 15, 16, 17, 18, 19, 20, 21, 22, 23] (by decide) rfl
            refine mo_Sz (G := G) (wr := (wC a cy Td u_355 ++ [(q_43, .inl (cy 0, 40, .inl fa)), (q_49, .inl (cy 0, 40, .inl fb))])) (As := [.ref (b 0), .int (nI j_214)]) (rest := []) ⟨hx, hb, hml, hown, hts⟩ (c_L_ledgerWorker2 l hlt G cy b H.size Sa u_324 j_214 _ hj_214 (by omega) hRb.2.2.2.1 hRb.1) (va_cwS 2 hts gL_law_L_ledgerWorker rfl rfl rfl (by decide +kernel) ⟨Nat.le_of_ble_eq_true rfl, Nat.le_of_ble_eq_true rfl⟩) hPc hDc hP hK hD hS hA [12, 13, 14, 15, 16, 17, 18, 19, 20, 21, 22, 23] [0, 1, 2, 3, 4, 5, 6, 7, 8, 9, 10, 11, 24, 25] rfl rfl (by decide) (by decide) hN hE rfl hl.1 (Nat.le_of_ble_eq_true rfl) dL_law_387 ⟨by show _ ≤ (20000 : Nat); omega, by show _ ≤ (130000 : Nat); omega⟩ (fun r_387 u_387 H locs hw hP hD hS hz9 => ?_)
            obtain ⟨Se, tre⟩ := u_387
            obtain ⟨w, y9, hw4, rfl, hSe, hLKe, hhe, hIe⟩ := hw
            have hSe : Se = ule (uho Sa (nI w)) y9 := hSe
            have hRe := rs_ul hRb (x := nI w) (y := y9) (by rw [← hSe]; exact hLKe)
            rw [← hSe] at hRe
            have hP := hP.sub (ws' := (wC a cy Td u_355 ++ wC b cy Se tre ++ [(q_43, .inl (cy 0, 40, .inl fa)), (q_49, .inl (cy 0, 40, .inl fb))])) [0, 1, 2, 3, 4, 5, 6, 7, 8, 9, 10, 11, 14, 15, 16, 17, 18, 19, 20, 21, 22, 23, 24, 25, 12, 13] rfl
            have hD := hD.sub (ws' := (wC a cy Td u_355 ++ wC b cy Se tre ++ [(q_43, .inl (cy 0, 40, .inl fa)), (q_49, .inl (cy 0, 40, .inl fb))])) [0, 1, 2, 3, 4, 5, 6, 7, 8, 9, 10, 11, 14, 15, 16, 17, 18, 19, 20, 21, 22, 23, 24, 25, 12, 13] (by decide) rfl
            have hP : va_P G vwCl (wC a cy Td u_355 ++ wC b cy Se tre ++ [(q_43, .inl (cy 0, 40, .inl fa)), (q_49, .inl (cy 0, 40, .inl fb))]) H := hP
            have hD : va_D A (wC a cy Td u_355 ++ wC b cy Se tre ++ [(q_43, .inl (cy 0, 40, .inl fa)), (q_49, .inl (cy 0, 40, .inl fb))]) := hD
            have hz : s.heap.size + (0 + 37) ≤ H.size := Nat.le_trans hz (Nat.le_trans (Nat.le_add_right _ _) hz9)
            refine lv_goto (tgt := 394) hx hb dL_law_390 (by decide) ?_
            refine lv_istore (lv' := [(15, .int (nI w)), (8, .int 1), (14, .int v14), (13, .int (nI (j_214 / 3 % 3))), (12, .int (nI (j_214 % 3))), (11, .int (nI j_214)), (9, .int (nI (NP pr))), (7, .ref q_49), (6, .ref q_43), (5, .int (nI (1 + j_18 / 20 % 8))), (4, .int (nI (1 + j_18 % 20))), (3, .int (nI j_18)), (2, .ref (b 0)), (1, .ref (a 0)), (0, .ref b9), (10, .int (nI (i2 + 1)))]) hx hb dL_law_394 hl (by decide) rfl (fun ls hl => ?_)
            refine lv_iload hx hb dL_law_396 (lv_at hl 1 rfl) ?_
            refine lv_if_eq (tgt := 463) hx hb dL_law_398 (by decide) (fun c_398 => False.elim (by revert c_398; decide)) (fun c_398 => ?_)
            refine lv_aload_n hx hb dL_law_401 rfl (lv_at hl 12 rfl) ?_
            refine lv_iload hx hb dL_law_402 (lv_at hl 0 rfl) ?_
            obtain ⟨Sf, ef, hRAs, hsf1, hsf2, hsf3⟩ := rs_begin hRe (by omega) hw4 hhe
            have hPc := hP.sub (ws' := (wC b cy Se tre)) [12, 13, 14, 15, 16, 17, 18, 19, 20, 21, 22, 23] rfl
            have hDc := hD.sub (ws' := (wC b cy Se tre)) [12, 13, 14, 15, 16, 17, 18, 19, 20, 21, 22, 23] (by decide) rfl
            refine mo_SWz (G := G) (wr := (wC a cy Td u_355 ++ [(q_43, .inl (cy 0, 40, .inl fa)), (q_49, .inl (cy 0, 40, .inl fb))])) (As := [.ref (b 0), .int (nI w)]) (rest := []) ⟨hx, hb, hml, hown, hts⟩ (c_L_begins l hlt G cy b H.size Se tre (nI w) hRe.1) (vx_cwSW 2 hts gL_law_L_begins rfl rfl rfl (by decide +kernel) ⟨Nat.le_of_ble_eq_true rfl, Nat.le_of_ble_eq_true rfl⟩) hPc hDc hP hK hD hS hA [12, 13, 14, 15, 16, 17, 18, 19, 20, 21, 22, 23] [0, 1, 2, 3, 4, 5, 6, 7, 8, 9, 10, 11, 24, 25] rfl rfl (by decide) (by decide) hN hE rfl hl.1 (Nat.le_of_ble_eq_true rfl) dL_law_404 ⟨by show _ ≤ (20000 : Nat); omega, by show _ ≤ (130000 : Nat); omega⟩ (fun r_404 u_404 H locs hw hP hD hS hz9 => ?_)
            have e9 : (sp_begin Se (nI w)) = (0, nI (i2 + 1), Sf) := ef
            rw [e9] at hP hD
            have hP := hP.sub (ws' := (wC a cy Td u_355 ++ wC b cy Sf u_404 ++ [(q_43, .inl (cy 0, 40, .inl fa)), (q_49, .inl (cy 0, 40, .inl fb))])) [0, 1, 2, 3, 4, 5, 6, 7, 8, 9, 10, 11, 14, 15, 16, 17, 18, 19, 20, 21, 22, 23, 24, 25, 12, 13] rfl
            have hD := hD.sub (ws' := (wC a cy Td u_355 ++ wC b cy Sf u_404 ++ [(q_43, .inl (cy 0, 40, .inl fa)), (q_49, .inl (cy 0, 40, .inl fb))])) [0, 1, 2, 3, 4, 5, 6, 7, 8, 9, 10, 11, 14, 15, 16, 17, 18, 19, 20, 21, 22, 23, 24, 25, 12, 13] (by decide) rfl
            have hP : va_P G vwCl (wC a cy Td u_355 ++ wC b cy Sf u_404 ++ [(q_43, .inl (cy 0, 40, .inl fa)), (q_49, .inl (cy 0, 40, .inl fb))]) H := hP
            have hD : va_D A (wC a cy Td u_355 ++ wC b cy Sf u_404 ++ [(q_43, .inl (cy 0, 40, .inl fa)), (q_49, .inl (cy 0, 40, .inl fb))]) := hD
            have hz : s.heap.size + (0 + 37) ≤ H.size := rz_0 hz hz9
            obtain rfl : r_404 = nI (i2 + 1) := rf_0 e9 hw
            refine lv_iload hx hb dL_law_407 (lv_at hl 15 rfl) ?_
            refine lv_icmp_ne (tgt := 463) hx hb dL_law_409 (by decide) (fun c_409 => False.elim (c_409 rfl)) (fun c_409 => ?_)
            refine lv_aload_n hx hb dL_law_412 rfl (lv_at hl 12 rfl) ?_
            refine lv_iload hx hb dL_law_413 (lv_at hl 5 rfl) ?_
            refine lv_sipush (v := 499) hx hb dL_law_415 (by decide) ?_
            refine lv_irem hx hb dL_law_418 (by decide) ?_
            refine ml_eqi (nI (j_214 % 499)) (pk_rem (a := j_214) (d := 499) (by omega) (by decide) (by decide)) ?_
            have hPc := hP.sub (ws' := (wC b cy Sf u_404)) [12, 13, 14, 15, 16, 17, 18, 19, 20, 21, 22, 23] rfl
            have hDc := hD.sub (ws' := (wC b cy Sf u_404)) [12, 13, 14, 15, 16, 17, 18, 19, 20, 21, 22, 23] (by decide) rfl
            refine mo_Sz (G := G) (wr := (wC a cy Td u_355 ++ [(q_43, .inl (cy 0, 40, .inl fa)), (q_49, .inl (cy 0, 40, .inl fb))])) (As := [.ref (b 0), .int (nI (j_214 % 499))]) (rest := []) ⟨hx, hb, hml, hown, hts⟩ (c_L_refuses l hlt G cy b H.size Sf u_404 (j_214 % 499) d499 hRAs.1) (va_cwS 2 hts gL_law_L_refuses rfl rfl rfl (by decide +kernel) ⟨Nat.le_of_ble_eq_true rfl, Nat.le_of_ble_eq_true rfl⟩) hPc hDc hP hK hD hS hA [12, 13, 14, 15, 16, 17, 18, 19, 20, 21, 22, 23] [0, 1, 2, 3, 4, 5, 6, 7, 8, 9, 10, 11, 24, 25] rfl rfl (by decide) (by decide) hN hE rfl hl.1 (Nat.le_of_ble_eq_true rfl) dL_law_419 ⟨by show _ ≤ (20000 : Nat); omega, by show _ ≤ (130000 : Nat); omega⟩ (fun r_419 u_419 H locs hw hP hD hS hz9 => ?_)
            have hP := hP.sub (ws' := (wC a cy Td u_355 ++ wC b cy Sf u_419 ++ [(q_43, .inl (cy 0, 40, .inl fa)), (q_49, .inl (cy 0, 40, .inl fb))])) [0, 1, 2, 3, 4, 5, 6, 7, 8, 9, 10, 11, 14, 15, 16, 17, 18, 19, 20, 21, 22, 23, 24, 25, 12, 13] rfl
            have hD := hD.sub (ws' := (wC a cy Td u_355 ++ wC b cy Sf u_419 ++ [(q_43, .inl (cy 0, 40, .inl fa)), (q_49, .inl (cy 0, 40, .inl fb))])) [0, 1, 2, 3, 4, 5, 6, 7, 8, 9, 10, 11, 14, 15, 16, 17, 18, 19, 20, 21, 22, 23, 24, 25, 12, 13] (by decide) rfl
            have hP : va_P G vwCl (wC a cy Td u_355 ++ wC b cy Sf u_419 ++ [(q_43, .inl (cy 0, 40, .inl fa)), (q_49, .inl (cy 0, 40, .inl fb))]) H := hP
            have hD : va_D A (wC a cy Td u_355 ++ wC b cy Sf u_419 ++ [(q_43, .inl (cy 0, 40, .inl fa)), (q_49, .inl (cy 0, 40, .inl fb))]) := hD
            have hz : s.heap.size + (0 + 37 + 37) ≤ H.size := by have h9 : _ + 37 ≤ H.size := hz9; omega
            obtain rfl : r_419 = 1 := hw
            refine lv_if_eq (tgt := 463) hx hb dL_law_422 (by decide) (fun c_422 => False.elim (by revert c_422; decide)) (fun c_422 => ?_)
            refine lv_aload_n hx hb dL_law_425 rfl (lv_at hl 12 rfl) ?_
            refine lv_iload hx hb dL_law_426 (lv_at hl 5 rfl) ?_
            refine lv_bipush (v := 7) hx hb dL_law_428 (by decide) ?_
            refine lv_idiv hx hb dL_law_430 (by decide) ?_
            refine ml_eqi (nI (j_214 / 7)) (pk_div (a := j_214) (d := 7) (by omega) (by decide) (by decide)) ?_
            refine lv_iconst (v := 0) hx hb dL_law_431 (by decide) ?_
            have hPc := hP.sub (ws' := (wC b cy Sf u_419)) [12, 13, 14, 15, 16, 17, 18, 19, 20, 21, 22, 23] rfl
            have hDc := hD.sub (ws' := (wC b cy Sf u_419)) [12, 13, 14, 15, 16, 17, 18, 19, 20, 21, 22, 23] (by decide) rfl
            refine mo_Sz (G := G) (wr := (wC a cy Td u_355 ++ [(q_43, .inl (cy 0, 40, .inl fa)), (q_49, .inl (cy 0, 40, .inl fb))])) (As := [.ref (b 0), .int (nI (j_214 / 7)), .int 0]) (rest := []) ⟨hx, hb, hml, hown, hts⟩ (c_L_comesU l hlt G cy b H.size Sf u_419 (nI (j_214 / 7)) _ _ _ _ _ _ _ hPl2 (by omega) hsf1 (ra_ci hRAs)) (va_cwS 3 hts gL_law_L_comes rfl rfl rfl (by decide +kernel) ⟨Nat.le_of_ble_eq_true rfl, Nat.le_of_ble_eq_true rfl⟩) hPc hDc hP hK hD hS hA [12, 13, 14, 15, 16, 17, 18, 19, 20, 21, 22, 23] [0, 1, 2, 3, 4, 5, 6, 7, 8, 9, 10, 11, 24, 25] rfl rfl (by decide) (by decide) hN hE rfl hl.1 (Nat.le_of_ble_eq_true rfl) dL_law_432 ⟨by show _ ≤ (20000 : Nat); omega, by show _ ≤ (130000 : Nat); omega⟩ (fun r_432 u_432 H locs hw hP hD hS hz9 => ?_)
            obtain ⟨Sg, trg⟩ := u_432
            obtain ⟨rfl, i9, v9, hi9, hCI9, ha9⟩ := hw
            have hRg := rs_ci (T := Sg) hRAs hCI9 hi9 ha9
            have hgg : gl Sf (tac Sf = 3) = i2 + 1 := by unfold gl; rw [hsf1, cif_f (by decide), hsf2]
            rw [hgg] at hRg
            have hP := hP.sub (ws' := (wC a cy Td u_355 ++ wC b cy Sg trg ++ [(q_43, .inl (cy 0, 40, .inl fa)), (q_49, .inl (cy 0, 40, .inl fb))])) [0, 1, 2, 3, 4, 5, 6, 7, 8, 9, 10, 11, 14, 15, 16, 17, 18, 19, 20, 21, 22, 23, 24, 25, 12, 13] rfl
            have hD := hD.sub (ws' := (wC a cy Td u_355 ++ wC b cy Sg trg ++ [(q_43, .inl (cy 0, 40, .inl fa)), (q_49, .inl (cy 0, 40, .inl fb))])) [0, 1, 2, 3, 4, 5, 6, 7, 8, 9, 10, 11, 14, 15, 16, 17, 18, 19, 20, 21, 22, 23, 24, 25, 12, 13] (by decide) rfl
            have hP : va_P G vwCl (wC a cy Td u_355 ++ wC b cy Sg trg ++ [(q_43, .inl (cy 0, 40, .inl fa)), (q_49, .inl (cy 0, 40, .inl fb))]) H := hP
            have hD : va_D A (wC a cy Td u_355 ++ wC b cy Sg trg ++ [(q_43, .inl (cy 0, 40, .inl fa)), (q_49, .inl (cy 0, 40, .inl fb))]) := hD
            have hz : s.heap.size + (0 + 37 + 37) ≤ H.size := Nat.le_trans hz (Nat.le_trans (Nat.le_add_right _ _) hz9)
            refine lv_iload hx hb dL_law_435 (lv_at hl 6 rfl) ?_
            refine lv_icmp_ne (tgt := 463) hx hb dL_law_437 (by decide) (fun c_437 => False.elim (c_437 rfl)) (fun c_437 => ?_)
            refine lv_aload_n hx hb dL_law_440 rfl (lv_at hl 13 rfl) ?_
            refine lv_aload_n hx hb dL_law_441 rfl (lv_at hl 12 rfl) ?_
            have hPc := hP.sub (ws' := (wC a cy Td u_355 ++ wC b cy Sg trg)) [0, 1, 2, 3, 4, 5, 6, 7, 8, 9, 10, 11, 12, 13, 14, 15, 16, 17, 18, 19, 20, 21, 22, 23] rfl
            have hDc := hD.sub (ws' := (wC a cy Td u_355 ++ wC b cy Sg trg)) [0, 1, 2, 3, 4, 5, 6, 7, 8, 9, 10, 11, 12, 13, 14, 15, 16, 17, 18, 19, 20, 21, 22, 23] (by decide) rfl
            refine mo_Sz (G := G) (wr := [(q_43, .inl (cy 0, 40, .inl fa)), (q_49, .inl (cy 0, 40, .inl fb))]) (As := [.ref (a 0), .ref (b 0)]) (rest := []) ⟨hx, hb, hml, hown, hts⟩ (c_L_alike2 l hlt G cy a b H.size Td u_355 Sg trg (rs_al hRd hRg) hRd.1 hRg.1) (va_cwS 2 hts gL_law_L_alike rfl rfl rfl (by decide +kernel) ⟨Nat.le_of_ble_eq_true rfl, Nat.le_of_ble_eq_true rfl⟩) hPc hDc hP hK hD hS hA [0, 1, 2, 3, 4, 5, 6, 7, 8, 9, 10, 11, 12, 13, 14, 15, 16, 17, 18, 19, 20, 21, 22, 23] [24, 25] rfl rfl (by decide) (by decide) hN hE rfl hl.1 (Nat.le_of_ble_eq_true rfl) dL_law_442 ⟨by show _ ≤ (20000 : Nat); omega, by show _ ≤ (130000 : Nat); omega⟩ (fun r_442 u_442 H locs hw hP hD hS hz9 => ?_)
            obtain ⟨tr_442, ts_442⟩ := u_442
            have hP := hP.sub (ws' := (wC a cy Td tr_442 ++ wC b cy Sg ts_442 ++ [(q_43, .inl (cy 0, 40, .inl fa)), (q_49, .inl (cy 0, 40, .inl fb))])) [2, 3, 4, 5, 6, 7, 8, 9, 10, 11, 12, 13, 14, 15, 16, 17, 18, 19, 20, 21, 22, 23, 24, 25, 0, 1] rfl
            have hD := hD.sub (ws' := (wC a cy Td tr_442 ++ wC b cy Sg ts_442 ++ [(q_43, .inl (cy 0, 40, .inl fa)), (q_49, .inl (cy 0, 40, .inl fb))])) [2, 3, 4, 5, 6, 7, 8, 9, 10, 11, 12, 13, 14, 15, 16, 17, 18, 19, 20, 21, 22, 23, 24, 25, 0, 1] (by decide) rfl
            have hP : va_P G vwCl (wC a cy Td tr_442 ++ wC b cy Sg ts_442 ++ [(q_43, .inl (cy 0, 40, .inl fa)), (q_49, .inl (cy 0, 40, .inl fb))]) H := hP
            have hD : va_D A (wC a cy Td tr_442 ++ wC b cy Sg ts_442 ++ [(q_43, .inl (cy 0, 40, .inl fa)), (q_49, .inl (cy 0, 40, .inl fb))]) := hD
            have hz : s.heap.size + (0 + 37 + 37) ≤ H.size := Nat.le_trans hz (Nat.le_trans (Nat.le_add_right _ _) hz9)
            obtain rfl : r_442 = 1 := hw
            refine lv_if_eq (tgt := 463) hx hb dL_law_445 (by decide) (fun c_445 => False.elim (by revert c_445; decide)) (fun c_445 => ?_)
            refine lv_aload_n hx hb dL_law_448 rfl (lv_at hl 12 rfl) ?_
            refine lv_iload hx hb dL_law_449 (lv_at hl 15 rfl) ?_
            have hPc := hP.sub (ws' := (wC b cy Sg ts_442)) [12, 13, 14, 15, 16, 17, 18, 19, 20, 21, 22, 23] rfl
            have hDc := hD.sub (ws' := (wC b cy Sg ts_442)) [12, 13, 14, 15, 16, 17, 18, 19, 20, 21, 22, 23] (by decide) rfl
            refine mo_SWz (G := G) (wr := (wC a cy Td tr_442 ++ [(q_43, .inl (cy 0, 40, .inl fa)), (q_49, .inl (cy 0, 40, .inl fb))])) (As := [.ref (b 0), .int (nI (i2 + 1))]) (rest := []) ⟨hx, hb, hml, hown, hts⟩ (c_L_rowsAt l hlt G cy b H.size Sg ts_442 (nI (i2 + 1)) hRg.1) (vx_cwSW 2 hts gL_law_L_rowsAt rfl rfl rfl (by decide +kernel) ⟨Nat.le_of_ble_eq_true rfl, Nat.le_of_ble_eq_true rfl⟩) hPc hDc hP hK hD hS hA [12, 13, 14, 15, 16, 17, 18, 19, 20, 21, 22, 23] [0, 1, 2, 3, 4, 5, 6, 7, 8, 9, 10, 11, 24, 25] rfl rfl (by decide) (by decide) hN hE rfl hl.1 (Nat.le_of_ble_eq_true rfl) dL_law_451 ⟨by show _ ≤ (20000 : Nat); omega, by show _ ≤ (130000 : Nat); omega⟩ (fun r_451 u_451 H locs hw hP hD hS hz9 => ?_)
            have e9 : (sp_rowsAt Sg (nI (i2 + 1))) = (0, nI (NP pr), Sg) := (q0_rowsAt (by omega)).trans (by rw [rs_np hRg])
            rw [e9] at hP hD
            have hP := hP.sub (ws' := (wC a cy Td tr_442 ++ wC b cy Sg u_451 ++ [(q_43, .inl (cy 0, 40, .inl fa)), (q_49, .inl (cy 0, 40, .inl fb))])) [0, 1, 2, 3, 4, 5, 6, 7, 8, 9, 10, 11, 14, 15, 16, 17, 18, 19, 20, 21, 22, 23, 24, 25, 12, 13] rfl
            have hD := hD.sub (ws' := (wC a cy Td tr_442 ++ wC b cy Sg u_451 ++ [(q_43, .inl (cy 0, 40, .inl fa)), (q_49, .inl (cy 0, 40, .inl fb))])) [0, 1, 2, 3, 4, 5, 6, 7, 8, 9, 10, 11, 14, 15, 16, 17, 18, 19, 20, 21, 22, 23, 24, 25, 12, 13] (by decide) rfl
            have hP : va_P G vwCl (wC a cy Td tr_442 ++ wC b cy Sg u_451 ++ [(q_43, .inl (cy 0, 40, .inl fa)), (q_49, .inl (cy 0, 40, .inl fb))]) H := hP
            have hD : va_D A (wC a cy Td tr_442 ++ wC b cy Sg u_451 ++ [(q_43, .inl (cy 0, 40, .inl fa)), (q_49, .inl (cy 0, 40, .inl fb))]) := hD
            have hz : s.heap.size + (0 + 37 + 37) ≤ H.size := rz_0 hz hz9
            obtain rfl : r_451 = nI (NP pr) := rf_0 e9 hw
            refine lv_iload hx hb dL_law_454 (lv_at hl 6 rfl) ?_
            refine lv_icmp_ne (tgt := 463) hx hb dL_law_456 (by decide) (fun c_456 => False.elim (c_456 rfl)) (fun c_456 => ?_)
            refine lv_iconst (v := 1) hx hb dL_law_459 (by decide) ?_
            refine lv_goto (tgt := 464) hx hb dL_law_460 (by decide) ?_
            refine lv_istore (lv' := [(8, .int 1), (15, .int (nI w)), (14, .int v14), (13, .int (nI (j_214 / 3 % 3))), (12, .int (nI (j_214 % 3))), (11, .int (nI j_214)), (9, .int (nI (NP pr))), (7, .ref q_49), (6, .ref q_43), (5, .int (nI (1 + j_18 / 20 % 8))), (4, .int (nI (1 + j_18 % 20))), (3, .int (nI j_18)), (2, .ref (b 0)), (1, .ref (a 0)), (0, .ref b9), (10, .int (nI (i2 + 1)))]) hx hb dL_law_464 hl (by decide) rfl (fun ls hl => ?_)
            refine lv_iinc (v := nI (i2 + 1 + 1)) (lv' := [(10, .int (nI (i2 + 1 + 1))), (8, .int 1), (15, .int (nI w)), (14, .int v14), (13, .int (nI (j_214 / 3 % 3))), (12, .int (nI (j_214 % 3))), (11, .int (nI j_214)), (9, .int (nI (NP pr))), (7, .ref q_49), (6, .ref q_43), (5, .int (nI (1 + j_18 / 20 % 8))), (4, .int (nI (1 + j_18 % 20))), (3, .int (nI j_18)), (2, .ref (b 0)), (1, .ref (a 0)), (0, .ref b9)]) hx hb dL_law_466 hl (k := 15) rfl (nI_1 _) (by decide) rfl (fun ls hl => ?_)
            refine lv_goto (tgt := 196) hx hb dL_law_469 (by decide) ?_
            refine W.widen (k := 26 + 4 * i1 + 1 + 1150 * (i2 + 1)) (n := 6 * (26 + 4 * i1 + 1 + 1150 * (i2 + 1)) + 390) (by omega) (by omega) ?_
            exact ih (i2 + 1) Td tr_442 hRd.1 Sg u_451 hRg.1 (by omega) (⟨_, _, _, hPl2, hRd, Or.inr (hHd.trans (htc3.trans hHc)), rs_le hRg (by omega)⟩) _ _ _ hP hD hS (by omega) (lv_sub hl [7, 1, 8, 9, 10, 11, 12, 13, 14, 15, 0] rfl)
          refine lv_if_ne (tgt := 253) hx hb dL_law_235 (by decide) (fun c_235 => ?_) (fun c_235 => ?_)
          · refine lv_iload hx hb dL_law_253 (lv_at hl 1 rfl) ?_
            refine lv_iconst (v := 1) hx hb dL_law_255 (by decide) ?_
            refine lv_icmp_ne (tgt := 271) hx hb dL_law_256 (by decide) (fun c_256 => ?_) (fun c_256 => ?_)
            · refine lv_iload hx hb dL_law_271 (lv_at hl 0 rfl) ?_
              refine lv_iconst (v := 1) hx hb dL_law_273 (by decide) ?_
              refine lv_iadd hx hb dL_law_274 ?_
              refine ml_eqi (nI (j_214 / 3 % 3 + 1)) (nI_1 _) ?_
              refine lv_iload hx hb dL_law_275 (lv_at hl 2 rfl) ?_
              refine lv_bipush (v := 9) hx hb dL_law_277 (by decide) ?_
              refine lv_idiv hx hb dL_law_279 (by decide) ?_
              refine ml_eqi (nI (j_214 / 9)) (pk_div (a := j_214) (d := 9) (by omega) (by decide) (by decide)) ?_
              refine lv_iconst (v := 2) hx hb dL_law_280 (by decide) ?_
              refine lv_irem hx hb dL_law_281 (by decide) ?_
              refine ml_eqi (nI (j_214 / 9 % 2)) (pk_rem (a := j_214 / 9) (d := 2) (by omega) (by decide) (by decide)) ?_
              refine lv_iadd hx hb dL_law_282 ?_
              refine ml_eqi (nI (j_214 / 3 % 3 + 1 + j_214 / 9 % 2)) (nI_add _ _) ?_
              refine lv_iconst (v := 3) hx hb dL_law_283 (by decide) ?_
              refine lv_irem hx hb dL_law_284 (by decide) ?_
              refine ml_eqi (nI ((j_214 / 3 % 3 + 1 + j_214 / 9 % 2) % 3)) (pk_rem (a := (j_214 / 3 % 3 + 1 + j_214 / 9 % 2)) (d := 3) (by omega) (by decide) (by decide)) ?_
              refine W.widen (k := 26 + 4 * i1 + 1 + 1150 * i2) (n := 6 * (26 + 4 * i1 + 1 + 1150 * i2) + 390) (by omega) (by omega) ?_
              exact J285 (nI ((j_214 / 3 % 3 + 1 + j_214 / 9 % 2) % 3)) (lo_2 c_235 c_256 (by omega) (by omega) (by omega)) _ _ _ hP hD hS (by omega) (lv_sub hl [0, 1, 2, 3, 4, 5, 6, 7, 8, 9, 10, 11, 12, 13] rfl)
            · refine lv_iload hx hb dL_law_259 (lv_at hl 2 rfl) ?_
              refine lv_bipush (v := 9) hx hb dL_law_261 (by decide) ?_
              refine lv_idiv hx hb dL_law_263 (by decide) ?_
              refine ml_eqi (nI (j_214 / 9)) (pk_div (a := j_214) (d := 9) (by omega) (by decide) (by decide)) ?_
              refine lv_iconst (v := 3) hx hb dL_law_264 (by decide) ?_
              refine lv_irem hx hb dL_law_265 (by decide) ?_
              refine ml_eqi (nI (j_214 / 9 % 3)) (pk_rem (a := j_214 / 9) (d := 3) (by omega) (by decide) (by decide)) ?_
              refine lv_iconst (v := 1) hx hb dL_law_266 (by decide) ?_
              refine lv_iadd hx hb dL_law_267 ?_
              refine ml_eqi (nI (j_214 / 9 % 3 + 1)) (nI_1 _) ?_
              refine lv_goto (tgt := 285) hx hb dL_law_268 (by decide) ?_
              refine W.widen (k := 26 + 4 * i1 + 1 + 1150 * i2) (n := 6 * (26 + 4 * i1 + 1 + 1150 * i2) + 390) (by omega) (by omega) ?_
              exact J285 (nI (j_214 / 9 % 3 + 1)) (lo_1 c_256 (by omega) (by omega)) _ _ _ hP hD hS (by omega) (lv_sub hl [0, 1, 2, 3, 4, 5, 6, 7, 8, 9, 10, 11, 12, 13] rfl)
          · refine lv_iload hx hb dL_law_238 (lv_at hl 2 rfl) ?_
            refine lv_bipush (v := 9) hx hb dL_law_240 (by decide) ?_
            refine lv_idiv hx hb dL_law_242 (by decide) ?_
            refine ml_eqi (nI (j_214 / 9)) (pk_div (a := j_214) (d := 9) (by omega) (by decide) (by decide)) ?_
            refine lv_sipush (v := 201) hx hb dL_law_243 (by decide) ?_
            refine lv_irem hx hb dL_law_246 (by decide) ?_
            refine ml_eqi (nI (j_214 / 9 % 201)) (pk_rem (a := j_214 / 9) (d := 201) (by omega) (by decide) (by decide)) ?_
            refine lv_bipush (v := 100) hx hb dL_law_247 (by decide) ?_
            refine lv_isub hx hb dL_law_249 ?_
            refine lv_goto (tgt := 285) hx hb dL_law_250 (by decide) ?_
            refine W.widen (k := 26 + 4 * i1 + 1 + 1150 * i2) (n := 6 * (26 + 4 * i1 + 1 + 1150 * i2) + 390) (by omega) (by omega) ?_
            exact J285 ((nI (j_214 / 9 % 201)) - 100) (lo_0 c_235 (by omega) (by omega)) _ _ _ hP hD hS (by omega) (lv_sub hl [0, 1, 2, 3, 4, 5, 6, 7, 8, 9, 10, 11, 12, 13] rfl)
      refine W.widen (k := 26 + 4 * i1 + 1 + 1150 * 0) (n := 6 * (26 + 4 * i1 + 1 + 1150 * 0) + 390) (by omega) (by omega) ?_
      exact LOOP196 (1 + j_18 / 20 % 8) 0 T_1 u_188 hI_3 T_4 tr_5 hI_6 (by omega) hL2 _ _ _ hP hD hS (by omega) (lv_sub hl [1, 2, 3, 4, 5, 6, 7, 8, 9, 10, 0] rfl)
    | succ r ih =>
      intro i1 T_1 tr_2 hI_3 T_4 tr_5 hI_6 fa fb hi hR0 H locs ls hP hD hS hz hl
      refine lv_iload hx hb dL_law_59 (lv_at hl 9 rfl) ?_
      refine lv_iload hx hb dL_law_61 (lv_at hl 4 rfl) ?_
      refine lv_icmp_ge (tgt := 186) hx hb dL_law_63 (by decide) (fun c_63 => False.elim (absurd ((nI_leI (by omega) (by omega)).mp c_63) (by omega))) (fun c_63 => ?_)
      refine lv_iload hx hb dL_law_66 (lv_at hl 0 rfl) ?_
      refine lv_if_eq (tgt := 186) hx hb dL_law_68 (by decide) (fun c_68 => False.elim (by revert c_68; decide)) (fun c_68 => ?_)
      refine lv_aload_n hx hb dL_law_71 rfl (lv_at hl 8 rfl) ?_
      refine lv_iconst (v := 1) hx hb dL_law_72 (by decide) ?_
      refine lv_iload hx hb dL_law_73 (lv_at hl 9 rfl) ?_
      refine lv_iadd hx hb dL_law_75 ?_
      refine ml_eqi (nI (1 + i1)) (nI_add 1 i1) ?_
      refine va_calli (va_runS (As := [.ref b9, .int (nI (1 + i1))]) (rest := []) ⟨hx, hb, hml, hown, hts⟩ (c_L_drawn l b9 L xs (1 + i1) H.size hL31 (by omega)) (va_cwS 2 hts gL_law_L_drawn rfl rfl rfl (by decide +kernel) ⟨Nat.le_of_ble_eq_true rfl, Nat.le_of_ble_eq_true rfl⟩) ⟨ml_blindD, fun U hU hW => ⟨rfl, by rw [hU], by rw [hU]; exact va_X.moved hW.alike (hX.kept (hS.2.1 b9 hbl hbA)), Nat.lt_of_lt_of_le hbl hS.1⟩⟩ rfl rfl hl.1 rfl (lv_room (Nat.le_of_ble_eq_true rfl)) dL_law_76 ⟨by show _ ≤ (20000 : Nat); omega, by show _ ≤ (130000 : Nat); omega⟩) hS (fun q h h9 => absurd h (Nat.not_lt.mpr h9)) (fun q h => hA q (Nat.le_trans hS.1 h)) (fun r_76 u_76 t H1 locs ht hvm hw hB hz1 hk1 hS => ?_)
      have hP : va_P G vwCl (wC a cy T_1 tr_2 ++ wC b cy T_4 tr_5 ++ [(q_43, .inl (cy 0, 40, .inl fa)), (q_49, .inl (cy 0, 40, .inl fb))]) H1 := hP.kept (fun k q hk => hk1 q.1 ((hP k q hk).lt) (Nat.not_le.mpr ((hP k q hk).lt)))
      have hz : s.heap.size + 0 ≤ H1.size := Nat.le_trans hz hz1
      generalize H1 = H at hP hS hz ⊢
      obtain ⟨⟨j_76, hj_76, rfl⟩, hr_76⟩ := hw
      refine lv_istore (lv' := [(10, .int (nI j_76)), (8, .int 1), (7, .ref q_49), (6, .ref q_43), (5, .int (nI (1 + j_18 / 20 % 8))), (4, .int (nI (1 + j_18 % 20))), (3, .int (nI j_18)), (2, .ref (b 0)), (1, .ref (a 0)), (0, .ref b9), (9, .int (nI i1))]) hx hb dL_law_79 hl (by decide) rfl (fun ls hl => ?_)
      refine lv_iload hx hb dL_law_81 (lv_at hl 0 rfl) ?_
      refine lv_bipush (v := 40) hx hb dL_law_83 (by decide) ?_
      refine lv_irem hx hb dL_law_85 (by decide) ?_
      refine ml_eqi (nI (j_76 % 40)) (pk_rem (a := j_76) (d := 40) (by omega) (by decide) (by decide)) ?_
      refine lv_istore (lv' := [(11, .int (nI (j_76 % 40))), (10, .int (nI j_76)), (8, .int 1), (7, .ref q_49), (6, .ref q_43), (5, .int (nI (1 + j_18 / 20 % 8))), (4, .int (nI (1 + j_18 % 20))), (3, .int (nI j_18)), (2, .ref (b 0)), (1, .ref (a 0)), (0, .ref b9), (9, .int (nI i1))]) hx hb dL_law_86 hl (by decide) rfl (fun ls hl => ?_)
      refine lv_aload_n hx hb dL_law_88 rfl (lv_at hl 9 rfl) ?_
      refine lv_iload hx hb dL_law_89 (lv_at hl 0 rfl) ?_
      have hPc := hP.sub (ws' := (wC a cy T_1 tr_2)) [0, 1, 2, 3, 4, 5, 6, 7, 8, 9, 10, 11] rfl
      have hDc := hD.sub (ws' := (wC a cy T_1 tr_2)) [0, 1, 2, 3, 4, 5, 6, 7, 8, 9, 10, 11] (by decide) rfl
      refine mo_SWz (G := G) (wr := (wC b cy T_4 tr_5 ++ [(q_43, .inl (cy 0, 40, .inl fa)), (q_49, .inl (cy 0, 40, .inl fb))])) (As := [.ref (a 0), .int (nI (j_76 % 40))]) (rest := []) ⟨hx, hb, hml, hown, hts⟩ (c_L_version l hlt G cy a H.size T_1 tr_2 (nI (j_76 % 40)) hI_3) (vx_cwSW 2 hts gL_law_L_version rfl rfl rfl (by decide +kernel) ⟨Nat.le_of_ble_eq_true rfl, Nat.le_of_ble_eq_true rfl⟩) hPc hDc hP hK hD hS hA [0, 1, 2, 3, 4, 5, 6, 7, 8, 9, 10, 11] [12, 13, 14, 15, 16, 17, 18, 19, 20, 21, 22, 23, 24, 25] rfl rfl (by decide) (by decide) hN hE rfl hl.1 (Nat.le_of_ble_eq_true rfl) dL_law_91 ⟨by show _ ≤ (20000 : Nat); omega, by show _ ≤ (130000 : Nat); omega⟩ (fun r_91 u_91 H locs hw hP hD hS hz9 => ?_)
      have e9 : (sp_version T_1 (nI (j_76 % 40))) = (0, tV T_1 (j_76 % 40), T_1) := q0_version (by omega)
      rw [e9] at hP hD
      have hP := hP.sub (ws' := (wC a cy T_1 u_91 ++ wC b cy T_4 tr_5 ++ [(q_43, .inl (cy 0, 40, .inl fa)), (q_49, .inl (cy 0, 40, .inl fb))])) [14, 15, 16, 17, 18, 19, 20, 21, 22, 23, 24, 25, 0, 1, 2, 3, 4, 5, 6, 7, 8, 9, 10, 11, 12, 13] rfl
      have hD := hD.sub (ws' := (wC a cy T_1 u_91 ++ wC b cy T_4 tr_5 ++ [(q_43, .inl (cy 0, 40, .inl fa)), (q_49, .inl (cy 0, 40, .inl fb))])) [14, 15, 16, 17, 18, 19, 20, 21, 22, 23, 24, 25, 0, 1, 2, 3, 4, 5, 6, 7, 8, 9, 10, 11, 12, 13] (by decide) rfl
      have hP : va_P G vwCl (wC a cy T_1 u_91 ++ wC b cy T_4 tr_5 ++ [(q_43, .inl (cy 0, 40, .inl fa)), (q_49, .inl (cy 0, 40, .inl fb))]) H := hP
      have hD : va_D A (wC a cy T_1 u_91 ++ wC b cy T_4 tr_5 ++ [(q_43, .inl (cy 0, 40, .inl fa)), (q_49, .inl (cy 0, 40, .inl fb))]) := hD
      have hz : s.heap.size + 0 ≤ H.size := rz_0 hz hz9
      obtain rfl : r_91 = tV T_1 (j_76 % 40) := rf_0 e9 hw
      refine lv_if_ge (tgt := 180) hx hb dL_law_94 (by decide) (fun c_94 => ?_) (fun c_94 => ?_)
      · refine lv_iinc (v := nI (i1 + 1)) (lv' := [(9, .int (nI (i1 + 1))), (11, .int (nI (j_76 % 40))), (10, .int (nI j_76)), (8, .int 1), (7, .ref q_49), (6, .ref q_43), (5, .int (nI (1 + j_18 / 20 % 8))), (4, .int (nI (1 + j_18 % 20))), (3, .int (nI j_18)), (2, .ref (b 0)), (1, .ref (a 0)), (0, .ref b9)]) hx hb dL_law_180 hl (k := 11) rfl (nI_1 _) (by decide) rfl (fun ls hl => ?_)
        refine lv_goto (tgt := 59) hx hb dL_law_183 (by decide) ?_
        refine W.widen (k := 26 + 4 * (i1 + 1)) (n := 6 * (26 + 4 * (i1 + 1)) + 390) (by omega) (by omega) ?_
        exact ih (i1 + 1) T_1 u_91 hI_3 T_4 tr_5 hI_6 fa fb (by omega) hR0 _ _ _ hP hD hS (by omega) (lv_sub hl [3, 4, 5, 6, 7, 8, 9, 10, 11, 0] rfl)
      · have hV9 := V_neg hR0.1.1 (by omega) (Int32.not_le.mp c_94)
        refine lv_aload hx hb dL_law_97 (lv_at hl 4 rfl) ?_
        refine lv_iload hx hb dL_law_99 (lv_at hl 0 rfl) ?_
        refine lv_iload hx hb dL_law_101 (lv_at hl 1 rfl) ?_
        refine lv_bipush (v := 40) hx hb dL_law_103 (by decide) ?_
        refine lv_idiv hx hb dL_law_105 (by decide) ?_
        refine ml_eqi (nI (j_76 / 40)) (pk_div (a := j_76) (d := 40) (by omega) (by decide) (by decide)) ?_
        refine lv_bipush (v := 19) hx hb dL_law_106 (by decide) ?_
        refine lv_irem hx hb dL_law_108 (by decide) ?_
        refine ml_eqi (nI (j_76 / 40 % 19)) (pk_rem (a := j_76 / 40) (d := 19) (by omega) (by decide) (by decide)) ?_
        refine lv_bipush (v := 9) hx hb dL_law_109 (by decide) ?_
        refine lv_isub hx hb dL_law_111 ?_
        refine ml_iast hx hb hK hP hD hS 24 0 rfl rfl ((j_76 % 40)) rfl (by omega) (Nat.le_of_ble_eq_true rfl) dL_law_112 (fun H locs hP hD hS => ?_)
        have hP : va_P G vwCl (wC a cy T_1 u_91 ++ wC b cy T_4 tr_5 ++ [(q_43, .inl (cy 0, 40, .inl (upd fa (j_76 % 40) ((nI (j_76 / 40 % 19)) - 9)))), (q_49, .inl (cy 0, 40, .inl fb))]) H := hP
        have hD : va_D A (wC a cy T_1 u_91 ++ wC b cy T_4 tr_5 ++ [(q_43, .inl (cy 0, 40, .inl (upd fa (j_76 % 40) ((nI (j_76 / 40 % 19)) - 9)))), (q_49, .inl (cy 0, 40, .inl fb))]) := hD
        have hz : s.heap.size + 0 ≤ H.size := hS.1
        refine lv_aload hx hb dL_law_113 (lv_at hl 3 rfl) ?_
        refine lv_iload hx hb dL_law_115 (lv_at hl 0 rfl) ?_
        refine lv_iload hx hb dL_law_117 (lv_at hl 1 rfl) ?_
        refine lv_sipush (v := 760) hx hb dL_law_119 (by decide) ?_
        refine lv_idiv hx hb dL_law_122 (by decide) ?_
        refine ml_eqi (nI (j_76 / 760)) (pk_div (a := j_76) (d := 760) (by omega) (by decide) (by decide)) ?_
        refine lv_sipush (v := 201) hx hb dL_law_123 (by decide) ?_
        refine lv_irem hx hb dL_law_126 (by decide) ?_
        refine ml_eqi (nI (j_76 / 760 % 201)) (pk_rem (a := j_76 / 760) (d := 201) (by omega) (by decide) (by decide)) ?_
        refine lv_bipush (v := 100) hx hb dL_law_127 (by decide) ?_
        refine lv_isub hx hb dL_law_129 ?_
        refine ml_iast hx hb hK hP hD hS 25 0 rfl rfl ((j_76 % 40)) rfl (by omega) (Nat.le_of_ble_eq_true rfl) dL_law_130 (fun H locs hP hD hS => ?_)
        have hP : va_P G vwCl (wC a cy T_1 u_91 ++ wC b cy T_4 tr_5 ++ [(q_43, .inl (cy 0, 40, .inl (upd fa (j_76 % 40) ((nI (j_76 / 40 % 19)) - 9)))), (q_49, .inl (cy 0, 40, .inl (upd fb (j_76 % 40) ((nI (j_76 / 760 % 201)) - 100))))]) H := hP
        have hD : va_D A (wC a cy T_1 u_91 ++ wC b cy T_4 tr_5 ++ [(q_43, .inl (cy 0, 40, .inl (upd fa (j_76 % 40) ((nI (j_76 / 40 % 19)) - 9)))), (q_49, .inl (cy 0, 40, .inl (upd fb (j_76 % 40) ((nI (j_76 / 760 % 201)) - 100))))]) := hD
        have hz : s.heap.size + 0 ≤ H.size := hS.1
        refine lv_aload_n hx hb dL_law_131 rfl (lv_at hl 9 rfl) ?_
        refine lv_iload hx hb dL_law_132 (lv_at hl 0 rfl) ?_
        refine lv_aload hx hb dL_law_134 (lv_at hl 4 rfl) ?_
        refine lv_iload hx hb dL_law_136 (lv_at hl 0 rfl) ?_
        refine ml_iald hx hb hK hP 24 0 rfl rfl ((j_76 % 40)) rfl (by omega) (Nat.le_of_ble_eq_true rfl) ((upd fa (j_76 % 40) ((nI (j_76 / 40 % 19)) - 9)) (j_76 % 40)) rfl dL_law_138 ?_
        refine lv_aload hx hb dL_law_139 (lv_at hl 3 rfl) ?_
        refine lv_iload hx hb dL_law_141 (lv_at hl 0 rfl) ?_
        refine ml_iald hx hb hK hP 25 0 rfl rfl ((j_76 % 40)) rfl (by omega) (Nat.le_of_ble_eq_true rfl) ((upd fb (j_76 % 40) ((nI (j_76 / 760 % 201)) - 100)) (j_76 % 40)) rfl dL_law_143 ?_
        refine lv_iload hx hb dL_law_144 (lv_at hl 0 rfl) ?_
        obtain ⟨Ta, Sa, ea, eb, hR9⟩ := r0_ins hR0 (j := j_76 % 40) (by omega) hV9 (va := nI (j_76 / 40 % 19) - 9) (vb := nI (j_76 / 760 % 201) - 100) (bn_a (by omega)) (bn_b (by omega))
        have hPc := hP.sub (ws' := (wC a cy T_1 u_91)) [0, 1, 2, 3, 4, 5, 6, 7, 8, 9, 10, 11] rfl
        have hDc := hD.sub (ws' := (wC a cy T_1 u_91)) [0, 1, 2, 3, 4, 5, 6, 7, 8, 9, 10, 11] (by decide) rfl
        refine mo_SWz (G := G) (wr := (wC b cy T_4 tr_5 ++ [(q_43, .inl (cy 0, 40, .inl (upd fa (j_76 % 40) ((nI (j_76 / 40 % 19)) - 9)))), (q_49, .inl (cy 0, 40, .inl (upd fb (j_76 % 40) ((nI (j_76 / 760 % 201)) - 100))))])) (As := [.ref (a 0), .int (nI (j_76 % 40)), .int ((upd fa (j_76 % 40) ((nI (j_76 / 40 % 19)) - 9)) (j_76 % 40)), .int ((upd fb (j_76 % 40) ((nI (j_76 / 760 % 201)) - 100)) (j_76 % 40)), .int (nI (j_76 % 40))]) (rest := []) ⟨hx, hb, hml, hown, hts⟩ (c_L_inserts l hlt G cy a H.size T_1 u_91 (nI (j_76 % 40)) ((upd fa (j_76 % 40) ((nI (j_76 / 40 % 19)) - 9)) (j_76 % 40)) ((upd fb (j_76 % 40) ((nI (j_76 / 760 % 201)) - 100)) (j_76 % 40)) (nI (j_76 % 40)) hI_3) (vx_cwSW 5 hts gL_law_L_inserts rfl rfl rfl (by decide +kernel) ⟨Nat.le_of_ble_eq_true rfl, Nat.le_of_ble_eq_true rfl⟩) hPc hDc hP hK hD hS hA [0, 1, 2, 3, 4, 5, 6, 7, 8, 9, 10, 11] [12, 13, 14, 15, 16, 17, 18, 19, 20, 21, 22, 23, 24, 25] rfl rfl (by decide) (by decide) hN hE rfl hl.1 (Nat.le_of_ble_eq_true rfl) dL_law_146 ⟨by show _ ≤ (20000 : Nat); omega, by show _ ≤ (130000 : Nat); omega⟩ (fun r_146 u_146 H locs hw hP hD hS hz9 => ?_)
        have e9 : (sp_insert T_1 (nI (j_76 % 40)) ((upd fa (j_76 % 40) ((nI (j_76 / 40 % 19)) - 9)) (j_76 % 40)) ((upd fb (j_76 % 40) ((nI (j_76 / 760 % 201)) - 100)) (j_76 % 40)) (nI (j_76 % 40))) = (0, 0, Ta) := (by rw [pk_us, pk_us]; exact ea)
        rw [e9] at hP hD
        have hP := hP.sub (ws' := (wC a cy Ta u_146 ++ wC b cy T_4 tr_5 ++ [(q_43, .inl (cy 0, 40, .inl (upd fa (j_76 % 40) ((nI (j_76 / 40 % 19)) - 9)))), (q_49, .inl (cy 0, 40, .inl (upd fb (j_76 % 40) ((nI (j_76 / 760 % 201)) - 100))))])) [14, 15, 16, 17, 18, 19, 20, 21, 22, 23, 24, 25, 0, 1, 2, 3, 4, 5, 6, 7, 8, 9, 10, 11, 12, 13] rfl
        have hD := hD.sub (ws' := (wC a cy Ta u_146 ++ wC b cy T_4 tr_5 ++ [(q_43, .inl (cy 0, 40, .inl (upd fa (j_76 % 40) ((nI (j_76 / 40 % 19)) - 9)))), (q_49, .inl (cy 0, 40, .inl (upd fb (j_76 % 40) ((nI (j_76 / 760 % 201)) - 100))))])) [14, 15, 16, 17, 18, 19, 20, 21, 22, 23, 24, 25, 0, 1, 2, 3, 4, 5, 6, 7, 8, 9, 10, 11, 12, 13] (by decide) rfl
        have hP : va_P G vwCl (wC a cy Ta u_146 ++ wC b cy T_4 tr_5 ++ [(q_43, .inl (cy 0, 40, .inl (upd fa (j_76 % 40) ((nI (j_76 / 40 % 19)) - 9)))), (q_49, .inl (cy 0, 40, .inl (upd fb (j_76 % 40) ((nI (j_76 / 760 % 201)) - 100))))]) H := hP
        have hD : va_D A (wC a cy Ta u_146 ++ wC b cy T_4 tr_5 ++ [(q_43, .inl (cy 0, 40, .inl (upd fa (j_76 % 40) ((nI (j_76 / 40 % 19)) - 9)))), (q_49, .inl (cy 0, 40, .inl (upd fb (j_76 % 40) ((nI (j_76 / 760 % 201)) - 100))))]) := hD
        have hz : s.heap.size + 0 ≤ H.size := rz_0 hz hz9
        obtain rfl : r_146 = 0 := rf_0 e9 hw
        refine lv_if_ne (tgt := 177) hx hb dL_law_149 (by decide) (fun c_149 => False.elim (by revert c_149; decide)) (fun c_149 => ?_)
        refine lv_aload_n hx hb dL_law_152 rfl (lv_at hl 8 rfl) ?_
        refine lv_iload hx hb dL_law_153 (lv_at hl 0 rfl) ?_
        refine lv_aload hx hb dL_law_155 (lv_at hl 4 rfl) ?_
        refine lv_iload hx hb dL_law_157 (lv_at hl 0 rfl) ?_
        refine ml_iald hx hb hK hP 24 0 rfl rfl ((j_76 % 40)) rfl (by omega) (Nat.le_of_ble_eq_true rfl) ((upd fa (j_76 % 40) ((nI (j_76 / 40 % 19)) - 9)) (j_76 % 40)) rfl dL_law_159 ?_
        refine lv_aload hx hb dL_law_160 (lv_at hl 3 rfl) ?_
        refine lv_iload hx hb dL_law_162 (lv_at hl 0 rfl) ?_
        refine ml_iald hx hb hK hP 25 0 rfl rfl ((j_76 % 40)) rfl (by omega) (Nat.le_of_ble_eq_true rfl) ((upd fb (j_76 % 40) ((nI (j_76 / 760 % 201)) - 100)) (j_76 % 40)) rfl dL_law_164 ?_
        refine lv_iload hx hb dL_law_165 (lv_at hl 0 rfl) ?_
        have hPc := hP.sub (ws' := (wC b cy T_4 tr_5)) [12, 13, 14, 15, 16, 17, 18, 19, 20, 21, 22, 23] rfl
        have hDc := hD.sub (ws' := (wC b cy T_4 tr_5)) [12, 13, 14, 15, 16, 17, 18, 19, 20, 21, 22, 23] (by decide) rfl
        refine mo_SWz (G := G) (wr := (wC a cy Ta u_146 ++ [(q_43, .inl (cy 0, 40, .inl (upd fa (j_76 % 40) ((nI (j_76 / 40 % 19)) - 9)))), (q_49, .inl (cy 0, 40, .inl (upd fb (j_76 % 40) ((nI (j_76 / 760 % 201)) - 100))))])) (As := [.ref (b 0), .int (nI (j_76 % 40)), .int ((upd fa (j_76 % 40) ((nI (j_76 / 40 % 19)) - 9)) (j_76 % 40)), .int ((upd fb (j_76 % 40) ((nI (j_76 / 760 % 201)) - 100)) (j_76 % 40)), .int (nI (j_76 % 40))]) (rest := []) ⟨hx, hb, hml, hown, hts⟩ (c_L_inserts l hlt G cy b H.size T_4 tr_5 (nI (j_76 % 40)) ((upd fa (j_76 % 40) ((nI (j_76 / 40 % 19)) - 9)) (j_76 % 40)) ((upd fb (j_76 % 40) ((nI (j_76 / 760 % 201)) - 100)) (j_76 % 40)) (nI (j_76 % 40)) hI_6) (vx_cwSW 5 hts gL_law_L_inserts rfl rfl rfl (by decide +kernel) ⟨Nat.le_of_ble_eq_true rfl, Nat.le_of_ble_eq_true rfl⟩) hPc hDc hP hK hD hS hA [12, 13, 14, 15, 16, 17, 18, 19, 20, 21, 22, 23] [0, 1, 2, 3, 4, 5, 6, 7, 8, 9, 10, 11, 24, 25] rfl rfl (by decide) (by decide) hN hE rfl hl.1 (Nat.le_of_ble_eq_true rfl) dL_law_167 ⟨by show _ ≤ (20000 : Nat); omega, by show _ ≤ (130000 : Nat); omega⟩ (fun r_167 u_167 H locs hw hP hD hS hz9 => ?_)
        have e9 : (sp_insert T_4 (nI (j_76 % 40)) ((upd fa (j_76 % 40) ((nI (j_76 / 40 % 19)) - 9)) (j_76 % 40)) ((upd fb (j_76 % 40) ((nI (j_76 / 760 % 201)) - 100)) (j_76 % 40)) (nI (j_76 % 40))) = (0, 0, Sa) := (by rw [pk_us, pk_us]; exact eb)
        rw [e9] at hP hD
        have hP := hP.sub (ws' := (wC a cy Ta u_146 ++ wC b cy Sa u_167 ++ [(q_43, .inl (cy 0, 40, .inl (upd fa (j_76 % 40) ((nI (j_76 / 40 % 19)) - 9)))), (q_49, .inl (cy 0, 40, .inl (upd fb (j_76 % 40) ((nI (j_76 / 760 % 201)) - 100))))])) [0, 1, 2, 3, 4, 5, 6, 7, 8, 9, 10, 11, 14, 15, 16, 17, 18, 19, 20, 21, 22, 23, 24, 25, 12, 13] rfl
        have hD := hD.sub (ws' := (wC a cy Ta u_146 ++ wC b cy Sa u_167 ++ [(q_43, .inl (cy 0, 40, .inl (upd fa (j_76 % 40) ((nI (j_76 / 40 % 19)) - 9)))), (q_49, .inl (cy 0, 40, .inl (upd fb (j_76 % 40) ((nI (j_76 / 760 % 201)) - 100))))])) [0, 1, 2, 3, 4, 5, 6, 7, 8, 9, 10, 11, 14, 15, 16, 17, 18, 19, 20, 21, 22, 23, 24, 25, 12, 13] (by decide) rfl
        have hP : va_P G vwCl (wC a cy Ta u_146 ++ wC b cy Sa u_167 ++ [(q_43, .inl (cy 0, 40, .inl (upd fa (j_76 % 40) ((nI (j_76 / 40 % 19)) - 9)))), (q_49, .inl (cy 0, 40, .inl (upd fb (j_76 % 40) ((nI (j_76 / 760 % 201)) - 100))))]) H := hP
        have hD : va_D A (wC a cy Ta u_146 ++ wC b cy Sa u_167 ++ [(q_43, .inl (cy 0, 40, .inl (upd fa (j_76 % 40) ((nI (j_76 / 40 % 19)) - 9)))), (q_49, .inl (cy 0, 40, .inl (upd fb (j_76 % 40) ((nI (j_76 / 760 % 201)) - 100))))]) := hD
        have hz : s.heap.size + 0 ≤ H.size := rz_0 hz hz9
        obtain rfl : r_167 = 0 := rf_0 e9 hw
        refine lv_if_ne (tgt := 177) hx hb dL_law_170 (by decide) (fun c_170 => False.elim (by revert c_170; decide)) (fun c_170 => ?_)
        refine lv_iconst (v := 1) hx hb dL_law_173 (by decide) ?_
        refine lv_goto (tgt := 178) hx hb dL_law_174 (by decide) ?_
        refine lv_istore (lv' := [(8, .int 1), (11, .int (nI (j_76 % 40))), (10, .int (nI j_76)), (7, .ref q_49), (6, .ref q_43), (5, .int (nI (1 + j_18 / 20 % 8))), (4, .int (nI (1 + j_18 % 20))), (3, .int (nI j_18)), (2, .ref (b 0)), (1, .ref (a 0)), (0, .ref b9), (9, .int (nI i1))]) hx hb dL_law_178 hl (by decide) rfl (fun ls hl => ?_)
        refine lv_iinc (v := nI (i1 + 1)) (lv' := [(9, .int (nI (i1 + 1))), (8, .int 1), (11, .int (nI (j_76 % 40))), (10, .int (nI j_76)), (7, .ref q_49), (6, .ref q_43), (5, .int (nI (1 + j_18 / 20 % 8))), (4, .int (nI (1 + j_18 % 20))), (3, .int (nI j_18)), (2, .ref (b 0)), (1, .ref (a 0)), (0, .ref b9)]) hx hb dL_law_180 hl (k := 11) rfl (nI_1 _) (by decide) rfl (fun ls hl => ?_)
        refine lv_goto (tgt := 59) hx hb dL_law_183 (by decide) ?_
        refine W.widen (k := 26 + 4 * (i1 + 1)) (n := 6 * (26 + 4 * (i1 + 1)) + 390) (by omega) (by omega) ?_
        exact ih (i1 + 1) Ta u_146 hR9.1.1 Sa u_167 hR9.2.1.1 (upd fa (j_76 % 40) ((nI (j_76 / 40 % 19)) - 9)) (upd fb (j_76 % 40) ((nI (j_76 / 760 % 201)) - 100)) (by omega) hR9 _ _ _ hP hD hS (by omega) (lv_sub hl [1, 4, 5, 6, 7, 8, 9, 10, 11, 0] rfl)
  refine W.widen (k := 26 + 4 * 0) (n := 6 * (26 + 4 * 0) + 390) (by omega) (by omega) ?_
  exact LOOP59 (1 + j_18 % 20) 0 TSI z0 hIa TSI z0 hIb (fun _ => (0 : Int32)) (fun _ => (0 : Int32)) (by omega) hR0 _ _ _ hP hD hS (by omega) (lv_sub hl [1, 2, 3, 4, 5, 6, 7, 8, 9, 0] rfl)
