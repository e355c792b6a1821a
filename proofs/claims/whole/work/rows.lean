section
-- ===== PART A: goes FIRST, ahead of the names: the tables' words, and 'selects' of the private methods out of them =====
/-- a private method of a class that the tables say can be made, by its rows of tables_1 -/
def lw_okq (q : MethodName × Nat) : Prop := (q.1.cls ≠ "java/lang/invoke/MethodHandle" ∧ q.1.cls ≠ "java/lang/invoke/VarHandle") ∧ Cond.instantiable q.1.cls q.2 ∈ tables_1 ∧ Cond.privateMethod q.1 ∈ tables_1 ∧ Cond.instanceMethod q.1 ∈ tables_1
theorem lw_p0 : lw_okq (⟨"java/lang/Throwable", "fillInStackTrace", "(I)Ljava/lang/Throwable;"⟩, 6) := ⟨⟨by decide +kernel, by decide +kernel⟩, List.mem_of_getElem? (i := 187) (by decide +kernel), List.mem_of_getElem? (i := 185) (by decide +kernel), List.mem_of_getElem? (i := 186) (by decide +kernel)⟩
theorem lw_p1 : lw_okq (⟨"Migrationledger", "requireListed", "(I)V"⟩, 7) := ⟨⟨by decide +kernel, by decide +kernel⟩, List.mem_of_getElem? (i := 14) (by decide +kernel), List.mem_of_getElem? (i := 264) (by decide +kernel), List.mem_of_getElem? (i := 265) (by decide +kernel)⟩
theorem lw_p2 : lw_okq (⟨"Migrationledger", "isActive", "()Z"⟩, 7) := ⟨⟨by decide +kernel, by decide +kernel⟩, List.mem_of_getElem? (i := 14) (by decide +kernel), List.mem_of_getElem? (i := 288) (by decide +kernel), List.mem_of_getElem? (i := 289) (by decide +kernel)⟩
theorem lw_p3 : lw_okq (⟨"Migrationledger", "activeNumber", "()I"⟩, 7) := ⟨⟨by decide +kernel, by decide +kernel⟩, List.mem_of_getElem? (i := 14) (by decide +kernel), List.mem_of_getElem? (i := 292) (by decide +kernel), List.mem_of_getElem? (i := 293) (by decide +kernel)⟩
theorem lw_p4 : lw_okq (⟨"Migrationledger", "versionForNewRow", "(I)I"⟩, 7) := ⟨⟨by decide +kernel, by decide +kernel⟩, List.mem_of_getElem? (i := 14) (by decide +kernel), List.mem_of_getElem? (i := 338) (by decide +kernel), List.mem_of_getElem? (i := 339) (by decide +kernel)⟩
theorem lw_p5 : lw_okq (⟨"Migrationledger", "requirePresent", "(I)V"⟩, 7) := ⟨⟨by decide +kernel, by decide +kernel⟩, List.mem_of_getElem? (i := 14) (by decide +kernel), List.mem_of_getElem? (i := 357) (by decide +kernel), List.mem_of_getElem? (i := 358) (by decide +kernel)⟩
theorem lw_p6 : lw_okq (⟨"Migrationledger", "bringTried", "(II)Z"⟩, 7) := ⟨⟨by decide +kernel, by decide +kernel⟩, List.mem_of_getElem? (i := 14) (by decide +kernel), List.mem_of_getElem? (i := 416) (by decide +kernel), List.mem_of_getElem? (i := 417) (by decide +kernel)⟩
theorem lw_p7 : lw_okq (⟨"Migrationledger", "requireNotCrashed", "(I)V"⟩, 7) := ⟨⟨by decide +kernel, by decide +kernel⟩, List.mem_of_getElem? (i := 14) (by decide +kernel), List.mem_of_getElem? (i := 448) (by decide +kernel), List.mem_of_getElem? (i := 449) (by decide +kernel)⟩
theorem lw_p8 : lw_okq (⟨"Migrationledger", "requireAtWork", "(I)V"⟩, 7) := ⟨⟨by decide +kernel, by decide +kernel⟩, List.mem_of_getElem? (i := 14) (by decide +kernel), List.mem_of_getElem? (i := 469) (by decide +kernel), List.mem_of_getElem? (i := 470) (by decide +kernel)⟩
theorem lw_p9 : lw_okq (⟨"Migrationledger", "requireUndoableDone", "()V"⟩, 7) := ⟨⟨by decide +kernel, by decide +kernel⟩, List.mem_of_getElem? (i := 14) (by decide +kernel), List.mem_of_getElem? (i := 524) (by decide +kernel), List.mem_of_getElem? (i := 525) (by decide +kernel)⟩
theorem lw_p10 : lw_okq (⟨"Migrationledger", "requireActive", "()V"⟩, 7) := ⟨⟨by decide +kernel, by decide +kernel⟩, List.mem_of_getElem? (i := 14) (by decide +kernel), List.mem_of_getElem? (i := 540) (by decide +kernel), List.mem_of_getElem? (i := 541) (by decide +kernel)⟩
theorem lw_p11 : lw_okq (⟨"Migrationledger", "idsLeft", "()I"⟩, 7) := ⟨⟨by decide +kernel, by decide +kernel⟩, List.mem_of_getElem? (i := 14) (by decide +kernel), List.mem_of_getElem? (i := 545) (by decide +kernel), List.mem_of_getElem? (i := 546) (by decide +kernel)⟩
theorem lw_p12 : lw_okq (⟨"Migrationledger", "goThrough", "(III)I"⟩, 7) := ⟨⟨by decide +kernel, by decide +kernel⟩, List.mem_of_getElem? (i := 14) (by decide +kernel), List.mem_of_getElem? (i := 552) (by decide +kernel), List.mem_of_getElem? (i := 553) (by decide +kernel)⟩
theorem lw_p13 : lw_okq (⟨"Migrationledger", "idBehind", "(I)I"⟩, 7) := ⟨⟨by decide +kernel, by decide +kernel⟩, List.mem_of_getElem? (i := 14) (by decide +kernel), List.mem_of_getElem? (i := 556) (by decide +kernel), List.mem_of_getElem? (i := 557) (by decide +kernel)⟩
theorem lw_p14 : lw_okq (⟨"Migrationledger", "isToBeChanged", "(I)Z"⟩, 7) := ⟨⟨by decide +kernel, by decide +kernel⟩, List.mem_of_getElem? (i := 14) (by decide +kernel), List.mem_of_getElem? (i := 560) (by decide +kernel), List.mem_of_getElem? (i := 561) (by decide +kernel)⟩
theorem lw_p15 : lw_okq (⟨"Migrationledger", "changeRow", "(I)Z"⟩, 7) := ⟨⟨by decide +kernel, by decide +kernel⟩, List.mem_of_getElem? (i := 14) (by decide +kernel), List.mem_of_getElem? (i := 564) (by decide +kernel), List.mem_of_getElem? (i := 565) (by decide +kernel)⟩
def lw_privs_1 : List (MethodName × Nat) := [(⟨"java/lang/Throwable", "fillInStackTrace", "(I)Ljava/lang/Throwable;"⟩, 6), (⟨"Migrationledger", "requireListed", "(I)V"⟩, 7), (⟨"Migrationledger", "isActive", "()Z"⟩, 7), (⟨"Migrationledger", "activeNumber", "()I"⟩, 7), (⟨"Migrationledger", "versionForNewRow", "(I)I"⟩, 7), (⟨"Migrationledger", "requirePresent", "(I)V"⟩, 7), (⟨"Migrationledger", "bringTried", "(II)Z"⟩, 7), (⟨"Migrationledger", "requireNotCrashed", "(I)V"⟩, 7), (⟨"Migrationledger", "requireAtWork", "(I)V"⟩, 7), (⟨"Migrationledger", "requireUndoableDone", "()V"⟩, 7), (⟨"Migrationledger", "requireActive", "()V"⟩, 7), (⟨"Migrationledger", "idsLeft", "()I"⟩, 7), (⟨"Migrationledger", "goThrough", "(III)I"⟩, 7), (⟨"Migrationledger", "idBehind", "(I)I"⟩, 7), (⟨"Migrationledger", "isToBeChanged", "(I)Z"⟩, 7), (⟨"Migrationledger", "changeRow", "(I)Z"⟩, 7)]
theorem lw_r1 : ∀ q ∈ lw_privs_1, lw_okq q := List.forall_mem_cons.mpr ⟨lw_p0, List.forall_mem_cons.mpr ⟨lw_p1, List.forall_mem_cons.mpr ⟨lw_p2, List.forall_mem_cons.mpr ⟨lw_p3, List.forall_mem_cons.mpr ⟨lw_p4, List.forall_mem_cons.mpr ⟨lw_p5, List.forall_mem_cons.mpr ⟨lw_p6, List.forall_mem_cons.mpr ⟨lw_p7, List.forall_mem_cons.mpr ⟨lw_p8, List.forall_mem_cons.mpr ⟨lw_p9, List.forall_mem_cons.mpr ⟨lw_p10, List.forall_mem_cons.mpr ⟨lw_p11, List.forall_mem_cons.mpr ⟨lw_p12, List.forall_mem_cons.mpr ⟨lw_p13, List.forall_mem_cons.mpr ⟨lw_p14, List.forall_mem_cons.mpr ⟨lw_p15, fun _ h => absurd h List.not_mem_nil⟩⟩⟩⟩⟩⟩⟩⟩⟩⟩⟩⟩⟩⟩⟩⟩
theorem lw_p16 : lw_okq (⟨"Migrationledger", "positionBehind", "(I)I"⟩, 7) := ⟨⟨by decide +kernel, by decide +kernel⟩, List.mem_of_getElem? (i := 14) (by decide +kernel), List.mem_of_getElem? (i := 573) (by decide +kernel), List.mem_of_getElem? (i := 574) (by decide +kernel)⟩
theorem lw_p17 : lw_okq (⟨"Migrationledger", "endIfAllPassed", "()V"⟩, 7) := ⟨⟨by decide +kernel, by decide +kernel⟩, List.mem_of_getElem? (i := 14) (by decide +kernel), List.mem_of_getElem? (i := 577) (by decide +kernel), List.mem_of_getElem? (i := 578) (by decide +kernel)⟩
theorem lw_p18 : lw_okq (⟨"MigrationledgerModel", "refused", "(I)Z"⟩, 16) := ⟨⟨by decide +kernel, by decide +kernel⟩, List.mem_of_getElem? (i := 605) (by decide +kernel), List.mem_of_getElem? (i := 675) (by decide +kernel), List.mem_of_getElem? (i := 676) (by decide +kernel)⟩
theorem lw_p19 : lw_okq (⟨"MigrationledgerModel", "put", "(IIII)V"⟩, 16) := ⟨⟨by decide +kernel, by decide +kernel⟩, List.mem_of_getElem? (i := 605) (by decide +kernel), List.mem_of_getElem? (i := 679) (by decide +kernel), List.mem_of_getElem? (i := 680) (by decide +kernel)⟩
theorem lw_p20 : lw_okq (⟨"MigrationledgerModel", "stateOf", "(I)I"⟩, 16) := ⟨⟨by decide +kernel, by decide +kernel⟩, List.mem_of_getElem? (i := 605) (by decide +kernel), List.mem_of_getElem? (i := 687) (by decide +kernel), List.mem_of_getElem? (i := 688) (by decide +kernel)⟩
theorem lw_p21 : lw_okq (⟨"MigrationledgerModel", "sumOf", "(I)I"⟩, 16) := ⟨⟨by decide +kernel, by decide +kernel⟩, List.mem_of_getElem? (i := 605) (by decide +kernel), List.mem_of_getElem? (i := 691) (by decide +kernel), List.mem_of_getElem? (i := 692) (by decide +kernel)⟩
theorem lw_p22 : lw_okq (⟨"MigrationledgerModel", "fine", "(I)I"⟩, 16) := ⟨⟨by decide +kernel, by decide +kernel⟩, List.mem_of_getElem? (i := 605) (by decide +kernel), List.mem_of_getElem? (i := 700) (by decide +kernel), List.mem_of_getElem? (i := 701) (by decide +kernel)⟩
theorem lw_p23 : lw_okq (⟨"MigrationledgerModel", "firstDrift", "()I"⟩, 16) := ⟨⟨by decide +kernel, by decide +kernel⟩, List.mem_of_getElem? (i := 605) (by decide +kernel), List.mem_of_getElem? (i := 720) (by decide +kernel), List.mem_of_getElem? (i := 721) (by decide +kernel)⟩
theorem lw_p24 : lw_okq (⟨"MigrationledgerModel", "noRow", "(ZI)Z"⟩, 16) := ⟨⟨by decide +kernel, by decide +kernel⟩, List.mem_of_getElem? (i := 605) (by decide +kernel), List.mem_of_getElem? (i := 740) (by decide +kernel), List.mem_of_getElem? (i := 741) (by decide +kernel)⟩
theorem lw_p25 : lw_okq (⟨"MigrationledgerModel", "takeSpare", "(I)V"⟩, 16) := ⟨⟨by decide +kernel, by decide +kernel⟩, List.mem_of_getElem? (i := 605) (by decide +kernel), List.mem_of_getElem? (i := 764) (by decide +kernel), List.mem_of_getElem? (i := 765) (by decide +kernel)⟩
theorem lw_p26 : lw_okq (⟨"MigrationledgerModel", "tries", "(IZ)Z"⟩, 16) := ⟨⟨by decide +kernel, by decide +kernel⟩, List.mem_of_getElem? (i := 605) (by decide +kernel), List.mem_of_getElem? (i := 768) (by decide +kernel), List.mem_of_getElem? (i := 769) (by decide +kernel)⟩
theorem lw_p27 : lw_okq (⟨"MigrationledgerModel", "isHeld", "()Z"⟩, 16) := ⟨⟨by decide +kernel, by decide +kernel⟩, List.mem_of_getElem? (i := 605) (by decide +kernel), List.mem_of_getElem? (i := 779) (by decide +kernel), List.mem_of_getElem? (i := 780) (by decide +kernel)⟩
theorem lw_p28 : lw_okq (⟨"MigrationledgerModel", "cannot", "(I)Z"⟩, 16) := ⟨⟨by decide +kernel, by decide +kernel⟩, List.mem_of_getElem? (i := 605) (by decide +kernel), List.mem_of_getElem? (i := 787) (by decide +kernel), List.mem_of_getElem? (i := 788) (by decide +kernel)⟩
theorem lw_p29 : lw_okq (⟨"MigrationledgerModel", "has", "(I)Z"⟩, 16) := ⟨⟨by decide +kernel, by decide +kernel⟩, List.mem_of_getElem? (i := 605) (by decide +kernel), List.mem_of_getElem? (i := 791) (by decide +kernel), List.mem_of_getElem? (i := 792) (by decide +kernel)⟩
def lw_privs_2 : List (MethodName × Nat) := [(⟨"Migrationledger", "positionBehind", "(I)I"⟩, 7), (⟨"Migrationledger", "endIfAllPassed", "()V"⟩, 7), (⟨"MigrationledgerModel", "refused", "(I)Z"⟩, 16), (⟨"MigrationledgerModel", "put", "(IIII)V"⟩, 16), (⟨"MigrationledgerModel", "stateOf", "(I)I"⟩, 16), (⟨"MigrationledgerModel", "sumOf", "(I)I"⟩, 16), (⟨"MigrationledgerModel", "fine", "(I)I"⟩, 16), (⟨"MigrationledgerModel", "firstDrift", "()I"⟩, 16), (⟨"MigrationledgerModel", "noRow", "(ZI)Z"⟩, 16), (⟨"MigrationledgerModel", "takeSpare", "(I)V"⟩, 16), (⟨"MigrationledgerModel", "tries", "(IZ)Z"⟩, 16), (⟨"MigrationledgerModel", "isHeld", "()Z"⟩, 16), (⟨"MigrationledgerModel", "cannot", "(I)Z"⟩, 16), (⟨"MigrationledgerModel", "has", "(I)Z"⟩, 16)]
theorem lw_r2 : ∀ q ∈ lw_privs_2, lw_okq q := List.forall_mem_cons.mpr ⟨lw_p16, List.forall_mem_cons.mpr ⟨lw_p17, List.forall_mem_cons.mpr ⟨lw_p18, List.forall_mem_cons.mpr ⟨lw_p19, List.forall_mem_cons.mpr ⟨lw_p20, List.forall_mem_cons.mpr ⟨lw_p21, List.forall_mem_cons.mpr ⟨lw_p22, List.forall_mem_cons.mpr ⟨lw_p23, List.forall_mem_cons.mpr ⟨lw_p24, List.forall_mem_cons.mpr ⟨lw_p25, List.forall_mem_cons.mpr ⟨lw_p26, List.forall_mem_cons.mpr ⟨lw_p27, List.forall_mem_cons.mpr ⟨lw_p28, List.forall_mem_cons.mpr ⟨lw_p29, fun _ h => absurd h List.not_mem_nil⟩⟩⟩⟩⟩⟩⟩⟩⟩⟩⟩⟩⟩⟩
def lw_privs : List (MethodName × Nat) := lw_privs_1 ++ (lw_privs_2)
def lw_tbl : List Cond := k2_sels lw_privs ++ tables_1
theorem lw_privs_ok : ∀ q ∈ lw_privs, lw_okq q := by
  show ∀ q ∈ lw_privs_1 ++ (lw_privs_2), lw_okq q
  exact List.forall_mem_append.mpr ⟨lw_r1, lw_r2⟩
/-- the streams that the claim lets the run draw from -/
abbrev lw_cs : List Choice := [Jvm.Choice.named "NaN.bits"]
theorem lw_bits : nanBits ∈ lw_cs := by first | decide | exact List.mem_cons_self | simp [lw_cs, nanBits]
end
section
/-! ===== BEGIN words of one list among another's, by their places ===== -/
theorem goodIn_r {big : List Cond} (ws : List Cond) (ps : List Nat) (hp : ws = ps.filterMap (fun i => big[i]?)) (h : ws.all goodWord = true) : GoodIn big ws := by
  intro w hw
  have h1 := List.all_eq_true.mp h w hw
  rw [hp] at hw
  obtain ⟨i, -, hi⟩ := List.mem_filterMap.mp hw
  have hm : w ∈ big := by first | exact List.mem_of_getElem? hi | exact List.getElem?_mem hi
  exact ⟨hm, good_of_word h1⟩
theorem goodIn_app {big a b : List Cond} (ha : GoodIn big a) (hb : GoodIn big b) : GoodIn big (a ++ b) := fun w h => (List.mem_append.mp h).elim (ha w) (hb w)
theorem goodIn_ca {big a b : List Cond} {c : Cond} (ha : GoodIn big (c :: a)) (hb : GoodIn big b) : GoodIn big (c :: (a ++ b)) := fun w h => (List.mem_cons.mp h).elim (fun e => ha w (List.mem_cons.mpr (Or.inl e))) (fun h => (List.mem_append.mp h).elim (fun h => ha w (List.mem_cons.mpr (Or.inr h))) (hb w))
theorem goodIn_sub {big ws : List Cond} (hm : ∀ w ∈ ws, w ∈ big) (h : ws.all goodWord = true) : GoodIn big ws := fun w hw => ⟨hm w hw, good_of_word (List.all_eq_true.mp h w hw)⟩
/-! ===== END ===== -/

/-! ===== BEGIN exceptions that leave a method, and their catching by the caller (launches without stack traces) ===== -/
section VXA
/-! The laws vx_back, vx_callV, vx_callS, vx_callSW, vx_throw0, vx_throwS follow proofs of the library, with one case more: JvmDerived/Free/Laws.lean (Back.of_free), Shelf42/LK1.lean (callV, callS), Shelf/KitTraced.lean (throwNew0V, throwNewS). -/
/-- where a method has thrown q: the class by its name, the cell, what was written, the world -/
def vx_T (XC : String → State → State → Prop) (st : State) (q : Addr) (t : State) (mc ms : Nat) (free : Addr → Prop) : Prop :=
  ∃ (E : String) (ce : Cell) (L : List Loc), XC E st t ∧ t.heap[q]? = some ce ∧ ce.vm = .none ∧ st.vm.findClass E = some ce.cls ∧ st.WarmedH t.vm ∧ st.sameButNew ({ t with vm := st.vm } : State) L mc ms ∧ ∀ z ∈ L, free z.base
def vx_Q (Qc : Array Value → State → Outcome → State → Prop) (XC : String → State → State → Prop) (mc ms : Nat) (free : Addr → Prop) : Array Value → State → Outcome → State → Prop := fun a st o t =>
  (Qc a st o t ∧ ∃ L, FrameEnd st o t L mc ms ∧ ∀ q ∈ L, free q.base) ∨ ∃ q, o = .threw q ∧ vx_T XC st q t mc ms free
/-- a callee that returns or throws -/
def vx_Met (l : Launch) (y : MethodName) (ws : List Cond) (rm : Room) (Pc : Array Value → State → Prop) (Qc : Array Value → State → Outcome → State → Prop) (XC : String → State → State → Prop) (mc ms : Nat) (free : Addr → Prop) : Prop :=
  MetFree l y (headSpec ws rm) Pc (fun _ _ _ _ _ => True) (vx_Q Qc XC mc ms free)
def vx_Post (XC : String → State → State → Prop) (mc ms : Nat) (free : Addr → Prop) : Pt → Array Value → Addr → Pt → Prop := fun A a q B =>
  ∃ (g : JFrame) (mk : MethodId) (t : State) (L : List Loc) (E : String) (ce : Cell), B.U.heap = t.heap ∧ B.U.vm = t.vm ∧ XC E (A.U.calling g mk a) t ∧ t.heap[q]? = some ce ∧ ce.vm = .none ∧ A.U.vm.findClass E = some ce.cls ∧ B.locs = A.locs ++ L ∧ (∀ z ∈ L, free z.base) ∧ B.cells = A.cells + mc ∧ B.slots = A.slots + ms
def vx_Back (l : Launch) (R : Room) (p : Program) (e : Env) (below : List Frame) (s : State) (sargs : Array Value) (y : MethodName) (len W9 : Nat)
    (Pre : Pt → Array Value → Prop) (Post : Pt → Array Value → Option Value → Pt → Prop) (PostX : Pt → Array Value → Addr → Pt → Prop) : Prop :=
  ∀ (m : MethodId) (meth : Method) (c : Code) (A : Pt) (g : JFrame) (ig : Instr) (mk : MethodId) (a : Array Value),
    Stand p l e R s m sargs below meth c A.U A.locs A.cells A.slots → g.method = m → g.locals.size = c.maxLocals → decode c.code g.pc = .ok (ig, len) →
    2 * g.monitorRoom + (g.stack.map fun v => v.category).sum ≤ W9 → A.U.methodNamed? y = some mk → Pre A a →
    (∃ (v : Option Value) (B : Pt), Stand p l e R s m sargs below meth c B.U B.locs B.cells B.slots ∧ Post A a v B ∧
      Steps p.tables e below (doInvoke e (A.U.setTop g) [] mk a).1 (B.U.setTop { g with pc := g.pc + len, stack := v.toList ++ g.stack })) ∨
    (∃ (q : Addr) (B : Pt), Stand p l e R s m sargs below meth c B.U B.locs B.cells B.slots ∧ PostX A a q B ∧
      Steps p.tables e below (doInvoke e (A.U.setTop g) [] mk a).1 ((B.U.setTop g).pushFrame (.throwing q)))
section Payer
variable {l : Launch} {R : Room} {p : Program} {e : Env} {below : List Frame} {s : State} {sargs : Array Value} {y : MethodName} {len W9 : Nat}
theorem vx_back {ws : List Cond} {rm : Room} {Pc : Array Value → State → Prop} {Qc : Array Value → State → Outcome → State → Prop} {XC : String → State → State → Prop} {mc ms : Nat} {free : Addr → Prop} {bytes : ByteArray} {maxL : Nat} {ret : Option FieldType}
    (hM : vx_Met l y ws rm Pc Qc XC mc ms free) (hblind : FrameBlind Pc) (hrc : rm.cells = mc) (hrs : rm.slots = ms)
    (hframes : rm.frames + 1 ≤ R.frames) (hlocals : W9 + (maxL + 11) + rm.locals ≤ R.locals)
    (hws : ∀ w ∈ ws, ∀ a' U, s.WarmedH U.vm → w.before a' U = true) (hcode : Cond.code y bytes maxL ret ∈ ws) (hinit : ∀ a' U, s.WarmedH U.vm → (Cond.initialized y.cls).before a' U = true) :
    vx_Back l R p e below s sargs y len W9 (PreOf R mc ms Pc) (PostOf Qc mc ms free) (vx_Post XC mc ms free) := by
  intro m meth c A g ig mk a X hg hsize hdg hW hn hp
  have h1 : (headSpec ws rm).pre.before a A.U = true := atoms_intro fun w hw => hws w hw _ _ X.warmed
  have h2 : (Cond.code y bytes maxL ret).before a A.U = true := hws _ hcode _ _ X.warmed
  have h3 : (Cond.initialized y.cls).before a A.U = true := hinit _ _ X.warmed
  have h4 : A.cells + (headSpec ws rm).room.cells ≤ R.cells := by rw [show (headSpec ws rm).room.cells = mc from hrc]; exact hp.1
  have h5 : A.slots + (headSpec ws rm).room.slots ≤ R.slots := by rw [show (headSpec ws rm).room.slots = ms from hrs]; exact hp.2.1
  have hPc : Pc a (A.U.calling g mk a) := hblind _ _ _ _ hp.2.2
  obtain ⟨U, Ls, c0, s0⟩ := A
  dsimp only [Pt.U, Pt.locs, Pt.cells, Pt.slots] at h1 h2 h3 h4 h5 X hn hPc ⊢
  obtain ⟨methY, cY, hmY, hcY, -, hlY, -, -, -, -⟩ := Cond.code_spec hn h2
  obtain ⟨kY, hkY, -⟩ := className_of_methodNamed hn
  have hinitY : kY.init = .initialized := Cond.initialized_spec (findClass_of_methodNamed hn) hkY h3
  have h : At U g.method c below := by rw [hg]; exact X.here
  have hlocals9 : W9 + (maxL + 11) + (headSpec ws rm).room.locals ≤ R.locals := hlocals
  have happ : (headSpec ws rm).appliesLoose y e.platform (U.calling g mk a) = true :=
    Spec.appliesLoose_calling (g := g) h hdg hn hkY hinitY
      (X.room_calling (g := g) (R' := (headSpec ws rm).room) hsize hmY hcY hframes (by rw [hlY]; omega) h4 h5) h1
  obtain ⟨mid, hmid⟩ := h.above
  have hfr : (U.setTop g).frames = (.java g :: mid) ++ below := by rw [State.frames_setTop' g h.top, hmid]; rfl
  obtain ⟨o, s₂, hsteps, -, hend, hq⟩ := Steps.callFree hM p X.admits X.cas X.clock (acts := []) hfr happ hPc trivial
  have hq' : vx_Q Qc XC mc ms free a (U.calling g mk a) o s₂ := hq
  rw [State.frames_setTop' g h.top] at hend
  obtain ⟨g₀, hg0⟩ := Option.isSome_iff_exists.mp h.top
  obtain ⟨r, hr⟩ := State.topJava?_eq_some.mp hg0
  have hr' : (({ U with heap := s₂.heap, slotsUsed := s₂.slotsUsed } : State).setVm s₂.vm).frames = .java g₀ :: r := hr
  rcases hq' with ⟨hqc, L, hfe, hL⟩ | ⟨q, rfl, E, ce, L, hx, hce, hcv, hcl, hW₂, hsm, hL⟩
  · obtain ⟨⟨v, rfl⟩, hW₂, e2, q2, q3, q4, q5, q6⟩ := id hfe
    have e3 : s₂ = ({ (U.calling g mk a).setFrames s₂.frames with heap := s₂.heap, slotsUsed := s₂.slotsUsed } : State).setVm s₂.vm := by
      have : s₂ = ({ s₂ with vm := (U.calling g mk a).vm } : State).setVm s₂.vm := rfl
      rw [e2] at this
      exact this
    obtain ⟨c₂, i₂, len₂, hc₂, hd₂, hf₂⟩ := hend
    have hW' : U.WarmedH s₂.vm := hW₂
    have hcc : c₂ = c := by
      have h1 : s₂.code? g.method = U.code? g.method := by
        rw [State.code?_eq, State.code?_eq, hW'.alike.method?]
      exact Option.some.inj (hc₂.symm.trans (h1.trans h.code))
    subst hcc
    have hlen : len₂ = len := by rw [hdg] at hd₂; cases hd₂; rfl
    subst hlen
    have hs₂ : s₂ = (({ U with heap := s₂.heap, slotsUsed := s₂.slotsUsed } : State).setVm s₂.vm).setTop { g with pc := g.pc + len₂, stack := v.toList ++ g.stack } := by
      refine e3.trans ?_
      rw [hf₂, State.calling_eq h.top, State.setFrames_setFrames, State.setTop_of_frames _ hr', hr]
      rfl
    have hsame : U.sameButNew ({ U with heap := s₂.heap, slotsUsed := s₂.slotsUsed } : State) L mc ms := by
      refine ⟨?_, q2, q3, q4, q5, q6⟩
      obtain ⟨t, ht, -⟩ := State.frames_cons hr
      show ({ U with heap := s₂.heap, slotsUsed := s₂.slotsUsed } : State) = { U.setFrames U.frames with heap := s₂.heap, slotsUsed := s₂.slotsUsed }
      rw [State.setFrames_self ht]
    subst hg
    refine Or.inl ⟨v, ⟨(({ U with heap := s₂.heap, slotsUsed := s₂.slotsUsed } : State).setVm s₂.vm), Ls ++ L, c0 + mc, s0 + ms⟩,
      ⟨X.admits, X.cas, X.clock, X.frames, X.room, X.hears, X.method, X.code, (X.here.setHeapUsed s₂.heap s₂.slotsUsed).setVm hW'.alike, X.tail, State.WarmedH.trans X.warmed hW', X.limits, X.bytes, X.same.trans (hsame.setVm s.vm)⟩,
      ⟨g, mk, s₂, L, rfl, rfl, hqc, rfl, hL, rfl, rfl⟩, ?_⟩
    show Steps p.tables e below _ ((({ U with heap := s₂.heap, slotsUsed := s₂.slotsUsed } : State).setVm s₂.vm).setTop { g with pc := g.pc + len₂, stack := v.toList ++ g.stack })
    rw [← hs₂]
    exact hsteps
  · obtain ⟨e2, q2, q3, q4, q5, q6⟩ := id hsm
    have e3 : s₂ = ({ (U.calling g mk a).setFrames s₂.frames with heap := s₂.heap, slotsUsed := s₂.slotsUsed } : State).setVm s₂.vm := by
      have : s₂ = ({ s₂ with vm := (U.calling g mk a).vm } : State).setVm s₂.vm := rfl
      rw [e2] at this
      exact this
    have hf₂ : s₂.frames = .throwing q :: .java g :: U.frames.tail := hend
    have hW' : U.WarmedH s₂.vm := hW₂
    have hs₂ : s₂ = ((({ U with heap := s₂.heap, slotsUsed := s₂.slotsUsed } : State).setVm s₂.vm).setTop g).pushFrame (.throwing q) := by
      refine e3.trans ?_
      rw [hf₂, State.calling_eq h.top, State.setFrames_setFrames, State.pushFrame, State.frames_setTop _ hr', State.setTop_of_frames _ hr', State.setFrames_setFrames, hr]
      rfl
    have hsame : U.sameButNew ({ U with heap := s₂.heap, slotsUsed := s₂.slotsUsed } : State) L mc ms := by
      refine ⟨?_, q2, q3, q4, q5, q6⟩
      obtain ⟨t, ht, -⟩ := State.frames_cons hr
      show ({ U with heap := s₂.heap, slotsUsed := s₂.slotsUsed } : State) = { U.setFrames U.frames with heap := s₂.heap, slotsUsed := s₂.slotsUsed }
      rw [State.setFrames_self ht]
    subst hg
    refine Or.inr ⟨q, ⟨(({ U with heap := s₂.heap, slotsUsed := s₂.slotsUsed } : State).setVm s₂.vm), Ls ++ L, c0 + mc, s0 + ms⟩,
      ⟨X.admits, X.cas, X.clock, X.frames, X.room, X.hears, X.method, X.code, (X.here.setHeapUsed s₂.heap s₂.slotsUsed).setVm hW'.alike, X.tail, State.WarmedH.trans X.warmed hW', X.limits, X.bytes, X.same.trans (hsame.setVm s.vm)⟩,
      ⟨g, mk, s₂, L, E, ce, rfl, rfl, hx, hce, hcv, hcl, rfl, hL, rfl, rfl⟩, ?_⟩
    show Steps p.tables e below _ (((({ U with heap := s₂.heap, slotsUsed := s₂.slotsUsed } : State).setVm s₂.vm).setTop g).pushFrame (.throwing q))
    rw [← hs₂]
    exact hsteps
end Payer
section Calls
variable {p : Program} {l : Launch} {e : Env} {R : Room} {s : State} {m : MethodId} {args : Array Value} {below : List Frame} {meth : Method} {c : Code} {T : State} {locs : List Loc} {cells slots : Nat}
theorem vx_callV (X : Stand p l e R s m args below meth c T locs cells slots) (hexec : p.tables.exec = Jvm.exec) {own C : String} {index : Nat} {y : MethodName} {bytes : ByteArray} {maxL : Nat} {ret : Option FieldType}
    (hown : s.vm.findClass own = some m.cls) (hlink : (Cond.methodLink own index y).before args s = true) (hinst : (Cond.instanceMethod y).before args s = true) (hsel : (Cond.selects C y y).before args s = true)
    (hcode : (Cond.code y bytes maxL ret).before args s = true) (hy : y.cls ≠ "java/lang/invoke/MethodHandle" ∧ y.cls ≠ "java/lang/invoke/VarHandle")
    {W9 : Nat} {Pre : Pt → Array Value → Prop} {Post : Pt → Array Value → Option Value → Pt → Prop} {PostX : Pt → Array Value → Addr → Pt → Prop} (hK : vx_Back l R p e below s args y 3 W9 Pre Post PostX)
    {b : Addr} {cellB : Cell} (hcell : T.heap[b]? = some cellB) (hobj : cellB.vm.isStatics = false) (hcls : s.vm.findClass C = some cellB.cls)
    {g : JFrame} (hg : g.method = m) (hsize : g.locals.size = c.maxLocals) {argsL rest : List Value} (hlen : ∀ sig, parseMethodDescriptor y.desc = some sig → argsL.length = sig.parameters.length)
    (hstack : g.stack = argsL.reverse ++ .ref b :: rest) (hW : 2 * g.monitorRoom + (rest.map fun v => v.category).sum ≤ W9) (hdg : decode c.code g.pc = .ok (.invokevirtual index, 3))
    (hpre : ∀ vm₁, s.WarmedH vm₁ → Pre ⟨T.setVm vm₁, locs, cells, slots⟩ (Value.ref b :: argsL).toArray) :
    (∃ (v : Option Value) (vm₁ : Vm) (B : Pt), s.WarmedH vm₁ ∧ Stand p l e R s m args below meth c B.U B.locs B.cells B.slots ∧ Post ⟨T.setVm vm₁, locs, cells, slots⟩ (Value.ref b :: argsL).toArray v B ∧
      ∀ target, Steps p.tables e below (B.U.setTop { g with pc := g.pc + 3, stack := v.toList ++ rest }) target → Steps p.tables e below (T.setTop g) target) ∨
    (∃ (q : Addr) (vm₁ : Vm) (B : Pt), s.WarmedH vm₁ ∧ Stand p l e R s m args below meth c B.U B.locs B.cells B.slots ∧ PostX ⟨T.setVm vm₁, locs, cells, slots⟩ (Value.ref b :: argsL).toArray q B ∧
      Steps p.tables e below (T.setTop g) ((B.U.setTop { g with stack := rest }).pushFrame (.throwing q))) := by
  obtain ⟨mk, methM, hnamed, hmethM, hstM, habM⟩ := Cond.instanceMethod_spec hinst
  obtain ⟨methM', cM, hmethM', -, -, -, -, -, -, hsigM⟩ := Cond.code_spec hnamed hcode
  cases hmethM.symm.trans hmethM'
  obtain ⟨c2, r2, m2, q1, q2, q3, q4, kP, hkP, hkPi⟩ := Cond.selects_spec hsel
  cases hcls.symm.trans q1
  cases (State.methodFound?_of_named hnamed hy).symm.trans q2
  cases hnamed.symm.trans q3
  have hselP : selectMethod e.platform s.vm cellB.cls mk = .method mk := by rw [Launch.admits_selectMethod X.admits]; exact q4
  obtain ⟨vm₁, X₁, hstep₁⟩ := X.invokevirtual hexec hown hlink hnamed hmethM hstM hkP hkPi hy (a := b) (cell := cellB) hcell
    (fun z h => by rw [h] at hobj; cases hobj) hselP hmethM habM hkP hkPi (g := g) hg (argsL := argsL) (rest := rest) (hlen _ hsigM) hstack hdg
  rcases hK m meth c ⟨T.setVm vm₁, locs, cells, slots⟩ { g with stack := rest } (.invokevirtual index) mk (Value.ref b :: argsL).toArray X₁ hg hsize hdg hW (X₁.named hnamed) (hpre vm₁ X₁.warmed) with ⟨v, B, X', hpost, hsteps⟩ | ⟨q, B, X', hpost, hsteps⟩
  · exact Or.inl ⟨v, vm₁, B, X₁.warmed, X', hpost, fun target h => hstep₁ _ fun acts => by rw [doInvoke_state]; exact hsteps.trans h⟩
  · exact Or.inr ⟨q, vm₁, B, X₁.warmed, X', hpost, hstep₁ _ fun acts => by rw [doInvoke_state]; exact hsteps⟩
theorem vx_callS (X : Stand p l e R s m args below meth c T locs cells slots) (hexec : p.tables.exec = Jvm.exec) {own : String} {index : Nat} {y : MethodName} {bytes : ByteArray} {maxL : Nat} {ret : Option FieldType}
    (hown : s.vm.findClass own = some m.cls) (hlink : (Cond.methodLink own index y).before args s = true) (hstat : (Cond.static y).before args s = true) (hinit : (Cond.initialized y.cls).before args s = true)
    (hcode : (Cond.code y bytes maxL ret).before args s = true) (hy : y.cls ≠ "java/lang/invoke/MethodHandle" ∧ y.cls ≠ "java/lang/invoke/VarHandle")
    {W9 : Nat} {Pre : Pt → Array Value → Prop} {Post : Pt → Array Value → Option Value → Pt → Prop} {PostX : Pt → Array Value → Addr → Pt → Prop} (hK : vx_Back l R p e below s args y 3 W9 Pre Post PostX)
    {g : JFrame} (hg : g.method = m) (hsize : g.locals.size = c.maxLocals) {argsL rest : List Value} (hlen : ∀ sig, parseMethodDescriptor y.desc = some sig → argsL.length = sig.parameters.length)
    (hstack : g.stack = argsL.reverse ++ rest) (hW : 2 * g.monitorRoom + (rest.map fun v => v.category).sum ≤ W9) (hdg : decode c.code g.pc = .ok (.invokestatic index, 3))
    (hpre : ∀ vm₁, s.WarmedH vm₁ → Pre ⟨T.setVm vm₁, locs, cells, slots⟩ argsL.toArray) :
    (∃ (v : Option Value) (vm₁ : Vm) (B : Pt), s.WarmedH vm₁ ∧ Stand p l e R s m args below meth c B.U B.locs B.cells B.slots ∧ Post ⟨T.setVm vm₁, locs, cells, slots⟩ argsL.toArray v B ∧
      ∀ target, Steps p.tables e below (B.U.setTop { g with pc := g.pc + 3, stack := v.toList ++ rest }) target → Steps p.tables e below (T.setTop g) target) ∨
    (∃ (q : Addr) (vm₁ : Vm) (B : Pt), s.WarmedH vm₁ ∧ Stand p l e R s m args below meth c B.U B.locs B.cells B.slots ∧ PostX ⟨T.setVm vm₁, locs, cells, slots⟩ argsL.toArray q B ∧
      Steps p.tables e below (T.setTop g) ((B.U.setTop { g with stack := rest }).pushFrame (.throwing q))) := by
  obtain ⟨mk, hnamed⟩ := Cond.code_named hcode
  obtain ⟨methM, cM, hmethM, -, -, -, -, -, -, hsigM⟩ := Cond.code_spec hnamed hcode
  have hstatic : methM.isStatic = true := Cond.static_spec hnamed hmethM hstat
  obtain ⟨kP, hkP, -⟩ := className_of_methodNamed hnamed
  have hinitP : kP.init = .initialized := Cond.initialized_spec (findClass_of_methodNamed hnamed) hkP hinit
  obtain ⟨vm₁, X₁, hstep₁⟩ := X.invokestatic hexec hown hlink hnamed hmethM hstatic hkP hinitP hy (g := g) hg (argsL := argsL) (rest := rest) (hlen _ hsigM) hstack hdg
  rcases hK m meth c ⟨T.setVm vm₁, locs, cells, slots⟩ { g with stack := rest } (.invokestatic index) mk argsL.toArray X₁ hg hsize hdg hW (X₁.named hnamed) (hpre vm₁ X₁.warmed) with ⟨v, B, X', hpost, hsteps⟩ | ⟨q, B, X', hpost, hsteps⟩
  · exact Or.inl ⟨v, vm₁, B, X₁.warmed, X', hpost, fun target h => hstep₁ _ fun acts => by rw [doInvoke_state]; exact hsteps.trans h⟩
  · exact Or.inr ⟨q, vm₁, B, X₁.warmed, X', hpost, hstep₁ _ fun acts => by rw [doInvoke_state]; exact hsteps⟩
end Calls
theorem vx_cls {s : State} {T : State} {vm₁ : Vm} {E : String} {k : ClassId} (hW : s.WarmedH vm₁) (h : (T.setVm vm₁).vm.findClass E = some k) : s.vm.findClass E = some k := by
  have h1 : vm₁.findClass E = some k := h
  rw [hW.alike.findClass] at h1
  exact h1
/-- the method's frame g, with q thrown over it -/
def vx_W (p : Program) (l : Launch) (e : Env) (R : Room) (s : State) (m : MethodId) (args : Array Value) (below : List Frame) (meth : Method) (c : Code) (H : Heap) (locs : List Loc) (cells slots : Nat) (Q : State → Prop) (g : JFrame) (q : Addr) : Prop :=
  ∀ T : State, T.heap = H → Stand p l e R s m args below meth c T locs cells slots → ∃ t, Steps p.tables e below ((T.setTop g).pushFrame (.throwing q)) t ∧ Q t
def vx_Run (p : Program) (l : Launch) (e : Env) (R : Room) (s : State) (m : MethodId) (args : Array Value) (below : List Frame) (meth : Method) (c : Code) (H : Heap) (locs : List Loc) (cells slots mc ms : Nat) (g : JFrame) (rest : List Value) (Qa : State → Outcome → State → Prop) (XC : String → State → State → Prop) (free : Addr → Prop) : Prop :=
  ∀ T : State, T.heap = H → Stand p l e R s m args below meth c T locs cells slots →
    (∃ (v : Option Value) (st₀ t T' : State) (L : List Loc), st₀.heap = H ∧ Stand p l e R s m args below meth c T' (locs ++ L) (cells + mc) (slots + ms) ∧ (∀ q ∈ L, free q.base) ∧ T'.heap = t.heap ∧ T'.vm = t.vm ∧ Qa st₀ (.returned v) t ∧
      Goes p e below T g T' { g with pc := g.pc + 3, stack := v.toList ++ rest }) ∨
    (∃ (q : Addr) (st₀ t T' : State) (L : List Loc) (E : String) (ce : Cell), st₀.heap = H ∧ Stand p l e R s m args below meth c T' (locs ++ L) (cells + mc) (slots + ms) ∧ (∀ z ∈ L, free z.base) ∧ T'.heap = t.heap ∧ T'.vm = t.vm ∧ XC E st₀ t ∧ t.heap[q]? = some ce ∧ ce.vm = .none ∧ s.vm.findClass E = some ce.cls ∧
      Steps p.tables e below (T.setTop g) ((T'.setTop { g with stack := rest }).pushFrame (.throwing q)))
def vx_X {S : Type} (px : S → Prop) (B : String → S → State → Prop) (A : Nat → Prop) : String → State → State → Prop := fun E st t => ∃ u : S, px u ∧ B E u t ∧ va_F A st t
section Runs
variable {p : Program} {l : Launch} {e : Env} {R : Room} {s : State} {m : MethodId} {args : Array Value} {below : List Frame} {meth : Method} {c : Code} {H : Heap} {locs : List Loc} {cells slots : Nat}
variable {y : MethodName} {bytes cc : ByteArray} {maxL nL mc ms n index : Nat} {ret : Option FieldType} {ws : List Cond} {rm : Room} {Pc : Array Value → State → Prop} {Qc : Array Value → State → Outcome → State → Prop} {XC : String → State → State → Prop} {free : Addr → Prop} {Ts : List Cond} {own C : String} {b : Addr} {As rest : List Value} {g : JFrame}
theorem vx_callBack (cb : CallB R s args own index y bytes maxL ret ws rm mc ms n) (hM : vx_Met l y ws rm Pc Qc XC mc ms free) (hbl : FrameBlind Pc) : vx_Back l R p e below s args y 3 8 (PreOf R mc ms Pc) (PostOf Qc mc ms free) (vx_Post XC mc ms free) := by
  obtain ⟨hrc, hrs, hfr, hlo, hws, hcw, -, hini, -⟩ := cb
  exact vx_back (bytes := bytes) (maxL := maxL) (ret := ret) hM hbl hrc hrs hfr hlo hws hcw (fun a' U hW => word_at hW (Or.inl (by first | rfl | simp [Cond.onTables, Cond.keeps, Cond.steady])) hini)
theorem vx_runV (S : CallFix p m c cc nL s args Ts own) (hM : vx_Met l y ws rm Pc Qc XC mc ms free) (cw : CallW R s args own C index y bytes maxL ret ws rm mc ms n) (hp : PreV s H C b Pc As)
    (hg : g.method = m) (hn : As.length = n) (hsize : g.locals.size = nL) (hstack : g.stack = As.reverse ++ .ref b :: rest) (hW : 2 * g.monitorRoom + (rest.map fun v => v.category).sum ≤ 8) (hdg : decode cc g.pc = .ok (.invokevirtual index, 3)) (hf : cells + mc ≤ R.cells ∧ slots + ms ≤ R.slots) :
    vx_Run p l e R s m args below meth c H locs cells slots mc ms g rest (Qc (Value.ref b :: As).toArray) XC free := by
  have hK : vx_Back l R p e below s args y 3 8 (PreOf R mc ms Pc) (PostOf Qc mc ms free) (vx_Post XC mc ms free) := vx_callBack cw.1 hM hp.1
  obtain ⟨⟨-, -, -, -, -, -, hcode, -, hy, hlen, hl⟩, hin, hse⟩ := cw
  obtain ⟨hx, hb, hml, ho, -⟩ := S
  obtain ⟨-, ⟨cellB, hcB, hoB, hclB⟩, hPc⟩ := hp
  intro T hT X
  rcases vx_callV X hx (C := C) (bytes := bytes) (maxL := maxL) (ret := ret) ho hl hin hse hcode hy hK (by rw [hT]; exact hcB) hoB hclB hg (hsize.trans hml.symm) (argsL := As) (rest := rest) (fun sig h => hn.trans (hlen sig h)) hstack hW (by rw [hb]; exact hdg)
    (fun vm₁ hW₁ => ⟨hf.1, hf.2, hPc (T.setVm vm₁) hT hW₁⟩) with ⟨v, vm₁, ⟨U', l2, c2, s2⟩, hW₁, X', ⟨g', mk, t, L, e1, e2, hq, h1, hL, h2, h3⟩, st⟩ | ⟨q, vm₁, ⟨U', l2, c2, s2⟩, hW₁, X', ⟨g', mk, t, L, E, ce, e1, e2, hq, hce, hcv, hcl, h1, hL, h2, h3⟩, st⟩
  · dsimp only [Pt.U, Pt.locs, Pt.cells, Pt.slots] at X' e1 e2 h1 h2 h3 st
    subst h1; subst h2; subst h3
    exact Or.inl ⟨v, (T.setVm vm₁).calling g' mk (Value.ref b :: As).toArray, t, U', L, hT, X', hL, e1, e2, hq, st⟩
  · dsimp only [Pt.U, Pt.locs, Pt.cells, Pt.slots] at X' e1 e2 h1 h2 h3 st hcl
    subst h1; subst h2; subst h3
    exact Or.inr ⟨q, (T.setVm vm₁).calling g' mk (Value.ref b :: As).toArray, t, U', L, E, ce, hT, X', hL, e1, e2, hq, hce, hcv, vx_cls hW₁ hcl, st⟩
theorem vx_runS (S : CallFix p m c cc nL s args Ts own) (hM : vx_Met l y ws rm Pc Qc XC mc ms free) (cw : CallB R s args own index y bytes maxL ret ws rm mc ms n ∧ (Cond.static y).before args s = true) (hp : PreS s H Pc As)
    (hg : g.method = m) (hn : As.length = n) (hsize : g.locals.size = nL) (hstack : g.stack = As.reverse ++ rest) (hW : 2 * g.monitorRoom + (rest.map fun v => v.category).sum ≤ 8) (hdg : decode cc g.pc = .ok (.invokestatic index, 3)) (hf : cells + mc ≤ R.cells ∧ slots + ms ≤ R.slots) :
    vx_Run p l e R s m args below meth c H locs cells slots mc ms g rest (Qc As.toArray) XC free := by
  have hK : vx_Back l R p e below s args y 3 8 (PreOf R mc ms Pc) (PostOf Qc mc ms free) (vx_Post XC mc ms free) := vx_callBack cw.1 hM hp.1
  obtain ⟨⟨-, -, -, -, -, -, hcode, hini, hy, hlen, hl⟩, hstt⟩ := cw
  obtain ⟨hx, hb, hml, ho, -⟩ := S
  intro T hT X
  rcases vx_callS X hx (bytes := bytes) (maxL := maxL) (ret := ret) ho hl hstt hini hcode hy hK hg (hsize.trans hml.symm) (argsL := As) (rest := rest) (fun sig h => hn.trans (hlen sig h)) hstack hW (by rw [hb]; exact hdg)
    (fun vm₁ hW₁ => ⟨hf.1, hf.2, hp.2 (T.setVm vm₁) hT hW₁⟩) with ⟨v, vm₁, ⟨U', l2, c2, s2⟩, hW₁, X', ⟨g', mk, t, L, e1, e2, hq, h1, hL, h2, h3⟩, st⟩ | ⟨q, vm₁, ⟨U', l2, c2, s2⟩, hW₁, X', ⟨g', mk, t, L, E, ce, e1, e2, hq, hce, hcv, hcl, h1, hL, h2, h3⟩, st⟩
  · dsimp only [Pt.U, Pt.locs, Pt.cells, Pt.slots] at X' e1 e2 h1 h2 h3 st
    subst h1; subst h2; subst h3
    exact Or.inl ⟨v, (T.setVm vm₁).calling g' mk As.toArray, t, U', L, hT, X', hL, e1, e2, hq, st⟩
  · dsimp only [Pt.U, Pt.locs, Pt.cells, Pt.slots] at X' e1 e2 h1 h2 h3 st hcl
    subst h1; subst h2; subst h3
    exact Or.inr ⟨q, (T.setVm vm₁).calling g' mk As.toArray, t, U', L, E, ce, hT, X', hL, e1, e2, hq, hce, hcv, vx_cls hW₁ hcl, st⟩
end Runs
section Rows
variable {p : Program} {l : Launch} {e : Env} {R : Room} {s : State} {m : MethodId} {args : Array Value} {below : List Frame} {meth : Method} {c : Code} {H : Heap} {locs : List Loc} {cells slots : Nat} {Q : State → Prop}
variable {mc ms : Nat} {free : Addr → Prop} {A0 A1 : Nat → Prop} {H0 : Heap} {a : Array Value} {pc : Nat} {ls : Array Slot} {st0 rest : List Value}
theorem vx_keep {st₀ t T' : State} {L : List Loc} (h0 : st₀.heap = H) (e1 : T'.heap = t.heap) (hS : va_S A0 H0 H locs) (hA : ∀ q, q < H.size → A1 q → A0 q) (hf : ∀ q, free q → A0 q) (hL : ∀ q ∈ L, free q.base) (hF : va_F A1 st₀ t) :
    H.size ≤ T'.heap.size ∧ (∀ q : Nat, q < H.size → ¬ A1 q → T'.heap[q]? = H[q]?) ∧ va_S A0 H0 T'.heap (locs ++ L) := by
  obtain ⟨hz, hk⟩ := hF
  rw [h0] at hz hk
  exact ⟨by rw [e1]; exact hz, fun q h1 h2 => by rw [e1]; exact hk q h1 h2,
    ⟨Nat.le_trans hS.1 (by rw [e1]; exact hz), fun q h1 h2 => by rw [e1, hk q (Nat.lt_of_lt_of_le h1 hS.1) (fun z => h2 (hA q (Nat.lt_of_lt_of_le h1 hS.1) z))]; exact hS.2.1 q h1 h2, fun q hq => by
      rcases List.mem_append.mp hq with h | h
      · exact hS.2.2 q h
      · exact hf _ (hL q h)⟩⟩
theorem vx_calli {S SX : Type} {post : Int32 → S → Prop} {px : SX → Prop} {B : S → State → Prop} {BX : String → SX → State → Prop} {AX : Nat → Prop} (hr : vx_Run p l e R s m args below meth c H locs cells slots mc ms (F0 m pc ls st0) rest (va_Qi post B A1 a) (vx_X px BX AX) free) (hS : va_S A0 H0 H locs) (hA : ∀ q, q < H.size → A1 q → A0 q) (hf : ∀ q, free q → A0 q) (hAX : ∀ q, q < H.size → AX q → A0 q)
    (kx : ∀ (E : String) (ce : Cell) (q9 : Addr) (u : SX) (t : State) (H1 : Heap) (locs1 : List Loc), t.heap = H1 → s.vm.Alike t.vm → px u → BX E u t → H.size ≤ H1.size → (∀ q : Nat, q < H.size → ¬ AX q → H1[q]? = H[q]?) → va_S A0 H0 H1 locs1 → H1[q9]? = some ce → ce.vm = .none → s.vm.findClass E = some ce.cls → vx_W p l e R s m args below meth c H1 locs1 (cells + mc) (slots + ms) Q (F0 m pc ls rest) q9)
    (kk : ∀ (r : Int32) (u : S) (t : State) (H1 : Heap) (locs1 : List Loc), t.heap = H1 → s.vm.Alike t.vm → post r u → B u t → H.size ≤ H1.size → (∀ q : Nat, q < H.size → ¬ A1 q → H1[q]? = H[q]?) → va_S A0 H0 H1 locs1 → W p l e R s m args below meth c H1 locs1 (cells + mc) (slots + ms) Q (F0 m (pc + 3) ls (.int r :: rest))) : W p l e R s m args below meth c H locs cells slots Q (F0 m pc ls st0) := by
  intro T hT X
  rcases hr T hT X with ⟨v, st₀, t, T', L, h0, X', hL, e1, e2, ⟨⟨r, u, hv, hp, hb⟩, hF⟩, st⟩ | ⟨q, st₀, t, T', L, E, ce, h0, X', hL, e1, e2, ⟨u, hp, hb, hF⟩, hce, hcv, hcl, st⟩
  · cases hv
    obtain ⟨k1, k2, k3⟩ := vx_keep h0 e1 hS hA hf hL hF
    obtain ⟨t2, a1, b1⟩ := kk r u t T'.heap (locs ++ L) e1.symm (by rw [← e2]; exact X'.warmed.alike) hp hb k1 k2 k3 T' rfl X'
    exact ⟨t2, st t2 a1, b1⟩
  · obtain ⟨k1, k2, k3⟩ := vx_keep h0 e1 hS hAX hf hL hF
    obtain ⟨t2, a1, b1⟩ := kx E ce q u t T'.heap (locs ++ L) e1.symm (by rw [← e2]; exact X'.warmed.alike) hp hb k1 k2 k3 (by rw [e1]; exact hce) hcv hcl T' rfl X'
    exact ⟨t2, st.trans a1, b1⟩
theorem vx_calll {S SX : Type} {post : Int64 → S → Prop} {px : SX → Prop} {B : S → State → Prop} {BX : String → SX → State → Prop} {AX : Nat → Prop} (hr : vx_Run p l e R s m args below meth c H locs cells slots mc ms (F0 m pc ls st0) rest (va_Ql post B A1 a) (vx_X px BX AX) free) (hS : va_S A0 H0 H locs) (hA : ∀ q, q < H.size → A1 q → A0 q) (hf : ∀ q, free q → A0 q) (hAX : ∀ q, q < H.size → AX q → A0 q)
    (kx : ∀ (E : String) (ce : Cell) (q9 : Addr) (u : SX) (t : State) (H1 : Heap) (locs1 : List Loc), t.heap = H1 → s.vm.Alike t.vm → px u → BX E u t → H.size ≤ H1.size → (∀ q : Nat, q < H.size → ¬ AX q → H1[q]? = H[q]?) → va_S A0 H0 H1 locs1 → H1[q9]? = some ce → ce.vm = .none → s.vm.findClass E = some ce.cls → vx_W p l e R s m args below meth c H1 locs1 (cells + mc) (slots + ms) Q (F0 m pc ls rest) q9)
    (kk : ∀ (r : Int64) (u : S) (t : State) (H1 : Heap) (locs1 : List Loc), t.heap = H1 → s.vm.Alike t.vm → post r u → B u t → H.size ≤ H1.size → (∀ q : Nat, q < H.size → ¬ A1 q → H1[q]? = H[q]?) → va_S A0 H0 H1 locs1 → W p l e R s m args below meth c H1 locs1 (cells + mc) (slots + ms) Q (F0 m (pc + 3) ls (.long r :: rest))) : W p l e R s m args below meth c H locs cells slots Q (F0 m pc ls st0) := by
  intro T hT X
  rcases hr T hT X with ⟨v, st₀, t, T', L, h0, X', hL, e1, e2, ⟨⟨r, u, hv, hp, hb⟩, hF⟩, st⟩ | ⟨q, st₀, t, T', L, E, ce, h0, X', hL, e1, e2, ⟨u, hp, hb, hF⟩, hce, hcv, hcl, st⟩
  · cases hv
    obtain ⟨k1, k2, k3⟩ := vx_keep h0 e1 hS hA hf hL hF
    obtain ⟨t2, a1, b1⟩ := kk r u t T'.heap (locs ++ L) e1.symm (by rw [← e2]; exact X'.warmed.alike) hp hb k1 k2 k3 T' rfl X'
    exact ⟨t2, st t2 a1, b1⟩
  · obtain ⟨k1, k2, k3⟩ := vx_keep h0 e1 hS hAX hf hL hF
    obtain ⟨t2, a1, b1⟩ := kx E ce q u t T'.heap (locs ++ L) e1.symm (by rw [← e2]; exact X'.warmed.alike) hp hb k1 k2 k3 (by rw [e1]; exact hce) hcv hcl T' rfl X'
    exact ⟨t2, st.trans a1, b1⟩
theorem vx_callf {S SX : Type} {post : UInt32 → S → Prop} {px : SX → Prop} {B : S → State → Prop} {BX : String → SX → State → Prop} {AX : Nat → Prop} (hr : vx_Run p l e R s m args below meth c H locs cells slots mc ms (F0 m pc ls st0) rest (va_Qf post B A1 a) (vx_X px BX AX) free) (hS : va_S A0 H0 H locs) (hA : ∀ q, q < H.size → A1 q → A0 q) (hf : ∀ q, free q → A0 q) (hAX : ∀ q, q < H.size → AX q → A0 q)
    (kx : ∀ (E : String) (ce : Cell) (q9 : Addr) (u : SX) (t : State) (H1 : Heap) (locs1 : List Loc), t.heap = H1 → s.vm.Alike t.vm → px u → BX E u t → H.size ≤ H1.size → (∀ q : Nat, q < H.size → ¬ AX q → H1[q]? = H[q]?) → va_S A0 H0 H1 locs1 → H1[q9]? = some ce → ce.vm = .none → s.vm.findClass E = some ce.cls → vx_W p l e R s m args below meth c H1 locs1 (cells + mc) (slots + ms) Q (F0 m pc ls rest) q9)
    (kk : ∀ (r : UInt32) (u : S) (t : State) (H1 : Heap) (locs1 : List Loc), t.heap = H1 → s.vm.Alike t.vm → post r u → B u t → H.size ≤ H1.size → (∀ q : Nat, q < H.size → ¬ A1 q → H1[q]? = H[q]?) → va_S A0 H0 H1 locs1 → W p l e R s m args below meth c H1 locs1 (cells + mc) (slots + ms) Q (F0 m (pc + 3) ls (.float r :: rest))) : W p l e R s m args below meth c H locs cells slots Q (F0 m pc ls st0) := by
  intro T hT X
  rcases hr T hT X with ⟨v, st₀, t, T', L, h0, X', hL, e1, e2, ⟨⟨r, u, hv, hp, hb⟩, hF⟩, st⟩ | ⟨q, st₀, t, T', L, E, ce, h0, X', hL, e1, e2, ⟨u, hp, hb, hF⟩, hce, hcv, hcl, st⟩
  · cases hv
    obtain ⟨k1, k2, k3⟩ := vx_keep h0 e1 hS hA hf hL hF
    obtain ⟨t2, a1, b1⟩ := kk r u t T'.heap (locs ++ L) e1.symm (by rw [← e2]; exact X'.warmed.alike) hp hb k1 k2 k3 T' rfl X'
    exact ⟨t2, st t2 a1, b1⟩
  · obtain ⟨k1, k2, k3⟩ := vx_keep h0 e1 hS hAX hf hL hF
    obtain ⟨t2, a1, b1⟩ := kx E ce q u t T'.heap (locs ++ L) e1.symm (by rw [← e2]; exact X'.warmed.alike) hp hb k1 k2 k3 (by rw [e1]; exact hce) hcv hcl T' rfl X'
    exact ⟨t2, st.trans a1, b1⟩
theorem vx_calld {S SX : Type} {post : UInt64 → S → Prop} {px : SX → Prop} {B : S → State → Prop} {BX : String → SX → State → Prop} {AX : Nat → Prop} (hr : vx_Run p l e R s m args below meth c H locs cells slots mc ms (F0 m pc ls st0) rest (va_Qd post B A1 a) (vx_X px BX AX) free) (hS : va_S A0 H0 H locs) (hA : ∀ q, q < H.size → A1 q → A0 q) (hf : ∀ q, free q → A0 q) (hAX : ∀ q, q < H.size → AX q → A0 q)
    (kx : ∀ (E : String) (ce : Cell) (q9 : Addr) (u : SX) (t : State) (H1 : Heap) (locs1 : List Loc), t.heap = H1 → s.vm.Alike t.vm → px u → BX E u t → H.size ≤ H1.size → (∀ q : Nat, q < H.size → ¬ AX q → H1[q]? = H[q]?) → va_S A0 H0 H1 locs1 → H1[q9]? = some ce → ce.vm = .none → s.vm.findClass E = some ce.cls → vx_W p l e R s m args below meth c H1 locs1 (cells + mc) (slots + ms) Q (F0 m pc ls rest) q9)
    (kk : ∀ (r : UInt64) (u : S) (t : State) (H1 : Heap) (locs1 : List Loc), t.heap = H1 → s.vm.Alike t.vm → post r u → B u t → H.size ≤ H1.size → (∀ q : Nat, q < H.size → ¬ A1 q → H1[q]? = H[q]?) → va_S A0 H0 H1 locs1 → W p l e R s m args below meth c H1 locs1 (cells + mc) (slots + ms) Q (F0 m (pc + 3) ls (.double r :: rest))) : W p l e R s m args below meth c H locs cells slots Q (F0 m pc ls st0) := by
  intro T hT X
  rcases hr T hT X with ⟨v, st₀, t, T', L, h0, X', hL, e1, e2, ⟨⟨r, u, hv, hp, hb⟩, hF⟩, st⟩ | ⟨q, st₀, t, T', L, E, ce, h0, X', hL, e1, e2, ⟨u, hp, hb, hF⟩, hce, hcv, hcl, st⟩
  · cases hv
    obtain ⟨k1, k2, k3⟩ := vx_keep h0 e1 hS hA hf hL hF
    obtain ⟨t2, a1, b1⟩ := kk r u t T'.heap (locs ++ L) e1.symm (by rw [← e2]; exact X'.warmed.alike) hp hb k1 k2 k3 T' rfl X'
    exact ⟨t2, st t2 a1, b1⟩
  · obtain ⟨k1, k2, k3⟩ := vx_keep h0 e1 hS hAX hf hL hF
    obtain ⟨t2, a1, b1⟩ := kx E ce q u t T'.heap (locs ++ L) e1.symm (by rw [← e2]; exact X'.warmed.alike) hp hb k1 k2 k3 (by rw [e1]; exact hce) hcv hcl T' rfl X'
    exact ⟨t2, st.trans a1, b1⟩
theorem vx_callv {S SX : Type} {post : S → Prop} {px : SX → Prop} {B : S → State → Prop} {BX : String → SX → State → Prop} {AX : Nat → Prop} (hr : vx_Run p l e R s m args below meth c H locs cells slots mc ms (F0 m pc ls st0) rest (va_Qv post B A1 a) (vx_X px BX AX) free) (hS : va_S A0 H0 H locs) (hA : ∀ q, q < H.size → A1 q → A0 q) (hf : ∀ q, free q → A0 q) (hAX : ∀ q, q < H.size → AX q → A0 q)
    (kx : ∀ (E : String) (ce : Cell) (q9 : Addr) (u : SX) (t : State) (H1 : Heap) (locs1 : List Loc), t.heap = H1 → s.vm.Alike t.vm → px u → BX E u t → H.size ≤ H1.size → (∀ q : Nat, q < H.size → ¬ AX q → H1[q]? = H[q]?) → va_S A0 H0 H1 locs1 → H1[q9]? = some ce → ce.vm = .none → s.vm.findClass E = some ce.cls → vx_W p l e R s m args below meth c H1 locs1 (cells + mc) (slots + ms) Q (F0 m pc ls rest) q9)
    (kk : ∀ (u : S) (t : State) (H1 : Heap) (locs1 : List Loc), t.heap = H1 → s.vm.Alike t.vm → post u → B u t → H.size ≤ H1.size → (∀ q : Nat, q < H.size → ¬ A1 q → H1[q]? = H[q]?) → va_S A0 H0 H1 locs1 → W p l e R s m args below meth c H1 locs1 (cells + mc) (slots + ms) Q (F0 m (pc + 3) ls (rest))) : W p l e R s m args below meth c H locs cells slots Q (F0 m pc ls st0) := by
  intro T hT X
  rcases hr T hT X with ⟨v, st₀, t, T', L, h0, X', hL, e1, e2, ⟨⟨u, hv, hp, hb⟩, hF⟩, st⟩ | ⟨q, st₀, t, T', L, E, ce, h0, X', hL, e1, e2, ⟨u, hp, hb, hF⟩, hce, hcv, hcl, st⟩
  · cases hv
    obtain ⟨k1, k2, k3⟩ := vx_keep h0 e1 hS hA hf hL hF
    obtain ⟨t2, a1, b1⟩ := kk u t T'.heap (locs ++ L) e1.symm (by rw [← e2]; exact X'.warmed.alike) hp hb k1 k2 k3 T' rfl X'
    exact ⟨t2, st t2 a1, b1⟩
  · obtain ⟨k1, k2, k3⟩ := vx_keep h0 e1 hS hAX hf hL hF
    obtain ⟨t2, a1, b1⟩ := kx E ce q u t T'.heap (locs ++ L) e1.symm (by rw [← e2]; exact X'.warmed.alike) hp hb k1 k2 k3 (by rw [e1]; exact hce) hcv hcl T' rfl X'
    exact ⟨t2, st.trans a1, b1⟩
/-- caught by the row x of this method's table; the rows ahead don't take it -/
theorem vx_catch {own name : String} {E : String} {ce : Cell} {q : Addr} (hown : s.vm.findClass own = some m.cls) (pre : List ExceptionTableEntry) (x : ExceptionTableEntry) (suf : List ExceptionTableEntry) (hsplit : c.exceptionTable.toList = pre ++ x :: suf)
    (hpass : ∀ z ∈ pre, covers z pc = false ∨ (z.catchType ≠ 0 ∧ ∃ nm : String, (Cond.classLink own z.catchType nm).before args s = true ∧ va_Nc E nm s)) (hx : covers x pc = true) (h0 : x.catchType ≠ 0)
    (hlink : (Cond.classLink own x.catchType name).before args s = true) (hcast : (Cond.castable E name).before args s = true) (hcell : H[q]? = some ce) (hv : ce.vm = .none) (hcl : s.vm.findClass E = some ce.cls)
    (kk : W p l e R s m args below meth c H locs cells slots Q (F0 m x.handlerPc ls [.ref q])) : vx_W p l e R s m args below meth c H locs cells slots Q (F0 m pc ls rest) q := by
  intro T hT X
  have hpl : e.platform.magicAccessors = ({} : Platform).magicAccessors := by rw [X.admits.platform]
  obtain ⟨c3, c4, hc3, hc4, hasg⟩ := Cond.castable_spec hcast
  cases Option.some.inj (hc3.symm.trans hcl)
  obtain ⟨c5, hc5, hcl5⟩ := Cond.classLink_spec hown hlink e.platform hpl
  cases Option.some.inj (hc4.symm.trans hc5)
  obtain ⟨vm', X', st⟩ := X.thenCaughtThrough q (g := F0 m pc ls rest) rfl (Steps.refl _) (by rw [hT]; exact hcell) (by rw [hv]; rfl) (by obtain ⟨k9, h9, -⟩ := Vm.findClass_spec hcl; exact ⟨k9, h9⟩) pre x suf hsplit
    (fun z hz => by
      rcases hpass z hz with h | ⟨hz0, nm, hl1, hn1⟩
      · exact Or.inl h
      · obtain ⟨c6, hc6, hcl6⟩ := Cond.classLink_spec hown hl1 e.platform hpl
        obtain ⟨a8, b8, h1, h2, h3⟩ := hn1
        cases Option.some.inj (h1.symm.trans hcl)
        cases Option.some.inj (h2.symm.trans hc6)
        exact Or.inr ⟨hz0, _, hcl6, h3⟩) hx (Or.inr ⟨h0, c4, hcl5, hasg⟩)
  obtain ⟨t, a1, b1⟩ := kk (T.setVm vm') hT X'
  exact ⟨t, st.trans a1, b1⟩
end Rows
section Ends
variable {p : Program} {l : Launch} {e : Env} {R : Room} {s : State} {m : MethodId} {args : Array Value} {below : List Frame} {meth : Method} {c : Code} {H : Heap} {locs : List Loc} {cells slots : Nat} {Q : State → Prop}
variable {mc ms : Nat} {free : Addr → Prop} {A0 A1 : Nat → Prop} {H0 : Heap} {a : Array Value} {ls : Array Slot} {st0 rest : List Value}
variable {Qc : Array Value → State → Outcome → State → Prop} {XC : String → State → State → Prop}
/-- what a body that may throw owes at its end -/
def vx_MQ (below : List Frame) (Qc : Array Value → State → Outcome → State → Prop) (XC : String → State → State → Prop) (a : Array Value) (s : State) (mc ms : Nat) (free : Addr → Prop) : State → Prop := fun t =>
  ∃ o, t.status = .running ∧ Ended t below o ∧ vx_Q Qc XC mc ms free a s o t
theorem vx_ret {g : JFrame} {mc ms : Nat} (k : W p l e R s m args below meth c H locs cells slots (MQ below Qc args s mc ms free) g) : W p l e R s m args below meth c H locs cells slots (vx_MQ below Qc XC args s mc ms free) g := by
  intro T hT X
  obtain ⟨t, a1, o, b1, b2, b3, b4⟩ := k T hT X
  exact ⟨t, a1, o, b1, b2, Or.inl ⟨b3, b4⟩⟩
/-- not caught here: it goes on to the caller -/
theorem vx_widen {g : JFrame} {q : Addr} {k n : Nat} (h1 : cells ≤ k) (h2 : slots ≤ n) (kk : vx_W p l e R s m args below meth c H locs k n Q g q) : vx_W p l e R s m args below meth c H locs cells slots Q g q := fun T hT X => kk T hT (stand_widen X h1 h2)
theorem vx_out {pc : Nat} {E : String} {ce : Cell} {q : Addr} {mc ms : Nat} (hout : ∀ x ∈ c.exceptionTable.toList, covers x pc = false) (hlocks : meth.locks = false) (hcell : H[q]? = some ce) (hv : ce.vm = .none) (hcl : s.vm.findClass E = some ce.cls)
    (hx : ∀ t : State, t.heap = H → s.vm.Alike t.vm → XC E s t) (hf : ∀ z ∈ locs, free z.base) (hc : cells ≤ mc) (hs : slots ≤ ms) :
    vx_W p l e R s m args below meth c H locs cells slots (vx_MQ below Qc XC args s mc ms free) (F0 m pc ls rest) q := by
  intro T hT X
  obtain ⟨st1, hrun, hend, hW, hsm⟩ := X.leaveThrown q (g := F0 m pc ls rest) rfl rfl rfl hout hlocks
  have hcell9 : (T.setFrames (.throwing q :: below)).heap[q]? = some ce := by
    show T.heap[q]? = some ce
    rw [hT]; exact hcell
  exact ⟨_, st1, .threw q, hrun, hend, Or.inr ⟨q, rfl, E, ce, locs, hx _ hT hW.alike, hcell9, hv, hcl, hW, hsm.mono hc hs, hf⟩⟩
theorem vx_frame {U : State} {k n : Nat} (h : s.sameButNew ({ U with vm := s.vm } : State) locs k n) : s.heap.size ≤ U.heap.size ∧ ∀ q : Nat, q < s.heap.size → (∀ z ∈ locs, z.base ≠ q) → U.heap[q]? = s.heap[q]? := by
  obtain ⟨-, h2, -, -, -, h6⟩ := h
  refine ⟨h2, fun q hq hz => ?_⟩
  obtain ⟨c9, e1, e2, e3, e4⟩ := h6 q _ (Array.getElem?_eq_getElem hq)
  have hs : c9.slots = (s.heap[q]).slots := Array.ext_getElem? fun i => e4 i fun hm => hz _ hm rfl
  have h9 : c9 = s.heap[q] := by
    rw [hs] at e2
    exact e2
  have e5 : U.heap[q]? = some c9 := e1
  rw [e5, h9, Array.getElem?_eq_getElem hq]
/-- the words of a throw but the four that speak of the heap -/
def vx_no (w : Cond) : Bool := decide (w ≠ .isRef (.static Bundle.tN "UNASSIGNED_STACK" Bundle.steD)) && decide (w ≠ .isRef (.static Bundle.tN "SUPPRESSED_SENTINEL" Bundle.listD)) && decide (w ≠ .laysStatic Bundle.tN "UNASSIGNED_STACK" Bundle.steD) && decide (w ≠ .laysStatic Bundle.tN "SUPPRESSED_SENTINEL" Bundle.listD)
def vx_at0 (own : String) (ic : Nat) (X : String) (names : List String) : List Cond := (Bundle.ownAtoms0 own ic X names).filter vx_no
def vx_atS (own : String) (ic : Nat) (X : String) (names : List String) : List Cond := (Bundle.ownAtoms own ic X names).filter vx_no
/-- a word that the tables alone decide, or a good one -/
def vx_ot (w : Cond) : Bool := w.onTables || goodWord w
theorem vx_ot_at {args a' : Array Value} {s U : State} {w : Cond} (hW : s.WarmedH U.vm) (hvm : s.vm = U.vm) (hg : vx_ot w = true) (h : w.before args s = true) : w.before a' U = true := by
  simp only [vx_ot, Bool.or_eq_true] at hg
  rcases hg with hg | hg
  · exact va_tabs hg hvm h
  · exact word_at hW (good_of_word hg) h
/-- a list's words: the good ones out of the method's own list, the others by premises of their own -/
theorem vx_hat {args : Array Value} {s : State} {L B : List Cond} (h1 : ∀ w ∈ L.filter goodWord, w.before args s = true) (h2 : ∀ w ∈ L.filter (fun w => !goodWord w), w ∈ B) (h3 : ∀ w ∈ B, w.before args s = true) : ∀ w ∈ L, w.before args s = true := by
  intro w hw
  by_cases g : goodWord w = true
  · exact h1 w (List.mem_filter.mpr ⟨hw, g⟩)
  · refine h3 w (h2 w (List.mem_filter.mpr ⟨hw, ?_⟩))
    show (!goodWord w) = true
    cases hgw : goodWord w
    · rfl
    · exact absurd hgw g
theorem vx_c {args : Array Value} {s : State} {w : Cond} {B : List Cond} (h : w.before args s = true) (t : ∀ w ∈ B, w.before args s = true) : ∀ w' ∈ w :: B, w'.before args s = true := fun w' h' => (List.mem_cons.mp h').elim (fun e => by rw [e]; exact h) (t w')
theorem vx_n {args : Array Value} {s : State} : ∀ w ∈ ([] : List Cond), w.before args s = true := fun _ h => nomatch h
theorem vx_own {args : Array Value} {s : State} {L : List Cond} (h1 : ∀ w ∈ L.filter vx_no, w.before args s = true)
    (hU : (Cond.isRef (.static Bundle.tN "UNASSIGNED_STACK" Bundle.steD)).before args s = true) (hN : (Cond.isRef (.static Bundle.tN "SUPPRESSED_SENTINEL" Bundle.listD)).before args s = true)
    (lU : (Cond.laysStatic Bundle.tN "UNASSIGNED_STACK" Bundle.steD).before args s = true) (lN : (Cond.laysStatic Bundle.tN "SUPPRESSED_SENTINEL" Bundle.listD).before args s = true) : ∀ w ∈ L, w.before args s = true := by
  intro w hw
  by_cases e1 : w = .isRef (.static Bundle.tN "UNASSIGNED_STACK" Bundle.steD)
  · rw [e1]; exact hU
  · by_cases e2 : w = .isRef (.static Bundle.tN "SUPPRESSED_SENTINEL" Bundle.listD)
    · rw [e2]; exact hN
    · by_cases e3 : w = .laysStatic Bundle.tN "UNASSIGNED_STACK" Bundle.steD
      · rw [e3]; exact lU
      · by_cases e4 : w = .laysStatic Bundle.tN "SUPPRESSED_SENTINEL" Bundle.listD
        · rw [e4]; exact lN
        · exact h1 w (List.mem_filter.mpr ⟨hw, by unfold vx_no; rw [decide_eq_true e1, decide_eq_true e2, decide_eq_true e3, decide_eq_true e4]; rfl⟩)
/-- where a static field lies, its class's statics cell in H -/
def vx_L (C n d : String) (A : Nat → Prop) (U : State) (H : Heap) : Prop := ∃ (c : ClassId) (k : Class) (i : Nat) (f : Field) (a : Nat) (cell : Cell), U.vm.findClass C = some c ∧ U.fieldFound? C n d = some (c, k, i, f) ∧ f.isStatic = true ∧ k.statics = some a ∧ H[a]? = some cell ∧ cell.vm.isStatics = true ∧ cell.cls = c ∧ f.slot < cell.slots.size ∧ k.staticTypes[f.slot]? = some f.type ∧ ¬ A a
theorem vx_L.moved {C n d : String} {A : Nat → Prop} {u U : State} {H : Heap} (hvm : u.vm.Alike U.vm) (h : vx_L C n d A u H) : vx_L C n d A U H := by
  obtain ⟨c, k, i, f, a, cell, h1, h2, h3, h4, h5, h6, h7, h8, h9, h10⟩ := h
  obtain ⟨k', hi', he⟩ := State.fieldFound?_setVm hvm h2
  exact ⟨c, k', i, f, a, cell, by rw [hvm.findClass]; exact h1, hi', h3, by rw [he]; exact h4, h5, h6, h7, h8, by rw [he]; exact h9, h10⟩
theorem vx_L.kept {C n d : String} {A : Nat → Prop} {U : State} {H H1 : Heap} (h : vx_L C n d A U H) (hq : ∀ a : Nat, a < H.size → ¬ A a → H1[a]? = H[a]?) : vx_L C n d A U H1 := by
  obtain ⟨c, k, i, f, a, cell, h1, h2, h3, h4, h5, h6, h7, h8, h9, h10⟩ := h
  exact ⟨c, k, i, f, a, cell, h1, h2, h3, h4, by rw [hq a (Array.getElem?_eq_some_iff.mp h5).1 h10]; exact h5, h6, h7, h8, h9, h10⟩
theorem vx_L.narrow {C n d : String} {A B : Nat → Prop} {U : State} {H : Heap} (h : vx_L C n d A U H) (hAB : ∀ q, B q → A q) : vx_L C n d B U H := by
  obtain ⟨c, k, i, f, a, cell, h1, h2, h3, h4, h5, h6, h7, h8, h9, h10⟩ := h
  exact ⟨c, k, i, f, a, cell, h1, h2, h3, h4, h5, h6, h7, h8, h9, fun z => h10 (hAB _ z)⟩
theorem vx_L.word {C n d : String} {A : Nat → Prop} {s : State} {args : Array Value} (h : vx_L C n d A s s.heap) : (Cond.laysStatic C n d).before args s = true := by
  obtain ⟨c, k, i, f, a, cell, h1, h2, h3, h4, h5, h6, h7, h8, h9, -⟩ := h
  show (Cond.laysStatic C n d).holds args s none s [] = true
  exact Cond.laysStatic_of h1 h2 h3 h4 h5 h6 h7 h8 h9
/-- .. and what it holds: null or some reference -/
def vx_Zq (C n d : String) (A : Nat → Prop) (U : State) (H : Heap) : Prop := va_Zq C n d A U H ∧ vx_L C n d A U H
theorem vx_Zq.moved {C n d : String} {A : Nat → Prop} {u U : State} {H : Heap} (hvm : u.vm.Alike U.vm) (h : vx_Zq C n d A u H) : vx_Zq C n d A U H := ⟨va_Zq.moved hvm h.1, vx_L.moved hvm h.2⟩
theorem vx_Zq.kept {C n d : String} {A : Nat → Prop} {U : State} {H H1 : Heap} (h : vx_Zq C n d A U H) (hq : ∀ a : Nat, a < H.size → ¬ A a → H1[a]? = H[a]?) : vx_Zq C n d A U H1 := ⟨va_Zq.kept h.1 hq, vx_L.kept h.2 hq⟩
theorem vx_Zq.narrow {C n d : String} {A B : Nat → Prop} {U : State} {H : Heap} (h : vx_Zq C n d A U H) (hAB : ∀ q, B q → A q) : vx_Zq C n d B U H := ⟨va_Zq.narrow h.1 hAB, vx_L.narrow h.2 hAB⟩
theorem vx_Zqof {args : Array Value} {s : State} {C n d : String} {A : Nat → Prop} (hl : (Cond.laysStatic C n d).before args s = true) (hini : (Cond.initialized C).before args s = true) (h : (Cond.isRef (.static C n d)).before args s = true) (hA : ∀ a : Nat, a < s.heap.size → ¬ A a) : vx_Zq C n d A s s.heap := by
  refine ⟨va_Zqof hl hini h hA, ?_⟩
  obtain ⟨c, k, i, f, a, cell, h1, h2, h3, h4, h5, h6, h7, h8, h9⟩ := Cond.laysStatic_spec hl
  exact ⟨c, k, i, f, a, cell, h1, h2, h3, h4, h5, h6, h7, h8, h9, hA a (Array.getElem?_eq_some_iff.mp h5).1⟩
theorem vx_isRef {C n d : String} {v : Value} {A : Nat → Prop} {s : State} {args : Array Value} (h : va_Z C n d v A s s.heap) (hv : v.isRef = true) : (Cond.isRef (.static C n d)).before args s = true := by
  obtain ⟨cf, kf, fi, f, a, cell, h1, h2, h3, h4, h5, h6, h7, -⟩ := h
  have he : (Term.static C n d).eval args s none [] s = some v := by
    simp [Term.eval, State.fieldNamed?, h1, h2, h4, h5, h6, h7]
  simp only [Cond.before, Cond.holds, Cond.value, he]
  cases v <;> simp_all [Value.isRef]
theorem vx_isRefq {C n d : String} {A : Nat → Prop} {s : State} {args : Array Value} (h : va_Zq C n d A s s.heap) : (Cond.isRef (.static C n d)).before args s = true := by
  rcases h with h | ⟨t, h⟩
  · exact vx_isRef h rfl
  · exact vx_isRef h rfl
/-- the same frame, seen from here: as if the method were called anew in this heap -/
theorem vx_rebase {T : State} (X : Stand p l e R s m args below meth c T locs cells slots) {R' : Room} (hf : R'.frames ≤ R.frames) (hl : R'.locals ≤ R.locals) (hc : cells + R'.cells ≤ R.cells) (hs : slots + R'.slots ≤ R.slots) :
    Stand p l e R' ((T.setVm s.vm).setFrames (.invoking m args :: below)) m args below meth c T [] 0 0 := by
  have htop : (T.setVm s.vm).topJava?.isSome := X.here.top
  have hF : ((T.setVm s.vm).setFrames (.invoking m args :: below)).frames = .invoking m args :: below := State.frames_setFrames _ (State.cur_lt_of_top htop)
  obtain ⟨g₀, hg0⟩ := Option.isSome_iff_exists.mp htop
  obtain ⟨r, hr⟩ := State.topJava?_eq_some.mp hg0
  have hl9 : e.platform.stackLimits (T.setVm s.vm).me = e.platform.stackLimits s.me := X.limits
  have hb9 : (T.setVm s.vm).me.stackBytes = s.me.stackBytes := X.bytes
  refine ⟨X.admits, X.cas, X.clock, hF, ?_, X.hears, X.method, X.code, X.here, X.tail, X.warmed, ?_, ?_, ?_⟩
  · have h := X.room
    have hU : ((T.setVm s.vm).setFrames (.invoking m args :: below)).localsInUse = s.localsInUse := by
      rw [State.localsInUse_invoking hF (meth := meth) (c := c) X.method X.code, State.localsInUse_invoking X.frames X.method X.code]
    simp only [State.hasRoom, Bool.and_eq_true, decide_eq_true_eq] at h ⊢
    obtain ⟨⟨⟨⟨h1, h2, h3, h4, h5, h6⟩, h7⟩, h8⟩, h9⟩ := h
    rw [X.frames, List.length_cons] at h2 h3
    have q1 := X.heapSize
    have q2 := X.used
    simp only [hF, hU, List.length_cons, State.stackLimits_setFrames, State.stackBytes_setFrames, hl9, hb9]
    refine ⟨⟨⟨⟨by omega, by omega, by omega, by omega, by omega, h6⟩, ?_⟩, ?_⟩, X.book⟩
    · show T.heap.size + R'.cells ≤ e.platform.maxCells
      omega
    · show T.slotsUsed + R'.slots ≤ e.platform.maxSlots
      omega
  · rw [State.stackLimits_setFrames]; rfl
  · rw [State.stackBytes_setFrames]; rfl
  · refine ⟨?_, Nat.le_refl _, Nat.le_refl _, ?_, ?_, fun a c9 h9 => ⟨c9, h9, rfl, rfl, fun _ _ => rfl⟩⟩
    · obtain ⟨t, ht, -⟩ := State.frames_cons hr
      show T.setVm s.vm = { ((T.setVm s.vm).setFrames (.invoking m args :: below)).setFrames (T.setVm s.vm).frames with heap := T.heap, slotsUsed := T.slotsUsed }
      rw [State.setFrames_setFrames, State.setFrames_self ht]
      rfl
    · show T.slotsUsed = T.slotsUsed + ((T.heap.toList.drop T.heap.size).map (·.slots.size)).sum
      rw [List.drop_eq_nil_of_le (Nat.le_of_eq Array.length_toList)]
      rfl
    · show ((T.heap.toList.drop T.heap.size).map (·.slots.size)).sum ≤ 0
      rw [List.drop_eq_nil_of_le (Nat.le_of_eq Array.length_toList)]
      exact Nat.le_refl _
/-- 'throw new E()': new; dup; invokespecial; athrow -/
theorem vx_throw0 {cc : ByteArray} {pc : Nat} (hexec : p.tables.exec = Jvm.exec) (hb : c.code = cc) (hl : l.stackTraces = false) {own cls : String} {names : List String} {ik ic mc ms : Nat} {A : Nat → Prop}
    (hown : s.vm.findClass own = some m.cls) (hcls : Bundle.fit cls = true) (hnames : ∀ n ∈ names, Bundle.fit n = true)
    (hk : (Cond.classLink own ik cls).before args s = true) (hini : (Cond.initialized cls).before args s = true) (hat : ∀ w ∈ vx_at0 own ic cls names, w.before args s = true)
    (hgood : ∀ w ∈ Cond.classLink own ik cls :: Cond.initialized cls :: vx_at0 own ic cls names, vx_ot w = true)
    (hU : vx_Zq Bundle.tN "UNASSIGNED_STACK" Bundle.steD A s s.heap) (hN : vx_Zq Bundle.tN "SUPPRESSED_SENTINEL" Bundle.listD A s s.heap) (hS : va_S A s.heap H locs) (hsize : ls.size = c.maxLocals)
    (d0 : decode cc pc = .ok (.new ik, 3)) (d3 : decode cc (pc + 3) = .ok (.dup, 1)) (d4 : decode cc (pc + 4) = .ok (.invokespecial ic, 3)) (d7 : decode cc (pc + 7) = .ok (.athrow, 1))
    (hout : ∀ x ∈ c.exceptionTable.toList, covers x (pc + 7) = false)
    (hRframes : names.length + 3 < R.frames) (hRlocals : (rest.map fun v => v.category).sum + (13 * (names.length + 1) + 42) ≤ R.locals) (hRcells : cells + 1 ≤ R.cells) (hRslots : slots + 6 ≤ R.slots) (hlocks : meth.locks = false)
    (hx : ∀ t : State, s.vm.Alike t.vm → H.size ≤ t.heap.size → (∀ q : Nat, q < H.size → t.heap[q]? = H[q]?) → XC cls s t)
    (hf : ∀ z ∈ locs, free z.base) (hc : cells + 1 ≤ mc) (hs : slots + 6 ≤ ms) :
    W p l e R s m args below meth c H locs cells slots (vx_MQ below Qc XC args s mc ms free) (F0 m pc ls rest) := by
  intro T hT X
  have htr : e.platform.stackTraces = false := (show e.platform.stackTraces = l.stackTraces by rw [X.admits.platform]).trans hl
  have Y := vx_rebase X (R' := { frames := R.frames, locals := R.locals, cells := 1, slots := 6 }) (Nat.le_refl _) (Nat.le_refl _) hRcells hRslots
  obtain ⟨s', hA⟩ : ∃ z, z = (T.setVm s.vm).setFrames (.invoking m args :: below) := ⟨_, rfl⟩
  rw [← hA] at Y
  have hvm : s'.vm = s.vm := by rw [hA]; rfl
  have hhp : s'.heap = H := by rw [hA]; exact hT
  have hW0 : s.WarmedH s'.vm := by rw [hvm]; exact State.WarmedH.refl s
  have hat' : ∀ w ∈ vx_at0 own ic cls names, w.before args s' = true := fun w hw => vx_ot_at hW0 hvm.symm (hgood w (List.mem_cons_of_mem _ (List.mem_cons_of_mem _ hw))) (hat w hw)
  have hk' : (Cond.classLink own ik cls).before args s' = true := vx_ot_at hW0 hvm.symm (hgood _ List.mem_cons_self) hk
  have hini' : (Cond.initialized cls).before args s' = true := vx_ot_at hW0 hvm.symm (hgood _ (List.mem_cons_of_mem _ List.mem_cons_self)) hini
  have hU' : vx_Zq Bundle.tN "UNASSIGNED_STACK" Bundle.steD A s' s'.heap := by rw [hhp]; exact vx_Zq.moved hW0.alike (hU.kept hS.2.1)
  have hN' : vx_Zq Bundle.tN "SUPPRESSED_SENTINEL" Bundle.listD A s' s'.heap := by rw [hhp]; exact vx_Zq.moved hW0.alike (hN.kept hS.2.1)
  have h : ∀ w ∈ Bundle.ownAtoms0 own ic cls names, w.before args s' = true := vx_own hat' (vx_isRefq hU'.1) (vx_isRefq hN'.1) hU'.2.word hN'.2.word
  have hown' : s'.vm.findClass own = some m.cls := by rw [hvm]; exact hown
  have hins : (Cond.instantiable cls 6).before args s' = true := h _ (by simp [Bundle.ownAtoms0])
  obtain ⟨vm₁, cX, kX, hfX, hkX, -, -, X₁, st1⟩ := Y.newCold hexec (own := own) (C := cls) (index := ik) (n := 6) hown' hk' hins hini'
    (g := F0 m pc ls rest) rfl (by rw [hb]; exact d0) (Nat.le_refl _) (Nat.le_refl _)
  generalize hT1 : (T.setVm vm₁).pushCell { cls := cX, slots := kX.instanceTypes.map defaultValue, vm := .none } = T1 at X₁ st1
  have hcat : (Value.ref T.heap.size).category = 1 := rfl
  have hcellA : T1.heap[T.heap.size]? = some (freshCell cX kX) := by rw [← hT1]; exact State.heap_pushCell_size _ _
  have d3' : decode c.code (pc + 3) = .ok (.dup, 1) := by rw [hb]; exact d3
  obtain ⟨U, hsteps, hrun, hend, hW, hsame, ce, hce, hO⟩ := X₁.ctorThrow0 hexec htr (own := own) (cls := cls) (names := names) (ic := ic) hown' hcls hnames h (fun x hx => nomatch hx) hfX hkX hcellA (by rw [hhp, hT]; exact Nat.le_refl _)
    (g := { method := m, pc := pc + 4, locals := ls, stack := .ref T.heap.size :: .ref T.heap.size :: rest, locked := none }) rfl hsize rfl rfl (rest := rest) rfl
    (by rw [hb]; exact d4) (by rw [hb]; exact d7) hout hRframes (by simp only [List.map_cons, List.sum_cons, hcat]; omega) hlocks
  obtain ⟨f1, f2⟩ := vx_frame hsame
  rw [hhp] at f1 f2
  have hWs : s.WarmedH U.vm := State.WarmedH.trans hW0 hW
  have hcl : s.vm.findClass cls = some ce.cls := by
    have h9 := hO.cls
    rw [hvm] at h9
    exact h9
  have hall : s.sameButNew ({ U with vm := s.vm } : State) locs mc ms := by
    subst hA
    obtain ⟨e1, e2⟩ := hsame
    rw [State.setFrames_setFrames] at e1
    have h2 : (T.setVm s.vm).sameButNew ({ U with vm := s.vm } : State) [] (0 + 1) (0 + 6) := ⟨e1, e2⟩
    have h3 := X.same.trans h2
    rw [List.append_nil] at h3
    exact h3.mono hc hs
  refine ⟨U, ?_, .threw T.heap.size, hrun, hend, Or.inr ⟨T.heap.size, rfl, cls, ce, locs, hx U hWs.alike f1 (fun q hq => f2 q hq (fun z hz => nomatch hz)), hce, hO.vm, hcl, hWs, hall, hf⟩⟩
  refine st1 _ ?_
  show Steps p.tables e below (T1.setTop { method := m, pc := pc + 3, locals := ls, stack := .ref T.heap.size :: rest, locked := none }) _
  jvm_step X₁.here [X₁.here.top, hexec, d3', Value.category]
  exact hsteps
/-- 'throw new E("text")': new; dup; ldc; invokespecial; athrow -/
theorem vx_throwS {cc : ByteArray} {pc : Nat} (hexec : p.tables.exec = Jvm.exec) (hb : c.code = cc) (hl : l.stackTraces = false) {own cls text : String} {names : List String} {ik is ic mc ms sa : Nat} {A : Nat → Prop}
    (hown : s.vm.findClass own = some m.cls) (hcls : Bundle.fit cls = true) (hnames : ∀ n ∈ names, Bundle.fit n = true)
    (hk : (Cond.classLink own ik cls).before args s = true) (hini : (Cond.initialized cls).before args s = true) (hstr : vk_R own is text sa s) (hat : ∀ w ∈ vx_atS own ic cls names, w.before args s = true)
    (hgood : ∀ w ∈ Cond.classLink own ik cls :: Cond.initialized cls :: vx_atS own ic cls names, vx_ot w = true)
    (hU : vx_Zq Bundle.tN "UNASSIGNED_STACK" Bundle.steD A s s.heap) (hN : vx_Zq Bundle.tN "SUPPRESSED_SENTINEL" Bundle.listD A s s.heap) (hS : va_S A s.heap H locs) (hsize : ls.size = c.maxLocals)
    (d0 : decode cc pc = .ok (.new ik, 3)) (d3 : decode cc (pc + 3) = .ok (.dup, 1)) (d4 : decode cc (pc + 4) = .ok (.ldc is, 2)) (d6 : decode cc (pc + 6) = .ok (.invokespecial ic, 3)) (d9 : decode cc (pc + 9) = .ok (.athrow, 1))
    (hout : ∀ x ∈ c.exceptionTable.toList, covers x (pc + 9) = false)
    (hRframes : names.length + 3 < R.frames) (hRlocals : (rest.map fun v => v.category).sum + (13 * (names.length + 1) + 43) ≤ R.locals) (hRcells : cells + 1 ≤ R.cells) (hRslots : slots + 6 ≤ R.slots) (hlocks : meth.locks = false)
    (hx : ∀ t : State, s.vm.Alike t.vm → H.size ≤ t.heap.size → (∀ q : Nat, q < H.size → t.heap[q]? = H[q]?) → XC cls s t)
    (hf : ∀ z ∈ locs, free z.base) (hc : cells + 1 ≤ mc) (hs : slots + 6 ≤ ms) :
    W p l e R s m args below meth c H locs cells slots (vx_MQ below Qc XC args s mc ms free) (F0 m pc ls rest) := by
  intro T hT X
  have htr : e.platform.stackTraces = false := (show e.platform.stackTraces = l.stackTraces by rw [X.admits.platform]).trans hl
  have Y := vx_rebase X (R' := { frames := R.frames, locals := R.locals, cells := 1, slots := 6 }) (Nat.le_refl _) (Nat.le_refl _) hRcells hRslots
  obtain ⟨s', hA⟩ : ∃ z, z = (T.setVm s.vm).setFrames (.invoking m args :: below) := ⟨_, rfl⟩
  rw [← hA] at Y
  have hvm : s'.vm = s.vm := by rw [hA]; rfl
  have hhp : s'.heap = H := by rw [hA]; exact hT
  have hW0 : s.WarmedH s'.vm := by rw [hvm]; exact State.WarmedH.refl s
  have hat' : ∀ w ∈ vx_atS own ic cls names, w.before args s' = true := fun w hw => vx_ot_at hW0 hvm.symm (hgood w (List.mem_cons_of_mem _ (List.mem_cons_of_mem _ hw))) (hat w hw)
  have hk' : (Cond.classLink own ik cls).before args s' = true := vx_ot_at hW0 hvm.symm (hgood _ List.mem_cons_self) hk
  have hini' : (Cond.initialized cls).before args s' = true := vx_ot_at hW0 hvm.symm (hgood _ (List.mem_cons_of_mem _ List.mem_cons_self)) hini
  have hU' : vx_Zq Bundle.tN "UNASSIGNED_STACK" Bundle.steD A s' s'.heap := by rw [hhp]; exact vx_Zq.moved hW0.alike (hU.kept hS.2.1)
  have hN' : vx_Zq Bundle.tN "SUPPRESSED_SENTINEL" Bundle.listD A s' s'.heap := by rw [hhp]; exact vx_Zq.moved hW0.alike (hN.kept hS.2.1)
  have h : ∀ w ∈ Bundle.ownAtoms own ic cls names, w.before args s' = true := vx_own hat' (vx_isRefq hU'.1) (vx_isRefq hN'.1) hU'.2.word hN'.2.word
  have hown' : s'.vm.findClass own = some m.cls := by rw [hvm]; exact hown
  have hins : (Cond.instantiable cls 6).before args s' = true := h _ (by simp [Bundle.ownAtoms])
  obtain ⟨vm₁, cX, kX, hfX, hkX, -, -, X₁, st1⟩ := Y.newCold hexec (own := own) (C := cls) (index := ik) (n := 6) hown' hk' hins hini'
    (g := F0 m pc ls rest) rfl (by rw [hb]; exact d0) (Nat.le_refl _) (Nat.le_refl _)
  generalize hT1 : (T.setVm vm₁).pushCell { cls := cX, slots := kX.instanceTypes.map defaultValue, vm := .none } = T1 at X₁ st1
  have hcat : (Value.ref T.heap.size).category = 1 := rfl
  have hcellA : T1.heap[T.heap.size]? = some (freshCell cX kX) := by rw [← hT1]; exact State.heap_pushCell_size _ _
  have d3' : decode c.code (pc + 3) = .ok (.dup, 1) := by rw [hb]; exact d3
  have d4' : decode c.code (pc + 4) = .ok (.ldc is, 2) := by rw [hb]; exact d4
  have hstr' : vk_R own is text sa s' := vk_R.warm hW0 hstr
  obtain ⟨U, hsteps, hrun, hend, hW, hsame, ce, hce, hO⟩ := X₁.ctorThrowS hexec htr (own := own) (cls := cls) (names := names) (ic := ic) hown' hcls hnames h (fun x hx => nomatch hx) hfX hkX hcellA (by rw [hhp, hT]; exact Nat.le_refl _) (msg := .ref sa) rfl
    (g := { method := m, pc := pc + 6, locals := ls, stack := .ref sa :: .ref T.heap.size :: .ref T.heap.size :: rest, locked := none }) rfl hsize rfl rfl (rest := rest) rfl
    (by rw [hb]; exact d6) (by rw [hb]; exact d9) hout hRframes (by simp only [List.map_cons, List.sum_cons, hcat]; omega) hlocks
  obtain ⟨f1, f2⟩ := vx_frame hsame
  rw [hhp] at f1 f2
  have hWs : s.WarmedH U.vm := State.WarmedH.trans hW0 hW
  have hcl : s.vm.findClass cls = some ce.cls := by
    have h9 := hO.cls
    rw [hvm] at h9
    exact h9
  have hall : s.sameButNew ({ U with vm := s.vm } : State) locs mc ms := by
    subst hA
    obtain ⟨e1, e2⟩ := hsame
    rw [State.setFrames_setFrames] at e1
    have h2 : (T.setVm s.vm).sameButNew ({ U with vm := s.vm } : State) [] (0 + 1) (0 + 6) := ⟨e1, e2⟩
    have h3 := X.same.trans h2
    rw [List.append_nil] at h3
    exact h3.mono hc hs
  refine ⟨U, ?_, .threw T.heap.size, hrun, hend, Or.inr ⟨T.heap.size, rfl, cls, ce, locs, hx U hWs.alike f1 (fun q hq => f2 q hq (fun z hz => nomatch hz)), hce, hO.vm, hcl, hWs, hall, hf⟩⟩
  refine st1 _ ?_
  show Steps p.tables e below (T1.setTop { method := m, pc := pc + 3, locals := ls, stack := .ref T.heap.size :: rest, locked := none }) _
  jvm_step X₁.here [X₁.here.top, hexec, d3', Value.category]
  exact X₁.ldcString hexec (own := own) (text := text) (index := is) (a := sa) hown' hstr'.1 hstr'.2
    (g := { method := m, pc := pc + 4, locals := ls, stack := .ref T.heap.size :: .ref T.heap.size :: rest, locked := none }) rfl d4' _ hsteps
/-- 'throw new E("text")', the text by a wide index -/
theorem vx_throwSW {cc : ByteArray} {pc : Nat} (hexec : p.tables.exec = Jvm.exec) (hb : c.code = cc) (hl : l.stackTraces = false) {own cls text : String} {names : List String} {ik is ic mc ms sa : Nat} {A : Nat → Prop}
    (hown : s.vm.findClass own = some m.cls) (hcls : Bundle.fit cls = true) (hnames : ∀ n ∈ names, Bundle.fit n = true)
    (hk : (Cond.classLink own ik cls).before args s = true) (hini : (Cond.initialized cls).before args s = true) (hstr : vk_R own is text sa s) (hat : ∀ w ∈ vx_atS own ic cls names, w.before args s = true)
    (hgood : ∀ w ∈ Cond.classLink own ik cls :: Cond.initialized cls :: vx_atS own ic cls names, vx_ot w = true)
    (hU : vx_Zq Bundle.tN "UNASSIGNED_STACK" Bundle.steD A s s.heap) (hN : vx_Zq Bundle.tN "SUPPRESSED_SENTINEL" Bundle.listD A s s.heap) (hS : va_S A s.heap H locs) (hsize : ls.size = c.maxLocals)
    (d0 : decode cc pc = .ok (.new ik, 3)) (d3 : decode cc (pc + 3) = .ok (.dup, 1)) (d4 : decode cc (pc + 4) = .ok (.ldc_w is, 3)) (d7 : decode cc (pc + 7) = .ok (.invokespecial ic, 3)) (d10 : decode cc (pc + 10) = .ok (.athrow, 1))
    (hout : ∀ x ∈ c.exceptionTable.toList, covers x (pc + 10) = false)
    (hRframes : names.length + 3 < R.frames) (hRlocals : (rest.map fun v => v.category).sum + (13 * (names.length + 1) + 43) ≤ R.locals) (hRcells : cells + 1 ≤ R.cells) (hRslots : slots + 6 ≤ R.slots) (hlocks : meth.locks = false)
    (hx : ∀ t : State, s.vm.Alike t.vm → H.size ≤ t.heap.size → (∀ q : Nat, q < H.size → t.heap[q]? = H[q]?) → XC cls s t)
    (hf : ∀ z ∈ locs, free z.base) (hc : cells + 1 ≤ mc) (hs : slots + 6 ≤ ms) :
    W p l e R s m args below meth c H locs cells slots (vx_MQ below Qc XC args s mc ms free) (F0 m pc ls rest) := by
  intro T hT X
  have htr : e.platform.stackTraces = false := (show e.platform.stackTraces = l.stackTraces by rw [X.admits.platform]).trans hl
  have Y := vx_rebase X (R' := { frames := R.frames, locals := R.locals, cells := 1, slots := 6 }) (Nat.le_refl _) (Nat.le_refl _) hRcells hRslots
  obtain ⟨s', hA⟩ : ∃ z, z = (T.setVm s.vm).setFrames (.invoking m args :: below) := ⟨_, rfl⟩
  rw [← hA] at Y
  have hvm : s'.vm = s.vm := by rw [hA]; rfl
  have hhp : s'.heap = H := by rw [hA]; exact hT
  have hW0 : s.WarmedH s'.vm := by rw [hvm]; exact State.WarmedH.refl s
  have hat' : ∀ w ∈ vx_atS own ic cls names, w.before args s' = true := fun w hw => vx_ot_at hW0 hvm.symm (hgood w (List.mem_cons_of_mem _ (List.mem_cons_of_mem _ hw))) (hat w hw)
  have hk' : (Cond.classLink own ik cls).before args s' = true := vx_ot_at hW0 hvm.symm (hgood _ List.mem_cons_self) hk
  have hini' : (Cond.initialized cls).before args s' = true := vx_ot_at hW0 hvm.symm (hgood _ (List.mem_cons_of_mem _ List.mem_cons_self)) hini
  have hU' : vx_Zq Bundle.tN "UNASSIGNED_STACK" Bundle.steD A s' s'.heap := by rw [hhp]; exact vx_Zq.moved hW0.alike (hU.kept hS.2.1)
  have hN' : vx_Zq Bundle.tN "SUPPRESSED_SENTINEL" Bundle.listD A s' s'.heap := by rw [hhp]; exact vx_Zq.moved hW0.alike (hN.kept hS.2.1)
  have h : ∀ w ∈ Bundle.ownAtoms own ic cls names, w.before args s' = true := vx_own hat' (vx_isRefq hU'.1) (vx_isRefq hN'.1) hU'.2.word hN'.2.word
  have hown' : s'.vm.findClass own = some m.cls := by rw [hvm]; exact hown
  have hins : (Cond.instantiable cls 6).before args s' = true := h _ (by simp [Bundle.ownAtoms])
  obtain ⟨vm₁, cX, kX, hfX, hkX, -, -, X₁, st1⟩ := Y.newCold hexec (own := own) (C := cls) (index := ik) (n := 6) hown' hk' hins hini'
    (g := F0 m pc ls rest) rfl (by rw [hb]; exact d0) (Nat.le_refl _) (Nat.le_refl _)
  generalize hT1 : (T.setVm vm₁).pushCell { cls := cX, slots := kX.instanceTypes.map defaultValue, vm := .none } = T1 at X₁ st1
  have hcat : (Value.ref T.heap.size).category = 1 := rfl
  have hcellA : T1.heap[T.heap.size]? = some (freshCell cX kX) := by rw [← hT1]; exact State.heap_pushCell_size _ _
  have d3' : decode c.code (pc + 3) = .ok (.dup, 1) := by rw [hb]; exact d3
  have d4' : decode c.code (pc + 4) = .ok (.ldc_w is, 3) := by rw [hb]; exact d4
  have hstr' : vk_R own is text sa s' := vk_R.warm hW0 hstr
  obtain ⟨U, hsteps, hrun, hend, hW, hsame, ce, hce, hO⟩ := X₁.ctorThrowS hexec htr (own := own) (cls := cls) (names := names) (ic := ic) hown' hcls hnames h (fun x hx => nomatch hx) hfX hkX hcellA (by rw [hhp, hT]; exact Nat.le_refl _) (msg := .ref sa) rfl
    (g := { method := m, pc := pc + 7, locals := ls, stack := .ref sa :: .ref T.heap.size :: .ref T.heap.size :: rest, locked := none }) rfl hsize rfl rfl (rest := rest) rfl
    (by rw [hb]; exact d7) (by rw [hb]; exact d10) hout hRframes (by simp only [List.map_cons, List.sum_cons, hcat]; omega) hlocks
  obtain ⟨f1, f2⟩ := vx_frame hsame
  rw [hhp] at f1 f2
  have hWs : s.WarmedH U.vm := State.WarmedH.trans hW0 hW
  have hcl : s.vm.findClass cls = some ce.cls := by
    have h9 := hO.cls
    rw [hvm] at h9
    exact h9
  have hall : s.sameButNew ({ U with vm := s.vm } : State) locs mc ms := by
    subst hA
    obtain ⟨e1, e2⟩ := hsame
    rw [State.setFrames_setFrames] at e1
    have h2 : (T.setVm s.vm).sameButNew ({ U with vm := s.vm } : State) [] (0 + 1) (0 + 6) := ⟨e1, e2⟩
    have h3 := X.same.trans h2
    rw [List.append_nil] at h3
    exact h3.mono hc hs
  refine ⟨U, ?_, .threw T.heap.size, hrun, hend, Or.inr ⟨T.heap.size, rfl, cls, ce, locs, hx U hWs.alike f1 (fun q hq => f2 q hq (fun z hz => nomatch hz)), hce, hO.vm, hcl, hWs, hall, hf⟩⟩
  refine st1 _ ?_
  show Steps p.tables e below (T1.setTop { method := m, pc := pc + 3, locals := ls, stack := .ref T.heap.size :: rest, locked := none }) _
  jvm_step X₁.here [X₁.here.top, hexec, d3', Value.category]
  exact X₁.ldcStringW hexec (own := own) (text := text) (index := is) (a := sa) hown' hstr'.1 hstr'.2
    (g := { method := m, pc := pc + 4, locals := ls, stack := .ref T.heap.size :: .ref T.heap.size :: rest, locked := none }) rfl d4' _ hsteps
end Ends
section Bodies
variable {l : Launch}
theorem vx_ofW {y : MethodName} {ws ws' : List Cond} {rm : Room} {Pc : Array Value → State → Prop} {Qc : Array Value → State → Outcome → State → Prop} {XC : String → State → State → Prop} {mc ms : Nat} {free : Addr → Prop} {cc : ByteArray} {maxL : Nat} {ret : Option FieldType}
    (hy : plainName y.cls = true) (hw : ws = Cond.code y cc maxL ret :: ws')
    (body : ∀ p e s m args below meth c s₁, BodyLoose p l y (headSpec ws rm) cc maxL ret e s m args below meth c s₁ → c.maxLocals = maxL → (∀ x ∈ c.exceptionTable.toList, False) → Pc args s →
      W p l e (headSpec ws rm).room s m args below meth c s.heap [] 0 0 (vx_MQ below Qc XC args s mc ms free) (entryFrame m args maxL)) : vx_Met l y ws rm Pc Qc XC mc ms free := by
  refine MetFree.of_bodyS (code := cc) (maxLocals := maxL) (ret := ret) hy ?_ ?_
  · intro args s m h hn
    obtain ⟨meth, c, h1, h2, h3, h4, h5, h6, -, -⟩ := Cond.code_spec hn (atoms_spec (ws := ws) h _ (by rw [hw]; exact List.mem_cons_self))
    exact ⟨meth, c, h1, h2, h3, h4, h5, h6⟩
  · intro p e s m args below meth c s₁ B hml hP _
    have hh0 : s₁.heap = s.heap := by rw [B.state]; rfl
    have ht : ∀ x ∈ c.exceptionTable.toList, False := by
      obtain ⟨meth9, c9, h1, h2, -, -, -, -, h7, -⟩ := Cond.code_spec B.named (atoms_spec (ws := ws) B.pre _ (by rw [hw]; exact List.mem_cons_self))
      cases Option.some.inj (h1.symm.trans B.method)
      cases Option.some.inj (h2.symm.trans (Stand.of_body B).code)
      intro x hx
      rw [Array.isEmpty_iff.mp h7] at hx
      cases hx
    obtain ⟨t, a1, o, b1, b2, b3⟩ := body p e s m args below meth c s₁ B hml ht hP s₁ hh0 (Stand.of_body B)
    exact ⟨t, o, a1, b1, b2, b3⟩
/-- the table of a body with handlers -/
theorem vx_table {p : Program} {x y : MethodName} {S : Spec} {cc bytes : ByteArray} {maxL maxL' : Nat} {ret ret' : Option FieldType} {e : Env} {s s₁ : State} {m : MethodId} {args : Array Value} {below : List Frame} {meth : Method} {c : Code} {hh : List (Nat × Nat × Nat × Nat)}
    (B : BodyLoose p l y S cc maxL ret e s m args below meth c s₁) (h : (Cond.codeWith y bytes maxL' ret' hh).before args s = true) : c.exceptionTable.toList = tableOf hh := by
  obtain ⟨m9, meth9, c9, hn9, h1, h2, -, -, h6, -⟩ := Cond.codeWith_spec h
  cases Option.some.inj (hn9.symm.trans B.named)
  cases Option.some.inj (h1.symm.trans B.method)
  cases Option.some.inj (h2.symm.trans (Stand.of_body B).code)
  rw [← h6, table_eq]
end Bodies
end VXA
/-! ===== END ===== -/
/-! ===== BEGIN a static call of a method with an exception table ===== -/
section VXS
variable {p : Program} {l : Launch} {e : Env} {R : Room} {s : State} {m : MethodId} {args : Array Value} {below : List Frame} {meth : Method} {c : Code} {T : State} {H : Heap} {locs : List Loc} {cells slots : Nat}
abbrev vx_CSW (R : Room) (s : State) (args : Array Value) (own : String) (index : Nat) (y : MethodName) (bytes : ByteArray) (maxL : Nat) (ret : Option FieldType) (hh : List (Nat × Nat × Nat × Nat)) (ws : List Cond) (rm : Room) (mc ms n : Nat) : Prop :=
  (rm.cells = mc ∧ rm.slots = ms ∧ rm.frames + 1 ≤ R.frames ∧ 8 + (maxL + 11) + rm.locals ≤ R.locals ∧ (∀ w ∈ ws, ∀ (a' : Array Value) (U : State), s.WarmedH U.vm → w.before a' U = true) ∧ Cond.codeWith y bytes maxL ret hh ∈ ws) ∧
  (Cond.codeWith y bytes maxL ret hh).before args s = true ∧ (Cond.initialized y.cls).before args s = true ∧ (y.cls ≠ "java/lang/invoke/MethodHandle" ∧ y.cls ≠ "java/lang/invoke/VarHandle") ∧
  (∀ sig, parseMethodDescriptor y.desc = some sig → n = sig.parameters.length) ∧ (Cond.methodLink own index y).before args s = true ∧ (Cond.static y).before args s = true
theorem vx_cwSW {own : String} {index maxL mc ms : Nat} {y : MethodName} {bytes : ByteArray} {ret : Option FieldType} {hh : List (Nat × Nat × Nat × Nat)} {Ts ws ws' : List Cond} {rm : Room} (n : Nat) (ht : ∀ w ∈ Ts, w.before args s = true) (hT : GoodIn Ts (va_wsS own index y ws)) (hw : ws = Cond.codeWith y bytes maxL ret hh :: ws') (hrc : rm.cells = mc) (hrs : rm.slots = ms)
    (hd : y.cls ≠ "java/lang/invoke/MethodHandle" ∧ y.cls ≠ "java/lang/invoke/VarHandle" ∧ (parseMethodDescriptor y.desc).map (fun d => d.parameters.length) = some n) (hR : rm.frames + 1 ≤ R.frames ∧ 8 + (maxL + 11) + rm.locals ≤ R.locals) :
    vx_CSW R s args own index y bytes maxL ret hh ws rm mc ms n := by
  have ok : ∀ w ∈ va_wsS own index y ws, w.before args s = true := fun w h => ht w (hT w h).1
  have hG : GoodIn Ts ws := fun w h => hT w (by unfold va_wsS; exact List.mem_append_right _ h)
  have hc : Cond.codeWith y bytes maxL ret hh ∈ ws := by rw [hw]; exact List.mem_cons_self
  refine ⟨⟨hrc, hrs, hR.1, hR.2, pay_in ht hG, hc⟩, ht _ (hG _ hc).1, ok _ (by simp [va_wsS]), ⟨hd.1, hd.2.1⟩, fun sig h => ?_, ok _ (by simp [va_wsS]), ok _ (by simp [va_wsS])⟩
  have h2 := hd.2.2
  rw [h] at h2
  exact (Option.some.inj h2).symm
theorem vx_callSW (X : Stand p l e R s m args below meth c T locs cells slots) (hexec : p.tables.exec = Jvm.exec) {own : String} {index : Nat} {y : MethodName} {bytes : ByteArray} {maxL : Nat} {ret : Option FieldType} {hh : List (Nat × Nat × Nat × Nat)}
    (hown : s.vm.findClass own = some m.cls) (hlink : (Cond.methodLink own index y).before args s = true) (hstat : (Cond.static y).before args s = true) (hinit : (Cond.initialized y.cls).before args s = true)
    (hcode : (Cond.codeWith y bytes maxL ret hh).before args s = true) (hy : y.cls ≠ "java/lang/invoke/MethodHandle" ∧ y.cls ≠ "java/lang/invoke/VarHandle")
    {W9 : Nat} {Pre : Pt → Array Value → Prop} {Post : Pt → Array Value → Option Value → Pt → Prop} (hK : Back l R p e below s args y 3 W9 Pre Post)
    {g : JFrame} (hg : g.method = m) (hsize : g.locals.size = c.maxLocals) {argsL rest : List Value} (hlen : ∀ sig, parseMethodDescriptor y.desc = some sig → argsL.length = sig.parameters.length)
    (hstack : g.stack = argsL.reverse ++ rest) (hW : 2 * g.monitorRoom + (rest.map fun v => v.category).sum ≤ W9) (hdg : decode c.code g.pc = .ok (.invokestatic index, 3))
    (hpre : ∀ vm₁, s.WarmedH vm₁ → Pre ⟨T.setVm vm₁, locs, cells, slots⟩ argsL.toArray) :
    ∃ (v : Option Value) (vm₁ : Vm) (B : Pt), s.WarmedH vm₁ ∧ Stand p l e R s m args below meth c B.U B.locs B.cells B.slots ∧ Post ⟨T.setVm vm₁, locs, cells, slots⟩ argsL.toArray v B ∧
      ∀ target, Steps p.tables e below (B.U.setTop { g with pc := g.pc + 3, stack := v.toList ++ rest }) target → Steps p.tables e below (T.setTop g) target := by
  obtain ⟨mk, methM, cM, hnamed, hmethM, -, -, -, -, -, -, hsigM⟩ := Cond.codeWith_spec hcode
  have hstatic : methM.isStatic = true := Cond.static_spec hnamed hmethM hstat
  obtain ⟨kP, hkP, -⟩ := className_of_methodNamed hnamed
  have hinitP : kP.init = .initialized := Cond.initialized_spec (findClass_of_methodNamed hnamed) hkP hinit
  obtain ⟨vm₁, X₁, hstep₁⟩ := X.invokestatic hexec hown hlink hnamed hmethM hstatic hkP hinitP hy (g := g) hg (argsL := argsL) (rest := rest) (hlen _ hsigM) hstack hdg
  obtain ⟨v, B, X', hpost, hsteps⟩ := hK m meth c ⟨T.setVm vm₁, locs, cells, slots⟩ { g with stack := rest } (.invokestatic index) mk argsL.toArray X₁ hg hsize hdg hW (X₁.named hnamed) (hpre vm₁ X₁.warmed)
  exact ⟨v, vm₁, B, X₁.warmed, X', hpost, fun target h => hstep₁ _ fun acts => by rw [doInvoke_state]; exact hsteps.trans h⟩
theorem vx_runSW {y : MethodName} {bytes cc : ByteArray} {maxL nL mc ms n index : Nat} {ret : Option FieldType} {hh : List (Nat × Nat × Nat × Nat)} {ws : List Cond} {rm : Room} {Pc : Array Value → State → Prop} {Qc : Array Value → State → Outcome → State → Prop} {free : Addr → Prop} {Ts : List Cond} {own : String} {As rest : List Value} {g : JFrame}
    (S : CallFix p m c cc nL s args Ts own) (hM : Met l y ws rm Pc Qc mc ms free) (cw : vx_CSW R s args own index y bytes maxL ret hh ws rm mc ms n) (hp : PreS s H Pc As)
    (hg : g.method = m) (hn : As.length = n) (hsize : g.locals.size = nL) (hstack : g.stack = As.reverse ++ rest) (hW : 2 * g.monitorRoom + (rest.map fun v => v.category).sum ≤ 8) (hdg : decode cc g.pc = .ok (.invokestatic index, 3)) (hf : cells + mc ≤ R.cells ∧ slots + ms ≤ R.slots) :
    va_Run p l e R s m args below meth c H locs cells slots mc ms g rest (Qc As.toArray) (free) := by
  obtain ⟨⟨hrc, hrs, hfr, hlo, hws, hcw⟩, hcode, hini, hy, hlen, hl, hstt⟩ := cw
  have hK : Back l R p e below s args y 3 8 (PreOf R mc ms Pc) (PostOf Qc mc ms free) := va_backW (hh := hh) (bytes := bytes) (maxL := maxL) (ret := ret) hM hp.1 hrc hrs hfr hlo hws hcw (fun a' U hW => word_at hW (Or.inl (by first | rfl | simp [Cond.onTables, Cond.keeps, Cond.steady])) hini)
  obtain ⟨hx, hb, hml, ho, -⟩ := S
  intro T hT X
  obtain ⟨v, vm₁, ⟨U', l2, c2, s2⟩, hW₁, X', ⟨g', mk, t, L, e1, e2, hq, h1, hL, h2, h3⟩, st⟩ := vx_callSW X hx (hh := hh) (bytes := bytes) (maxL := maxL) (ret := ret) ho hl hstt hini hcode hy hK hg (hsize.trans hml.symm) (argsL := As) (rest := rest) (fun sig h => hn.trans (hlen sig h)) hstack hW (by rw [hb]; exact hdg)
    (fun vm₁ hW₁ => ⟨hf.1, hf.2, hp.2 (T.setVm vm₁) hT hW₁⟩)
  dsimp only [Pt.U, Pt.locs, Pt.cells, Pt.slots] at X' e1 e2 h1 h2 h3 st
  subst h1; subst h2; subst h3
  exact ⟨v, (T.setVm vm₁).calling g' mk As.toArray, t, U', L, hT, X', hL, e1, e2, hq, st⟩
/-- not caught here, past rows that name other classes: it goes on to the caller -/
theorem vx_outP {p : Program} {l : Launch} {e : Env} {R : Room} {s : State} {m : MethodId} {args : Array Value} {below : List Frame} {meth : Method} {c : Code} {H : Heap} {locs : List Loc} {cells slots : Nat} {free : Addr → Prop} {ls : Array Slot} {rest : List Value} {Qc : Array Value → State → Outcome → State → Prop} {XC : String → State → State → Prop}
    {pc : Nat} {own E : String} {ce : Cell} {q : Addr} {mc ms : Nat} (hown : s.vm.findClass own = some m.cls) (hlocks : meth.locks = false)
    (hpass : ∀ z ∈ c.exceptionTable.toList, covers z pc = false ∨ (z.catchType ≠ 0 ∧ ∃ nm : String, (Cond.classLink own z.catchType nm).before args s = true ∧ va_Nc E nm s)) (hcell : H[q]? = some ce) (hv : ce.vm = .none) (hcl : s.vm.findClass E = some ce.cls)
    (hx : ∀ t : State, t.heap = H → s.vm.Alike t.vm → XC E s t) (hf : ∀ z ∈ locs, free z.base) (hc : cells ≤ mc) (hs : slots ≤ ms) :
    vx_W p l e R s m args below meth c H locs cells slots (vx_MQ below Qc XC args s mc ms free) (F0 m pc ls rest) q := by
  intro T hT X
  have hpl : e.platform.magicAccessors = ({} : Platform).magicAccessors := by rw [X.admits.platform]
  obtain ⟨vm', hW', X', st⟩ := X.outThrough hlocks q (g := F0 m pc ls rest) rfl rfl rfl (cell := ce) (by rw [hT]; exact hcell) (by rw [hv]; rfl)
    (by obtain ⟨k9, h9, -⟩ := Vm.findClass_spec hcl; exact ⟨k9, h9⟩) (fun z hz => by
      rcases hpass z hz with h | ⟨hz0, nm, hl1, hn1⟩
      · exact Or.inl h
      · obtain ⟨c6, hc6, hcl6⟩ := Cond.classLink_spec hown hl1 e.platform hpl
        obtain ⟨a8, b8, h1, h2, h3⟩ := hn1
        cases Option.some.inj (h1.symm.trans hcl)
        cases Option.some.inj (h2.symm.trans hc6)
        exact Or.inr ⟨hz0, _, hcl6, h3⟩)
  obtain ⟨g₀, hfr⟩ := X'.frames_eq
  have hcell9 : ((T.setVm vm').setFrames (.throwing q :: below)).heap[q]? = some ce := by
    show T.heap[q]? = some ce
    rw [hT]; exact hcell
  have hend : Ended ((T.setVm vm').setFrames (.throwing q :: below)) below (.threw q) := State.frames_setFrames _ (State.cur_lt_of_frames hfr)
  refine ⟨(T.setVm vm').setFrames (.throwing q :: below), ?_, .threw q, X'.here.running, hend, Or.inr ⟨q, rfl, E, ce, locs, hx _ hT (X'.ends _).1.alike, hcell9, hv, hcl, (X'.ends _).1, (X'.ends _).2.mono hc hs, hf⟩⟩
  rw [X.pushThrowing_eq]
  exact st
/-- a thing of a world lies in the heap -/
theorem vx_lt {D : va_G} {cl : List vw_C} {ws : va_W} {H1 : Heap} (h : va_P D cl ws H1) {k : Nat} {q : Nat × va_E} (hk : ws[k]? = some q) : q.1 < H1.size := (h k q hk).lt
end VXS
/-! ===== END ===== -/
/-! ===== BEGIN methods with a table of their own: called by a name, returning or throwing ===== -/
section VXH
/-! vx_backW, vx_callVX, vx_callSX, vx_callVW, vx_runVW, vx_runVX, vx_runSX, vx_ofWH follow the same proofs as their sisters above (Free/Laws.lean, Shelf42/LK1.lean); vx_outP calls Shelf42/NT130.lean (outThrough). -/
section
variable {l : Launch} {R : Room} {p : Program} {e : Env} {below : List Frame} {s : State} {sargs : Array Value} {y : MethodName} {len W9 : Nat}
theorem vx_backW {ws : List Cond} {rm : Room} {Pc : Array Value → State → Prop} {Qc : Array Value → State → Outcome → State → Prop} {XC : String → State → State → Prop} {mc ms : Nat} {free : Addr → Prop} {bytes : ByteArray} {maxL : Nat} {ret : Option FieldType} {hh : List (Nat × Nat × Nat × Nat)}
    (hM : vx_Met l y ws rm Pc Qc XC mc ms free) (hblind : FrameBlind Pc) (hrc : rm.cells = mc) (hrs : rm.slots = ms)
    (hframes : rm.frames + 1 ≤ R.frames) (hlocals : W9 + (maxL + 11) + rm.locals ≤ R.locals)
    (hws : ∀ w ∈ ws, ∀ a' U, s.WarmedH U.vm → w.before a' U = true) (hcode : Cond.codeWith y bytes maxL ret hh ∈ ws) (hinit : ∀ a' U, s.WarmedH U.vm → (Cond.initialized y.cls).before a' U = true) :
    vx_Back l R p e below s sargs y len W9 (PreOf R mc ms Pc) (PostOf Qc mc ms free) (vx_Post XC mc ms free) := by
  intro m meth c A g ig mk a X hg hsize hdg hW hn hp
  have h1 : (headSpec ws rm).pre.before a A.U = true := atoms_intro fun w hw => hws w hw _ _ X.warmed
  have h2 : (Cond.codeWith y bytes maxL ret hh).before a A.U = true := hws _ hcode _ _ X.warmed
  have h3 : (Cond.initialized y.cls).before a A.U = true := hinit _ _ X.warmed
  have h4 : A.cells + (headSpec ws rm).room.cells ≤ R.cells := by rw [show (headSpec ws rm).room.cells = mc from hrc]; exact hp.1
  have h5 : A.slots + (headSpec ws rm).room.slots ≤ R.slots := by rw [show (headSpec ws rm).room.slots = ms from hrs]; exact hp.2.1
  have hPc : Pc a (A.U.calling g mk a) := hblind _ _ _ _ hp.2.2
  obtain ⟨U, Ls, c0, s0⟩ := A
  dsimp only [Pt.U, Pt.locs, Pt.cells, Pt.slots] at h1 h2 h3 h4 h5 X hn hPc ⊢
  obtain ⟨m9, methY, cY, hn9, hmY, hcY, -, hlY, -⟩ := Cond.codeWith_spec h2
  cases Option.some.inj (hn9.symm.trans hn)
  obtain ⟨kY, hkY, -⟩ := className_of_methodNamed hn
  have hinitY : kY.init = .initialized := Cond.initialized_spec (findClass_of_methodNamed hn) hkY h3
  have h : At U g.method c below := by rw [hg]; exact X.here
  have hlocals9 : W9 + (maxL + 11) + (headSpec ws rm).room.locals ≤ R.locals := hlocals
  have happ : (headSpec ws rm).appliesLoose y e.platform (U.calling g mk a) = true :=
    Spec.appliesLoose_calling (g := g) h hdg hn hkY hinitY
      (X.room_calling (g := g) (R' := (headSpec ws rm).room) hsize hmY hcY hframes (by rw [hlY]; omega) h4 h5) h1
  obtain ⟨mid, hmid⟩ := h.above
  have hfr : (U.setTop g).frames = (.java g :: mid) ++ below := by rw [State.frames_setTop' g h.top, hmid]; rfl
  obtain ⟨o, s₂, hsteps, -, hend, hq⟩ := Steps.callFree hM p X.admits X.cas X.clock (acts := []) hfr happ hPc trivial
  have hq' : vx_Q Qc XC mc ms free a (U.calling g mk a) o s₂ := hq
  rw [State.frames_setTop' g h.top] at hend
  obtain ⟨g₀, hg0⟩ := Option.isSome_iff_exists.mp h.top
  obtain ⟨r, hr⟩ := State.topJava?_eq_some.mp hg0
  have hr' : (({ U with heap := s₂.heap, slotsUsed := s₂.slotsUsed } : State).setVm s₂.vm).frames = .java g₀ :: r := hr
  rcases hq' with ⟨hqc, L, hfe, hL⟩ | ⟨q, rfl, E, ce, L, hx, hce, hcv, hcl, hW₂, hsm, hL⟩
  · obtain ⟨⟨v, rfl⟩, hW₂, e2, q2, q3, q4, q5, q6⟩ := id hfe
    have e3 : s₂ = ({ (U.calling g mk a).setFrames s₂.frames with heap := s₂.heap, slotsUsed := s₂.slotsUsed } : State).setVm s₂.vm := by
      have : s₂ = ({ s₂ with vm := (U.calling g mk a).vm } : State).setVm s₂.vm := rfl
      rw [e2] at this
      exact this
    obtain ⟨c₂, i₂, len₂, hc₂, hd₂, hf₂⟩ := hend
    have hW' : U.WarmedH s₂.vm := hW₂
    have hcc : c₂ = c := by
      have h1 : s₂.code? g.method = U.code? g.method := by
        rw [State.code?_eq, State.code?_eq, hW'.alike.method?]
      exact Option.some.inj (hc₂.symm.trans (h1.trans h.code))
    subst hcc
    have hlen : len₂ = len := by rw [hdg] at hd₂; cases hd₂; rfl
    subst hlen
    have hs₂ : s₂ = (({ U with heap := s₂.heap, slotsUsed := s₂.slotsUsed } : State).setVm s₂.vm).setTop { g with pc := g.pc + len₂, stack := v.toList ++ g.stack } := by
      refine e3.trans ?_
      rw [hf₂, State.calling_eq h.top, State.setFrames_setFrames, State.setTop_of_frames _ hr', hr]
      rfl
    have hsame : U.sameButNew ({ U with heap := s₂.heap, slotsUsed := s₂.slotsUsed } : State) L mc ms := by
      refine ⟨?_, q2, q3, q4, q5, q6⟩
      obtain ⟨t, ht, -⟩ := State.frames_cons hr
      show ({ U with heap := s₂.heap, slotsUsed := s₂.slotsUsed } : State) = { U.setFrames U.frames with heap := s₂.heap, slotsUsed := s₂.slotsUsed }
      rw [State.setFrames_self ht]
    subst hg
    refine Or.inl ⟨v, ⟨(({ U with heap := s₂.heap, slotsUsed := s₂.slotsUsed } : State).setVm s₂.vm), Ls ++ L, c0 + mc, s0 + ms⟩,
      ⟨X.admits, X.cas, X.clock, X.frames, X.room, X.hears, X.method, X.code, (X.here.setHeapUsed s₂.heap s₂.slotsUsed).setVm hW'.alike, X.tail, State.WarmedH.trans X.warmed hW', X.limits, X.bytes, X.same.trans (hsame.setVm s.vm)⟩,
      ⟨g, mk, s₂, L, rfl, rfl, hqc, rfl, hL, rfl, rfl⟩, ?_⟩
    show Steps p.tables e below _ ((({ U with heap := s₂.heap, slotsUsed := s₂.slotsUsed } : State).setVm s₂.vm).setTop { g with pc := g.pc + len₂, stack := v.toList ++ g.stack })
    rw [← hs₂]
    exact hsteps
  · obtain ⟨e2, q2, q3, q4, q5, q6⟩ := id hsm
    have e3 : s₂ = ({ (U.calling g mk a).setFrames s₂.frames with heap := s₂.heap, slotsUsed := s₂.slotsUsed } : State).setVm s₂.vm := by
      have : s₂ = ({ s₂ with vm := (U.calling g mk a).vm } : State).setVm s₂.vm := rfl
      rw [e2] at this
      exact this
    have hf₂ : s₂.frames = .throwing q :: .java g :: U.frames.tail := hend
    have hW' : U.WarmedH s₂.vm := hW₂
    have hs₂ : s₂ = ((({ U with heap := s₂.heap, slotsUsed := s₂.slotsUsed } : State).setVm s₂.vm).setTop g).pushFrame (.throwing q) := by
      refine e3.trans ?_
      rw [hf₂, State.calling_eq h.top, State.setFrames_setFrames, State.pushFrame, State.frames_setTop _ hr', State.setTop_of_frames _ hr', State.setFrames_setFrames, hr]
      rfl
    have hsame : U.sameButNew ({ U with heap := s₂.heap, slotsUsed := s₂.slotsUsed } : State) L mc ms := by
      refine ⟨?_, q2, q3, q4, q5, q6⟩
      obtain ⟨t, ht, -⟩ := State.frames_cons hr
      show ({ U with heap := s₂.heap, slotsUsed := s₂.slotsUsed } : State) = { U.setFrames U.frames with heap := s₂.heap, slotsUsed := s₂.slotsUsed }
      rw [State.setFrames_self ht]
    subst hg
    refine Or.inr ⟨q, ⟨(({ U with heap := s₂.heap, slotsUsed := s₂.slotsUsed } : State).setVm s₂.vm), Ls ++ L, c0 + mc, s0 + ms⟩,
      ⟨X.admits, X.cas, X.clock, X.frames, X.room, X.hears, X.method, X.code, (X.here.setHeapUsed s₂.heap s₂.slotsUsed).setVm hW'.alike, X.tail, State.WarmedH.trans X.warmed hW', X.limits, X.bytes, X.same.trans (hsame.setVm s.vm)⟩,
      ⟨g, mk, s₂, L, E, ce, rfl, rfl, hx, hce, hcv, hcl, rfl, hL, rfl, rfl⟩, ?_⟩
    show Steps p.tables e below _ (((({ U with heap := s₂.heap, slotsUsed := s₂.slotsUsed } : State).setVm s₂.vm).setTop g).pushFrame (.throwing q))
    rw [← hs₂]
    exact hsteps
end
variable {p : Program} {l : Launch} {e : Env} {R : Room} {s : State} {m : MethodId} {args : Array Value} {below : List Frame} {meth : Method} {c : Code} {T : State} {H : Heap} {locs : List Loc} {cells slots : Nat}
theorem vx_callVX (X : Stand p l e R s m args below meth c T locs cells slots) (hexec : p.tables.exec = Jvm.exec) {own C : String} {index : Nat} {y : MethodName} {bytes : ByteArray} {maxL : Nat} {ret : Option FieldType} {hh : List (Nat × Nat × Nat × Nat)}
    (hown : s.vm.findClass own = some m.cls) (hlink : (Cond.methodLink own index y).before args s = true) (hinst : (Cond.instanceMethod y).before args s = true) (hsel : (Cond.selects C y y).before args s = true)
    (hcode : (Cond.codeWith y bytes maxL ret hh).before args s = true) (hy : y.cls ≠ "java/lang/invoke/MethodHandle" ∧ y.cls ≠ "java/lang/invoke/VarHandle")
    {W9 : Nat} {Pre : Pt → Array Value → Prop} {Post : Pt → Array Value → Option Value → Pt → Prop} {PostX : Pt → Array Value → Addr → Pt → Prop} (hK : vx_Back l R p e below s args y 3 W9 Pre Post PostX)
    {b : Addr} {cellB : Cell} (hcell : T.heap[b]? = some cellB) (hobj : cellB.vm.isStatics = false) (hcls : s.vm.findClass C = some cellB.cls)
    {g : JFrame} (hg : g.method = m) (hsize : g.locals.size = c.maxLocals) {argsL rest : List Value} (hlen : ∀ sig, parseMethodDescriptor y.desc = some sig → argsL.length = sig.parameters.length)
    (hstack : g.stack = argsL.reverse ++ .ref b :: rest) (hW : 2 * g.monitorRoom + (rest.map fun v => v.category).sum ≤ W9) (hdg : decode c.code g.pc = .ok (.invokevirtual index, 3))
    (hpre : ∀ vm₁, s.WarmedH vm₁ → Pre ⟨T.setVm vm₁, locs, cells, slots⟩ (Value.ref b :: argsL).toArray) :
    (∃ (v : Option Value) (vm₁ : Vm) (B : Pt), s.WarmedH vm₁ ∧ Stand p l e R s m args below meth c B.U B.locs B.cells B.slots ∧ Post ⟨T.setVm vm₁, locs, cells, slots⟩ (Value.ref b :: argsL).toArray v B ∧
      ∀ target, Steps p.tables e below (B.U.setTop { g with pc := g.pc + 3, stack := v.toList ++ rest }) target → Steps p.tables e below (T.setTop g) target) ∨
    (∃ (q : Addr) (vm₁ : Vm) (B : Pt), s.WarmedH vm₁ ∧ Stand p l e R s m args below meth c B.U B.locs B.cells B.slots ∧ PostX ⟨T.setVm vm₁, locs, cells, slots⟩ (Value.ref b :: argsL).toArray q B ∧
      Steps p.tables e below (T.setTop g) ((B.U.setTop { g with stack := rest }).pushFrame (.throwing q))) := by
  obtain ⟨mk, methM, hnamed, hmethM, hstM, habM⟩ := Cond.instanceMethod_spec hinst
  obtain ⟨m8, methM', cM, hn8, hmethM', -, -, -, -, -, -, hsigM⟩ := Cond.codeWith_spec hcode
  cases Option.some.inj (hn8.symm.trans hnamed)
  cases hmethM.symm.trans hmethM'
  obtain ⟨c2, r2, m2, q1, q2, q3, q4, kP, hkP, hkPi⟩ := Cond.selects_spec hsel
  cases hcls.symm.trans q1
  cases (State.methodFound?_of_named hnamed hy).symm.trans q2
  cases hnamed.symm.trans q3
  have hselP : selectMethod e.platform s.vm cellB.cls mk = .method mk := by rw [Launch.admits_selectMethod X.admits]; exact q4
  obtain ⟨vm₁, X₁, hstep₁⟩ := X.invokevirtual hexec hown hlink hnamed hmethM hstM hkP hkPi hy (a := b) (cell := cellB) hcell
    (fun z h => by rw [h] at hobj; cases hobj) hselP hmethM habM hkP hkPi (g := g) hg (argsL := argsL) (rest := rest) (hlen _ hsigM) hstack hdg
  rcases hK m meth c ⟨T.setVm vm₁, locs, cells, slots⟩ { g with stack := rest } (.invokevirtual index) mk (Value.ref b :: argsL).toArray X₁ hg hsize hdg hW (X₁.named hnamed) (hpre vm₁ X₁.warmed) with ⟨v, B, X', hpost, hsteps⟩ | ⟨q, B, X', hpost, hsteps⟩
  · exact Or.inl ⟨v, vm₁, B, X₁.warmed, X', hpost, fun target h => hstep₁ _ fun acts => by rw [doInvoke_state]; exact hsteps.trans h⟩
  · exact Or.inr ⟨q, vm₁, B, X₁.warmed, X', hpost, hstep₁ _ fun acts => by rw [doInvoke_state]; exact hsteps⟩
theorem vx_callSX (X : Stand p l e R s m args below meth c T locs cells slots) (hexec : p.tables.exec = Jvm.exec) {own : String} {index : Nat} {y : MethodName} {bytes : ByteArray} {maxL : Nat} {ret : Option FieldType} {hh : List (Nat × Nat × Nat × Nat)}
    (hown : s.vm.findClass own = some m.cls) (hlink : (Cond.methodLink own index y).before args s = true) (hstat : (Cond.static y).before args s = true) (hinit : (Cond.initialized y.cls).before args s = true)
    (hcode : (Cond.codeWith y bytes maxL ret hh).before args s = true) (hy : y.cls ≠ "java/lang/invoke/MethodHandle" ∧ y.cls ≠ "java/lang/invoke/VarHandle")
    {W9 : Nat} {Pre : Pt → Array Value → Prop} {Post : Pt → Array Value → Option Value → Pt → Prop} {PostX : Pt → Array Value → Addr → Pt → Prop} (hK : vx_Back l R p e below s args y 3 W9 Pre Post PostX)
    {g : JFrame} (hg : g.method = m) (hsize : g.locals.size = c.maxLocals) {argsL rest : List Value} (hlen : ∀ sig, parseMethodDescriptor y.desc = some sig → argsL.length = sig.parameters.length)
    (hstack : g.stack = argsL.reverse ++ rest) (hW : 2 * g.monitorRoom + (rest.map fun v => v.category).sum ≤ W9) (hdg : decode c.code g.pc = .ok (.invokestatic index, 3))
    (hpre : ∀ vm₁, s.WarmedH vm₁ → Pre ⟨T.setVm vm₁, locs, cells, slots⟩ argsL.toArray) :
    (∃ (v : Option Value) (vm₁ : Vm) (B : Pt), s.WarmedH vm₁ ∧ Stand p l e R s m args below meth c B.U B.locs B.cells B.slots ∧ Post ⟨T.setVm vm₁, locs, cells, slots⟩ argsL.toArray v B ∧
      ∀ target, Steps p.tables e below (B.U.setTop { g with pc := g.pc + 3, stack := v.toList ++ rest }) target → Steps p.tables e below (T.setTop g) target) ∨
    (∃ (q : Addr) (vm₁ : Vm) (B : Pt), s.WarmedH vm₁ ∧ Stand p l e R s m args below meth c B.U B.locs B.cells B.slots ∧ PostX ⟨T.setVm vm₁, locs, cells, slots⟩ argsL.toArray q B ∧
      Steps p.tables e below (T.setTop g) ((B.U.setTop { g with stack := rest }).pushFrame (.throwing q))) := by
  obtain ⟨mk, methM, cM, hnamed, hmethM, -, -, -, -, -, -, hsigM⟩ := Cond.codeWith_spec hcode
  have hstatic : methM.isStatic = true := Cond.static_spec hnamed hmethM hstat
  obtain ⟨kP, hkP, -⟩ := className_of_methodNamed hnamed
  have hinitP : kP.init = .initialized := Cond.initialized_spec (findClass_of_methodNamed hnamed) hkP hinit
  obtain ⟨vm₁, X₁, hstep₁⟩ := X.invokestatic hexec hown hlink hnamed hmethM hstatic hkP hinitP hy (g := g) hg (argsL := argsL) (rest := rest) (hlen _ hsigM) hstack hdg
  rcases hK m meth c ⟨T.setVm vm₁, locs, cells, slots⟩ { g with stack := rest } (.invokestatic index) mk argsL.toArray X₁ hg hsize hdg hW (X₁.named hnamed) (hpre vm₁ X₁.warmed) with ⟨v, B, X', hpost, hsteps⟩ | ⟨q, B, X', hpost, hsteps⟩
  · exact Or.inl ⟨v, vm₁, B, X₁.warmed, X', hpost, fun target h => hstep₁ _ fun acts => by rw [doInvoke_state]; exact hsteps.trans h⟩
  · exact Or.inr ⟨q, vm₁, B, X₁.warmed, X', hpost, hstep₁ _ fun acts => by rw [doInvoke_state]; exact hsteps⟩
theorem vx_callVW (X : Stand p l e R s m args below meth c T locs cells slots) (hexec : p.tables.exec = Jvm.exec) {own C : String} {index : Nat} {y : MethodName} {bytes : ByteArray} {maxL : Nat} {ret : Option FieldType} {hh : List (Nat × Nat × Nat × Nat)}
    (hown : s.vm.findClass own = some m.cls) (hlink : (Cond.methodLink own index y).before args s = true) (hinst : (Cond.instanceMethod y).before args s = true) (hsel : (Cond.selects C y y).before args s = true)
    (hcode : (Cond.codeWith y bytes maxL ret hh).before args s = true) (hy : y.cls ≠ "java/lang/invoke/MethodHandle" ∧ y.cls ≠ "java/lang/invoke/VarHandle")
    {W9 : Nat} {Pre : Pt → Array Value → Prop} {Post : Pt → Array Value → Option Value → Pt → Prop} (hK : Back l R p e below s args y 3 W9 Pre Post)
    {b : Addr} {cellB : Cell} (hcell : T.heap[b]? = some cellB) (hobj : cellB.vm.isStatics = false) (hcls : s.vm.findClass C = some cellB.cls)
    {g : JFrame} (hg : g.method = m) (hsize : g.locals.size = c.maxLocals) {argsL rest : List Value} (hlen : ∀ sig, parseMethodDescriptor y.desc = some sig → argsL.length = sig.parameters.length)
    (hstack : g.stack = argsL.reverse ++ .ref b :: rest) (hW : 2 * g.monitorRoom + (rest.map fun v => v.category).sum ≤ W9) (hdg : decode c.code g.pc = .ok (.invokevirtual index, 3))
    (hpre : ∀ vm₁, s.WarmedH vm₁ → Pre ⟨T.setVm vm₁, locs, cells, slots⟩ (Value.ref b :: argsL).toArray) :
    ∃ (v : Option Value) (vm₁ : Vm) (B : Pt), s.WarmedH vm₁ ∧ Stand p l e R s m args below meth c B.U B.locs B.cells B.slots ∧ Post ⟨T.setVm vm₁, locs, cells, slots⟩ (Value.ref b :: argsL).toArray v B ∧
      ∀ target, Steps p.tables e below (B.U.setTop { g with pc := g.pc + 3, stack := v.toList ++ rest }) target → Steps p.tables e below (T.setTop g) target := by
  obtain ⟨mk, methM, hnamed, hmethM, hstM, habM⟩ := Cond.instanceMethod_spec hinst
  obtain ⟨m8, methM', cM, hn8, hmethM', -, -, -, -, -, -, hsigM⟩ := Cond.codeWith_spec hcode
  cases Option.some.inj (hn8.symm.trans hnamed)
  cases hmethM.symm.trans hmethM'
  obtain ⟨c2, r2, m2, q1, q2, q3, q4, kP, hkP, hkPi⟩ := Cond.selects_spec hsel
  cases hcls.symm.trans q1
  cases (State.methodFound?_of_named hnamed hy).symm.trans q2
  cases hnamed.symm.trans q3
  have hselP : selectMethod e.platform s.vm cellB.cls mk = .method mk := by rw [Launch.admits_selectMethod X.admits]; exact q4
  obtain ⟨vm₁, X₁, hstep₁⟩ := X.invokevirtual hexec hown hlink hnamed hmethM hstM hkP hkPi hy (a := b) (cell := cellB) hcell
    (fun z h => by rw [h] at hobj; cases hobj) hselP hmethM habM hkP hkPi (g := g) hg (argsL := argsL) (rest := rest) (hlen _ hsigM) hstack hdg
  obtain ⟨v, B, X', hpost, hsteps⟩ := hK m meth c ⟨T.setVm vm₁, locs, cells, slots⟩ { g with stack := rest } (.invokevirtual index) mk (Value.ref b :: argsL).toArray X₁ hg hsize hdg hW (X₁.named hnamed) (hpre vm₁ X₁.warmed)
  exact ⟨v, vm₁, B, X₁.warmed, X', hpost, fun target h => hstep₁ _ fun acts => by rw [doInvoke_state]; exact hsteps.trans h⟩
abbrev vx_CVW (R : Room) (s : State) (args : Array Value) (own C : String) (index : Nat) (y : MethodName) (bytes : ByteArray) (maxL : Nat) (ret : Option FieldType) (hh : List (Nat × Nat × Nat × Nat)) (ws : List Cond) (rm : Room) (mc ms n : Nat) : Prop :=
  (rm.cells = mc ∧ rm.slots = ms ∧ rm.frames + 1 ≤ R.frames ∧ 8 + (maxL + 11) + rm.locals ≤ R.locals ∧ (∀ w ∈ ws, ∀ (a' : Array Value) (U : State), s.WarmedH U.vm → w.before a' U = true) ∧ Cond.codeWith y bytes maxL ret hh ∈ ws) ∧
  (Cond.codeWith y bytes maxL ret hh).before args s = true ∧ (Cond.initialized y.cls).before args s = true ∧ (y.cls ≠ "java/lang/invoke/MethodHandle" ∧ y.cls ≠ "java/lang/invoke/VarHandle") ∧
  (∀ sig, parseMethodDescriptor y.desc = some sig → n = sig.parameters.length) ∧ (Cond.methodLink own index y).before args s = true ∧ (Cond.instanceMethod y).before args s = true ∧ (Cond.selects C y y).before args s = true
theorem vx_cwVW {own C : String} {index maxL mc ms : Nat} {y : MethodName} {bytes : ByteArray} {ret : Option FieldType} {hh : List (Nat × Nat × Nat × Nat)} {Ts ws ws' : List Cond} {rm : Room} (n : Nat) (ht : ∀ w ∈ Ts, w.before args s = true) (hT : GoodIn Ts (wsV own index C y ws)) (hw : ws = Cond.codeWith y bytes maxL ret hh :: ws') (hrc : rm.cells = mc) (hrs : rm.slots = ms)
    (hd : y.cls = C ∧ y.cls ≠ "java/lang/invoke/MethodHandle" ∧ y.cls ≠ "java/lang/invoke/VarHandle" ∧ (parseMethodDescriptor y.desc).map (fun d => d.parameters.length) = some n) (hR : rm.frames + 1 ≤ R.frames ∧ 8 + (maxL + 11) + rm.locals ≤ R.locals) :
    vx_CVW R s args own C index y bytes maxL ret hh ws rm mc ms n := by
  obtain ⟨hC, hd⟩ := hd
  subst hC
  have ok : ∀ w ∈ wsV own index y.cls y ws, w.before args s = true := fun w h => ht w (hT w h).1
  have hG : GoodIn Ts ws := fun w h => hT w (by unfold wsV; exact List.mem_append_right _ h)
  have hc : Cond.codeWith y bytes maxL ret hh ∈ ws := by rw [hw]; exact List.mem_cons_self
  refine ⟨⟨hrc, hrs, hR.1, hR.2, pay_in ht hG, hc⟩, ht _ (hG _ hc).1, ok _ (by simp [wsV]), ⟨hd.1, hd.2.1⟩, fun sig h => ?_, ok _ (by simp [wsV]), ok _ (by simp [wsV]), ok _ (by simp [wsV])⟩
  have h2 := hd.2.2
  rw [h] at h2
  exact (Option.some.inj h2).symm
theorem vx_runVW {y : MethodName} {bytes cc : ByteArray} {maxL nL mc ms n index : Nat} {ret : Option FieldType} {hh : List (Nat × Nat × Nat × Nat)} {ws : List Cond} {rm : Room} {Pc : Array Value → State → Prop} {Qc : Array Value → State → Outcome → State → Prop} {free : Addr → Prop} {Ts : List Cond} {own C : String} {b : Addr} {As rest : List Value} {g : JFrame}
    (S : CallFix p m c cc nL s args Ts own) (hM : Met l y ws rm Pc Qc mc ms free) (cw : vx_CVW R s args own C index y bytes maxL ret hh ws rm mc ms n) (hp : PreV s H C b Pc As)
    (hg : g.method = m) (hn : As.length = n) (hsize : g.locals.size = nL) (hstack : g.stack = As.reverse ++ .ref b :: rest) (hW : 2 * g.monitorRoom + (rest.map fun v => v.category).sum ≤ 8) (hdg : decode cc g.pc = .ok (.invokevirtual index, 3)) (hf : cells + mc ≤ R.cells ∧ slots + ms ≤ R.slots) :
    va_Run p l e R s m args below meth c H locs cells slots mc ms g rest (Qc (Value.ref b :: As).toArray) free := by
  obtain ⟨⟨hrc, hrs, hfr, hlo, hws, hcw⟩, hcode, hini, hy, hlen, hl, hin, hse⟩ := cw
  have hK : Back l R p e below s args y 3 8 (PreOf R mc ms Pc) (PostOf Qc mc ms free) := va_backW (hh := hh) (bytes := bytes) (maxL := maxL) (ret := ret) hM hp.1 hrc hrs hfr hlo hws hcw (fun a' U hW => word_at hW (Or.inl (by first | rfl | simp [Cond.onTables, Cond.keeps, Cond.steady])) hini)
  obtain ⟨hx, hb, hml, ho, -⟩ := S
  obtain ⟨-, ⟨cellB, hcB, hoB, hclB⟩, hPc⟩ := hp
  intro T hT X
  obtain ⟨v, vm₁, ⟨U', l2, c2, s2⟩, hW₁, X', ⟨g', mk, t, L, e1, e2, hq, h1, hL, h2, h3⟩, st⟩ := vx_callVW X hx (C := C) (hh := hh) (bytes := bytes) (maxL := maxL) (ret := ret) ho hl hin hse hcode hy hK (by rw [hT]; exact hcB) hoB hclB hg (hsize.trans hml.symm) (argsL := As) (rest := rest) (fun sig h => hn.trans (hlen sig h)) hstack hW (by rw [hb]; exact hdg)
    (fun vm₁ hW₁ => ⟨hf.1, hf.2, hPc (T.setVm vm₁) hT hW₁⟩)
  dsimp only [Pt.U, Pt.locs, Pt.cells, Pt.slots] at X' e1 e2 h1 h2 h3 st
  subst h1; subst h2; subst h3
  exact ⟨v, (T.setVm vm₁).calling g' mk (Value.ref b :: As).toArray, t, U', L, hT, X', hL, e1, e2, hq, st⟩
section
variable {y : MethodName} {bytes cc : ByteArray} {maxL nL mc ms n index : Nat} {ret : Option FieldType} {ws : List Cond} {rm : Room} {Pc : Array Value → State → Prop} {Qc : Array Value → State → Outcome → State → Prop} {XC : String → State → State → Prop} {free : Addr → Prop} {Ts : List Cond} {own C : String} {b : Addr} {As rest : List Value} {g : JFrame}
theorem vx_runVX {hh : List (Nat × Nat × Nat × Nat)} (S : CallFix p m c cc nL s args Ts own) (hM : vx_Met l y ws rm Pc Qc XC mc ms free) (cw : vx_CVW R s args own C index y bytes maxL ret hh ws rm mc ms n) (hp : PreV s H C b Pc As)
    (hg : g.method = m) (hn : As.length = n) (hsize : g.locals.size = nL) (hstack : g.stack = As.reverse ++ .ref b :: rest) (hW : 2 * g.monitorRoom + (rest.map fun v => v.category).sum ≤ 8) (hdg : decode cc g.pc = .ok (.invokevirtual index, 3)) (hf : cells + mc ≤ R.cells ∧ slots + ms ≤ R.slots) :
    vx_Run p l e R s m args below meth c H locs cells slots mc ms g rest (Qc (Value.ref b :: As).toArray) XC free := by
  obtain ⟨⟨hrc, hrs, hfr, hlo, hws, hcw⟩, hcode, hini, hy, hlen, hl, hin, hse⟩ := cw
  have hK : vx_Back l R p e below s args y 3 8 (PreOf R mc ms Pc) (PostOf Qc mc ms free) (vx_Post XC mc ms free) := vx_backW (hh := hh) (bytes := bytes) (maxL := maxL) (ret := ret) hM hp.1 hrc hrs hfr hlo hws hcw (fun a' U hW => word_at hW (Or.inl (by first | rfl | simp [Cond.onTables, Cond.keeps, Cond.steady])) hini)
  obtain ⟨hx, hb, hml, ho, -⟩ := S
  obtain ⟨-, ⟨cellB, hcB, hoB, hclB⟩, hPc⟩ := hp
  intro T hT X
  rcases vx_callVX X hx (C := C) (hh := hh) (bytes := bytes) (maxL := maxL) (ret := ret) ho hl hin hse hcode hy hK (by rw [hT]; exact hcB) hoB hclB hg (hsize.trans hml.symm) (argsL := As) (rest := rest) (fun sig h => hn.trans (hlen sig h)) hstack hW (by rw [hb]; exact hdg)
    (fun vm₁ hW₁ => ⟨hf.1, hf.2, hPc (T.setVm vm₁) hT hW₁⟩) with ⟨v, vm₁, ⟨U', l2, c2, s2⟩, hW₁, X', ⟨g', mk, t, L, e1, e2, hq, h1, hL, h2, h3⟩, st⟩ | ⟨q, vm₁, ⟨U', l2, c2, s2⟩, hW₁, X', ⟨g', mk, t, L, E, ce, e1, e2, hq, hce, hcv, hcl, h1, hL, h2, h3⟩, st⟩
  · dsimp only [Pt.U, Pt.locs, Pt.cells, Pt.slots] at X' e1 e2 h1 h2 h3 st
    subst h1; subst h2; subst h3
    exact Or.inl ⟨v, (T.setVm vm₁).calling g' mk (Value.ref b :: As).toArray, t, U', L, hT, X', hL, e1, e2, hq, st⟩
  · dsimp only [Pt.U, Pt.locs, Pt.cells, Pt.slots] at X' e1 e2 h1 h2 h3 st hcl
    subst h1; subst h2; subst h3
    exact Or.inr ⟨q, (T.setVm vm₁).calling g' mk (Value.ref b :: As).toArray, t, U', L, E, ce, hT, X', hL, e1, e2, hq, hce, hcv, vx_cls hW₁ hcl, st⟩
theorem vx_runSX {hh : List (Nat × Nat × Nat × Nat)} (S : CallFix p m c cc nL s args Ts own) (hM : vx_Met l y ws rm Pc Qc XC mc ms free) (cw : vx_CSW R s args own index y bytes maxL ret hh ws rm mc ms n) (hp : PreS s H Pc As)
    (hg : g.method = m) (hn : As.length = n) (hsize : g.locals.size = nL) (hstack : g.stack = As.reverse ++ rest) (hW : 2 * g.monitorRoom + (rest.map fun v => v.category).sum ≤ 8) (hdg : decode cc g.pc = .ok (.invokestatic index, 3)) (hf : cells + mc ≤ R.cells ∧ slots + ms ≤ R.slots) :
    vx_Run p l e R s m args below meth c H locs cells slots mc ms g rest (Qc As.toArray) XC free := by
  obtain ⟨⟨hrc, hrs, hfr, hlo, hws, hcw⟩, hcode, hini, hy, hlen, hl, hstt⟩ := cw
  have hK : vx_Back l R p e below s args y 3 8 (PreOf R mc ms Pc) (PostOf Qc mc ms free) (vx_Post XC mc ms free) := vx_backW (hh := hh) (bytes := bytes) (maxL := maxL) (ret := ret) hM hp.1 hrc hrs hfr hlo hws hcw (fun a' U hW => word_at hW (Or.inl (by first | rfl | simp [Cond.onTables, Cond.keeps, Cond.steady])) hini)
  obtain ⟨hx, hb, hml, ho, -⟩ := S
  intro T hT X
  rcases vx_callSX X hx (hh := hh) (bytes := bytes) (maxL := maxL) (ret := ret) ho hl hstt hini hcode hy hK hg (hsize.trans hml.symm) (argsL := As) (rest := rest) (fun sig h => hn.trans (hlen sig h)) hstack hW (by rw [hb]; exact hdg)
    (fun vm₁ hW₁ => ⟨hf.1, hf.2, hp.2 (T.setVm vm₁) hT hW₁⟩) with ⟨v, vm₁, ⟨U', l2, c2, s2⟩, hW₁, X', ⟨g', mk, t, L, e1, e2, hq, h1, hL, h2, h3⟩, st⟩ | ⟨q, vm₁, ⟨U', l2, c2, s2⟩, hW₁, X', ⟨g', mk, t, L, E, ce, e1, e2, hq, hce, hcv, hcl, h1, hL, h2, h3⟩, st⟩
  · dsimp only [Pt.U, Pt.locs, Pt.cells, Pt.slots] at X' e1 e2 h1 h2 h3 st
    subst h1; subst h2; subst h3
    exact Or.inl ⟨v, (T.setVm vm₁).calling g' mk As.toArray, t, U', L, hT, X', hL, e1, e2, hq, st⟩
  · dsimp only [Pt.U, Pt.locs, Pt.cells, Pt.slots] at X' e1 e2 h1 h2 h3 st hcl
    subst h1; subst h2; subst h3
    exact Or.inr ⟨q, (T.setVm vm₁).calling g' mk As.toArray, t, U', L, E, ce, hT, X', hL, e1, e2, hq, hce, hcv, vx_cls hW₁ hcl, st⟩
end
end VXH
theorem vx_ofWH {l : Launch} {y : MethodName} {ws ws' : List Cond} {rm : Room} {Pc : Array Value → State → Prop} {Qc : Array Value → State → Outcome → State → Prop} {XC : String → State → State → Prop} {mc ms : Nat} {free : Addr → Prop} {cc : ByteArray} {maxL : Nat} {ret : Option FieldType} {hh : List (Nat × Nat × Nat × Nat)}
    (hy : plainName y.cls = true) (hw : ws = Cond.codeWith y cc maxL ret hh :: ws')
    (body : ∀ p e s m args below meth c s₁, BodyLoose p l y (headSpec ws rm) cc maxL ret e s m args below meth c s₁ → c.maxLocals = maxL → Pc args s →
      W p l e (headSpec ws rm).room s m args below meth c s.heap [] 0 0 (vx_MQ below Qc XC args s mc ms free) (entryFrame m args maxL)) : vx_Met l y ws rm Pc Qc XC mc ms free := by
  refine MetFree.of_bodyS (code := cc) (maxLocals := maxL) (ret := ret) hy ?_ ?_
  · intro args s m h hn
    obtain ⟨m9, meth, c, hn9, h1, h2, h3, h4, -, h5, h6, -⟩ := Cond.codeWith_spec (atoms_spec (ws := ws) h _ (by rw [hw]; exact List.mem_cons_self))
    cases hn.symm.trans hn9
    exact ⟨meth, c, h1, h2, h3, h4, h5, h6⟩
  · intro p e s m args below meth c s₁ B hml hP _
    have hh0 : s₁.heap = s.heap := by rw [B.state]; rfl
    obtain ⟨t, a1, o, b1, b2, b3⟩ := body p e s m args below meth c s₁ B hml hP s₁ hh0 (Stand.of_body B)
    exact ⟨t, o, a1, b1, b2, b3⟩
/-! ===== END ===== -/

/-! ===== BEGIN printed: names, fields, word lists, decode rows ===== -/
def RX0 : String := "Migrationledger$ChangeList"
def TX0 : u_T := fun k => match k with
  | 0 => ("Migrationledger$ChangeList", "kinds", "[I", true)
  | 1 => ("Migrationledger$ChangeList", "columns", "[I", true)
  | 2 => ("Migrationledger$ChangeList", "operands", "[I", true)
  | 3 => ("Migrationledger$ChangeList", "recorded", "[I", true)
  | _ => ("Migrationledger$ChangeList", "count", "I", false)
def tyX0 : Nat → FieldType := fun k => match k with
  | 0 => .array .int
  | 1 => .array .int
  | 2 => .array .int
  | 3 => .array .int
  | _ => .int
abbrev wsX00 : List Cond := u_ws RX0 TX0 5
theorem nmX0 : ∀ a, a < 5 → ∀ b, b < 5 → a ≠ b → (TX0 a).2.1 ≠ (TX0 b).2.1 := by decide +kernel
theorem tyX0_ok : ∀ k, k < 5 → parseFieldDescriptor (TX0 k).2.2.1 = some (tyX0 k) := by decide +kernel
abbrev cX0_init : ByteArray := prog_2_method_1_code
def yX0_init : MethodName := ⟨RX0, "<init>", "()V"⟩
abbrev cX0_count : ByteArray := prog_2_method_2_code
def yX0_count : MethodName := ⟨RX0, "count", "()I"⟩
abbrev cX0_isFull : ByteArray := prog_2_method_3_code
def yX0_isFull : MethodName := ⟨RX0, "isFull", "()Z"⟩
abbrev cX0_contains : ByteArray := prog_2_method_4_code
def yX0_contains : MethodName := ⟨RX0, "contains", "(I)Z"⟩
abbrev cX0_append : ByteArray := prog_2_method_5_code
def yX0_append : MethodName := ⟨RX0, "append", "(III)I"⟩
abbrev cX0_put : ByteArray := prog_2_method_6_code
def yX0_put : MethodName := ⟨RX0, "put", "(IIII)V"⟩
abbrev cX0_checksumOf : ByteArray := prog_2_method_7_code
def yX0_checksumOf : MethodName := ⟨RX0, "checksumOf", "(I)I"⟩
abbrev cX0_recordChecksum : ByteArray := prog_2_method_8_code
def yX0_recordChecksum : MethodName := ⟨RX0, "recordChecksum", "(I)V"⟩
abbrev cX0_hasDrifted : ByteArray := prog_2_method_9_code
def yX0_hasDrifted : MethodName := ⟨RX0, "hasDrifted", "(I)Z"⟩
abbrev cX0_firstDrifted : ByteArray := prog_2_method_10_code
def yX0_firstDrifted : MethodName := ⟨RX0, "firstDrifted", "(I)I"⟩
abbrev cX0_applyTo : ByteArray := prog_2_method_11_code
def yX0_applyTo : MethodName := ⟨RX0, "applyTo", "([II)Z"⟩
abbrev cX0_undoOn : ByteArray := prog_2_method_12_code
def yX0_undoOn : MethodName := ⟨RX0, "undoOn", "([II)Z"⟩
abbrev cX0_putResult : ByteArray := prog_2_method_13_code
def yX0_putResult : MethodName := ⟨RX0, "putResult", "([IIJ)Z"⟩
abbrev cX0_exchange : ByteArray := prog_2_method_14_code
def yX0_exchange : MethodName := ⟨RX0, "exchange", "([III)Z"⟩
def RX1 : String := "Migrationledger$Lock"
def TX1 : u_T := fun k => match k with
  | 0 => ("Migrationledger$Lock", "crashed", "[Z", true)
  | 1 => ("Migrationledger$Lock", "time", "I", false)
  | 2 => ("Migrationledger$Lock", "taker", "I", false)
  | _ => ("Migrationledger$Lock", "leaseEnd", "I", false)
def tyX1 : Nat → FieldType := fun k => match k with
  | 0 => .array .boolean
  | 1 => .int
  | 2 => .int
  | _ => .int
abbrev wsX10 : List Cond := u_ws RX1 TX1 4
theorem nmX1 : ∀ a, a < 4 → ∀ b, b < 4 → a ≠ b → (TX1 a).2.1 ≠ (TX1 b).2.1 := by decide +kernel
theorem tyX1_ok : ∀ k, k < 4 → parseFieldDescriptor (TX1 k).2.2.1 = some (tyX1 k) := by decide +kernel
abbrev cX1_init : ByteArray := prog_3_method_1_code
def yX1_init : MethodName := ⟨RX1, "<init>", "()V"⟩
abbrev cX1_owner : ByteArray := prog_3_method_2_code
def yX1_owner : MethodName := ⟨RX1, "owner", "()I"⟩
abbrev cX1_grant : ByteArray := prog_3_method_3_code
def yX1_grant : MethodName := ⟨RX1, "grant", "(II)I"⟩
abbrev cX1_release : ByteArray := prog_3_method_4_code
def yX1_release : MethodName := ⟨RX1, "release", "()V"⟩
abbrev cX1_advance : ByteArray := prog_3_method_5_code
def yX1_advance : MethodName := ⟨RX1, "advance", "(I)I"⟩
abbrev cX1_hasCrashed : ByteArray := prog_3_method_6_code
def yX1_hasCrashed : MethodName := ⟨RX1, "hasCrashed", "(I)Z"⟩
abbrev cX1_setCrashed : ByteArray := prog_3_method_7_code
def yX1_setCrashed : MethodName := ⟨RX1, "setCrashed", "(IZ)V"⟩
def RX2 : String := "Migrationledger$Table"
def TX2 : u_T := fun k => match k with
  | 0 => ("Migrationledger$Table", "cells", "[I", true)
  | _ => ("Migrationledger$Table", "versions", "[I", true)
def tyX2 : Nat → FieldType := fun k => match k with
  | 0 => .array .int
  | _ => .array .int
abbrev wsX20 : List Cond := u_ws RX2 TX2 2
theorem nmX2 : ∀ a, a < 2 → ∀ b, b < 2 → a ≠ b → (TX2 a).2.1 ≠ (TX2 b).2.1 := by decide +kernel
theorem tyX2_ok : ∀ k, k < 2 → parseFieldDescriptor (TX2 k).2.2.1 = some (tyX2 k) := by decide +kernel
abbrev cX2_init : ByteArray := prog_4_method_1_code
def yX2_init : MethodName := ⟨RX2, "<init>", "()V"⟩
abbrev cX2_isPresent : ByteArray := prog_4_method_2_code
def yX2_isPresent : MethodName := ⟨RX2, "isPresent", "(I)Z"⟩
abbrev cX2_versionOf : ByteArray := prog_4_method_3_code
def yX2_versionOf : MethodName := ⟨RX2, "versionOf", "(I)I"⟩
abbrev cX2_setVersion : ByteArray := prog_4_method_4_code
def yX2_setVersion : MethodName := ⟨RX2, "setVersion", "(II)V"⟩
abbrev cX2_cell : ByteArray := prog_4_method_5_code
def yX2_cell : MethodName := ⟨RX2, "cell", "(II)I"⟩
abbrev cX2_setCell : ByteArray := prog_4_method_6_code
def yX2_setCell : MethodName := ⟨RX2, "setCell", "(III)V"⟩
abbrev cX2_copyRow : ByteArray := prog_4_method_7_code
def yX2_copyRow : MethodName := ⟨RX2, "copyRow", "(I[I)V"⟩
abbrev cX2_storeRow : ByteArray := prog_4_method_8_code
def yX2_storeRow : MethodName := ⟨RX2, "storeRow", "(I[I)V"⟩
abbrev cX2_countWithVersion : ByteArray := prog_4_method_9_code
def yX2_countWithVersion : MethodName := ⟨RX2, "countWithVersion", "(I)I"⟩
abbrev cX2_countFromVersion : ByteArray := prog_4_method_10_code
def yX2_countFromVersion : MethodName := ⟨RX2, "countFromVersion", "(I)I"⟩
abbrev cX2_countPresent : ByteArray := prog_4_method_11_code
def yX2_countPresent : MethodName := ⟨RX2, "countPresent", "()I"⟩
def RX3 : String := "Migrationledger"
def TX3 : u_T := fun k => match k with
  | 0 => ("Migrationledger", "list", "LMigrationledger$ChangeList;", true)
  | 1 => ("Migrationledger", "table", "LMigrationledger$Table;", true)
  | 2 => ("Migrationledger", "lock", "LMigrationledger$Lock;", true)
  | 3 => ("Migrationledger", "tried", "[I", true)
  | 4 => ("Migrationledger", "done", "I", false)
  | 5 => ("Migrationledger", "phase", "I", false)
  | _ => ("Migrationledger", "position", "I", false)
def tyX3 : Nat → FieldType := fun k => match k with
  | 0 => .object "Migrationledger$ChangeList"
  | 1 => .object "Migrationledger$Table"
  | 2 => .object "Migrationledger$Lock"
  | 3 => .array .int
  | 4 => .int
  | 5 => .int
  | _ => .int
abbrev wsX30 : List Cond := u_ws RX3 TX3 7
theorem nmX3 : ∀ a, a < 7 → ∀ b, b < 7 → a ≠ b → (TX3 a).2.1 ≠ (TX3 b).2.1 := by decide +kernel
theorem tyX3_ok : ∀ k, k < 7 → parseFieldDescriptor (TX3 k).2.2.1 = some (tyX3 k) := by decide +kernel
abbrev cX3_init : ByteArray := prog_1_method_1_code
def yX3_init : MethodName := ⟨RX3, "<init>", "()V"⟩
abbrev cX3_addChange : ByteArray := prog_1_method_2_code
def yX3_addChange : MethodName := ⟨RX3, "addChange", "(III)I"⟩
abbrev cX3_edit : ByteArray := prog_1_method_3_code
def yX3_edit : MethodName := ⟨RX3, "edit", "(IIII)I"⟩
abbrev cX3_changes : ByteArray := prog_1_method_4_code
def yX3_changes : MethodName := ⟨RX3, "changes", "()I"⟩
abbrev cX3_checksum : ByteArray := prog_1_method_5_code
def yX3_checksum : MethodName := ⟨RX3, "checksum", "(I)I"⟩
abbrev cX3_state : ByteArray := prog_1_method_6_code
def yX3_state : MethodName := ⟨RX3, "state", "(I)I"⟩
abbrev cX3_level : ByteArray := prog_1_method_7_code
def yX3_level : MethodName := ⟨RX3, "level", "()I"⟩
abbrev cX3_drifted : ByteArray := prog_1_method_8_code
def yX3_drifted : MethodName := ⟨RX3, "drifted", "()I"⟩
abbrev cX3_insert : ByteArray := prog_1_method_9_code
def yX3_insert : MethodName := ⟨RX3, "insert", "(IIII)I"⟩
abbrev cX3_write : ByteArray := prog_1_method_10_code
def yX3_write : MethodName := ⟨RX3, "write", "(III)I"⟩
abbrev cX3_delete : ByteArray := prog_1_method_11_code
def yX3_delete : MethodName := ⟨RX3, "delete", "(I)I"⟩
abbrev cX3_value : ByteArray := prog_1_method_12_code
def yX3_value : MethodName := ⟨RX3, "value", "(II)I"⟩
abbrev cX3_version : ByteArray := prog_1_method_13_code
def yX3_version : MethodName := ⟨RX3, "version", "(I)I"⟩
abbrev cX3_rowsAt : ByteArray := prog_1_method_14_code
def yX3_rowsAt : MethodName := ⟨RX3, "rowsAt", "(I)I"⟩
abbrev cX3_valueAt : ByteArray := prog_1_method_15_code
def yX3_valueAt : MethodName := ⟨RX3, "valueAt", "(III)I"⟩
abbrev cX3_take : ByteArray := prog_1_method_16_code
def yX3_take : MethodName := ⟨RX3, "take", "(II)I"⟩
abbrev cX3_giveBack : ByteArray := prog_1_method_17_code
def yX3_giveBack : MethodName := ⟨RX3, "giveBack", "(I)V"⟩
abbrev cX3_holder : ByteArray := prog_1_method_18_code
def yX3_holder : MethodName := ⟨RX3, "holder", "()I"⟩
abbrev cX3_restart : ByteArray := prog_1_method_19_code
def yX3_restart : MethodName := ⟨RX3, "restart", "(I)Z"⟩
abbrev cX3_pass : ByteArray := prog_1_method_20_code
def yX3_pass : MethodName := ⟨RX3, "pass", "(I)I"⟩
abbrev cX3_begin : ByteArray := prog_1_method_21_code
def yX3_begin : MethodName := ⟨RX3, "begin", "(I)I"⟩
abbrev cX3_undo : ByteArray := prog_1_method_22_code
def yX3_undo : MethodName := ⟨RX3, "undo", "(I)I"⟩
abbrev cX3_step : ByteArray := prog_1_method_23_code
def yX3_step : MethodName := ⟨RX3, "step", "(III)I"⟩
abbrev cX3_cursor : ByteArray := prog_1_method_24_code
def yX3_cursor : MethodName := ⟨RX3, "cursor", "()I"⟩
abbrev cX3_share : ByteArray := prog_1_method_25_code
def yX3_share : MethodName := ⟨RX3, "share", "()F"⟩
abbrev cX3_isActive : ByteArray := prog_1_method_26_code
def yX3_isActive : MethodName := ⟨RX3, "isActive", "()Z"⟩
abbrev cX3_activeNumber : ByteArray := prog_1_method_27_code
def yX3_activeNumber : MethodName := ⟨RX3, "activeNumber", "()I"⟩
abbrev cX3_versionForNewRow : ByteArray := prog_1_method_28_code
def yX3_versionForNewRow : MethodName := ⟨RX3, "versionForNewRow", "(I)I"⟩
abbrev cX3_idsLeft : ByteArray := prog_1_method_29_code
def yX3_idsLeft : MethodName := ⟨RX3, "idsLeft", "()I"⟩
abbrev cX3_positionBehind : ByteArray := prog_1_method_30_code
def yX3_positionBehind : MethodName := ⟨RX3, "positionBehind", "(I)I"⟩
abbrev cX3_idBehind : ByteArray := prog_1_method_31_code
def yX3_idBehind : MethodName := ⟨RX3, "idBehind", "(I)I"⟩
abbrev cX3_goThrough : ByteArray := prog_1_method_32_code
def yX3_goThrough : MethodName := ⟨RX3, "goThrough", "(III)I"⟩
abbrev cX3_isToBeChanged : ByteArray := prog_1_method_33_code
def yX3_isToBeChanged : MethodName := ⟨RX3, "isToBeChanged", "(I)Z"⟩
abbrev cX3_changeRow : ByteArray := prog_1_method_34_code
def yX3_changeRow : MethodName := ⟨RX3, "changeRow", "(I)Z"⟩
abbrev cX3_endIfAllPassed : ByteArray := prog_1_method_35_code
def yX3_endIfAllPassed : MethodName := ⟨RX3, "endIfAllPassed", "()V"⟩
abbrev cX3_bringTried : ByteArray := prog_1_method_36_code
def yX3_bringTried : MethodName := ⟨RX3, "bringTried", "(II)Z"⟩
abbrev cX3_isTableValue : ByteArray := prog_1_method_37_code
def yX3_isTableValue : MethodName := ⟨RX3, "isTableValue", "(J)Z"⟩
abbrev cX3_isColumn : ByteArray := prog_1_method_38_code
def yX3_isColumn : MethodName := ⟨RX3, "isColumn", "(I)Z"⟩
abbrev cX3_isOperand : ByteArray := prog_1_method_39_code
def yX3_isOperand : MethodName := ⟨RX3, "isOperand", "(III)Z"⟩
abbrev cX3_requireChangeParts : ByteArray := prog_1_method_40_code
def yX3_requireChangeParts : MethodName := ⟨RX3, "requireChangeParts", "(III)V"⟩
abbrev cX3_requireColumn : ByteArray := prog_1_method_41_code
def yX3_requireColumn : MethodName := ⟨RX3, "requireColumn", "(I)V"⟩
abbrev cX3_requireId : ByteArray := prog_1_method_42_code
def yX3_requireId : MethodName := ⟨RX3, "requireId", "(I)V"⟩
abbrev cX3_requireTableValue : ByteArray := prog_1_method_43_code
def yX3_requireTableValue : MethodName := ⟨RX3, "requireTableValue", "(I)V"⟩
abbrev cX3_requireWorker : ByteArray := prog_1_method_44_code
def yX3_requireWorker : MethodName := ⟨RX3, "requireWorker", "(I)V"⟩
abbrev cX3_requireListed : ByteArray := prog_1_method_45_code
def yX3_requireListed : MethodName := ⟨RX3, "requireListed", "(I)V"⟩
abbrev cX3_requirePresent : ByteArray := prog_1_method_46_code
def yX3_requirePresent : MethodName := ⟨RX3, "requirePresent", "(I)V"⟩
abbrev cX3_requireNotCrashed : ByteArray := prog_1_method_47_code
def yX3_requireNotCrashed : MethodName := ⟨RX3, "requireNotCrashed", "(I)V"⟩
abbrev cX3_requireAtWork : ByteArray := prog_1_method_48_code
def yX3_requireAtWork : MethodName := ⟨RX3, "requireAtWork", "(I)V"⟩
abbrev cX3_requireActive : ByteArray := prog_1_method_49_code
def yX3_requireActive : MethodName := ⟨RX3, "requireActive", "()V"⟩
abbrev cX3_requireUndoableDone : ByteArray := prog_1_method_50_code
def yX3_requireUndoableDone : MethodName := ⟨RX3, "requireUndoableDone", "()V"⟩
def RX4 : String := "MigrationledgerModel"
def TX4 : u_T := fun k => match k with
  | 0 => ("MigrationledgerModel", "refusal", "I", false)
  | 1 => ("MigrationledgerModel", "many", "I", false)
  | 2 => ("MigrationledgerModel", "kinds", "[I", true)
  | 3 => ("MigrationledgerModel", "columns", "[I", true)
  | 4 => ("MigrationledgerModel", "operands", "[I", true)
  | 5 => ("MigrationledgerModel", "recorded", "[I", true)
  | 6 => ("MigrationledgerModel", "level", "I", false)
  | 7 => ("MigrationledgerModel", "active", "I", false)
  | 8 => ("MigrationledgerModel", "cursor", "I", false)
  | 9 => ("MigrationledgerModel", "versions", "[I", true)
  | 10 => ("MigrationledgerModel", "values", "[I", true)
  | 11 => ("MigrationledgerModel", "spare", "[J", true)
  | 12 => ("MigrationledgerModel", "time", "I", false)
  | 13 => ("MigrationledgerModel", "holder", "I", false)
  | 14 => ("MigrationledgerModel", "leaseEnd", "I", false)
  | _ => ("MigrationledgerModel", "hasCrashed", "[Z", true)
def tyX4 : Nat → FieldType := fun k => match k with
  | 0 => .int
  | 1 => .int
  | 2 => .array .int
  | 3 => .array .int
  | 4 => .array .int
  | 5 => .array .int
  | 6 => .int
  | 7 => .int
  | 8 => .int
  | 9 => .array .int
  | 10 => .array .int
  | 11 => .array .long
  | 12 => .int
  | 13 => .int
  | 14 => .int
  | _ => .array .boolean
abbrev wsX40 : List Cond := u_ws RX4 TX4 16
theorem nmX4 : ∀ a, a < 16 → ∀ b, b < 16 → a ≠ b → (TX4 a).2.1 ≠ (TX4 b).2.1 := by decide +kernel
theorem tyX4_ok : ∀ k, k < 16 → parseFieldDescriptor (TX4 k).2.2.1 = some (tyX4 k) := by decide +kernel
abbrev cX4_init : ByteArray := prog_6_method_1_code
def yX4_init : MethodName := ⟨RX4, "<init>", "()V"⟩
abbrev cX4_thrown : ByteArray := prog_6_method_2_code
def yX4_thrown : MethodName := ⟨RX4, "thrown", "()I"⟩
abbrev cX4_refused : ByteArray := prog_6_method_3_code
def yX4_refused : MethodName := ⟨RX4, "refused", "(I)Z"⟩
abbrev cX4_fine : ByteArray := prog_6_method_4_code
def yX4_fine : MethodName := ⟨RX4, "fine", "(I)I"⟩
abbrev cX4_in : ByteArray := prog_6_method_5_code
def yX4_in : MethodName := ⟨RX4, "in", "(III)Z"⟩
abbrev cX4_isValue : ByteArray := prog_6_method_6_code
def yX4_isValue : MethodName := ⟨RX4, "isValue", "(J)Z"⟩
abbrev cX4_isChange : ByteArray := prog_6_method_7_code
def yX4_isChange : MethodName := ⟨RX4, "isChange", "(III)Z"⟩
abbrev cX4_sumOf : ByteArray := prog_6_method_8_code
def yX4_sumOf : MethodName := ⟨RX4, "sumOf", "(I)I"⟩
abbrev cX4_put : ByteArray := prog_6_method_9_code
def yX4_put : MethodName := ⟨RX4, "put", "(IIII)V"⟩
abbrev cX4_addChange : ByteArray := prog_6_method_10_code
def yX4_addChange : MethodName := ⟨RX4, "addChange", "(III)I"⟩
abbrev cX4_stateOf : ByteArray := prog_6_method_11_code
def yX4_stateOf : MethodName := ⟨RX4, "stateOf", "(I)I"⟩
abbrev cX4_edit : ByteArray := prog_6_method_12_code
def yX4_edit : MethodName := ⟨RX4, "edit", "(IIII)I"⟩
abbrev cX4_changes : ByteArray := prog_6_method_13_code
def yX4_changes : MethodName := ⟨RX4, "changes", "()I"⟩
abbrev cX4_checksum : ByteArray := prog_6_method_14_code
def yX4_checksum : MethodName := ⟨RX4, "checksum", "(I)I"⟩
abbrev cX4_state : ByteArray := prog_6_method_15_code
def yX4_state : MethodName := ⟨RX4, "state", "(I)I"⟩
abbrev cX4_level : ByteArray := prog_6_method_16_code
def yX4_level : MethodName := ⟨RX4, "level", "()I"⟩
abbrev cX4_firstDrift : ByteArray := prog_6_method_17_code
def yX4_firstDrift : MethodName := ⟨RX4, "firstDrift", "()I"⟩
abbrev cX4_drifted : ByteArray := prog_6_method_18_code
def yX4_drifted : MethodName := ⟨RX4, "drifted", "()I"⟩
abbrev cX4_isRow : ByteArray := prog_6_method_19_code
def yX4_isRow : MethodName := ⟨RX4, "isRow", "(I)Z"⟩
abbrev cX4_insert : ByteArray := prog_6_method_20_code
def yX4_insert : MethodName := ⟨RX4, "insert", "(IIII)I"⟩
abbrev cX4_noRow : ByteArray := prog_6_method_21_code
def yX4_noRow : MethodName := ⟨RX4, "noRow", "(ZI)Z"⟩
abbrev cX4_write : ByteArray := prog_6_method_22_code
def yX4_write : MethodName := ⟨RX4, "write", "(III)I"⟩
abbrev cX4_delete : ByteArray := prog_6_method_23_code
def yX4_delete : MethodName := ⟨RX4, "delete", "(I)I"⟩
abbrev cX4_value : ByteArray := prog_6_method_24_code
def yX4_value : MethodName := ⟨RX4, "value", "(II)I"⟩
abbrev cX4_version : ByteArray := prog_6_method_25_code
def yX4_version : MethodName := ⟨RX4, "version", "(I)I"⟩
abbrev cX4_rowsAt : ByteArray := prog_6_method_26_code
def yX4_rowsAt : MethodName := ⟨RX4, "rowsAt", "(I)I"⟩
abbrev cX4_takeSpare : ByteArray := prog_6_method_27_code
def yX4_takeSpare : MethodName := ⟨RX4, "takeSpare", "(I)V"⟩
abbrev cX4_tries : ByteArray := prog_6_method_28_code
def yX4_tries : MethodName := ⟨RX4, "tries", "(IZ)Z"⟩
abbrev cX4_valueAt : ByteArray := prog_6_method_29_code
def yX4_valueAt : MethodName := ⟨RX4, "valueAt", "(III)I"⟩
abbrev cX4_isHeld : ByteArray := prog_6_method_30_code
def yX4_isHeld : MethodName := ⟨RX4, "isHeld", "()Z"⟩
abbrev cX4_has : ByteArray := prog_6_method_31_code
def yX4_has : MethodName := ⟨RX4, "has", "(I)Z"⟩
abbrev cX4_isWorker : ByteArray := prog_6_method_32_code
def yX4_isWorker : MethodName := ⟨RX4, "isWorker", "(I)Z"⟩
abbrev cX4_cannot : ByteArray := prog_6_method_33_code
def yX4_cannot : MethodName := ⟨RX4, "cannot", "(I)Z"⟩
abbrev cX4_take : ByteArray := prog_6_method_34_code
def yX4_take : MethodName := ⟨RX4, "take", "(II)I"⟩
abbrev cX4_giveBack : ByteArray := prog_6_method_35_code
def yX4_giveBack : MethodName := ⟨RX4, "giveBack", "(I)V"⟩
abbrev cX4_holder : ByteArray := prog_6_method_36_code
def yX4_holder : MethodName := ⟨RX4, "holder", "()I"⟩
abbrev cX4_restart : ByteArray := prog_6_method_37_code
def yX4_restart : MethodName := ⟨RX4, "restart", "(I)Z"⟩
abbrev cX4_pass : ByteArray := prog_6_method_38_code
def yX4_pass : MethodName := ⟨RX4, "pass", "(I)I"⟩
abbrev cX4_begin : ByteArray := prog_6_method_39_code
def yX4_begin : MethodName := ⟨RX4, "begin", "(I)I"⟩
abbrev cX4_undo : ByteArray := prog_6_method_40_code
def yX4_undo : MethodName := ⟨RX4, "undo", "(I)I"⟩
abbrev cX4_step : ByteArray := prog_6_method_41_code
def yX4_step : MethodName := ⟨RX4, "step", "(III)I"⟩
abbrev cX4_cursor : ByteArray := prog_6_method_42_code
def yX4_cursor : MethodName := ⟨RX4, "cursor", "()I"⟩
abbrev cX4_share : ByteArray := prog_6_method_43_code
def yX4_share : MethodName := ⟨RX4, "share", "()F"⟩
def RJ9 : String := "java/lang/Math"
def TJ9 : u_T := fun k => match k with
  | _ => ("", "", "", false)
def tyJ9 : Nat → FieldType := fun k => match k with
  | _ => .int
abbrev wsJ90 : List Cond := u_ws RJ9 TJ9 0
theorem nmJ9 : ∀ a, a < 0 → ∀ b, b < 0 → a ≠ b → (TJ9 a).2.1 ≠ (TJ9 b).2.1 := by decide +kernel
theorem tyJ9_ok : ∀ k, k < 0 → parseFieldDescriptor (TJ9 k).2.2.1 = some (tyJ9 k) := by decide +kernel
abbrev cJ9_min_7cf53 : ByteArray := prog_11_method_69_code
def yJ9_min_7cf53 : MethodName := ⟨RJ9, "min", "(II)I"⟩
def RJ0 : String := "java/lang/String"
def TJ0 : u_T := fun k => match k with
  | _ => ("", "", "", false)
def tyJ0 : Nat → FieldType := fun k => match k with
  | _ => .int
abbrev wsJ00 : List Cond := u_ws RJ0 TJ0 0
theorem nmJ0 : ∀ a, a < 0 → ∀ b, b < 0 → a ≠ b → (TJ0 a).2.1 ≠ (TJ0 b).2.1 := by decide +kernel
theorem tyJ0_ok : ∀ k, k < 0 → parseFieldDescriptor (TJ0 k).2.2.1 = some (tyJ0 k) := by decide +kernel
def RL : String := "MigrationledgerLaw"
abbrev cL_addChange : ByteArray := method_3_code
def yL_addChange : MethodName := ⟨RL, "addChange", "(LMigrationledger;III[J)I"⟩
abbrev cL_edit : ByteArray := method_4_code
def yL_edit : MethodName := ⟨RL, "edit", "(LMigrationledger;IIII[J)I"⟩
abbrev cL_checksum : ByteArray := method_5_code
def yL_checksum : MethodName := ⟨RL, "checksum", "(LMigrationledger;I[J)I"⟩
abbrev cL_state : ByteArray := method_6_code
def yL_state : MethodName := ⟨RL, "state", "(LMigrationledger;I[J)I"⟩
abbrev cL_insert : ByteArray := method_7_code
def yL_insert : MethodName := ⟨RL, "insert", "(LMigrationledger;IIII[J)I"⟩
abbrev cL_write : ByteArray := method_8_code
def yL_write : MethodName := ⟨RL, "write", "(LMigrationledger;III[J)I"⟩
abbrev cL_delete : ByteArray := method_9_code
def yL_delete : MethodName := ⟨RL, "delete", "(LMigrationledger;I[J)I"⟩
abbrev cL_value : ByteArray := method_10_code
def yL_value : MethodName := ⟨RL, "value", "(LMigrationledger;II[J)I"⟩
abbrev cL_version : ByteArray := method_11_code
def yL_version : MethodName := ⟨RL, "version", "(LMigrationledger;I[J)I"⟩
abbrev cL_rowsAt : ByteArray := method_12_code
def yL_rowsAt : MethodName := ⟨RL, "rowsAt", "(LMigrationledger;I[J)I"⟩
abbrev cL_valueAt : ByteArray := method_13_code
def yL_valueAt : MethodName := ⟨RL, "valueAt", "(LMigrationledger;III[J)I"⟩
abbrev cL_take : ByteArray := method_14_code
def yL_take : MethodName := ⟨RL, "take", "(LMigrationledger;II[J)I"⟩
abbrev cL_giveBack : ByteArray := method_15_code
def yL_giveBack : MethodName := ⟨RL, "giveBack", "(LMigrationledger;I)I"⟩
abbrev cL_restart : ByteArray := method_16_code
def yL_restart : MethodName := ⟨RL, "restart", "(LMigrationledger;I[J)I"⟩
abbrev cL_pass : ByteArray := method_17_code
def yL_pass : MethodName := ⟨RL, "pass", "(LMigrationledger;I[J)I"⟩
abbrev cL_begin : ByteArray := method_18_code
def yL_begin : MethodName := ⟨RL, "begin", "(LMigrationledger;I[J)I"⟩
abbrev cL_undo : ByteArray := method_19_code
def yL_undo : MethodName := ⟨RL, "undo", "(LMigrationledger;I[J)I"⟩
abbrev cL_step : ByteArray := method_20_code
def yL_step : MethodName := ⟨RL, "step", "(LMigrationledger;III[J)I"⟩
abbrev cL_cursor : ByteArray := method_21_code
def yL_cursor : MethodName := ⟨RL, "cursor", "(LMigrationledger;[J)I"⟩
abbrev cL_share : ByteArray := method_22_code
def yL_share : MethodName := ⟨RL, "share", "(LMigrationledger;[D)I"⟩
abbrev cL_law : ByteArray := code
def yL_law : MethodName := ⟨RL, "law", "([I)Z"⟩
def wsX0_init : List Cond := .code yX0_init cX0_init 1 none :: ([.methodLink RX0 3 objectInit, .instanceMethod objectInit, .code objectInit ⟨#[0xb1]⟩ 1 none, .arrayClass .int, .fieldLink RX0 9 "Migrationledger$ChangeList" "kinds" "[I", .fieldLink RX0 15 "Migrationledger$ChangeList" "columns" "[I", .fieldLink RX0 18 "Migrationledger$ChangeList" "operands" "[I", .fieldLink RX0 21 "Migrationledger$ChangeList" "recorded" "[I"] ++ wsX00)
def wsX0_count : List Cond := .code yX0_count cX0_count 1 (some .int) :: ([.fieldLink RX0 24 "Migrationledger$ChangeList" "count" "I"] ++ wsX00)
def wsX0_isFull : List Cond := .code yX0_isFull cX0_isFull 1 (some .boolean) :: ([.fieldLink RX0 24 "Migrationledger$ChangeList" "count" "I"] ++ wsX00)
def wsX0_contains : List Cond := .code yX0_contains cX0_contains 2 (some .boolean) :: ([.fieldLink RX0 24 "Migrationledger$ChangeList" "count" "I"] ++ wsX00)
def wsX0_put : List Cond := .code yX0_put cX0_put 5 none :: ([.fieldLink RX0 9 "Migrationledger$ChangeList" "kinds" "[I", .fieldLink RX0 15 "Migrationledger$ChangeList" "columns" "[I", .fieldLink RX0 18 "Migrationledger$ChangeList" "operands" "[I"] ++ wsX00)
def wsX0_append : List Cond := .code yX0_append cX0_append 4 (some .int) :: ([.fieldLink RX0 24 "Migrationledger$ChangeList" "count" "I", .methodLink RX0 28 yX0_put, .instanceMethod yX0_put, .selects RX0 yX0_put yX0_put, .initialized RX0, .code yX0_put cX0_put 5 none, .fieldLink RX0 9 "Migrationledger$ChangeList" "kinds" "[I", .fieldLink RX0 15 "Migrationledger$ChangeList" "columns" "[I", .fieldLink RX0 18 "Migrationledger$ChangeList" "operands" "[I"] ++ wsX00)
def wsX0_checksumOf : List Cond := .code yX0_checksumOf cX0_checksumOf 4 (some .int) :: ([.fieldLink RX0 9 "Migrationledger$ChangeList" "kinds" "[I", .fieldLink RX0 15 "Migrationledger$ChangeList" "columns" "[I", .fieldLink RX0 18 "Migrationledger$ChangeList" "operands" "[I", .constant RX0 32 (65521)] ++ wsX00)
def wsX0_recordChecksum : List Cond := .code yX0_recordChecksum cX0_recordChecksum 2 none :: ([.fieldLink RX0 21 "Migrationledger$ChangeList" "recorded" "[I", .methodLink RX0 33 yX0_checksumOf, .instanceMethod yX0_checksumOf, .selects RX0 yX0_checksumOf yX0_checksumOf, .initialized RX0, .code yX0_checksumOf cX0_checksumOf 4 (some .int), .fieldLink RX0 9 "Migrationledger$ChangeList" "kinds" "[I", .fieldLink RX0 15 "Migrationledger$ChangeList" "columns" "[I", .fieldLink RX0 18 "Migrationledger$ChangeList" "operands" "[I", .constant RX0 32 (65521)] ++ wsX00)
def wsX0_hasDrifted : List Cond := .code yX0_hasDrifted cX0_hasDrifted 2 (some .boolean) :: ([.fieldLink RX0 21 "Migrationledger$ChangeList" "recorded" "[I", .methodLink RX0 33 yX0_checksumOf, .instanceMethod yX0_checksumOf, .selects RX0 yX0_checksumOf yX0_checksumOf, .initialized RX0, .code yX0_checksumOf cX0_checksumOf 4 (some .int), .fieldLink RX0 9 "Migrationledger$ChangeList" "kinds" "[I", .fieldLink RX0 15 "Migrationledger$ChangeList" "columns" "[I", .fieldLink RX0 18 "Migrationledger$ChangeList" "operands" "[I", .constant RX0 32 (65521)] ++ wsX00)
def wsX0_firstDrifted : List Cond := .code yX0_firstDrifted cX0_firstDrifted 3 (some .int) :: ([.methodLink RX0 37 yX0_hasDrifted, .instanceMethod yX0_hasDrifted, .selects RX0 yX0_hasDrifted yX0_hasDrifted, .initialized RX0, .code yX0_hasDrifted cX0_hasDrifted 2 (some .boolean), .fieldLink RX0 21 "Migrationledger$ChangeList" "recorded" "[I", .methodLink RX0 33 yX0_checksumOf, .instanceMethod yX0_checksumOf, .selects RX0 yX0_checksumOf yX0_checksumOf, .code yX0_checksumOf cX0_checksumOf 4 (some .int), .fieldLink RX0 9 "Migrationledger$ChangeList" "kinds" "[I", .fieldLink RX0 15 "Migrationledger$ChangeList" "columns" "[I", .fieldLink RX0 18 "Migrationledger$ChangeList" "operands" "[I", .constant RX0 32 (65521)] ++ wsX00)
def wsX3_isTableValue : List Cond := .code yX3_isTableValue cX3_isTableValue 2 (some .boolean) :: ([.constantLong RX3 246 (-1000000000), .constantLong RX3 248 (1000000000)])
def wsX0_putResult : List Cond := .code yX0_putResult cX0_putResult 4 (some .boolean) :: ([.static yX3_isTableValue, .initialized RX3, .code yX3_isTableValue cX3_isTableValue 2 (some .boolean), .constantLong RX3 246 (-1000000000), .constantLong RX3 248 (1000000000)])
def wsX0_exchange : List Cond := .code yX0_exchange cX0_exchange 4 (some .boolean) :: ([])
def wsX0_applyTo : List Cond := .code yX0_applyTo cX0_applyTo 7 (some .boolean) :: ([.fieldLink RX0 15 "Migrationledger$ChangeList" "columns" "[I", .fieldLink RX0 18 "Migrationledger$ChangeList" "operands" "[I", .fieldLink RX0 9 "Migrationledger$ChangeList" "kinds" "[I", .methodLink RX0 41 yX0_putResult, .static yX0_putResult, .initialized RX0, .code yX0_putResult cX0_putResult 4 (some .boolean), .static yX3_isTableValue, .initialized RX3, .code yX3_isTableValue cX3_isTableValue 2 (some .boolean), .constantLong RX3 246 (-1000000000), .constantLong RX3 248 (1000000000), .methodLink RX0 45 yX0_exchange, .static yX0_exchange, .code yX0_exchange cX0_exchange 4 (some .boolean)] ++ wsX00)
def wsX0_undoOn : List Cond := .code yX0_undoOn cX0_undoOn 7 (some .boolean) :: ([.fieldLink RX0 15 "Migrationledger$ChangeList" "columns" "[I", .fieldLink RX0 18 "Migrationledger$ChangeList" "operands" "[I", .fieldLink RX0 9 "Migrationledger$ChangeList" "kinds" "[I", .methodLink RX0 41 yX0_putResult, .static yX0_putResult, .initialized RX0, .code yX0_putResult cX0_putResult 4 (some .boolean), .static yX3_isTableValue, .initialized RX3, .code yX3_isTableValue cX3_isTableValue 2 (some .boolean), .constantLong RX3 246 (-1000000000), .constantLong RX3 248 (1000000000), .methodLink RX0 45 yX0_exchange, .static yX0_exchange, .code yX0_exchange cX0_exchange 4 (some .boolean)] ++ wsX00)
def wsX1_init : List Cond := .code yX1_init cX1_init 1 none :: ([.methodLink RX1 3 objectInit, .instanceMethod objectInit, .code objectInit ⟨#[0xb1]⟩ 1 none, .arrayClass .boolean, .fieldLink RX1 9 "Migrationledger$Lock" "crashed" "[Z", .fieldLink RX1 15 "Migrationledger$Lock" "taker" "I"] ++ wsX10)
def wsX1_owner : List Cond := .code yX1_owner cX1_owner 1 (some .int) :: ([.fieldLink RX1 19 "Migrationledger$Lock" "time" "I", .fieldLink RX1 22 "Migrationledger$Lock" "leaseEnd" "I", .fieldLink RX1 15 "Migrationledger$Lock" "taker" "I"] ++ wsX10)
def wsX1_grant : List Cond := .code yX1_grant cX1_grant 3 (some .int) :: ([.fieldLink RX1 15 "Migrationledger$Lock" "taker" "I", .fieldLink RX1 19 "Migrationledger$Lock" "time" "I", .fieldLink RX1 22 "Migrationledger$Lock" "leaseEnd" "I"] ++ wsX10)
def wsX1_release : List Cond := .code yX1_release cX1_release 1 none :: ([.fieldLink RX1 15 "Migrationledger$Lock" "taker" "I"] ++ wsX10)
def wsX1_advance : List Cond := .code yX1_advance cX1_advance 2 (some .int) :: ([.fieldLink RX1 19 "Migrationledger$Lock" "time" "I"] ++ wsX10)
def wsX1_hasCrashed : List Cond := .code yX1_hasCrashed cX1_hasCrashed 2 (some .boolean) :: ([.fieldLink RX1 9 "Migrationledger$Lock" "crashed" "[Z"] ++ wsX10)
def wsX1_setCrashed : List Cond := .code yX1_setCrashed cX1_setCrashed 3 none :: ([.fieldLink RX1 9 "Migrationledger$Lock" "crashed" "[Z"] ++ wsX10)
def wsX2_init : List Cond := .code yX2_init cX2_init 2 none :: ([.methodLink RX2 3 objectInit, .instanceMethod objectInit, .code objectInit ⟨#[0xb1]⟩ 1 none, .arrayClass .int, .fieldLink RX2 9 "Migrationledger$Table" "cells" "[I", .fieldLink RX2 15 "Migrationledger$Table" "versions" "[I"] ++ wsX20)
def wsX2_isPresent : List Cond := .code yX2_isPresent cX2_isPresent 2 (some .boolean) :: ([.fieldLink RX2 15 "Migrationledger$Table" "versions" "[I"] ++ wsX20)
def wsX2_versionOf : List Cond := .code yX2_versionOf cX2_versionOf 2 (some .int) :: ([.fieldLink RX2 15 "Migrationledger$Table" "versions" "[I"] ++ wsX20)
def wsX2_setVersion : List Cond := .code yX2_setVersion cX2_setVersion 3 none :: ([.fieldLink RX2 15 "Migrationledger$Table" "versions" "[I"] ++ wsX20)
def wsX2_cell : List Cond := .code yX2_cell cX2_cell 3 (some .int) :: ([.fieldLink RX2 9 "Migrationledger$Table" "cells" "[I"] ++ wsX20)
def wsX2_setCell : List Cond := .code yX2_setCell cX2_setCell 4 none :: ([.fieldLink RX2 9 "Migrationledger$Table" "cells" "[I"] ++ wsX20)
def wsX2_copyRow : List Cond := .code yX2_copyRow cX2_copyRow 4 none :: ([.methodLink RX2 18 yX2_cell, .instanceMethod yX2_cell, .selects RX2 yX2_cell yX2_cell, .initialized RX2, .code yX2_cell cX2_cell 3 (some .int), .fieldLink RX2 9 "Migrationledger$Table" "cells" "[I"] ++ wsX20)
def wsX2_storeRow : List Cond := .code yX2_storeRow cX2_storeRow 4 none :: ([.methodLink RX2 22 yX2_setCell, .instanceMethod yX2_setCell, .selects RX2 yX2_setCell yX2_setCell, .initialized RX2, .code yX2_setCell cX2_setCell 4 none, .fieldLink RX2 9 "Migrationledger$Table" "cells" "[I"] ++ wsX20)
def wsX2_countWithVersion : List Cond := .code yX2_countWithVersion cX2_countWithVersion 4 (some .int) :: ([.fieldLink RX2 15 "Migrationledger$Table" "versions" "[I"] ++ wsX20)
def wsX2_countFromVersion : List Cond := .code yX2_countFromVersion cX2_countFromVersion 4 (some .int) :: ([.fieldLink RX2 15 "Migrationledger$Table" "versions" "[I"] ++ wsX20)
def wsX2_countPresent : List Cond := .code yX2_countPresent cX2_countPresent 1 (some .int) :: ([.methodLink RX2 26 yX2_countFromVersion, .instanceMethod yX2_countFromVersion, .selects RX2 yX2_countFromVersion yX2_countFromVersion, .initialized RX2, .code yX2_countFromVersion cX2_countFromVersion 4 (some .int), .fieldLink RX2 15 "Migrationledger$Table" "versions" "[I"] ++ wsX20)
def wsX3_init_r1 : List Cond := [Cond.methodLink RX3 1 objectInit, Cond.instanceMethod objectInit, Cond.code objectInit ⟨#[0xb1]⟩ 1 none, Cond.classLink RX3 7 RX0, Cond.instantiable RX0 5, Cond.initialized RX0, Cond.fieldLink RX3 10 "Migrationledger" "list" "LMigrationledger$ChangeList;", Cond.classLink RX3 16 RX2, Cond.instantiable RX2 2, Cond.initialized RX2, Cond.fieldLink RX3 19 "Migrationledger" "table" "LMigrationledger$Table;", Cond.classLink RX3 23 RX1, Cond.instantiable RX1 4, Cond.initialized RX1, Cond.fieldLink RX3 26 "Migrationledger" "lock" "LMigrationledger$Lock;", Cond.arrayClass .int, Cond.fieldLink RX3 30 "Migrationledger" "tried" "[I", Cond.fieldLink RX3 34 "Migrationledger" "phase" "I", Cond.instanceMethod yX0_init, Cond.code yX0_init cX0_init 1 none, Cond.methodLink RX0 3 objectInit, Cond.fieldLink RX0 9 "Migrationledger$ChangeList" "kinds" "[I", Cond.fieldLink RX0 15 "Migrationledger$ChangeList" "columns" "[I", Cond.fieldLink RX0 18 "Migrationledger$ChangeList" "operands" "[I"]
def wsX3_init_r2 : List Cond := [Cond.fieldLink RX0 21 "Migrationledger$ChangeList" "recorded" "[I", Cond.methodLink RX3 18 yX2_init, Cond.instanceMethod yX2_init, Cond.code yX2_init cX2_init 2 none, Cond.methodLink RX2 3 objectInit, Cond.fieldLink RX2 9 "Migrationledger$Table" "cells" "[I", Cond.fieldLink RX2 15 "Migrationledger$Table" "versions" "[I", Cond.instanceMethod yX1_init, Cond.code yX1_init cX1_init 1 none, Cond.methodLink RX1 3 objectInit, Cond.arrayClass .boolean, Cond.fieldLink RX1 9 "Migrationledger$Lock" "crashed" "[Z", Cond.fieldLink RX1 15 "Migrationledger$Lock" "taker" "I"]
def wsX3_init : List Cond := .code yX3_init cX3_init 1 none :: ((wsX3_init_r1 ++ wsX3_init_r2) ++ wsX00 ++ wsX30 ++ wsX20 ++ wsX10)
def wsX3_isColumn : List Cond := .code yX3_isColumn cX3_isColumn 1 (some .boolean) :: ([])
def wsX3_requireColumn : List Cond := .code yX3_requireColumn cX3_requireColumn 1 none :: ([.classLink RX3 122 "java/lang/IllegalArgumentException", .initialized "java/lang/IllegalArgumentException", .methodLink RX3 250 yX3_isColumn, .static yX3_isColumn, .initialized RX3, .code yX3_isColumn cX3_isColumn 1 (some .boolean)] ++ (vx_atS RX3 126 "java/lang/IllegalArgumentException" ["java/lang/RuntimeException", "java/lang/Exception"]).filter goodWord)
def wsX3_isOperand : List Cond := .code yX3_isOperand cX3_isOperand 3 (some .boolean) :: ([.methodLink RX3 250 yX3_isColumn, .static yX3_isColumn, .initialized RX3, .code yX3_isColumn cX3_isColumn 1 (some .boolean)])
def wsX3_requireChangeParts : List Cond := .code yX3_requireChangeParts cX3_requireChangeParts 3 none :: ([.classLink RX3 122 "java/lang/IllegalArgumentException", .initialized "java/lang/IllegalArgumentException", .methodLink RX3 109 yX3_requireColumn, .static yX3_requireColumn, .initialized RX3, .code yX3_requireColumn cX3_requireColumn 1 none, .methodLink RX3 250 yX3_isColumn, .static yX3_isColumn, .code yX3_isColumn cX3_isColumn 1 (some .boolean), .methodLink RX3 255 yX3_isOperand, .static yX3_isOperand, .code yX3_isOperand cX3_isOperand 3 (some .boolean)] ++ (vx_atS RX3 126 "java/lang/IllegalArgumentException" ["java/lang/RuntimeException", "java/lang/Exception"]).filter goodWord)
def wsX3_addChange_r1 : List Cond := [Cond.classLink RX3 46 "java/lang/IllegalStateException", Cond.initialized "java/lang/IllegalStateException", Cond.fieldLink RX3 10 "Migrationledger" "list" "LMigrationledger$ChangeList;", Cond.methodLink RX3 38 yX3_requireChangeParts, Cond.static yX3_requireChangeParts, Cond.initialized RX3, Cond.code yX3_requireChangeParts cX3_requireChangeParts 3 none, Cond.classLink RX3 122 "java/lang/IllegalArgumentException", Cond.initialized "java/lang/IllegalArgumentException", Cond.methodLink RX3 109 yX3_requireColumn, Cond.static yX3_requireColumn, Cond.code yX3_requireColumn cX3_requireColumn 1 none, Cond.methodLink RX3 250 yX3_isColumn, Cond.static yX3_isColumn, Cond.code yX3_isColumn cX3_isColumn 1 (some .boolean), Cond.methodLink RX3 255 yX3_isOperand, Cond.static yX3_isOperand, Cond.code yX3_isOperand cX3_isOperand 3 (some .boolean), Cond.methodLink RX3 42 yX0_isFull, Cond.instanceMethod yX0_isFull, Cond.selects RX0 yX0_isFull yX0_isFull, Cond.initialized RX0, Cond.code yX0_isFull cX0_isFull 1 (some .boolean), Cond.fieldLink RX0 24 "Migrationledger$ChangeList" "count" "I"]
def wsX3_addChange_r2 : List Cond := [Cond.methodLink RX3 53 yX0_append, Cond.instanceMethod yX0_append, Cond.selects RX0 yX0_append yX0_append, Cond.code yX0_append cX0_append 4 (some .int), Cond.methodLink RX0 28 yX0_put, Cond.instanceMethod yX0_put, Cond.selects RX0 yX0_put yX0_put, Cond.code yX0_put cX0_put 5 none, Cond.fieldLink RX0 9 "Migrationledger$ChangeList" "kinds" "[I", Cond.fieldLink RX0 15 "Migrationledger$ChangeList" "columns" "[I", Cond.fieldLink RX0 18 "Migrationledger$ChangeList" "operands" "[I"]
def wsX3_addChange : List Cond := .code yX3_addChange cX3_addChange 4 (some .int) :: ((wsX3_addChange_r1 ++ wsX3_addChange_r2) ++ wsX30 ++ wsX00 ++ (vx_atS RX3 50 "java/lang/IllegalStateException" ["java/lang/RuntimeException", "java/lang/Exception"]).filter goodWord ++ (vx_atS RX3 126 "java/lang/IllegalArgumentException" ["java/lang/RuntimeException", "java/lang/Exception"]).filter goodWord)
def wsX3_requireListed : List Cond := .code yX3_requireListed cX3_requireListed 2 none :: ([.classLink RX3 276 "java/lang/IndexOutOfBoundsException", .initialized "java/lang/IndexOutOfBoundsException", .fieldLink RX3 10 "Migrationledger" "list" "LMigrationledger$ChangeList;", .methodLink RX3 273 yX0_contains, .instanceMethod yX0_contains, .selects RX0 yX0_contains yX0_contains, .initialized RX0, .code yX0_contains cX0_contains 2 (some .boolean), .fieldLink RX0 24 "Migrationledger$ChangeList" "count" "I"] ++ wsX30 ++ wsX00 ++ (vx_atS RX3 280 "java/lang/IndexOutOfBoundsException" ["java/lang/RuntimeException", "java/lang/Exception"]).filter goodWord)
def wsX3_isActive : List Cond := .code yX3_isActive cX3_isActive 1 (some .boolean) :: ([.fieldLink RX3 34 "Migrationledger" "phase" "I"] ++ wsX30)
def wsX3_activeNumber : List Cond := .code yX3_activeNumber cX3_activeNumber 1 (some .int) :: ([.fieldLink RX3 81 "Migrationledger" "done" "I"] ++ wsX30)
def wsX3_edit_r1 : List Cond := [Cond.classLink RX3 46 "java/lang/IllegalStateException", Cond.initialized "java/lang/IllegalStateException", Cond.fieldLink RX3 10 "Migrationledger" "list" "LMigrationledger$ChangeList;", Cond.methodLink RX3 38 yX3_requireChangeParts, Cond.static yX3_requireChangeParts, Cond.initialized RX3, Cond.code yX3_requireChangeParts cX3_requireChangeParts 3 none, Cond.classLink RX3 122 "java/lang/IllegalArgumentException", Cond.initialized "java/lang/IllegalArgumentException", Cond.methodLink RX3 109 yX3_requireColumn, Cond.static yX3_requireColumn, Cond.code yX3_requireColumn cX3_requireColumn 1 none, Cond.methodLink RX3 250 yX3_isColumn, Cond.static yX3_isColumn, Cond.code yX3_isColumn cX3_isColumn 1 (some .boolean), Cond.methodLink RX3 255 yX3_isOperand, Cond.static yX3_isOperand, Cond.code yX3_isOperand cX3_isOperand 3 (some .boolean), Cond.methodLink RX3 57 yX3_requireListed, Cond.instanceMethod yX3_requireListed, Cond.selects RX3 yX3_requireListed yX3_requireListed, Cond.code yX3_requireListed cX3_requireListed 2 none, Cond.classLink RX3 276 "java/lang/IndexOutOfBoundsException", Cond.initialized "java/lang/IndexOutOfBoundsException"]
def wsX3_edit_r2 : List Cond := [Cond.methodLink RX3 273 yX0_contains, Cond.instanceMethod yX0_contains, Cond.selects RX0 yX0_contains yX0_contains, Cond.initialized RX0, Cond.code yX0_contains cX0_contains 2 (some .boolean), Cond.fieldLink RX0 24 "Migrationledger$ChangeList" "count" "I", Cond.methodLink RX3 61 yX3_isActive, Cond.instanceMethod yX3_isActive, Cond.selects RX3 yX3_isActive yX3_isActive, Cond.code yX3_isActive cX3_isActive 1 (some .boolean), Cond.fieldLink RX3 34 "Migrationledger" "phase" "I", Cond.methodLink RX3 64 yX3_activeNumber, Cond.instanceMethod yX3_activeNumber, Cond.selects RX3 yX3_activeNumber yX3_activeNumber, Cond.code yX3_activeNumber cX3_activeNumber 1 (some .int), Cond.fieldLink RX3 81 "Migrationledger" "done" "I", Cond.methodLink RX3 70 yX0_put, Cond.instanceMethod yX0_put, Cond.selects RX0 yX0_put yX0_put, Cond.code yX0_put cX0_put 5 none, Cond.fieldLink RX0 9 "Migrationledger$ChangeList" "kinds" "[I", Cond.fieldLink RX0 15 "Migrationledger$ChangeList" "columns" "[I", Cond.fieldLink RX0 18 "Migrationledger$ChangeList" "operands" "[I", Cond.methodLink RX3 74 yX0_checksumOf]
def wsX3_edit_r3 : List Cond := [Cond.instanceMethod yX0_checksumOf, Cond.selects RX0 yX0_checksumOf yX0_checksumOf, Cond.code yX0_checksumOf cX0_checksumOf 4 (some .int), Cond.constant RX0 32 (65521)]
def wsX3_edit : List Cond := .code yX3_edit cX3_edit 5 (some .int) :: ((wsX3_edit_r1 ++ (wsX3_edit_r2 ++ wsX3_edit_r3)) ++ wsX30 ++ wsX00 ++ (vx_atS RX3 50 "java/lang/IllegalStateException" ["java/lang/RuntimeException", "java/lang/Exception"]).filter goodWord ++ (vx_atS RX3 126 "java/lang/IllegalArgumentException" ["java/lang/RuntimeException", "java/lang/Exception"]).filter goodWord ++ (vx_atS RX3 280 "java/lang/IndexOutOfBoundsException" ["java/lang/RuntimeException", "java/lang/Exception"]).filter goodWord)
def wsX3_changes : List Cond := .code yX3_changes cX3_changes 1 (some .int) :: ([.fieldLink RX3 10 "Migrationledger" "list" "LMigrationledger$ChangeList;", .methodLink RX3 78 yX0_count, .instanceMethod yX0_count, .selects RX0 yX0_count yX0_count, .initialized RX0, .code yX0_count cX0_count 1 (some .int), .fieldLink RX0 24 "Migrationledger$ChangeList" "count" "I"] ++ wsX30 ++ wsX00)
def wsX3_checksum : List Cond := .code yX3_checksum cX3_checksum 2 (some .int) :: ([.fieldLink RX3 10 "Migrationledger" "list" "LMigrationledger$ChangeList;", .methodLink RX3 57 yX3_requireListed, .instanceMethod yX3_requireListed, .selects RX3 yX3_requireListed yX3_requireListed, .initialized RX3, .code yX3_requireListed cX3_requireListed 2 none, .classLink RX3 276 "java/lang/IndexOutOfBoundsException", .initialized "java/lang/IndexOutOfBoundsException", .methodLink RX3 273 yX0_contains, .instanceMethod yX0_contains, .selects RX0 yX0_contains yX0_contains, .initialized RX0, .code yX0_contains cX0_contains 2 (some .boolean), .fieldLink RX0 24 "Migrationledger$ChangeList" "count" "I", .methodLink RX3 74 yX0_checksumOf, .instanceMethod yX0_checksumOf, .selects RX0 yX0_checksumOf yX0_checksumOf, .code yX0_checksumOf cX0_checksumOf 4 (some .int), .fieldLink RX0 9 "Migrationledger$ChangeList" "kinds" "[I", .fieldLink RX0 15 "Migrationledger$ChangeList" "columns" "[I", .fieldLink RX0 18 "Migrationledger$ChangeList" "operands" "[I", .constant RX0 32 (65521)] ++ wsX30 ++ wsX00 ++ (vx_atS RX3 280 "java/lang/IndexOutOfBoundsException" ["java/lang/RuntimeException", "java/lang/Exception"]).filter goodWord)
def wsX3_state : List Cond := .code yX3_state cX3_state 2 (some .int) :: ([.fieldLink RX3 81 "Migrationledger" "done" "I", .fieldLink RX3 34 "Migrationledger" "phase" "I", .methodLink RX3 57 yX3_requireListed, .instanceMethod yX3_requireListed, .selects RX3 yX3_requireListed yX3_requireListed, .initialized RX3, .code yX3_requireListed cX3_requireListed 2 none, .classLink RX3 276 "java/lang/IndexOutOfBoundsException", .initialized "java/lang/IndexOutOfBoundsException", .fieldLink RX3 10 "Migrationledger" "list" "LMigrationledger$ChangeList;", .methodLink RX3 273 yX0_contains, .instanceMethod yX0_contains, .selects RX0 yX0_contains yX0_contains, .initialized RX0, .code yX0_contains cX0_contains 2 (some .boolean), .fieldLink RX0 24 "Migrationledger$ChangeList" "count" "I", .methodLink RX3 64 yX3_activeNumber, .instanceMethod yX3_activeNumber, .selects RX3 yX3_activeNumber yX3_activeNumber, .code yX3_activeNumber cX3_activeNumber 1 (some .int)] ++ wsX30 ++ wsX00 ++ (vx_atS RX3 280 "java/lang/IndexOutOfBoundsException" ["java/lang/RuntimeException", "java/lang/Exception"]).filter goodWord)
def wsX3_level : List Cond := .code yX3_level cX3_level 1 (some .int) :: ([.fieldLink RX3 81 "Migrationledger" "done" "I"] ++ wsX30)
def wsX3_drifted : List Cond := .code yX3_drifted cX3_drifted 1 (some .int) :: ([.fieldLink RX3 10 "Migrationledger" "list" "LMigrationledger$ChangeList;", .fieldLink RX3 81 "Migrationledger" "done" "I", .methodLink RX3 84 yX0_firstDrifted, .instanceMethod yX0_firstDrifted, .selects RX0 yX0_firstDrifted yX0_firstDrifted, .initialized RX0, .code yX0_firstDrifted cX0_firstDrifted 3 (some .int), .methodLink RX0 37 yX0_hasDrifted, .instanceMethod yX0_hasDrifted, .selects RX0 yX0_hasDrifted yX0_hasDrifted, .code yX0_hasDrifted cX0_hasDrifted 2 (some .boolean), .fieldLink RX0 21 "Migrationledger$ChangeList" "recorded" "[I", .methodLink RX0 33 yX0_checksumOf, .instanceMethod yX0_checksumOf, .selects RX0 yX0_checksumOf yX0_checksumOf, .code yX0_checksumOf cX0_checksumOf 4 (some .int), .fieldLink RX0 9 "Migrationledger$ChangeList" "kinds" "[I", .fieldLink RX0 15 "Migrationledger$ChangeList" "columns" "[I", .fieldLink RX0 18 "Migrationledger$ChangeList" "operands" "[I", .constant RX0 32 (65521)] ++ wsX30 ++ wsX00)
def wsX3_requireId : List Cond := .code yX3_requireId cX3_requireId 1 none :: ([.classLink RX3 122 "java/lang/IllegalArgumentException", .initialized "java/lang/IllegalArgumentException"] ++ (vx_atS RX3 126 "java/lang/IllegalArgumentException" ["java/lang/RuntimeException", "java/lang/Exception"]).filter goodWord)
def wsX3_requireTableValue : List Cond := .code yX3_requireTableValue cX3_requireTableValue 1 none :: ([.classLink RX3 122 "java/lang/IllegalArgumentException", .initialized "java/lang/IllegalArgumentException", .methodLink RX3 265 yX3_isTableValue, .static yX3_isTableValue, .initialized RX3, .code yX3_isTableValue cX3_isTableValue 2 (some .boolean), .constantLong RX3 246 (-1000000000), .constantLong RX3 248 (1000000000)] ++ (vx_atS RX3 126 "java/lang/IllegalArgumentException" ["java/lang/RuntimeException", "java/lang/Exception"]).filter goodWord)
def wsX3_versionForNewRow : List Cond := .code yX3_versionForNewRow cX3_versionForNewRow 2 (some .int) :: ([.fieldLink RX3 184 "Migrationledger" "position" "I", .fieldLink RX3 81 "Migrationledger" "done" "I", .methodLink RX3 61 yX3_isActive, .instanceMethod yX3_isActive, .selects RX3 yX3_isActive yX3_isActive, .initialized RX3, .code yX3_isActive cX3_isActive 1 (some .boolean), .fieldLink RX3 34 "Migrationledger" "phase" "I", .methodLink RX3 64 yX3_activeNumber, .instanceMethod yX3_activeNumber, .selects RX3 yX3_activeNumber yX3_activeNumber, .code yX3_activeNumber cX3_activeNumber 1 (some .int)] ++ wsX30)
def wsX3_insert_r1 : List Cond := [Cond.classLink RX3 46 "java/lang/IllegalStateException", Cond.initialized "java/lang/IllegalStateException", Cond.fieldLink RX3 19 "Migrationledger" "table" "LMigrationledger$Table;", Cond.methodLink RX3 87 yX3_requireId, Cond.static yX3_requireId, Cond.initialized RX3, Cond.code yX3_requireId cX3_requireId 1 none, Cond.classLink RX3 122 "java/lang/IllegalArgumentException", Cond.initialized "java/lang/IllegalArgumentException", Cond.methodLink RX3 90 yX3_requireTableValue, Cond.static yX3_requireTableValue, Cond.code yX3_requireTableValue cX3_requireTableValue 1 none, Cond.methodLink RX3 265 yX3_isTableValue, Cond.static yX3_isTableValue, Cond.code yX3_isTableValue cX3_isTableValue 2 (some .boolean), Cond.constantLong RX3 246 (-1000000000), Cond.constantLong RX3 248 (1000000000), Cond.methodLink RX3 93 yX2_isPresent, Cond.instanceMethod yX2_isPresent, Cond.selects RX2 yX2_isPresent yX2_isPresent, Cond.initialized RX2, Cond.code yX2_isPresent cX2_isPresent 2 (some .boolean), Cond.fieldLink RX2 15 "Migrationledger$Table" "versions" "[I", Cond.methodLink RX3 99 yX3_versionForNewRow]
def wsX3_insert_r2 : List Cond := [Cond.instanceMethod yX3_versionForNewRow, Cond.selects RX3 yX3_versionForNewRow yX3_versionForNewRow, Cond.code yX3_versionForNewRow cX3_versionForNewRow 2 (some .int), Cond.fieldLink RX3 184 "Migrationledger" "position" "I", Cond.fieldLink RX3 81 "Migrationledger" "done" "I", Cond.methodLink RX3 61 yX3_isActive, Cond.instanceMethod yX3_isActive, Cond.selects RX3 yX3_isActive yX3_isActive, Cond.code yX3_isActive cX3_isActive 1 (some .boolean), Cond.fieldLink RX3 34 "Migrationledger" "phase" "I", Cond.methodLink RX3 64 yX3_activeNumber, Cond.instanceMethod yX3_activeNumber, Cond.selects RX3 yX3_activeNumber yX3_activeNumber, Cond.code yX3_activeNumber cX3_activeNumber 1 (some .int), Cond.methodLink RX3 102 yX2_setCell, Cond.instanceMethod yX2_setCell, Cond.selects RX2 yX2_setCell yX2_setCell, Cond.code yX2_setCell cX2_setCell 4 none, Cond.fieldLink RX2 9 "Migrationledger$Table" "cells" "[I", Cond.methodLink RX3 105 yX2_setVersion, Cond.instanceMethod yX2_setVersion, Cond.selects RX2 yX2_setVersion yX2_setVersion, Cond.code yX2_setVersion cX2_setVersion 3 none]
def wsX3_insert : List Cond := .code yX3_insert cX3_insert 6 (some .int) :: ((wsX3_insert_r1 ++ wsX3_insert_r2) ++ wsX30 ++ wsX20 ++ (vx_atS RX3 50 "java/lang/IllegalStateException" ["java/lang/RuntimeException", "java/lang/Exception"]).filter goodWord ++ (vx_atS RX3 126 "java/lang/IllegalArgumentException" ["java/lang/RuntimeException", "java/lang/Exception"]).filter goodWord)
def wsX3_requirePresent : List Cond := .code yX3_requirePresent cX3_requirePresent 2 none :: ([.classLink RX3 276 "java/lang/IndexOutOfBoundsException", .initialized "java/lang/IndexOutOfBoundsException", .fieldLink RX3 19 "Migrationledger" "table" "LMigrationledger$Table;", .methodLink RX3 93 yX2_isPresent, .instanceMethod yX2_isPresent, .selects RX2 yX2_isPresent yX2_isPresent, .initialized RX2, .code yX2_isPresent cX2_isPresent 2 (some .boolean), .fieldLink RX2 15 "Migrationledger$Table" "versions" "[I"] ++ wsX30 ++ wsX20 ++ (vx_atS RX3 280 "java/lang/IndexOutOfBoundsException" ["java/lang/RuntimeException", "java/lang/Exception"]).filter goodWord)
def wsX3_write_r1 : List Cond := [Cond.fieldLink RX3 19 "Migrationledger" "table" "LMigrationledger$Table;", Cond.methodLink RX3 87 yX3_requireId, Cond.static yX3_requireId, Cond.initialized RX3, Cond.code yX3_requireId cX3_requireId 1 none, Cond.classLink RX3 122 "java/lang/IllegalArgumentException", Cond.initialized "java/lang/IllegalArgumentException", Cond.methodLink RX3 109 yX3_requireColumn, Cond.static yX3_requireColumn, Cond.code yX3_requireColumn cX3_requireColumn 1 none, Cond.methodLink RX3 250 yX3_isColumn, Cond.static yX3_isColumn, Cond.code yX3_isColumn cX3_isColumn 1 (some .boolean), Cond.methodLink RX3 90 yX3_requireTableValue, Cond.static yX3_requireTableValue, Cond.code yX3_requireTableValue cX3_requireTableValue 1 none, Cond.methodLink RX3 265 yX3_isTableValue, Cond.static yX3_isTableValue, Cond.code yX3_isTableValue cX3_isTableValue 2 (some .boolean), Cond.constantLong RX3 246 (-1000000000), Cond.constantLong RX3 248 (1000000000), Cond.methodLink RX3 112 yX3_requirePresent, Cond.instanceMethod yX3_requirePresent, Cond.selects RX3 yX3_requirePresent yX3_requirePresent]
def wsX3_write_r2 : List Cond := [Cond.code yX3_requirePresent cX3_requirePresent 2 none, Cond.classLink RX3 276 "java/lang/IndexOutOfBoundsException", Cond.initialized "java/lang/IndexOutOfBoundsException", Cond.methodLink RX3 93 yX2_isPresent, Cond.instanceMethod yX2_isPresent, Cond.selects RX2 yX2_isPresent yX2_isPresent, Cond.initialized RX2, Cond.code yX2_isPresent cX2_isPresent 2 (some .boolean), Cond.fieldLink RX2 15 "Migrationledger$Table" "versions" "[I", Cond.methodLink RX3 115 yX2_cell, Cond.instanceMethod yX2_cell, Cond.selects RX2 yX2_cell yX2_cell, Cond.code yX2_cell cX2_cell 3 (some .int), Cond.fieldLink RX2 9 "Migrationledger$Table" "cells" "[I", Cond.methodLink RX3 102 yX2_setCell, Cond.instanceMethod yX2_setCell, Cond.selects RX2 yX2_setCell yX2_setCell, Cond.code yX2_setCell cX2_setCell 4 none]
def wsX3_write : List Cond := .code yX3_write cX3_write 5 (some .int) :: ((wsX3_write_r1 ++ wsX3_write_r2) ++ wsX30 ++ wsX20 ++ (vx_atS RX3 126 "java/lang/IllegalArgumentException" ["java/lang/RuntimeException", "java/lang/Exception"]).filter goodWord ++ (vx_atS RX3 280 "java/lang/IndexOutOfBoundsException" ["java/lang/RuntimeException", "java/lang/Exception"]).filter goodWord)
def wsX3_delete_r1 : List Cond := [Cond.fieldLink RX3 19 "Migrationledger" "table" "LMigrationledger$Table;", Cond.methodLink RX3 87 yX3_requireId, Cond.static yX3_requireId, Cond.initialized RX3, Cond.code yX3_requireId cX3_requireId 1 none, Cond.classLink RX3 122 "java/lang/IllegalArgumentException", Cond.initialized "java/lang/IllegalArgumentException", Cond.methodLink RX3 112 yX3_requirePresent, Cond.instanceMethod yX3_requirePresent, Cond.selects RX3 yX3_requirePresent yX3_requirePresent, Cond.code yX3_requirePresent cX3_requirePresent 2 none, Cond.classLink RX3 276 "java/lang/IndexOutOfBoundsException", Cond.initialized "java/lang/IndexOutOfBoundsException", Cond.methodLink RX3 93 yX2_isPresent, Cond.instanceMethod yX2_isPresent, Cond.selects RX2 yX2_isPresent yX2_isPresent, Cond.initialized RX2, Cond.code yX2_isPresent cX2_isPresent 2 (some .boolean), Cond.fieldLink RX2 15 "Migrationledger$Table" "versions" "[I", Cond.methodLink RX3 119 yX2_versionOf, Cond.instanceMethod yX2_versionOf, Cond.selects RX2 yX2_versionOf yX2_versionOf, Cond.code yX2_versionOf cX2_versionOf 2 (some .int), Cond.methodLink RX3 105 yX2_setVersion]
def wsX3_delete_r2 : List Cond := [Cond.instanceMethod yX2_setVersion, Cond.selects RX2 yX2_setVersion yX2_setVersion, Cond.code yX2_setVersion cX2_setVersion 3 none]
def wsX3_delete : List Cond := .code yX3_delete cX3_delete 3 (some .int) :: ((wsX3_delete_r1 ++ wsX3_delete_r2) ++ wsX30 ++ wsX20 ++ (vx_atS RX3 126 "java/lang/IllegalArgumentException" ["java/lang/RuntimeException", "java/lang/Exception"]).filter goodWord ++ (vx_atS RX3 280 "java/lang/IndexOutOfBoundsException" ["java/lang/RuntimeException", "java/lang/Exception"]).filter goodWord)
def wsX3_value_r1 : List Cond := [Cond.fieldLink RX3 19 "Migrationledger" "table" "LMigrationledger$Table;", Cond.methodLink RX3 87 yX3_requireId, Cond.static yX3_requireId, Cond.initialized RX3, Cond.code yX3_requireId cX3_requireId 1 none, Cond.classLink RX3 122 "java/lang/IllegalArgumentException", Cond.initialized "java/lang/IllegalArgumentException", Cond.methodLink RX3 109 yX3_requireColumn, Cond.static yX3_requireColumn, Cond.code yX3_requireColumn cX3_requireColumn 1 none, Cond.methodLink RX3 250 yX3_isColumn, Cond.static yX3_isColumn, Cond.code yX3_isColumn cX3_isColumn 1 (some .boolean), Cond.methodLink RX3 112 yX3_requirePresent, Cond.instanceMethod yX3_requirePresent, Cond.selects RX3 yX3_requirePresent yX3_requirePresent, Cond.code yX3_requirePresent cX3_requirePresent 2 none, Cond.classLink RX3 276 "java/lang/IndexOutOfBoundsException", Cond.initialized "java/lang/IndexOutOfBoundsException", Cond.methodLink RX3 93 yX2_isPresent, Cond.instanceMethod yX2_isPresent, Cond.selects RX2 yX2_isPresent yX2_isPresent, Cond.initialized RX2, Cond.code yX2_isPresent cX2_isPresent 2 (some .boolean)]
def wsX3_value_r2 : List Cond := [Cond.fieldLink RX2 15 "Migrationledger$Table" "versions" "[I", Cond.methodLink RX3 115 yX2_cell, Cond.instanceMethod yX2_cell, Cond.selects RX2 yX2_cell yX2_cell, Cond.code yX2_cell cX2_cell 3 (some .int), Cond.fieldLink RX2 9 "Migrationledger$Table" "cells" "[I"]
def wsX3_value : List Cond := .code yX3_value cX3_value 3 (some .int) :: ((wsX3_value_r1 ++ wsX3_value_r2) ++ wsX30 ++ wsX20 ++ (vx_atS RX3 126 "java/lang/IllegalArgumentException" ["java/lang/RuntimeException", "java/lang/Exception"]).filter goodWord ++ (vx_atS RX3 280 "java/lang/IndexOutOfBoundsException" ["java/lang/RuntimeException", "java/lang/Exception"]).filter goodWord)
def wsX3_version : List Cond := .code yX3_version cX3_version 2 (some .int) :: ([.fieldLink RX3 19 "Migrationledger" "table" "LMigrationledger$Table;", .methodLink RX3 87 yX3_requireId, .static yX3_requireId, .initialized RX3, .code yX3_requireId cX3_requireId 1 none, .classLink RX3 122 "java/lang/IllegalArgumentException", .initialized "java/lang/IllegalArgumentException", .methodLink RX3 119 yX2_versionOf, .instanceMethod yX2_versionOf, .selects RX2 yX2_versionOf yX2_versionOf, .initialized RX2, .code yX2_versionOf cX2_versionOf 2 (some .int), .fieldLink RX2 15 "Migrationledger$Table" "versions" "[I"] ++ wsX30 ++ wsX20 ++ (vx_atS RX3 126 "java/lang/IllegalArgumentException" ["java/lang/RuntimeException", "java/lang/Exception"]).filter goodWord)
def wsX3_rowsAt : List Cond := .code yX3_rowsAt cX3_rowsAt 2 (some .int) :: ([.classLink RX3 122 "java/lang/IllegalArgumentException", .initialized "java/lang/IllegalArgumentException", .fieldLink RX3 19 "Migrationledger" "table" "LMigrationledger$Table;", .methodLink RX3 127 yX2_countWithVersion, .instanceMethod yX2_countWithVersion, .selects RX2 yX2_countWithVersion yX2_countWithVersion, .initialized RX2, .code yX2_countWithVersion cX2_countWithVersion 4 (some .int), .fieldLink RX2 15 "Migrationledger$Table" "versions" "[I"] ++ wsX30 ++ wsX20 ++ (vx_atS RX3 126 "java/lang/IllegalArgumentException" ["java/lang/RuntimeException", "java/lang/Exception"]).filter goodWord)
def wsX3_bringTried_r1 : List Cond := [Cond.fieldLink RX3 10 "Migrationledger" "list" "LMigrationledger$ChangeList;", Cond.fieldLink RX3 30 "Migrationledger" "tried" "[I", Cond.methodLink RX3 239 yX0_applyTo, Cond.instanceMethod yX0_applyTo, Cond.selects RX0 yX0_applyTo yX0_applyTo, Cond.initialized RX0, Cond.code yX0_applyTo cX0_applyTo 7 (some .boolean), Cond.fieldLink RX0 15 "Migrationledger$ChangeList" "columns" "[I", Cond.fieldLink RX0 18 "Migrationledger$ChangeList" "operands" "[I", Cond.fieldLink RX0 9 "Migrationledger$ChangeList" "kinds" "[I", Cond.methodLink RX0 41 yX0_putResult, Cond.static yX0_putResult, Cond.code yX0_putResult cX0_putResult 4 (some .boolean), Cond.static yX3_isTableValue, Cond.initialized RX3, Cond.code yX3_isTableValue cX3_isTableValue 2 (some .boolean), Cond.constantLong RX3 246 (-1000000000), Cond.constantLong RX3 248 (1000000000), Cond.methodLink RX0 45 yX0_exchange, Cond.static yX0_exchange, Cond.code yX0_exchange cX0_exchange 4 (some .boolean), Cond.methodLink RX3 243 yX0_undoOn, Cond.instanceMethod yX0_undoOn, Cond.selects RX0 yX0_undoOn yX0_undoOn]
def wsX3_bringTried_r2 : List Cond := [Cond.code yX0_undoOn cX0_undoOn 7 (some .boolean)]
def wsX3_bringTried : List Cond := .code yX3_bringTried cX3_bringTried 4 (some .boolean) :: ((wsX3_bringTried_r1 ++ wsX3_bringTried_r2) ++ wsX30 ++ wsX00)
def wsX3_valueAt_r1 : List Cond := [Cond.classLink RX3 122 "java/lang/IllegalArgumentException", Cond.initialized "java/lang/IllegalArgumentException", Cond.classLink RX3 46 "java/lang/IllegalStateException", Cond.initialized "java/lang/IllegalStateException", Cond.fieldLink RX3 10 "Migrationledger" "list" "LMigrationledger$ChangeList;", Cond.fieldLink RX3 19 "Migrationledger" "table" "LMigrationledger$Table;", Cond.fieldLink RX3 30 "Migrationledger" "tried" "[I", Cond.methodLink RX3 87 yX3_requireId, Cond.static yX3_requireId, Cond.initialized RX3, Cond.code yX3_requireId cX3_requireId 1 none, Cond.methodLink RX3 109 yX3_requireColumn, Cond.static yX3_requireColumn, Cond.code yX3_requireColumn cX3_requireColumn 1 none, Cond.methodLink RX3 250 yX3_isColumn, Cond.static yX3_isColumn, Cond.code yX3_isColumn cX3_isColumn 1 (some .boolean), Cond.methodLink RX3 78 yX0_count, Cond.instanceMethod yX0_count, Cond.selects RX0 yX0_count yX0_count, Cond.initialized RX0, Cond.code yX0_count cX0_count 1 (some .int), Cond.fieldLink RX0 24 "Migrationledger$ChangeList" "count" "I", Cond.methodLink RX3 112 yX3_requirePresent]
def wsX3_valueAt_r2 : List Cond := [Cond.instanceMethod yX3_requirePresent, Cond.selects RX3 yX3_requirePresent yX3_requirePresent, Cond.code yX3_requirePresent cX3_requirePresent 2 none, Cond.classLink RX3 276 "java/lang/IndexOutOfBoundsException", Cond.initialized "java/lang/IndexOutOfBoundsException", Cond.methodLink RX3 93 yX2_isPresent, Cond.instanceMethod yX2_isPresent, Cond.selects RX2 yX2_isPresent yX2_isPresent, Cond.initialized RX2, Cond.code yX2_isPresent cX2_isPresent 2 (some .boolean), Cond.fieldLink RX2 15 "Migrationledger$Table" "versions" "[I", Cond.methodLink RX3 132 yX2_copyRow, Cond.instanceMethod yX2_copyRow, Cond.selects RX2 yX2_copyRow yX2_copyRow, Cond.code yX2_copyRow cX2_copyRow 4 none, Cond.methodLink RX2 18 yX2_cell, Cond.instanceMethod yX2_cell, Cond.selects RX2 yX2_cell yX2_cell, Cond.code yX2_cell cX2_cell 3 (some .int), Cond.fieldLink RX2 9 "Migrationledger$Table" "cells" "[I", Cond.methodLink RX3 119 yX2_versionOf, Cond.instanceMethod yX2_versionOf, Cond.selects RX2 yX2_versionOf yX2_versionOf, Cond.code yX2_versionOf cX2_versionOf 2 (some .int)]
def wsX3_valueAt_r3 : List Cond := [Cond.methodLink RX3 136 yX3_bringTried, Cond.instanceMethod yX3_bringTried, Cond.selects RX3 yX3_bringTried yX3_bringTried, Cond.code yX3_bringTried cX3_bringTried 4 (some .boolean), Cond.methodLink RX3 239 yX0_applyTo, Cond.instanceMethod yX0_applyTo, Cond.selects RX0 yX0_applyTo yX0_applyTo, Cond.code yX0_applyTo cX0_applyTo 7 (some .boolean), Cond.fieldLink RX0 15 "Migrationledger$ChangeList" "columns" "[I", Cond.fieldLink RX0 18 "Migrationledger$ChangeList" "operands" "[I", Cond.fieldLink RX0 9 "Migrationledger$ChangeList" "kinds" "[I", Cond.methodLink RX0 41 yX0_putResult, Cond.static yX0_putResult, Cond.code yX0_putResult cX0_putResult 4 (some .boolean), Cond.static yX3_isTableValue, Cond.code yX3_isTableValue cX3_isTableValue 2 (some .boolean), Cond.constantLong RX3 246 (-1000000000), Cond.constantLong RX3 248 (1000000000), Cond.methodLink RX0 45 yX0_exchange, Cond.static yX0_exchange, Cond.code yX0_exchange cX0_exchange 4 (some .boolean), Cond.methodLink RX3 243 yX0_undoOn, Cond.instanceMethod yX0_undoOn, Cond.selects RX0 yX0_undoOn yX0_undoOn]
def wsX3_valueAt_r4 : List Cond := [Cond.code yX0_undoOn cX0_undoOn 7 (some .boolean)]
def wsX3_valueAt : List Cond := .code yX3_valueAt cX3_valueAt 4 (some .int) :: ((wsX3_valueAt_r1 ++ (wsX3_valueAt_r2 ++ (wsX3_valueAt_r3 ++ wsX3_valueAt_r4))) ++ wsX30 ++ wsX00 ++ wsX20 ++ (vx_atS RX3 126 "java/lang/IllegalArgumentException" ["java/lang/RuntimeException", "java/lang/Exception"]).filter goodWord ++ (vx_atS RX3 50 "java/lang/IllegalStateException" ["java/lang/RuntimeException", "java/lang/Exception"]).filter goodWord ++ (vx_atS RX3 280 "java/lang/IndexOutOfBoundsException" ["java/lang/RuntimeException", "java/lang/Exception"]).filter goodWord)
def wsX3_requireWorker : List Cond := .code yX3_requireWorker cX3_requireWorker 1 none :: ([.classLink RX3 122 "java/lang/IllegalArgumentException", .initialized "java/lang/IllegalArgumentException"] ++ (vx_atS RX3 126 "java/lang/IllegalArgumentException" ["java/lang/RuntimeException", "java/lang/Exception"]).filter goodWord)
def wsX3_requireNotCrashed : List Cond := .code yX3_requireNotCrashed cX3_requireNotCrashed 2 none :: ([.classLink RX3 46 "java/lang/IllegalStateException", .initialized "java/lang/IllegalStateException", .fieldLink RX3 26 "Migrationledger" "lock" "LMigrationledger$Lock;", .methodLink RX3 164 yX1_hasCrashed, .instanceMethod yX1_hasCrashed, .selects RX1 yX1_hasCrashed yX1_hasCrashed, .initialized RX1, .code yX1_hasCrashed cX1_hasCrashed 2 (some .boolean), .fieldLink RX1 9 "Migrationledger$Lock" "crashed" "[Z"] ++ wsX30 ++ wsX10 ++ (vx_atS RX3 50 "java/lang/IllegalStateException" ["java/lang/RuntimeException", "java/lang/Exception"]).filter goodWord)
def wsX3_take_r1 : List Cond := [Cond.classLink RX3 122 "java/lang/IllegalArgumentException", Cond.initialized "java/lang/IllegalArgumentException", Cond.classLink RX3 46 "java/lang/IllegalStateException", Cond.initialized "java/lang/IllegalStateException", Cond.fieldLink RX3 26 "Migrationledger" "lock" "LMigrationledger$Lock;", Cond.methodLink RX3 142 yX3_requireWorker, Cond.static yX3_requireWorker, Cond.initialized RX3, Cond.code yX3_requireWorker cX3_requireWorker 1 none, Cond.methodLink RX3 147 yX3_requireNotCrashed, Cond.instanceMethod yX3_requireNotCrashed, Cond.selects RX3 yX3_requireNotCrashed yX3_requireNotCrashed, Cond.code yX3_requireNotCrashed cX3_requireNotCrashed 2 none, Cond.methodLink RX3 164 yX1_hasCrashed, Cond.instanceMethod yX1_hasCrashed, Cond.selects RX1 yX1_hasCrashed yX1_hasCrashed, Cond.initialized RX1, Cond.code yX1_hasCrashed cX1_hasCrashed 2 (some .boolean), Cond.fieldLink RX1 9 "Migrationledger$Lock" "crashed" "[Z", Cond.methodLink RX3 150 yX1_owner, Cond.instanceMethod yX1_owner, Cond.selects RX1 yX1_owner yX1_owner, Cond.code yX1_owner cX1_owner 1 (some .int), Cond.fieldLink RX1 19 "Migrationledger$Lock" "time" "I"]
def wsX3_take_r2 : List Cond := [Cond.fieldLink RX1 22 "Migrationledger$Lock" "leaseEnd" "I", Cond.fieldLink RX1 15 "Migrationledger$Lock" "taker" "I", Cond.methodLink RX3 155 yX1_grant, Cond.instanceMethod yX1_grant, Cond.selects RX1 yX1_grant yX1_grant, Cond.code yX1_grant cX1_grant 3 (some .int)]
def wsX3_take : List Cond := .code yX3_take cX3_take 4 (some .int) :: ((wsX3_take_r1 ++ wsX3_take_r2) ++ wsX30 ++ wsX10 ++ (vx_atS RX3 126 "java/lang/IllegalArgumentException" ["java/lang/RuntimeException", "java/lang/Exception"]).filter goodWord ++ (vx_atS RX3 50 "java/lang/IllegalStateException" ["java/lang/RuntimeException", "java/lang/Exception"]).filter goodWord)
def wsX3_requireAtWork : List Cond := .code yX3_requireAtWork cX3_requireAtWork 2 none :: ([.classLink RX3 46 "java/lang/IllegalStateException", .initialized "java/lang/IllegalStateException", .fieldLink RX3 26 "Migrationledger" "lock" "LMigrationledger$Lock;", .methodLink RX3 147 yX3_requireNotCrashed, .instanceMethod yX3_requireNotCrashed, .selects RX3 yX3_requireNotCrashed yX3_requireNotCrashed, .initialized RX3, .code yX3_requireNotCrashed cX3_requireNotCrashed 2 none, .methodLink RX3 164 yX1_hasCrashed, .instanceMethod yX1_hasCrashed, .selects RX1 yX1_hasCrashed yX1_hasCrashed, .initialized RX1, .code yX1_hasCrashed cX1_hasCrashed 2 (some .boolean), .fieldLink RX1 9 "Migrationledger$Lock" "crashed" "[Z", .methodLink RX3 150 yX1_owner, .instanceMethod yX1_owner, .selects RX1 yX1_owner yX1_owner, .code yX1_owner cX1_owner 1 (some .int), .fieldLink RX1 19 "Migrationledger$Lock" "time" "I", .fieldLink RX1 22 "Migrationledger$Lock" "leaseEnd" "I", .fieldLink RX1 15 "Migrationledger$Lock" "taker" "I"] ++ wsX30 ++ wsX10 ++ (vx_atS RX3 50 "java/lang/IllegalStateException" ["java/lang/RuntimeException", "java/lang/Exception"]).filter goodWord)
def wsX3_giveBack_r1 : List Cond := [Cond.fieldLink RX3 26 "Migrationledger" "lock" "LMigrationledger$Lock;", Cond.methodLink RX3 142 yX3_requireWorker, Cond.static yX3_requireWorker, Cond.initialized RX3, Cond.code yX3_requireWorker cX3_requireWorker 1 none, Cond.classLink RX3 122 "java/lang/IllegalArgumentException", Cond.initialized "java/lang/IllegalArgumentException", Cond.methodLink RX3 158 yX3_requireAtWork, Cond.instanceMethod yX3_requireAtWork, Cond.selects RX3 yX3_requireAtWork yX3_requireAtWork, Cond.code yX3_requireAtWork cX3_requireAtWork 2 none, Cond.classLink RX3 46 "java/lang/IllegalStateException", Cond.initialized "java/lang/IllegalStateException", Cond.methodLink RX3 147 yX3_requireNotCrashed, Cond.instanceMethod yX3_requireNotCrashed, Cond.selects RX3 yX3_requireNotCrashed yX3_requireNotCrashed, Cond.code yX3_requireNotCrashed cX3_requireNotCrashed 2 none, Cond.methodLink RX3 164 yX1_hasCrashed, Cond.instanceMethod yX1_hasCrashed, Cond.selects RX1 yX1_hasCrashed yX1_hasCrashed, Cond.initialized RX1, Cond.code yX1_hasCrashed cX1_hasCrashed 2 (some .boolean), Cond.fieldLink RX1 9 "Migrationledger$Lock" "crashed" "[Z", Cond.methodLink RX3 150 yX1_owner]
def wsX3_giveBack_r2 : List Cond := [Cond.instanceMethod yX1_owner, Cond.selects RX1 yX1_owner yX1_owner, Cond.code yX1_owner cX1_owner 1 (some .int), Cond.fieldLink RX1 19 "Migrationledger$Lock" "time" "I", Cond.fieldLink RX1 22 "Migrationledger$Lock" "leaseEnd" "I", Cond.fieldLink RX1 15 "Migrationledger$Lock" "taker" "I", Cond.methodLink RX3 161 yX1_release, Cond.instanceMethod yX1_release, Cond.selects RX1 yX1_release yX1_release, Cond.code yX1_release cX1_release 1 none]
def wsX3_giveBack : List Cond := .code yX3_giveBack cX3_giveBack 2 none :: ((wsX3_giveBack_r1 ++ wsX3_giveBack_r2) ++ wsX30 ++ wsX10 ++ (vx_atS RX3 126 "java/lang/IllegalArgumentException" ["java/lang/RuntimeException", "java/lang/Exception"]).filter goodWord ++ (vx_atS RX3 50 "java/lang/IllegalStateException" ["java/lang/RuntimeException", "java/lang/Exception"]).filter goodWord)
def wsX3_holder : List Cond := .code yX3_holder cX3_holder 1 (some .int) :: ([.fieldLink RX3 26 "Migrationledger" "lock" "LMigrationledger$Lock;", .methodLink RX3 150 yX1_owner, .instanceMethod yX1_owner, .selects RX1 yX1_owner yX1_owner, .initialized RX1, .code yX1_owner cX1_owner 1 (some .int), .fieldLink RX1 19 "Migrationledger$Lock" "time" "I", .fieldLink RX1 22 "Migrationledger$Lock" "leaseEnd" "I", .fieldLink RX1 15 "Migrationledger$Lock" "taker" "I"] ++ wsX30 ++ wsX10)
def wsX3_restart_r1 : List Cond := [Cond.classLink RX3 46 "java/lang/IllegalStateException", Cond.initialized "java/lang/IllegalStateException", Cond.fieldLink RX3 26 "Migrationledger" "lock" "LMigrationledger$Lock;", Cond.methodLink RX3 142 yX3_requireWorker, Cond.static yX3_requireWorker, Cond.initialized RX3, Cond.code yX3_requireWorker cX3_requireWorker 1 none, Cond.classLink RX3 122 "java/lang/IllegalArgumentException", Cond.initialized "java/lang/IllegalArgumentException", Cond.methodLink RX3 164 yX1_hasCrashed, Cond.instanceMethod yX1_hasCrashed, Cond.selects RX1 yX1_hasCrashed yX1_hasCrashed, Cond.initialized RX1, Cond.code yX1_hasCrashed cX1_hasCrashed 2 (some .boolean), Cond.fieldLink RX1 9 "Migrationledger$Lock" "crashed" "[Z", Cond.methodLink RX3 169 yX1_setCrashed, Cond.instanceMethod yX1_setCrashed, Cond.selects RX1 yX1_setCrashed yX1_setCrashed, Cond.code yX1_setCrashed cX1_setCrashed 3 none, Cond.methodLink RX3 150 yX1_owner, Cond.instanceMethod yX1_owner, Cond.selects RX1 yX1_owner yX1_owner, Cond.code yX1_owner cX1_owner 1 (some .int), Cond.fieldLink RX1 19 "Migrationledger$Lock" "time" "I"]
def wsX3_restart_r2 : List Cond := [Cond.fieldLink RX1 22 "Migrationledger$Lock" "leaseEnd" "I", Cond.fieldLink RX1 15 "Migrationledger$Lock" "taker" "I"]
def wsX3_restart : List Cond := .code yX3_restart cX3_restart 2 (some .boolean) :: ((wsX3_restart_r1 ++ wsX3_restart_r2) ++ wsX30 ++ wsX10 ++ (vx_atS RX3 50 "java/lang/IllegalStateException" ["java/lang/RuntimeException", "java/lang/Exception"]).filter goodWord ++ (vx_atS RX3 126 "java/lang/IllegalArgumentException" ["java/lang/RuntimeException", "java/lang/Exception"]).filter goodWord)
def wsX3_pass : List Cond := .code yX3_pass cX3_pass 2 (some .int) :: ([.classLink RX3 122 "java/lang/IllegalArgumentException", .initialized "java/lang/IllegalArgumentException", .fieldLink RX3 26 "Migrationledger" "lock" "LMigrationledger$Lock;", .methodLink RX3 175 yX1_advance, .instanceMethod yX1_advance, .selects RX1 yX1_advance yX1_advance, .initialized RX1, .code yX1_advance cX1_advance 2 (some .int), .fieldLink RX1 19 "Migrationledger$Lock" "time" "I"] ++ wsX30 ++ wsX10 ++ (vx_atS RX3 126 "java/lang/IllegalArgumentException" ["java/lang/RuntimeException", "java/lang/Exception"]).filter goodWord)
def wsX3_begin_r1 : List Cond := [Cond.classLink RX3 46 "java/lang/IllegalStateException", Cond.initialized "java/lang/IllegalStateException", Cond.fieldLink RX3 10 "Migrationledger" "list" "LMigrationledger$ChangeList;", Cond.fieldLink RX3 81 "Migrationledger" "done" "I", Cond.fieldLink RX3 34 "Migrationledger" "phase" "I", Cond.fieldLink RX3 184 "Migrationledger" "position" "I", Cond.methodLink RX3 142 yX3_requireWorker, Cond.static yX3_requireWorker, Cond.initialized RX3, Cond.code yX3_requireWorker cX3_requireWorker 1 none, Cond.classLink RX3 122 "java/lang/IllegalArgumentException", Cond.initialized "java/lang/IllegalArgumentException", Cond.methodLink RX3 158 yX3_requireAtWork, Cond.instanceMethod yX3_requireAtWork, Cond.selects RX3 yX3_requireAtWork yX3_requireAtWork, Cond.code yX3_requireAtWork cX3_requireAtWork 2 none, Cond.fieldLink RX3 26 "Migrationledger" "lock" "LMigrationledger$Lock;", Cond.methodLink RX3 147 yX3_requireNotCrashed, Cond.instanceMethod yX3_requireNotCrashed, Cond.selects RX3 yX3_requireNotCrashed yX3_requireNotCrashed, Cond.code yX3_requireNotCrashed cX3_requireNotCrashed 2 none, Cond.methodLink RX3 164 yX1_hasCrashed, Cond.instanceMethod yX1_hasCrashed, Cond.selects RX1 yX1_hasCrashed yX1_hasCrashed]
def wsX3_begin_r2 : List Cond := [Cond.initialized RX1, Cond.code yX1_hasCrashed cX1_hasCrashed 2 (some .boolean), Cond.fieldLink RX1 9 "Migrationledger$Lock" "crashed" "[Z", Cond.methodLink RX3 150 yX1_owner, Cond.instanceMethod yX1_owner, Cond.selects RX1 yX1_owner yX1_owner, Cond.code yX1_owner cX1_owner 1 (some .int), Cond.fieldLink RX1 19 "Migrationledger$Lock" "time" "I", Cond.fieldLink RX1 22 "Migrationledger$Lock" "leaseEnd" "I", Cond.fieldLink RX1 15 "Migrationledger$Lock" "taker" "I", Cond.methodLink RX3 61 yX3_isActive, Cond.instanceMethod yX3_isActive, Cond.selects RX3 yX3_isActive yX3_isActive, Cond.code yX3_isActive cX3_isActive 1 (some .boolean), Cond.methodLink RX3 84 yX0_firstDrifted, Cond.instanceMethod yX0_firstDrifted, Cond.selects RX0 yX0_firstDrifted yX0_firstDrifted, Cond.initialized RX0, Cond.code yX0_firstDrifted cX0_firstDrifted 3 (some .int), Cond.methodLink RX0 37 yX0_hasDrifted, Cond.instanceMethod yX0_hasDrifted, Cond.selects RX0 yX0_hasDrifted yX0_hasDrifted, Cond.code yX0_hasDrifted cX0_hasDrifted 2 (some .boolean), Cond.fieldLink RX0 21 "Migrationledger$ChangeList" "recorded" "[I"]
def wsX3_begin_r3 : List Cond := [Cond.methodLink RX0 33 yX0_checksumOf, Cond.instanceMethod yX0_checksumOf, Cond.selects RX0 yX0_checksumOf yX0_checksumOf, Cond.code yX0_checksumOf cX0_checksumOf 4 (some .int), Cond.fieldLink RX0 9 "Migrationledger$ChangeList" "kinds" "[I", Cond.fieldLink RX0 15 "Migrationledger$ChangeList" "columns" "[I", Cond.fieldLink RX0 18 "Migrationledger$ChangeList" "operands" "[I", Cond.constant RX0 32 (65521), Cond.methodLink RX3 78 yX0_count, Cond.instanceMethod yX0_count, Cond.selects RX0 yX0_count yX0_count, Cond.code yX0_count cX0_count 1 (some .int), Cond.fieldLink RX0 24 "Migrationledger$ChangeList" "count" "I", Cond.methodLink RX3 64 yX3_activeNumber, Cond.instanceMethod yX3_activeNumber, Cond.selects RX3 yX3_activeNumber yX3_activeNumber, Cond.code yX3_activeNumber cX3_activeNumber 1 (some .int), Cond.methodLink RX3 187 yX0_recordChecksum, Cond.instanceMethod yX0_recordChecksum, Cond.selects RX0 yX0_recordChecksum yX0_recordChecksum, Cond.code yX0_recordChecksum cX0_recordChecksum 2 none]
def wsX3_begin : List Cond := .code yX3_begin cX3_begin 2 (some .int) :: ((wsX3_begin_r1 ++ (wsX3_begin_r2 ++ wsX3_begin_r3)) ++ wsX30 ++ wsX10 ++ wsX00 ++ (vx_atS RX3 50 "java/lang/IllegalStateException" ["java/lang/RuntimeException", "java/lang/Exception"]).filter goodWord ++ (vx_atS RX3 126 "java/lang/IllegalArgumentException" ["java/lang/RuntimeException", "java/lang/Exception"]).filter goodWord)
def wsX3_requireUndoableDone : List Cond := .code yX3_requireUndoableDone cX3_requireUndoableDone 1 none :: ([.classLink RX3 46 "java/lang/IllegalStateException", .initialized "java/lang/IllegalStateException", .fieldLink RX3 81 "Migrationledger" "done" "I", .fieldLink RX3 10 "Migrationledger" "list" "LMigrationledger$ChangeList;", .methodLink RX3 291 yX0_hasDrifted, .instanceMethod yX0_hasDrifted, .selects RX0 yX0_hasDrifted yX0_hasDrifted, .initialized RX0, .code yX0_hasDrifted cX0_hasDrifted 2 (some .boolean), .fieldLink RX0 21 "Migrationledger$ChangeList" "recorded" "[I", .methodLink RX0 33 yX0_checksumOf, .instanceMethod yX0_checksumOf, .selects RX0 yX0_checksumOf yX0_checksumOf, .code yX0_checksumOf cX0_checksumOf 4 (some .int), .fieldLink RX0 9 "Migrationledger$ChangeList" "kinds" "[I", .fieldLink RX0 15 "Migrationledger$ChangeList" "columns" "[I", .fieldLink RX0 18 "Migrationledger$ChangeList" "operands" "[I", .constant RX0 32 (65521)] ++ wsX30 ++ wsX00 ++ (vx_atS RX3 50 "java/lang/IllegalStateException" ["java/lang/RuntimeException", "java/lang/Exception"]).filter goodWord)
def wsX3_undo_r1 : List Cond := [Cond.classLink RX3 46 "java/lang/IllegalStateException", Cond.initialized "java/lang/IllegalStateException", Cond.fieldLink RX3 34 "Migrationledger" "phase" "I", Cond.fieldLink RX3 81 "Migrationledger" "done" "I", Cond.fieldLink RX3 184 "Migrationledger" "position" "I", Cond.methodLink RX3 142 yX3_requireWorker, Cond.static yX3_requireWorker, Cond.initialized RX3, Cond.code yX3_requireWorker cX3_requireWorker 1 none, Cond.classLink RX3 122 "java/lang/IllegalArgumentException", Cond.initialized "java/lang/IllegalArgumentException", Cond.methodLink RX3 158 yX3_requireAtWork, Cond.instanceMethod yX3_requireAtWork, Cond.selects RX3 yX3_requireAtWork yX3_requireAtWork, Cond.code yX3_requireAtWork cX3_requireAtWork 2 none, Cond.fieldLink RX3 26 "Migrationledger" "lock" "LMigrationledger$Lock;", Cond.methodLink RX3 147 yX3_requireNotCrashed, Cond.instanceMethod yX3_requireNotCrashed, Cond.selects RX3 yX3_requireNotCrashed yX3_requireNotCrashed, Cond.code yX3_requireNotCrashed cX3_requireNotCrashed 2 none, Cond.methodLink RX3 164 yX1_hasCrashed, Cond.instanceMethod yX1_hasCrashed, Cond.selects RX1 yX1_hasCrashed yX1_hasCrashed, Cond.initialized RX1]
def wsX3_undo_r2 : List Cond := [Cond.code yX1_hasCrashed cX1_hasCrashed 2 (some .boolean), Cond.fieldLink RX1 9 "Migrationledger$Lock" "crashed" "[Z", Cond.methodLink RX3 150 yX1_owner, Cond.instanceMethod yX1_owner, Cond.selects RX1 yX1_owner yX1_owner, Cond.code yX1_owner cX1_owner 1 (some .int), Cond.fieldLink RX1 19 "Migrationledger$Lock" "time" "I", Cond.fieldLink RX1 22 "Migrationledger$Lock" "leaseEnd" "I", Cond.fieldLink RX1 15 "Migrationledger$Lock" "taker" "I", Cond.methodLink RX3 192 yX3_requireUndoableDone, Cond.instanceMethod yX3_requireUndoableDone, Cond.selects RX3 yX3_requireUndoableDone yX3_requireUndoableDone, Cond.code yX3_requireUndoableDone cX3_requireUndoableDone 1 none, Cond.fieldLink RX3 10 "Migrationledger" "list" "LMigrationledger$ChangeList;", Cond.methodLink RX3 291 yX0_hasDrifted, Cond.instanceMethod yX0_hasDrifted, Cond.selects RX0 yX0_hasDrifted yX0_hasDrifted, Cond.initialized RX0, Cond.code yX0_hasDrifted cX0_hasDrifted 2 (some .boolean), Cond.fieldLink RX0 21 "Migrationledger$ChangeList" "recorded" "[I", Cond.methodLink RX0 33 yX0_checksumOf, Cond.instanceMethod yX0_checksumOf, Cond.selects RX0 yX0_checksumOf yX0_checksumOf, Cond.code yX0_checksumOf cX0_checksumOf 4 (some .int)]
def wsX3_undo_r3 : List Cond := [Cond.fieldLink RX0 9 "Migrationledger$ChangeList" "kinds" "[I", Cond.fieldLink RX0 15 "Migrationledger$ChangeList" "columns" "[I", Cond.fieldLink RX0 18 "Migrationledger$ChangeList" "operands" "[I", Cond.constant RX0 32 (65521), Cond.methodLink RX3 64 yX3_activeNumber, Cond.instanceMethod yX3_activeNumber, Cond.selects RX3 yX3_activeNumber yX3_activeNumber, Cond.code yX3_activeNumber cX3_activeNumber 1 (some .int)]
def wsX3_undo : List Cond := .code yX3_undo cX3_undo 2 (some .int) :: ((wsX3_undo_r1 ++ (wsX3_undo_r2 ++ wsX3_undo_r3)) ++ wsX30 ++ wsX10 ++ wsX00 ++ (vx_atS RX3 50 "java/lang/IllegalStateException" ["java/lang/RuntimeException", "java/lang/Exception"]).filter goodWord ++ (vx_atS RX3 126 "java/lang/IllegalArgumentException" ["java/lang/RuntimeException", "java/lang/Exception"]).filter goodWord)
def wsX3_requireActive : List Cond := .code yX3_requireActive cX3_requireActive 1 none :: ([.classLink RX3 46 "java/lang/IllegalStateException", .initialized "java/lang/IllegalStateException", .methodLink RX3 61 yX3_isActive, .instanceMethod yX3_isActive, .selects RX3 yX3_isActive yX3_isActive, .initialized RX3, .code yX3_isActive cX3_isActive 1 (some .boolean), .fieldLink RX3 34 "Migrationledger" "phase" "I"] ++ wsX30 ++ (vx_atS RX3 50 "java/lang/IllegalStateException" ["java/lang/RuntimeException", "java/lang/Exception"]).filter goodWord)
def wsX3_idsLeft : List Cond := .code yX3_idsLeft cX3_idsLeft 1 (some .int) :: ([.fieldLink RX3 34 "Migrationledger" "phase" "I", .fieldLink RX3 184 "Migrationledger" "position" "I"] ++ wsX30)
def wsX3_idBehind : List Cond := .code yX3_idBehind cX3_idBehind 2 (some .int) :: ([.fieldLink RX3 34 "Migrationledger" "phase" "I", .fieldLink RX3 184 "Migrationledger" "position" "I"] ++ wsX30)
def wsX3_isToBeChanged : List Cond := .code yX3_isToBeChanged cX3_isToBeChanged 3 (some .boolean) :: ([.fieldLink RX3 19 "Migrationledger" "table" "LMigrationledger$Table;", .fieldLink RX3 34 "Migrationledger" "phase" "I", .methodLink RX3 93 yX2_isPresent, .instanceMethod yX2_isPresent, .selects RX2 yX2_isPresent yX2_isPresent, .initialized RX2, .code yX2_isPresent cX2_isPresent 2 (some .boolean), .fieldLink RX2 15 "Migrationledger$Table" "versions" "[I", .methodLink RX3 119 yX2_versionOf, .instanceMethod yX2_versionOf, .selects RX2 yX2_versionOf yX2_versionOf, .code yX2_versionOf cX2_versionOf 2 (some .int), .methodLink RX3 64 yX3_activeNumber, .instanceMethod yX3_activeNumber, .selects RX3 yX3_activeNumber yX3_activeNumber, .initialized RX3, .code yX3_activeNumber cX3_activeNumber 1 (some .int), .fieldLink RX3 81 "Migrationledger" "done" "I"] ++ wsX30 ++ wsX20)
def wsX3_changeRow_r1 : List Cond := [Cond.fieldLink RX3 19 "Migrationledger" "table" "LMigrationledger$Table;", Cond.fieldLink RX3 34 "Migrationledger" "phase" "I", Cond.fieldLink RX3 30 "Migrationledger" "tried" "[I", Cond.methodLink RX3 119 yX2_versionOf, Cond.instanceMethod yX2_versionOf, Cond.selects RX2 yX2_versionOf yX2_versionOf, Cond.initialized RX2, Cond.code yX2_versionOf cX2_versionOf 2 (some .int), Cond.fieldLink RX2 15 "Migrationledger$Table" "versions" "[I", Cond.methodLink RX3 132 yX2_copyRow, Cond.instanceMethod yX2_copyRow, Cond.selects RX2 yX2_copyRow yX2_copyRow, Cond.code yX2_copyRow cX2_copyRow 4 none, Cond.methodLink RX2 18 yX2_cell, Cond.instanceMethod yX2_cell, Cond.selects RX2 yX2_cell yX2_cell, Cond.code yX2_cell cX2_cell 3 (some .int), Cond.fieldLink RX2 9 "Migrationledger$Table" "cells" "[I", Cond.methodLink RX3 136 yX3_bringTried, Cond.instanceMethod yX3_bringTried, Cond.selects RX3 yX3_bringTried yX3_bringTried, Cond.initialized RX3, Cond.code yX3_bringTried cX3_bringTried 4 (some .boolean), Cond.fieldLink RX3 10 "Migrationledger" "list" "LMigrationledger$ChangeList;"]
def wsX3_changeRow_r2 : List Cond := [Cond.methodLink RX3 239 yX0_applyTo, Cond.instanceMethod yX0_applyTo, Cond.selects RX0 yX0_applyTo yX0_applyTo, Cond.initialized RX0, Cond.code yX0_applyTo cX0_applyTo 7 (some .boolean), Cond.fieldLink RX0 15 "Migrationledger$ChangeList" "columns" "[I", Cond.fieldLink RX0 18 "Migrationledger$ChangeList" "operands" "[I", Cond.fieldLink RX0 9 "Migrationledger$ChangeList" "kinds" "[I", Cond.methodLink RX0 41 yX0_putResult, Cond.static yX0_putResult, Cond.code yX0_putResult cX0_putResult 4 (some .boolean), Cond.static yX3_isTableValue, Cond.code yX3_isTableValue cX3_isTableValue 2 (some .boolean), Cond.constantLong RX3 246 (-1000000000), Cond.constantLong RX3 248 (1000000000), Cond.methodLink RX0 45 yX0_exchange, Cond.static yX0_exchange, Cond.code yX0_exchange cX0_exchange 4 (some .boolean), Cond.methodLink RX3 243 yX0_undoOn, Cond.instanceMethod yX0_undoOn, Cond.selects RX0 yX0_undoOn yX0_undoOn, Cond.code yX0_undoOn cX0_undoOn 7 (some .boolean), Cond.methodLink RX3 236 yX2_storeRow, Cond.instanceMethod yX2_storeRow]
def wsX3_changeRow_r3 : List Cond := [Cond.selects RX2 yX2_storeRow yX2_storeRow, Cond.code yX2_storeRow cX2_storeRow 4 none, Cond.methodLink RX2 22 yX2_setCell, Cond.instanceMethod yX2_setCell, Cond.selects RX2 yX2_setCell yX2_setCell, Cond.code yX2_setCell cX2_setCell 4 none, Cond.methodLink RX3 105 yX2_setVersion, Cond.instanceMethod yX2_setVersion, Cond.selects RX2 yX2_setVersion yX2_setVersion, Cond.code yX2_setVersion cX2_setVersion 3 none]
def wsX3_changeRow : List Cond := .code yX3_changeRow cX3_changeRow 4 (some .boolean) :: ((wsX3_changeRow_r1 ++ (wsX3_changeRow_r2 ++ wsX3_changeRow_r3)) ++ wsX30 ++ wsX20 ++ wsX00)
def wsX3_positionBehind : List Cond := .code yX3_positionBehind cX3_positionBehind 2 (some .int) :: ([.fieldLink RX3 34 "Migrationledger" "phase" "I", .fieldLink RX3 184 "Migrationledger" "position" "I"] ++ wsX30)
def wsX3_endIfAllPassed : List Cond := .code yX3_endIfAllPassed cX3_endIfAllPassed 1 none :: ([.fieldLink RX3 34 "Migrationledger" "phase" "I", .fieldLink RX3 81 "Migrationledger" "done" "I", .methodLink RX3 202 yX3_idsLeft, .instanceMethod yX3_idsLeft, .selects RX3 yX3_idsLeft yX3_idsLeft, .initialized RX3, .code yX3_idsLeft cX3_idsLeft 1 (some .int), .fieldLink RX3 184 "Migrationledger" "position" "I"] ++ wsX30)
def wsX3_goThrough_r1 : List Cond := [Cond.fieldLink RX3 184 "Migrationledger" "position" "I", Cond.fieldLink RX3 26 "Migrationledger" "lock" "LMigrationledger$Lock;", Cond.methodLink RX3 221 yX3_idBehind, Cond.instanceMethod yX3_idBehind, Cond.selects RX3 yX3_idBehind yX3_idBehind, Cond.initialized RX3, Cond.code yX3_idBehind cX3_idBehind 2 (some .int), Cond.fieldLink RX3 34 "Migrationledger" "phase" "I", Cond.methodLink RX3 224 yX3_isToBeChanged, Cond.instanceMethod yX3_isToBeChanged, Cond.selects RX3 yX3_isToBeChanged yX3_isToBeChanged, Cond.code yX3_isToBeChanged cX3_isToBeChanged 3 (some .boolean), Cond.fieldLink RX3 19 "Migrationledger" "table" "LMigrationledger$Table;", Cond.methodLink RX3 93 yX2_isPresent, Cond.instanceMethod yX2_isPresent, Cond.selects RX2 yX2_isPresent yX2_isPresent, Cond.initialized RX2, Cond.code yX2_isPresent cX2_isPresent 2 (some .boolean), Cond.fieldLink RX2 15 "Migrationledger$Table" "versions" "[I", Cond.methodLink RX3 119 yX2_versionOf, Cond.instanceMethod yX2_versionOf, Cond.selects RX2 yX2_versionOf yX2_versionOf, Cond.code yX2_versionOf cX2_versionOf 2 (some .int), Cond.methodLink RX3 64 yX3_activeNumber]
def wsX3_goThrough_r2 : List Cond := [Cond.instanceMethod yX3_activeNumber, Cond.selects RX3 yX3_activeNumber yX3_activeNumber, Cond.code yX3_activeNumber cX3_activeNumber 1 (some .int), Cond.fieldLink RX3 81 "Migrationledger" "done" "I", Cond.methodLink RX3 227 yX3_changeRow, Cond.instanceMethod yX3_changeRow, Cond.selects RX3 yX3_changeRow yX3_changeRow, Cond.code yX3_changeRow cX3_changeRow 4 (some .boolean), Cond.fieldLink RX3 30 "Migrationledger" "tried" "[I", Cond.methodLink RX3 132 yX2_copyRow, Cond.instanceMethod yX2_copyRow, Cond.selects RX2 yX2_copyRow yX2_copyRow, Cond.code yX2_copyRow cX2_copyRow 4 none, Cond.methodLink RX2 18 yX2_cell, Cond.instanceMethod yX2_cell, Cond.selects RX2 yX2_cell yX2_cell, Cond.code yX2_cell cX2_cell 3 (some .int), Cond.fieldLink RX2 9 "Migrationledger$Table" "cells" "[I", Cond.methodLink RX3 136 yX3_bringTried, Cond.instanceMethod yX3_bringTried, Cond.selects RX3 yX3_bringTried yX3_bringTried, Cond.code yX3_bringTried cX3_bringTried 4 (some .boolean), Cond.fieldLink RX3 10 "Migrationledger" "list" "LMigrationledger$ChangeList;", Cond.methodLink RX3 239 yX0_applyTo]
def wsX3_goThrough_r3 : List Cond := [Cond.instanceMethod yX0_applyTo, Cond.selects RX0 yX0_applyTo yX0_applyTo, Cond.initialized RX0, Cond.code yX0_applyTo cX0_applyTo 7 (some .boolean), Cond.fieldLink RX0 15 "Migrationledger$ChangeList" "columns" "[I", Cond.fieldLink RX0 18 "Migrationledger$ChangeList" "operands" "[I", Cond.fieldLink RX0 9 "Migrationledger$ChangeList" "kinds" "[I", Cond.methodLink RX0 41 yX0_putResult, Cond.static yX0_putResult, Cond.code yX0_putResult cX0_putResult 4 (some .boolean), Cond.static yX3_isTableValue, Cond.code yX3_isTableValue cX3_isTableValue 2 (some .boolean), Cond.constantLong RX3 246 (-1000000000), Cond.constantLong RX3 248 (1000000000), Cond.methodLink RX0 45 yX0_exchange, Cond.static yX0_exchange, Cond.code yX0_exchange cX0_exchange 4 (some .boolean), Cond.methodLink RX3 243 yX0_undoOn, Cond.instanceMethod yX0_undoOn, Cond.selects RX0 yX0_undoOn yX0_undoOn, Cond.code yX0_undoOn cX0_undoOn 7 (some .boolean), Cond.methodLink RX3 236 yX2_storeRow, Cond.instanceMethod yX2_storeRow, Cond.selects RX2 yX2_storeRow yX2_storeRow]
def wsX3_goThrough_r4 : List Cond := [Cond.code yX2_storeRow cX2_storeRow 4 none, Cond.methodLink RX2 22 yX2_setCell, Cond.instanceMethod yX2_setCell, Cond.selects RX2 yX2_setCell yX2_setCell, Cond.code yX2_setCell cX2_setCell 4 none, Cond.methodLink RX3 105 yX2_setVersion, Cond.instanceMethod yX2_setVersion, Cond.selects RX2 yX2_setVersion yX2_setVersion, Cond.code yX2_setVersion cX2_setVersion 3 none, Cond.methodLink RX3 230 yX3_positionBehind, Cond.instanceMethod yX3_positionBehind, Cond.selects RX3 yX3_positionBehind yX3_positionBehind, Cond.code yX3_positionBehind cX3_positionBehind 2 (some .int), Cond.methodLink RX3 169 yX1_setCrashed, Cond.instanceMethod yX1_setCrashed, Cond.selects RX1 yX1_setCrashed yX1_setCrashed, Cond.initialized RX1, Cond.code yX1_setCrashed cX1_setCrashed 3 none, Cond.fieldLink RX1 9 "Migrationledger$Lock" "crashed" "[Z", Cond.methodLink RX3 233 yX3_endIfAllPassed, Cond.instanceMethod yX3_endIfAllPassed, Cond.selects RX3 yX3_endIfAllPassed yX3_endIfAllPassed, Cond.code yX3_endIfAllPassed cX3_endIfAllPassed 1 none, Cond.methodLink RX3 202 yX3_idsLeft]
def wsX3_goThrough_r5 : List Cond := [Cond.instanceMethod yX3_idsLeft, Cond.selects RX3 yX3_idsLeft yX3_idsLeft, Cond.code yX3_idsLeft cX3_idsLeft 1 (some .int)]
def wsX3_goThrough : List Cond := .code yX3_goThrough cX3_goThrough 7 (some .int) :: ((wsX3_goThrough_r1 ++ (wsX3_goThrough_r2 ++ (wsX3_goThrough_r3 ++ (wsX3_goThrough_r4 ++ wsX3_goThrough_r5)))) ++ wsX30 ++ wsX20 ++ wsX00 ++ wsX10)
def wsX3_step_r1 : List Cond := [Cond.classLink RX3 122 "java/lang/IllegalArgumentException", Cond.initialized "java/lang/IllegalArgumentException", Cond.methodLink RX3 205 Lib.Math.min.name, Cond.static Lib.Math.min.name, Cond.initialized "java/lang/Math", Cond.code Lib.Math.min.name Lib.Math.min.code 2 (some .int), Cond.methodLink RX3 142 yX3_requireWorker, Cond.static yX3_requireWorker, Cond.initialized RX3, Cond.code yX3_requireWorker cX3_requireWorker 1 none, Cond.methodLink RX3 158 yX3_requireAtWork, Cond.instanceMethod yX3_requireAtWork, Cond.selects RX3 yX3_requireAtWork yX3_requireAtWork, Cond.code yX3_requireAtWork cX3_requireAtWork 2 none, Cond.classLink RX3 46 "java/lang/IllegalStateException", Cond.initialized "java/lang/IllegalStateException", Cond.fieldLink RX3 26 "Migrationledger" "lock" "LMigrationledger$Lock;", Cond.methodLink RX3 147 yX3_requireNotCrashed, Cond.instanceMethod yX3_requireNotCrashed, Cond.selects RX3 yX3_requireNotCrashed yX3_requireNotCrashed, Cond.code yX3_requireNotCrashed cX3_requireNotCrashed 2 none, Cond.methodLink RX3 164 yX1_hasCrashed, Cond.instanceMethod yX1_hasCrashed, Cond.selects RX1 yX1_hasCrashed yX1_hasCrashed]
def wsX3_step_r2 : List Cond := [Cond.initialized RX1, Cond.code yX1_hasCrashed cX1_hasCrashed 2 (some .boolean), Cond.fieldLink RX1 9 "Migrationledger$Lock" "crashed" "[Z", Cond.methodLink RX3 150 yX1_owner, Cond.instanceMethod yX1_owner, Cond.selects RX1 yX1_owner yX1_owner, Cond.code yX1_owner cX1_owner 1 (some .int), Cond.fieldLink RX1 19 "Migrationledger$Lock" "time" "I", Cond.fieldLink RX1 22 "Migrationledger$Lock" "leaseEnd" "I", Cond.fieldLink RX1 15 "Migrationledger$Lock" "taker" "I", Cond.methodLink RX3 199 yX3_requireActive, Cond.instanceMethod yX3_requireActive, Cond.selects RX3 yX3_requireActive yX3_requireActive, Cond.code yX3_requireActive cX3_requireActive 1 none, Cond.methodLink RX3 61 yX3_isActive, Cond.instanceMethod yX3_isActive, Cond.selects RX3 yX3_isActive yX3_isActive, Cond.code yX3_isActive cX3_isActive 1 (some .boolean), Cond.fieldLink RX3 34 "Migrationledger" "phase" "I", Cond.methodLink RX3 202 yX3_idsLeft, Cond.instanceMethod yX3_idsLeft, Cond.selects RX3 yX3_idsLeft yX3_idsLeft, Cond.code yX3_idsLeft cX3_idsLeft 1 (some .int), Cond.fieldLink RX3 184 "Migrationledger" "position" "I"]
def wsX3_step_r3 : List Cond := [Cond.methodLink RX3 210 yX3_goThrough, Cond.instanceMethod yX3_goThrough, Cond.selects RX3 yX3_goThrough yX3_goThrough, Cond.code yX3_goThrough cX3_goThrough 7 (some .int), Cond.methodLink RX3 221 yX3_idBehind, Cond.instanceMethod yX3_idBehind, Cond.selects RX3 yX3_idBehind yX3_idBehind, Cond.code yX3_idBehind cX3_idBehind 2 (some .int), Cond.methodLink RX3 224 yX3_isToBeChanged, Cond.instanceMethod yX3_isToBeChanged, Cond.selects RX3 yX3_isToBeChanged yX3_isToBeChanged, Cond.code yX3_isToBeChanged cX3_isToBeChanged 3 (some .boolean), Cond.fieldLink RX3 19 "Migrationledger" "table" "LMigrationledger$Table;", Cond.methodLink RX3 93 yX2_isPresent, Cond.instanceMethod yX2_isPresent, Cond.selects RX2 yX2_isPresent yX2_isPresent, Cond.initialized RX2, Cond.code yX2_isPresent cX2_isPresent 2 (some .boolean), Cond.fieldLink RX2 15 "Migrationledger$Table" "versions" "[I", Cond.methodLink RX3 119 yX2_versionOf, Cond.instanceMethod yX2_versionOf, Cond.selects RX2 yX2_versionOf yX2_versionOf, Cond.code yX2_versionOf cX2_versionOf 2 (some .int), Cond.methodLink RX3 64 yX3_activeNumber]
def wsX3_step_r4 : List Cond := [Cond.instanceMethod yX3_activeNumber, Cond.selects RX3 yX3_activeNumber yX3_activeNumber, Cond.code yX3_activeNumber cX3_activeNumber 1 (some .int), Cond.fieldLink RX3 81 "Migrationledger" "done" "I", Cond.methodLink RX3 227 yX3_changeRow, Cond.instanceMethod yX3_changeRow, Cond.selects RX3 yX3_changeRow yX3_changeRow, Cond.code yX3_changeRow cX3_changeRow 4 (some .boolean), Cond.fieldLink RX3 30 "Migrationledger" "tried" "[I", Cond.methodLink RX3 132 yX2_copyRow, Cond.instanceMethod yX2_copyRow, Cond.selects RX2 yX2_copyRow yX2_copyRow, Cond.code yX2_copyRow cX2_copyRow 4 none, Cond.methodLink RX2 18 yX2_cell, Cond.instanceMethod yX2_cell, Cond.selects RX2 yX2_cell yX2_cell, Cond.code yX2_cell cX2_cell 3 (some .int), Cond.fieldLink RX2 9 "Migrationledger$Table" "cells" "[I", Cond.methodLink RX3 136 yX3_bringTried, Cond.instanceMethod yX3_bringTried, Cond.selects RX3 yX3_bringTried yX3_bringTried, Cond.code yX3_bringTried cX3_bringTried 4 (some .boolean), Cond.fieldLink RX3 10 "Migrationledger" "list" "LMigrationledger$ChangeList;", Cond.methodLink RX3 239 yX0_applyTo]
def wsX3_step_r5 : List Cond := [Cond.instanceMethod yX0_applyTo, Cond.selects RX0 yX0_applyTo yX0_applyTo, Cond.initialized RX0, Cond.code yX0_applyTo cX0_applyTo 7 (some .boolean), Cond.fieldLink RX0 15 "Migrationledger$ChangeList" "columns" "[I", Cond.fieldLink RX0 18 "Migrationledger$ChangeList" "operands" "[I", Cond.fieldLink RX0 9 "Migrationledger$ChangeList" "kinds" "[I", Cond.methodLink RX0 41 yX0_putResult, Cond.static yX0_putResult, Cond.code yX0_putResult cX0_putResult 4 (some .boolean), Cond.static yX3_isTableValue, Cond.code yX3_isTableValue cX3_isTableValue 2 (some .boolean), Cond.constantLong RX3 246 (-1000000000), Cond.constantLong RX3 248 (1000000000), Cond.methodLink RX0 45 yX0_exchange, Cond.static yX0_exchange, Cond.code yX0_exchange cX0_exchange 4 (some .boolean), Cond.methodLink RX3 243 yX0_undoOn, Cond.instanceMethod yX0_undoOn, Cond.selects RX0 yX0_undoOn yX0_undoOn, Cond.code yX0_undoOn cX0_undoOn 7 (some .boolean), Cond.methodLink RX3 236 yX2_storeRow, Cond.instanceMethod yX2_storeRow, Cond.selects RX2 yX2_storeRow yX2_storeRow]
def wsX3_step_r6 : List Cond := [Cond.code yX2_storeRow cX2_storeRow 4 none, Cond.methodLink RX2 22 yX2_setCell, Cond.instanceMethod yX2_setCell, Cond.selects RX2 yX2_setCell yX2_setCell, Cond.code yX2_setCell cX2_setCell 4 none, Cond.methodLink RX3 105 yX2_setVersion, Cond.instanceMethod yX2_setVersion, Cond.selects RX2 yX2_setVersion yX2_setVersion, Cond.code yX2_setVersion cX2_setVersion 3 none, Cond.methodLink RX3 230 yX3_positionBehind, Cond.instanceMethod yX3_positionBehind, Cond.selects RX3 yX3_positionBehind yX3_positionBehind, Cond.code yX3_positionBehind cX3_positionBehind 2 (some .int), Cond.methodLink RX3 169 yX1_setCrashed, Cond.instanceMethod yX1_setCrashed, Cond.selects RX1 yX1_setCrashed yX1_setCrashed, Cond.code yX1_setCrashed cX1_setCrashed 3 none, Cond.methodLink RX3 233 yX3_endIfAllPassed, Cond.instanceMethod yX3_endIfAllPassed, Cond.selects RX3 yX3_endIfAllPassed yX3_endIfAllPassed, Cond.code yX3_endIfAllPassed cX3_endIfAllPassed 1 none]
def wsX3_step : List Cond := .code yX3_step cX3_step 4 (some .int) :: ((wsX3_step_r1 ++ (wsX3_step_r2 ++ (wsX3_step_r3 ++ (wsX3_step_r4 ++ (wsX3_step_r5 ++ wsX3_step_r6))))) ++ wsX30 ++ wsX10 ++ wsX20 ++ wsX00 ++ (vx_atS RX3 126 "java/lang/IllegalArgumentException" ["java/lang/RuntimeException", "java/lang/Exception"]).filter goodWord ++ (vx_atS RX3 50 "java/lang/IllegalStateException" ["java/lang/RuntimeException", "java/lang/Exception"]).filter goodWord)
def wsX3_cursor : List Cond := .code yX3_cursor cX3_cursor 1 (some .int) :: ([.fieldLink RX3 184 "Migrationledger" "position" "I", .methodLink RX3 199 yX3_requireActive, .instanceMethod yX3_requireActive, .selects RX3 yX3_requireActive yX3_requireActive, .initialized RX3, .code yX3_requireActive cX3_requireActive 1 none, .classLink RX3 46 "java/lang/IllegalStateException", .initialized "java/lang/IllegalStateException", .methodLink RX3 61 yX3_isActive, .instanceMethod yX3_isActive, .selects RX3 yX3_isActive yX3_isActive, .code yX3_isActive cX3_isActive 1 (some .boolean), .fieldLink RX3 34 "Migrationledger" "phase" "I"] ++ wsX30 ++ (vx_atS RX3 50 "java/lang/IllegalStateException" ["java/lang/RuntimeException", "java/lang/Exception"]).filter goodWord)
def wsX3_share_r1 : List Cond := [Cond.classLink RX3 46 "java/lang/IllegalStateException", Cond.initialized "java/lang/IllegalStateException", Cond.fieldLink RX3 19 "Migrationledger" "table" "LMigrationledger$Table;", Cond.methodLink RX3 199 yX3_requireActive, Cond.instanceMethod yX3_requireActive, Cond.selects RX3 yX3_requireActive yX3_requireActive, Cond.initialized RX3, Cond.code yX3_requireActive cX3_requireActive 1 none, Cond.methodLink RX3 61 yX3_isActive, Cond.instanceMethod yX3_isActive, Cond.selects RX3 yX3_isActive yX3_isActive, Cond.code yX3_isActive cX3_isActive 1 (some .boolean), Cond.fieldLink RX3 34 "Migrationledger" "phase" "I", Cond.methodLink RX3 213 yX2_countPresent, Cond.instanceMethod yX2_countPresent, Cond.selects RX2 yX2_countPresent yX2_countPresent, Cond.initialized RX2, Cond.code yX2_countPresent cX2_countPresent 1 (some .int), Cond.methodLink RX2 26 yX2_countFromVersion, Cond.instanceMethod yX2_countFromVersion, Cond.selects RX2 yX2_countFromVersion yX2_countFromVersion, Cond.code yX2_countFromVersion cX2_countFromVersion 4 (some .int), Cond.fieldLink RX2 15 "Migrationledger$Table" "versions" "[I", Cond.methodLink RX3 64 yX3_activeNumber]
def wsX3_share_r2 : List Cond := [Cond.instanceMethod yX3_activeNumber, Cond.selects RX3 yX3_activeNumber yX3_activeNumber, Cond.code yX3_activeNumber cX3_activeNumber 1 (some .int), Cond.fieldLink RX3 81 "Migrationledger" "done" "I", Cond.methodLink RX3 218 yX2_countFromVersion]
def wsX3_share : List Cond := .code yX3_share cX3_share 2 (some .float) :: ((wsX3_share_r1 ++ wsX3_share_r2) ++ wsX30 ++ wsX20 ++ (vx_atS RX3 50 "java/lang/IllegalStateException" ["java/lang/RuntimeException", "java/lang/Exception"]).filter goodWord)
def wsX4_init : List Cond := .code yX4_init cX4_init 2 none :: ([.methodLink RX4 1 objectInit, .instanceMethod objectInit, .code objectInit ⟨#[0xb1]⟩ 1 none, .arrayClass .int, .fieldLink RX4 7 "MigrationledgerModel" "kinds" "[I", .fieldLink RX4 13 "MigrationledgerModel" "columns" "[I", .fieldLink RX4 16 "MigrationledgerModel" "operands" "[I", .fieldLink RX4 19 "MigrationledgerModel" "recorded" "[I", .fieldLink RX4 22 "MigrationledgerModel" "versions" "[I", .fieldLink RX4 25 "MigrationledgerModel" "values" "[I", .arrayClass .long, .fieldLink RX4 28 "MigrationledgerModel" "spare" "[J", .fieldLink RX4 32 "MigrationledgerModel" "holder" "I", .arrayClass .boolean, .fieldLink RX4 36 "MigrationledgerModel" "hasCrashed" "[Z"] ++ wsX40)
def wsX4_thrown : List Cond := .code yX4_thrown cX4_thrown 1 (some .int) :: ([.fieldLink RX4 40 "MigrationledgerModel" "refusal" "I"] ++ wsX40)
def wsX4_refused : List Cond := .code yX4_refused cX4_refused 2 (some .boolean) :: ([.fieldLink RX4 40 "MigrationledgerModel" "refusal" "I"] ++ wsX40)
def wsX4_fine : List Cond := .code yX4_fine cX4_fine 2 (some .int) :: ([.fieldLink RX4 40 "MigrationledgerModel" "refusal" "I"] ++ wsX40)
def wsX4_in : List Cond := .code yX4_in cX4_in 3 (some .boolean) :: ([])
def wsX4_isValue : List Cond := .code yX4_isValue cX4_isValue 2 (some .boolean) :: ([.constantLong RX4 43 (-1000000000), .constantLong RX4 45 (1000000000)])
def wsX4_isChange : List Cond := .code yX4_isChange cX4_isChange 4 (some .boolean) :: ([.methodLink RX4 47 yX4_in, .static yX4_in, .initialized RX4, .code yX4_in cX4_in 3 (some .boolean)])
def wsX4_sumOf : List Cond := .code yX4_sumOf cX4_sumOf 2 (some .int) :: ([.fieldLink RX4 7 "MigrationledgerModel" "kinds" "[I", .fieldLink RX4 13 "MigrationledgerModel" "columns" "[I", .fieldLink RX4 16 "MigrationledgerModel" "operands" "[I", .constant RX4 51 (65521)] ++ wsX40)
def wsX4_put : List Cond := .code yX4_put cX4_put 5 none :: ([.fieldLink RX4 7 "MigrationledgerModel" "kinds" "[I", .fieldLink RX4 13 "MigrationledgerModel" "columns" "[I", .fieldLink RX4 16 "MigrationledgerModel" "operands" "[I"] ++ wsX40)
def wsX4_addChange : List Cond := .code yX4_addChange cX4_addChange 4 (some .int) :: ([.fieldLink RX4 55 "MigrationledgerModel" "many" "I", .methodLink RX4 52 yX4_isChange, .static yX4_isChange, .initialized RX4, .code yX4_isChange cX4_isChange 4 (some .boolean), .methodLink RX4 47 yX4_in, .static yX4_in, .code yX4_in cX4_in 3 (some .boolean), .methodLink RX4 58 yX4_refused, .instanceMethod yX4_refused, .selects RX4 yX4_refused yX4_refused, .code yX4_refused cX4_refused 2 (some .boolean), .fieldLink RX4 40 "MigrationledgerModel" "refusal" "I", .methodLink RX4 62 yX4_put, .instanceMethod yX4_put, .selects RX4 yX4_put yX4_put, .code yX4_put cX4_put 5 none, .fieldLink RX4 7 "MigrationledgerModel" "kinds" "[I", .fieldLink RX4 13 "MigrationledgerModel" "columns" "[I", .fieldLink RX4 16 "MigrationledgerModel" "operands" "[I"] ++ wsX40)
def wsX4_stateOf : List Cond := .code yX4_stateOf cX4_stateOf 2 (some .int) :: ([.fieldLink RX4 66 "MigrationledgerModel" "level" "I", .fieldLink RX4 69 "MigrationledgerModel" "active" "I"] ++ wsX40)
def wsX4_edit_r1 : List Cond := [Cond.fieldLink RX4 55 "MigrationledgerModel" "many" "I", Cond.methodLink RX4 52 yX4_isChange, Cond.static yX4_isChange, Cond.initialized RX4, Cond.code yX4_isChange cX4_isChange 4 (some .boolean), Cond.methodLink RX4 47 yX4_in, Cond.static yX4_in, Cond.code yX4_in cX4_in 3 (some .boolean), Cond.methodLink RX4 72 yX4_stateOf, Cond.instanceMethod yX4_stateOf, Cond.selects RX4 yX4_stateOf yX4_stateOf, Cond.code yX4_stateOf cX4_stateOf 2 (some .int), Cond.fieldLink RX4 66 "MigrationledgerModel" "level" "I", Cond.fieldLink RX4 69 "MigrationledgerModel" "active" "I", Cond.methodLink RX4 58 yX4_refused, Cond.instanceMethod yX4_refused, Cond.selects RX4 yX4_refused yX4_refused, Cond.code yX4_refused cX4_refused 2 (some .boolean), Cond.fieldLink RX4 40 "MigrationledgerModel" "refusal" "I", Cond.methodLink RX4 62 yX4_put, Cond.instanceMethod yX4_put, Cond.selects RX4 yX4_put yX4_put, Cond.code yX4_put cX4_put 5 none, Cond.fieldLink RX4 7 "MigrationledgerModel" "kinds" "[I"]
def wsX4_edit_r2 : List Cond := [Cond.fieldLink RX4 13 "MigrationledgerModel" "columns" "[I", Cond.fieldLink RX4 16 "MigrationledgerModel" "operands" "[I", Cond.methodLink RX4 76 yX4_sumOf, Cond.instanceMethod yX4_sumOf, Cond.selects RX4 yX4_sumOf yX4_sumOf, Cond.code yX4_sumOf cX4_sumOf 2 (some .int), Cond.constant RX4 51 (65521)]
def wsX4_edit : List Cond := .code yX4_edit cX4_edit 6 (some .int) :: ((wsX4_edit_r1 ++ wsX4_edit_r2) ++ wsX40)
def wsX4_changes : List Cond := .code yX4_changes cX4_changes 1 (some .int) :: ([.fieldLink RX4 55 "MigrationledgerModel" "many" "I", .methodLink RX4 79 yX4_fine, .instanceMethod yX4_fine, .selects RX4 yX4_fine yX4_fine, .initialized RX4, .code yX4_fine cX4_fine 2 (some .int), .fieldLink RX4 40 "MigrationledgerModel" "refusal" "I"] ++ wsX40)
def wsX4_checksum : List Cond := .code yX4_checksum cX4_checksum 2 (some .int) :: ([.fieldLink RX4 55 "MigrationledgerModel" "many" "I", .methodLink RX4 47 yX4_in, .static yX4_in, .initialized RX4, .code yX4_in cX4_in 3 (some .boolean), .methodLink RX4 58 yX4_refused, .instanceMethod yX4_refused, .selects RX4 yX4_refused yX4_refused, .code yX4_refused cX4_refused 2 (some .boolean), .fieldLink RX4 40 "MigrationledgerModel" "refusal" "I", .methodLink RX4 76 yX4_sumOf, .instanceMethod yX4_sumOf, .selects RX4 yX4_sumOf yX4_sumOf, .code yX4_sumOf cX4_sumOf 2 (some .int), .fieldLink RX4 7 "MigrationledgerModel" "kinds" "[I", .fieldLink RX4 13 "MigrationledgerModel" "columns" "[I", .fieldLink RX4 16 "MigrationledgerModel" "operands" "[I", .constant RX4 51 (65521)] ++ wsX40)
def wsX4_state : List Cond := .code yX4_state cX4_state 2 (some .int) :: ([.fieldLink RX4 55 "MigrationledgerModel" "many" "I", .methodLink RX4 47 yX4_in, .static yX4_in, .initialized RX4, .code yX4_in cX4_in 3 (some .boolean), .methodLink RX4 58 yX4_refused, .instanceMethod yX4_refused, .selects RX4 yX4_refused yX4_refused, .code yX4_refused cX4_refused 2 (some .boolean), .fieldLink RX4 40 "MigrationledgerModel" "refusal" "I", .methodLink RX4 72 yX4_stateOf, .instanceMethod yX4_stateOf, .selects RX4 yX4_stateOf yX4_stateOf, .code yX4_stateOf cX4_stateOf 2 (some .int), .fieldLink RX4 66 "MigrationledgerModel" "level" "I", .fieldLink RX4 69 "MigrationledgerModel" "active" "I"] ++ wsX40)
def wsX4_level : List Cond := .code yX4_level cX4_level 1 (some .int) :: ([.fieldLink RX4 66 "MigrationledgerModel" "level" "I", .methodLink RX4 79 yX4_fine, .instanceMethod yX4_fine, .selects RX4 yX4_fine yX4_fine, .initialized RX4, .code yX4_fine cX4_fine 2 (some .int), .fieldLink RX4 40 "MigrationledgerModel" "refusal" "I"] ++ wsX40)
def wsX4_firstDrift : List Cond := .code yX4_firstDrift cX4_firstDrift 3 (some .int) :: ([.fieldLink RX4 66 "MigrationledgerModel" "level" "I", .fieldLink RX4 19 "MigrationledgerModel" "recorded" "[I", .methodLink RX4 76 yX4_sumOf, .instanceMethod yX4_sumOf, .selects RX4 yX4_sumOf yX4_sumOf, .initialized RX4, .code yX4_sumOf cX4_sumOf 2 (some .int), .fieldLink RX4 7 "MigrationledgerModel" "kinds" "[I", .fieldLink RX4 13 "MigrationledgerModel" "columns" "[I", .fieldLink RX4 16 "MigrationledgerModel" "operands" "[I", .constant RX4 51 (65521)] ++ wsX40)
def wsX4_drifted : List Cond := .code yX4_drifted cX4_drifted 1 (some .int) :: ([.methodLink RX4 82 yX4_firstDrift, .instanceMethod yX4_firstDrift, .selects RX4 yX4_firstDrift yX4_firstDrift, .initialized RX4, .code yX4_firstDrift cX4_firstDrift 3 (some .int), .fieldLink RX4 66 "MigrationledgerModel" "level" "I", .fieldLink RX4 19 "MigrationledgerModel" "recorded" "[I", .methodLink RX4 76 yX4_sumOf, .instanceMethod yX4_sumOf, .selects RX4 yX4_sumOf yX4_sumOf, .code yX4_sumOf cX4_sumOf 2 (some .int), .fieldLink RX4 7 "MigrationledgerModel" "kinds" "[I", .fieldLink RX4 13 "MigrationledgerModel" "columns" "[I", .fieldLink RX4 16 "MigrationledgerModel" "operands" "[I", .constant RX4 51 (65521), .methodLink RX4 79 yX4_fine, .instanceMethod yX4_fine, .selects RX4 yX4_fine yX4_fine, .code yX4_fine cX4_fine 2 (some .int), .fieldLink RX4 40 "MigrationledgerModel" "refusal" "I"] ++ wsX40)
def wsX4_isRow : List Cond := .code yX4_isRow cX4_isRow 1 (some .boolean) :: ([.methodLink RX4 47 yX4_in, .static yX4_in, .initialized RX4, .code yX4_in cX4_in 3 (some .boolean)])
def wsX4_insert : List Cond := .code yX4_insert cX4_insert 6 (some .int) :: ([.fieldLink RX4 22 "MigrationledgerModel" "versions" "[I", .fieldLink RX4 69 "MigrationledgerModel" "active" "I", .fieldLink RX4 93 "MigrationledgerModel" "cursor" "I", .fieldLink RX4 66 "MigrationledgerModel" "level" "I", .fieldLink RX4 25 "MigrationledgerModel" "values" "[I", .methodLink RX4 86 yX4_isRow, .static yX4_isRow, .initialized RX4, .code yX4_isRow cX4_isRow 1 (some .boolean), .methodLink RX4 47 yX4_in, .static yX4_in, .code yX4_in cX4_in 3 (some .boolean), .methodLink RX4 89 yX4_isValue, .static yX4_isValue, .code yX4_isValue cX4_isValue 2 (some .boolean), .constantLong RX4 43 (-1000000000), .constantLong RX4 45 (1000000000), .methodLink RX4 58 yX4_refused, .instanceMethod yX4_refused, .selects RX4 yX4_refused yX4_refused, .code yX4_refused cX4_refused 2 (some .boolean), .fieldLink RX4 40 "MigrationledgerModel" "refusal" "I"] ++ wsX40)
def wsX4_noRow : List Cond := .code yX4_noRow cX4_noRow 3 (some .boolean) :: ([.fieldLink RX4 22 "MigrationledgerModel" "versions" "[I", .methodLink RX4 86 yX4_isRow, .static yX4_isRow, .initialized RX4, .code yX4_isRow cX4_isRow 1 (some .boolean), .methodLink RX4 47 yX4_in, .static yX4_in, .code yX4_in cX4_in 3 (some .boolean), .methodLink RX4 58 yX4_refused, .instanceMethod yX4_refused, .selects RX4 yX4_refused yX4_refused, .code yX4_refused cX4_refused 2 (some .boolean), .fieldLink RX4 40 "MigrationledgerModel" "refusal" "I"] ++ wsX40)
def wsX4_write : List Cond := .code yX4_write cX4_write 5 (some .int) :: ([.fieldLink RX4 25 "MigrationledgerModel" "values" "[I", .methodLink RX4 47 yX4_in, .static yX4_in, .initialized RX4, .code yX4_in cX4_in 3 (some .boolean), .methodLink RX4 89 yX4_isValue, .static yX4_isValue, .code yX4_isValue cX4_isValue 2 (some .boolean), .constantLong RX4 43 (-1000000000), .constantLong RX4 45 (1000000000), .methodLink RX4 96 yX4_noRow, .instanceMethod yX4_noRow, .selects RX4 yX4_noRow yX4_noRow, .code yX4_noRow cX4_noRow 3 (some .boolean), .fieldLink RX4 22 "MigrationledgerModel" "versions" "[I", .methodLink RX4 86 yX4_isRow, .static yX4_isRow, .code yX4_isRow cX4_isRow 1 (some .boolean), .methodLink RX4 58 yX4_refused, .instanceMethod yX4_refused, .selects RX4 yX4_refused yX4_refused, .code yX4_refused cX4_refused 2 (some .boolean), .fieldLink RX4 40 "MigrationledgerModel" "refusal" "I"] ++ wsX40)
def wsX4_delete : List Cond := .code yX4_delete cX4_delete 3 (some .int) :: ([.fieldLink RX4 22 "MigrationledgerModel" "versions" "[I", .methodLink RX4 96 yX4_noRow, .instanceMethod yX4_noRow, .selects RX4 yX4_noRow yX4_noRow, .initialized RX4, .code yX4_noRow cX4_noRow 3 (some .boolean), .methodLink RX4 86 yX4_isRow, .static yX4_isRow, .code yX4_isRow cX4_isRow 1 (some .boolean), .methodLink RX4 47 yX4_in, .static yX4_in, .code yX4_in cX4_in 3 (some .boolean), .methodLink RX4 58 yX4_refused, .instanceMethod yX4_refused, .selects RX4 yX4_refused yX4_refused, .code yX4_refused cX4_refused 2 (some .boolean), .fieldLink RX4 40 "MigrationledgerModel" "refusal" "I"] ++ wsX40)
def wsX4_value : List Cond := .code yX4_value cX4_value 3 (some .int) :: ([.fieldLink RX4 25 "MigrationledgerModel" "values" "[I", .methodLink RX4 47 yX4_in, .static yX4_in, .initialized RX4, .code yX4_in cX4_in 3 (some .boolean), .methodLink RX4 96 yX4_noRow, .instanceMethod yX4_noRow, .selects RX4 yX4_noRow yX4_noRow, .code yX4_noRow cX4_noRow 3 (some .boolean), .fieldLink RX4 22 "MigrationledgerModel" "versions" "[I", .methodLink RX4 86 yX4_isRow, .static yX4_isRow, .code yX4_isRow cX4_isRow 1 (some .boolean), .methodLink RX4 58 yX4_refused, .instanceMethod yX4_refused, .selects RX4 yX4_refused yX4_refused, .code yX4_refused cX4_refused 2 (some .boolean), .fieldLink RX4 40 "MigrationledgerModel" "refusal" "I"] ++ wsX40)
def wsX4_version : List Cond := .code yX4_version cX4_version 2 (some .int) :: ([.fieldLink RX4 22 "MigrationledgerModel" "versions" "[I", .methodLink RX4 86 yX4_isRow, .static yX4_isRow, .initialized RX4, .code yX4_isRow cX4_isRow 1 (some .boolean), .methodLink RX4 47 yX4_in, .static yX4_in, .code yX4_in cX4_in 3 (some .boolean), .methodLink RX4 58 yX4_refused, .instanceMethod yX4_refused, .selects RX4 yX4_refused yX4_refused, .code yX4_refused cX4_refused 2 (some .boolean), .fieldLink RX4 40 "MigrationledgerModel" "refusal" "I"] ++ wsX40)
def wsX4_rowsAt : List Cond := .code yX4_rowsAt cX4_rowsAt 4 (some .int) :: ([.fieldLink RX4 22 "MigrationledgerModel" "versions" "[I", .methodLink RX4 47 yX4_in, .static yX4_in, .initialized RX4, .code yX4_in cX4_in 3 (some .boolean), .methodLink RX4 58 yX4_refused, .instanceMethod yX4_refused, .selects RX4 yX4_refused yX4_refused, .code yX4_refused cX4_refused 2 (some .boolean), .fieldLink RX4 40 "MigrationledgerModel" "refusal" "I"] ++ wsX40)
def wsX4_takeSpare : List Cond := .code yX4_takeSpare cX4_takeSpare 3 none :: ([.fieldLink RX4 28 "MigrationledgerModel" "spare" "[J", .fieldLink RX4 25 "MigrationledgerModel" "values" "[I"] ++ wsX40)
def wsX4_tries : List Cond := .code yX4_tries cX4_tries 9 (some .boolean) :: ([.fieldLink RX4 13 "MigrationledgerModel" "columns" "[I", .fieldLink RX4 16 "MigrationledgerModel" "operands" "[I", .fieldLink RX4 28 "MigrationledgerModel" "spare" "[J", .fieldLink RX4 7 "MigrationledgerModel" "kinds" "[I", .methodLink RX4 89 yX4_isValue, .static yX4_isValue, .initialized RX4, .code yX4_isValue cX4_isValue 2 (some .boolean), .constantLong RX4 43 (-1000000000), .constantLong RX4 45 (1000000000)] ++ wsX40)
def wsX4_valueAt_r1 : List Cond := [Cond.fieldLink RX4 55 "MigrationledgerModel" "many" "I", Cond.fieldLink RX4 22 "MigrationledgerModel" "versions" "[I", Cond.fieldLink RX4 28 "MigrationledgerModel" "spare" "[J", Cond.methodLink RX4 47 yX4_in, Cond.static yX4_in, Cond.initialized RX4, Cond.code yX4_in cX4_in 3 (some .boolean), Cond.methodLink RX4 96 yX4_noRow, Cond.instanceMethod yX4_noRow, Cond.selects RX4 yX4_noRow yX4_noRow, Cond.code yX4_noRow cX4_noRow 3 (some .boolean), Cond.methodLink RX4 86 yX4_isRow, Cond.static yX4_isRow, Cond.code yX4_isRow cX4_isRow 1 (some .boolean), Cond.methodLink RX4 58 yX4_refused, Cond.instanceMethod yX4_refused, Cond.selects RX4 yX4_refused yX4_refused, Cond.code yX4_refused cX4_refused 2 (some .boolean), Cond.fieldLink RX4 40 "MigrationledgerModel" "refusal" "I", Cond.methodLink RX4 100 yX4_takeSpare, Cond.instanceMethod yX4_takeSpare, Cond.selects RX4 yX4_takeSpare yX4_takeSpare, Cond.code yX4_takeSpare cX4_takeSpare 3 none, Cond.fieldLink RX4 25 "MigrationledgerModel" "values" "[I"]
def wsX4_valueAt_r2 : List Cond := [Cond.methodLink RX4 104 yX4_tries, Cond.instanceMethod yX4_tries, Cond.selects RX4 yX4_tries yX4_tries, Cond.code yX4_tries cX4_tries 9 (some .boolean), Cond.fieldLink RX4 13 "MigrationledgerModel" "columns" "[I", Cond.fieldLink RX4 16 "MigrationledgerModel" "operands" "[I", Cond.fieldLink RX4 7 "MigrationledgerModel" "kinds" "[I", Cond.methodLink RX4 89 yX4_isValue, Cond.static yX4_isValue, Cond.code yX4_isValue cX4_isValue 2 (some .boolean), Cond.constantLong RX4 43 (-1000000000), Cond.constantLong RX4 45 (1000000000)]
def wsX4_valueAt : List Cond := .code yX4_valueAt cX4_valueAt 6 (some .int) :: ((wsX4_valueAt_r1 ++ wsX4_valueAt_r2) ++ wsX40)
def wsX4_isHeld : List Cond := .code yX4_isHeld cX4_isHeld 1 (some .boolean) :: ([.fieldLink RX4 32 "MigrationledgerModel" "holder" "I", .fieldLink RX4 108 "MigrationledgerModel" "time" "I", .fieldLink RX4 111 "MigrationledgerModel" "leaseEnd" "I"] ++ wsX40)
def wsX4_has : List Cond := .code yX4_has cX4_has 2 (some .boolean) :: ([.fieldLink RX4 32 "MigrationledgerModel" "holder" "I", .methodLink RX4 114 yX4_isHeld, .instanceMethod yX4_isHeld, .selects RX4 yX4_isHeld yX4_isHeld, .initialized RX4, .code yX4_isHeld cX4_isHeld 1 (some .boolean), .fieldLink RX4 108 "MigrationledgerModel" "time" "I", .fieldLink RX4 111 "MigrationledgerModel" "leaseEnd" "I"] ++ wsX40)
def wsX4_isWorker : List Cond := .code yX4_isWorker cX4_isWorker 1 (some .boolean) :: ([.methodLink RX4 47 yX4_in, .static yX4_in, .initialized RX4, .code yX4_in cX4_in 3 (some .boolean)])
def wsX4_cannot : List Cond := .code yX4_cannot cX4_cannot 2 (some .boolean) :: ([.fieldLink RX4 36 "MigrationledgerModel" "hasCrashed" "[Z", .methodLink RX4 118 yX4_has, .instanceMethod yX4_has, .selects RX4 yX4_has yX4_has, .initialized RX4, .code yX4_has cX4_has 2 (some .boolean), .fieldLink RX4 32 "MigrationledgerModel" "holder" "I", .methodLink RX4 114 yX4_isHeld, .instanceMethod yX4_isHeld, .selects RX4 yX4_isHeld yX4_isHeld, .code yX4_isHeld cX4_isHeld 1 (some .boolean), .fieldLink RX4 108 "MigrationledgerModel" "time" "I", .fieldLink RX4 111 "MigrationledgerModel" "leaseEnd" "I"] ++ wsX40)
def wsX4_take : List Cond := .code yX4_take cX4_take 4 (some .int) :: ([.fieldLink RX4 36 "MigrationledgerModel" "hasCrashed" "[Z", .fieldLink RX4 32 "MigrationledgerModel" "holder" "I", .fieldLink RX4 108 "MigrationledgerModel" "time" "I", .fieldLink RX4 111 "MigrationledgerModel" "leaseEnd" "I", .methodLink RX4 121 yX4_isWorker, .static yX4_isWorker, .initialized RX4, .code yX4_isWorker cX4_isWorker 1 (some .boolean), .methodLink RX4 47 yX4_in, .static yX4_in, .code yX4_in cX4_in 3 (some .boolean), .methodLink RX4 114 yX4_isHeld, .instanceMethod yX4_isHeld, .selects RX4 yX4_isHeld yX4_isHeld, .code yX4_isHeld cX4_isHeld 1 (some .boolean), .methodLink RX4 58 yX4_refused, .instanceMethod yX4_refused, .selects RX4 yX4_refused yX4_refused, .code yX4_refused cX4_refused 2 (some .boolean), .fieldLink RX4 40 "MigrationledgerModel" "refusal" "I"] ++ wsX40)
def wsX4_giveBack_r1 : List Cond := [Cond.fieldLink RX4 32 "MigrationledgerModel" "holder" "I", Cond.methodLink RX4 121 yX4_isWorker, Cond.static yX4_isWorker, Cond.initialized RX4, Cond.code yX4_isWorker cX4_isWorker 1 (some .boolean), Cond.methodLink RX4 47 yX4_in, Cond.static yX4_in, Cond.code yX4_in cX4_in 3 (some .boolean), Cond.methodLink RX4 124 yX4_cannot, Cond.instanceMethod yX4_cannot, Cond.selects RX4 yX4_cannot yX4_cannot, Cond.code yX4_cannot cX4_cannot 2 (some .boolean), Cond.fieldLink RX4 36 "MigrationledgerModel" "hasCrashed" "[Z", Cond.methodLink RX4 118 yX4_has, Cond.instanceMethod yX4_has, Cond.selects RX4 yX4_has yX4_has, Cond.code yX4_has cX4_has 2 (some .boolean), Cond.methodLink RX4 114 yX4_isHeld, Cond.instanceMethod yX4_isHeld, Cond.selects RX4 yX4_isHeld yX4_isHeld, Cond.code yX4_isHeld cX4_isHeld 1 (some .boolean), Cond.fieldLink RX4 108 "MigrationledgerModel" "time" "I", Cond.fieldLink RX4 111 "MigrationledgerModel" "leaseEnd" "I", Cond.methodLink RX4 58 yX4_refused]
def wsX4_giveBack_r2 : List Cond := [Cond.instanceMethod yX4_refused, Cond.selects RX4 yX4_refused yX4_refused, Cond.code yX4_refused cX4_refused 2 (some .boolean), Cond.fieldLink RX4 40 "MigrationledgerModel" "refusal" "I"]
def wsX4_giveBack : List Cond := .code yX4_giveBack cX4_giveBack 2 none :: ((wsX4_giveBack_r1 ++ wsX4_giveBack_r2) ++ wsX40)
def wsX4_holder : List Cond := .code yX4_holder cX4_holder 1 (some .int) :: ([.fieldLink RX4 32 "MigrationledgerModel" "holder" "I", .methodLink RX4 114 yX4_isHeld, .instanceMethod yX4_isHeld, .selects RX4 yX4_isHeld yX4_isHeld, .initialized RX4, .code yX4_isHeld cX4_isHeld 1 (some .boolean), .fieldLink RX4 108 "MigrationledgerModel" "time" "I", .fieldLink RX4 111 "MigrationledgerModel" "leaseEnd" "I", .methodLink RX4 79 yX4_fine, .instanceMethod yX4_fine, .selects RX4 yX4_fine yX4_fine, .code yX4_fine cX4_fine 2 (some .int), .fieldLink RX4 40 "MigrationledgerModel" "refusal" "I"] ++ wsX40)
def wsX4_restart : List Cond := .code yX4_restart cX4_restart 2 (some .boolean) :: ([.fieldLink RX4 36 "MigrationledgerModel" "hasCrashed" "[Z", .methodLink RX4 121 yX4_isWorker, .static yX4_isWorker, .initialized RX4, .code yX4_isWorker cX4_isWorker 1 (some .boolean), .methodLink RX4 47 yX4_in, .static yX4_in, .code yX4_in cX4_in 3 (some .boolean), .methodLink RX4 58 yX4_refused, .instanceMethod yX4_refused, .selects RX4 yX4_refused yX4_refused, .code yX4_refused cX4_refused 2 (some .boolean), .fieldLink RX4 40 "MigrationledgerModel" "refusal" "I", .methodLink RX4 118 yX4_has, .instanceMethod yX4_has, .selects RX4 yX4_has yX4_has, .code yX4_has cX4_has 2 (some .boolean), .fieldLink RX4 32 "MigrationledgerModel" "holder" "I", .methodLink RX4 114 yX4_isHeld, .instanceMethod yX4_isHeld, .selects RX4 yX4_isHeld yX4_isHeld, .code yX4_isHeld cX4_isHeld 1 (some .boolean), .fieldLink RX4 108 "MigrationledgerModel" "time" "I", .fieldLink RX4 111 "MigrationledgerModel" "leaseEnd" "I"] ++ wsX40)
def wsX4_pass : List Cond := .code yX4_pass cX4_pass 2 (some .int) :: ([.fieldLink RX4 108 "MigrationledgerModel" "time" "I", .methodLink RX4 47 yX4_in, .static yX4_in, .initialized RX4, .code yX4_in cX4_in 3 (some .boolean), .methodLink RX4 58 yX4_refused, .instanceMethod yX4_refused, .selects RX4 yX4_refused yX4_refused, .code yX4_refused cX4_refused 2 (some .boolean), .fieldLink RX4 40 "MigrationledgerModel" "refusal" "I"] ++ wsX40)
def wsX4_begin_r1 : List Cond := [Cond.fieldLink RX4 69 "MigrationledgerModel" "active" "I", Cond.fieldLink RX4 66 "MigrationledgerModel" "level" "I", Cond.fieldLink RX4 55 "MigrationledgerModel" "many" "I", Cond.fieldLink RX4 93 "MigrationledgerModel" "cursor" "I", Cond.fieldLink RX4 19 "MigrationledgerModel" "recorded" "[I", Cond.methodLink RX4 121 yX4_isWorker, Cond.static yX4_isWorker, Cond.initialized RX4, Cond.code yX4_isWorker cX4_isWorker 1 (some .boolean), Cond.methodLink RX4 47 yX4_in, Cond.static yX4_in, Cond.code yX4_in cX4_in 3 (some .boolean), Cond.methodLink RX4 124 yX4_cannot, Cond.instanceMethod yX4_cannot, Cond.selects RX4 yX4_cannot yX4_cannot, Cond.code yX4_cannot cX4_cannot 2 (some .boolean), Cond.fieldLink RX4 36 "MigrationledgerModel" "hasCrashed" "[Z", Cond.methodLink RX4 118 yX4_has, Cond.instanceMethod yX4_has, Cond.selects RX4 yX4_has yX4_has, Cond.code yX4_has cX4_has 2 (some .boolean), Cond.fieldLink RX4 32 "MigrationledgerModel" "holder" "I", Cond.methodLink RX4 114 yX4_isHeld, Cond.instanceMethod yX4_isHeld]
def wsX4_begin_r2 : List Cond := [Cond.selects RX4 yX4_isHeld yX4_isHeld, Cond.code yX4_isHeld cX4_isHeld 1 (some .boolean), Cond.fieldLink RX4 108 "MigrationledgerModel" "time" "I", Cond.fieldLink RX4 111 "MigrationledgerModel" "leaseEnd" "I", Cond.methodLink RX4 82 yX4_firstDrift, Cond.instanceMethod yX4_firstDrift, Cond.selects RX4 yX4_firstDrift yX4_firstDrift, Cond.code yX4_firstDrift cX4_firstDrift 3 (some .int), Cond.methodLink RX4 76 yX4_sumOf, Cond.instanceMethod yX4_sumOf, Cond.selects RX4 yX4_sumOf yX4_sumOf, Cond.code yX4_sumOf cX4_sumOf 2 (some .int), Cond.fieldLink RX4 7 "MigrationledgerModel" "kinds" "[I", Cond.fieldLink RX4 13 "MigrationledgerModel" "columns" "[I", Cond.fieldLink RX4 16 "MigrationledgerModel" "operands" "[I", Cond.constant RX4 51 (65521), Cond.methodLink RX4 58 yX4_refused, Cond.instanceMethod yX4_refused, Cond.selects RX4 yX4_refused yX4_refused, Cond.code yX4_refused cX4_refused 2 (some .boolean), Cond.fieldLink RX4 40 "MigrationledgerModel" "refusal" "I"]
def wsX4_begin : List Cond := .code yX4_begin cX4_begin 2 (some .int) :: ((wsX4_begin_r1 ++ wsX4_begin_r2) ++ wsX40)
def wsX4_undo_r1 : List Cond := [Cond.fieldLink RX4 69 "MigrationledgerModel" "active" "I", Cond.fieldLink RX4 66 "MigrationledgerModel" "level" "I", Cond.fieldLink RX4 19 "MigrationledgerModel" "recorded" "[I", Cond.fieldLink RX4 93 "MigrationledgerModel" "cursor" "I", Cond.methodLink RX4 76 yX4_sumOf, Cond.instanceMethod yX4_sumOf, Cond.selects RX4 yX4_sumOf yX4_sumOf, Cond.initialized RX4, Cond.code yX4_sumOf cX4_sumOf 2 (some .int), Cond.fieldLink RX4 7 "MigrationledgerModel" "kinds" "[I", Cond.fieldLink RX4 13 "MigrationledgerModel" "columns" "[I", Cond.fieldLink RX4 16 "MigrationledgerModel" "operands" "[I", Cond.constant RX4 51 (65521), Cond.methodLink RX4 121 yX4_isWorker, Cond.static yX4_isWorker, Cond.code yX4_isWorker cX4_isWorker 1 (some .boolean), Cond.methodLink RX4 47 yX4_in, Cond.static yX4_in, Cond.code yX4_in cX4_in 3 (some .boolean), Cond.methodLink RX4 124 yX4_cannot, Cond.instanceMethod yX4_cannot, Cond.selects RX4 yX4_cannot yX4_cannot, Cond.code yX4_cannot cX4_cannot 2 (some .boolean), Cond.fieldLink RX4 36 "MigrationledgerModel" "hasCrashed" "[Z"]
def wsX4_undo_r2 : List Cond := [Cond.methodLink RX4 118 yX4_has, Cond.instanceMethod yX4_has, Cond.selects RX4 yX4_has yX4_has, Cond.code yX4_has cX4_has 2 (some .boolean), Cond.fieldLink RX4 32 "MigrationledgerModel" "holder" "I", Cond.methodLink RX4 114 yX4_isHeld, Cond.instanceMethod yX4_isHeld, Cond.selects RX4 yX4_isHeld yX4_isHeld, Cond.code yX4_isHeld cX4_isHeld 1 (some .boolean), Cond.fieldLink RX4 108 "MigrationledgerModel" "time" "I", Cond.fieldLink RX4 111 "MigrationledgerModel" "leaseEnd" "I", Cond.methodLink RX4 58 yX4_refused, Cond.instanceMethod yX4_refused, Cond.selects RX4 yX4_refused yX4_refused, Cond.code yX4_refused cX4_refused 2 (some .boolean), Cond.fieldLink RX4 40 "MigrationledgerModel" "refusal" "I"]
def wsX4_undo : List Cond := .code yX4_undo cX4_undo 3 (some .int) :: ((wsX4_undo_r1 ++ wsX4_undo_r2) ++ wsX40)
def wsX4_step_r1 : List Cond := [Cond.fieldLink RX4 69 "MigrationledgerModel" "active" "I", Cond.fieldLink RX4 66 "MigrationledgerModel" "level" "I", Cond.fieldLink RX4 93 "MigrationledgerModel" "cursor" "I", Cond.fieldLink RX4 22 "MigrationledgerModel" "versions" "[I", Cond.fieldLink RX4 25 "MigrationledgerModel" "values" "[I", Cond.fieldLink RX4 28 "MigrationledgerModel" "spare" "[J", Cond.fieldLink RX4 36 "MigrationledgerModel" "hasCrashed" "[Z", Cond.methodLink RX4 121 yX4_isWorker, Cond.static yX4_isWorker, Cond.initialized RX4, Cond.code yX4_isWorker cX4_isWorker 1 (some .boolean), Cond.methodLink RX4 47 yX4_in, Cond.static yX4_in, Cond.code yX4_in cX4_in 3 (some .boolean), Cond.methodLink RX4 124 yX4_cannot, Cond.instanceMethod yX4_cannot, Cond.selects RX4 yX4_cannot yX4_cannot, Cond.code yX4_cannot cX4_cannot 2 (some .boolean), Cond.methodLink RX4 118 yX4_has, Cond.instanceMethod yX4_has, Cond.selects RX4 yX4_has yX4_has, Cond.code yX4_has cX4_has 2 (some .boolean), Cond.fieldLink RX4 32 "MigrationledgerModel" "holder" "I", Cond.methodLink RX4 114 yX4_isHeld]
def wsX4_step_r2 : List Cond := [Cond.instanceMethod yX4_isHeld, Cond.selects RX4 yX4_isHeld yX4_isHeld, Cond.code yX4_isHeld cX4_isHeld 1 (some .boolean), Cond.fieldLink RX4 108 "MigrationledgerModel" "time" "I", Cond.fieldLink RX4 111 "MigrationledgerModel" "leaseEnd" "I", Cond.methodLink RX4 58 yX4_refused, Cond.instanceMethod yX4_refused, Cond.selects RX4 yX4_refused yX4_refused, Cond.code yX4_refused cX4_refused 2 (some .boolean), Cond.fieldLink RX4 40 "MigrationledgerModel" "refusal" "I", Cond.methodLink RX4 100 yX4_takeSpare, Cond.instanceMethod yX4_takeSpare, Cond.selects RX4 yX4_takeSpare yX4_takeSpare, Cond.code yX4_takeSpare cX4_takeSpare 3 none, Cond.methodLink RX4 104 yX4_tries, Cond.instanceMethod yX4_tries, Cond.selects RX4 yX4_tries yX4_tries, Cond.code yX4_tries cX4_tries 9 (some .boolean), Cond.fieldLink RX4 13 "MigrationledgerModel" "columns" "[I", Cond.fieldLink RX4 16 "MigrationledgerModel" "operands" "[I", Cond.fieldLink RX4 7 "MigrationledgerModel" "kinds" "[I", Cond.methodLink RX4 89 yX4_isValue, Cond.static yX4_isValue, Cond.code yX4_isValue cX4_isValue 2 (some .boolean)]
def wsX4_step_r3 : List Cond := [Cond.constantLong RX4 43 (-1000000000), Cond.constantLong RX4 45 (1000000000)]
def wsX4_step : List Cond := .code yX4_step cX4_step 15 (some .int) :: ((wsX4_step_r1 ++ (wsX4_step_r2 ++ wsX4_step_r3)) ++ wsX40)
def wsX4_cursor : List Cond := .code yX4_cursor cX4_cursor 1 (some .int) :: ([.fieldLink RX4 69 "MigrationledgerModel" "active" "I", .fieldLink RX4 93 "MigrationledgerModel" "cursor" "I", .methodLink RX4 58 yX4_refused, .instanceMethod yX4_refused, .selects RX4 yX4_refused yX4_refused, .initialized RX4, .code yX4_refused cX4_refused 2 (some .boolean), .fieldLink RX4 40 "MigrationledgerModel" "refusal" "I"] ++ wsX40)
def wsX4_share : List Cond := .code yX4_share cX4_share 4 (some .float) :: ([.fieldLink RX4 22 "MigrationledgerModel" "versions" "[I", .fieldLink RX4 66 "MigrationledgerModel" "level" "I", .fieldLink RX4 69 "MigrationledgerModel" "active" "I", .methodLink RX4 58 yX4_refused, .instanceMethod yX4_refused, .selects RX4 yX4_refused yX4_refused, .initialized RX4, .code yX4_refused cX4_refused 2 (some .boolean), .fieldLink RX4 40 "MigrationledgerModel" "refusal" "I"] ++ wsX40)
def wsJ9_min_7cf53 : List Cond := .code yJ9_min_7cf53 cJ9_min_7cf53 2 (some .int) :: ([])
def wsL_addChange_r1 : List Cond := [Cond.classLink RL 13 "java/lang/IllegalArgumentException", Cond.classLink RL 15 "java/lang/IllegalStateException", Cond.methodLink RL 7 yX3_addChange, Cond.instanceMethod yX3_addChange, Cond.selects RX3 yX3_addChange yX3_addChange, Cond.initialized RX3, Cond.code yX3_addChange cX3_addChange 4 (some .int), Cond.classLink RX3 46 "java/lang/IllegalStateException", Cond.initialized "java/lang/IllegalStateException", Cond.fieldLink RX3 10 "Migrationledger" "list" "LMigrationledger$ChangeList;", Cond.methodLink RX3 38 yX3_requireChangeParts, Cond.static yX3_requireChangeParts, Cond.code yX3_requireChangeParts cX3_requireChangeParts 3 none, Cond.classLink RX3 122 "java/lang/IllegalArgumentException", Cond.initialized "java/lang/IllegalArgumentException", Cond.methodLink RX3 109 yX3_requireColumn, Cond.static yX3_requireColumn, Cond.code yX3_requireColumn cX3_requireColumn 1 none, Cond.methodLink RX3 250 yX3_isColumn, Cond.static yX3_isColumn, Cond.code yX3_isColumn cX3_isColumn 1 (some .boolean), Cond.methodLink RX3 255 yX3_isOperand, Cond.static yX3_isOperand, Cond.code yX3_isOperand cX3_isOperand 3 (some .boolean)]
def wsL_addChange_r2 : List Cond := [Cond.methodLink RX3 42 yX0_isFull, Cond.instanceMethod yX0_isFull, Cond.selects RX0 yX0_isFull yX0_isFull, Cond.initialized RX0, Cond.code yX0_isFull cX0_isFull 1 (some .boolean), Cond.fieldLink RX0 24 "Migrationledger$ChangeList" "count" "I", Cond.methodLink RX3 53 yX0_append, Cond.instanceMethod yX0_append, Cond.selects RX0 yX0_append yX0_append, Cond.code yX0_append cX0_append 4 (some .int), Cond.methodLink RX0 28 yX0_put, Cond.instanceMethod yX0_put, Cond.selects RX0 yX0_put yX0_put, Cond.code yX0_put cX0_put 5 none, Cond.fieldLink RX0 9 "Migrationledger$ChangeList" "kinds" "[I", Cond.fieldLink RX0 15 "Migrationledger$ChangeList" "columns" "[I", Cond.fieldLink RX0 18 "Migrationledger$ChangeList" "operands" "[I"]
def wsL_addChange : List Cond := .codeWith yL_addChange cL_addChange 6 (some .int) [(0, 12, 15, 13), (0, 12, 19, 15)] :: ((wsL_addChange_r1 ++ wsL_addChange_r2) ++ wsX30 ++ wsX00 ++ (vx_atS RX3 50 "java/lang/IllegalStateException" ["java/lang/RuntimeException", "java/lang/Exception"]).filter goodWord ++ (vx_atS RX3 126 "java/lang/IllegalArgumentException" ["java/lang/RuntimeException", "java/lang/Exception"]).filter goodWord)
def wsL_edit_r1 : List Cond := [Cond.classLink RL 13 "java/lang/IllegalArgumentException", Cond.classLink RL 21 "java/lang/IndexOutOfBoundsException", Cond.classLink RL 15 "java/lang/IllegalStateException", Cond.methodLink RL 17 yX3_edit, Cond.instanceMethod yX3_edit, Cond.selects RX3 yX3_edit yX3_edit, Cond.initialized RX3, Cond.code yX3_edit cX3_edit 5 (some .int), Cond.classLink RX3 46 "java/lang/IllegalStateException", Cond.initialized "java/lang/IllegalStateException", Cond.fieldLink RX3 10 "Migrationledger" "list" "LMigrationledger$ChangeList;", Cond.methodLink RX3 38 yX3_requireChangeParts, Cond.static yX3_requireChangeParts, Cond.code yX3_requireChangeParts cX3_requireChangeParts 3 none, Cond.classLink RX3 122 "java/lang/IllegalArgumentException", Cond.initialized "java/lang/IllegalArgumentException", Cond.methodLink RX3 109 yX3_requireColumn, Cond.static yX3_requireColumn, Cond.code yX3_requireColumn cX3_requireColumn 1 none, Cond.methodLink RX3 250 yX3_isColumn, Cond.static yX3_isColumn, Cond.code yX3_isColumn cX3_isColumn 1 (some .boolean), Cond.methodLink RX3 255 yX3_isOperand, Cond.static yX3_isOperand]
def wsL_edit_r2 : List Cond := [Cond.code yX3_isOperand cX3_isOperand 3 (some .boolean), Cond.methodLink RX3 57 yX3_requireListed, Cond.instanceMethod yX3_requireListed, Cond.selects RX3 yX3_requireListed yX3_requireListed, Cond.code yX3_requireListed cX3_requireListed 2 none, Cond.classLink RX3 276 "java/lang/IndexOutOfBoundsException", Cond.initialized "java/lang/IndexOutOfBoundsException", Cond.methodLink RX3 273 yX0_contains, Cond.instanceMethod yX0_contains, Cond.selects RX0 yX0_contains yX0_contains, Cond.initialized RX0, Cond.code yX0_contains cX0_contains 2 (some .boolean), Cond.fieldLink RX0 24 "Migrationledger$ChangeList" "count" "I", Cond.methodLink RX3 61 yX3_isActive, Cond.instanceMethod yX3_isActive, Cond.selects RX3 yX3_isActive yX3_isActive, Cond.code yX3_isActive cX3_isActive 1 (some .boolean), Cond.fieldLink RX3 34 "Migrationledger" "phase" "I", Cond.methodLink RX3 64 yX3_activeNumber, Cond.instanceMethod yX3_activeNumber, Cond.selects RX3 yX3_activeNumber yX3_activeNumber, Cond.code yX3_activeNumber cX3_activeNumber 1 (some .int), Cond.fieldLink RX3 81 "Migrationledger" "done" "I", Cond.methodLink RX3 70 yX0_put]
def wsL_edit_r3 : List Cond := [Cond.instanceMethod yX0_put, Cond.selects RX0 yX0_put yX0_put, Cond.code yX0_put cX0_put 5 none, Cond.fieldLink RX0 9 "Migrationledger$ChangeList" "kinds" "[I", Cond.fieldLink RX0 15 "Migrationledger$ChangeList" "columns" "[I", Cond.fieldLink RX0 18 "Migrationledger$ChangeList" "operands" "[I", Cond.methodLink RX3 74 yX0_checksumOf, Cond.instanceMethod yX0_checksumOf, Cond.selects RX0 yX0_checksumOf yX0_checksumOf, Cond.code yX0_checksumOf cX0_checksumOf 4 (some .int), Cond.constant RX0 32 (65521)]
def wsL_edit : List Cond := .codeWith yL_edit cL_edit 7 (some .int) [(0, 14, 17, 13), (0, 14, 21, 21), (0, 14, 25, 15)] :: ((wsL_edit_r1 ++ (wsL_edit_r2 ++ wsL_edit_r3)) ++ wsX30 ++ wsX00 ++ (vx_atS RX3 50 "java/lang/IllegalStateException" ["java/lang/RuntimeException", "java/lang/Exception"]).filter goodWord ++ (vx_atS RX3 126 "java/lang/IllegalArgumentException" ["java/lang/RuntimeException", "java/lang/Exception"]).filter goodWord ++ (vx_atS RX3 280 "java/lang/IndexOutOfBoundsException" ["java/lang/RuntimeException", "java/lang/Exception"]).filter goodWord)
def wsL_checksum_r1 : List Cond := [Cond.classLink RL 21 "java/lang/IndexOutOfBoundsException", Cond.methodLink RL 23 yX3_checksum, Cond.instanceMethod yX3_checksum, Cond.selects RX3 yX3_checksum yX3_checksum, Cond.initialized RX3, Cond.code yX3_checksum cX3_checksum 2 (some .int), Cond.fieldLink RX3 10 "Migrationledger" "list" "LMigrationledger$ChangeList;", Cond.methodLink RX3 57 yX3_requireListed, Cond.instanceMethod yX3_requireListed, Cond.selects RX3 yX3_requireListed yX3_requireListed, Cond.code yX3_requireListed cX3_requireListed 2 none, Cond.classLink RX3 276 "java/lang/IndexOutOfBoundsException", Cond.initialized "java/lang/IndexOutOfBoundsException", Cond.methodLink RX3 273 yX0_contains, Cond.instanceMethod yX0_contains, Cond.selects RX0 yX0_contains yX0_contains, Cond.initialized RX0, Cond.code yX0_contains cX0_contains 2 (some .boolean), Cond.fieldLink RX0 24 "Migrationledger$ChangeList" "count" "I", Cond.methodLink RX3 74 yX0_checksumOf, Cond.instanceMethod yX0_checksumOf, Cond.selects RX0 yX0_checksumOf yX0_checksumOf, Cond.code yX0_checksumOf cX0_checksumOf 4 (some .int), Cond.fieldLink RX0 9 "Migrationledger$ChangeList" "kinds" "[I"]
def wsL_checksum_r2 : List Cond := [Cond.fieldLink RX0 15 "Migrationledger$ChangeList" "columns" "[I", Cond.fieldLink RX0 18 "Migrationledger$ChangeList" "operands" "[I", Cond.constant RX0 32 (65521)]
def wsL_checksum : List Cond := .codeWith yL_checksum cL_checksum 4 (some .int) [(0, 9, 12, 21)] :: ((wsL_checksum_r1 ++ wsL_checksum_r2) ++ wsX30 ++ wsX00 ++ (vx_atS RX3 280 "java/lang/IndexOutOfBoundsException" ["java/lang/RuntimeException", "java/lang/Exception"]).filter goodWord)
def wsL_state_r1 : List Cond := [Cond.classLink RL 21 "java/lang/IndexOutOfBoundsException", Cond.methodLink RL 27 yX3_state, Cond.instanceMethod yX3_state, Cond.selects RX3 yX3_state yX3_state, Cond.initialized RX3, Cond.code yX3_state cX3_state 2 (some .int), Cond.fieldLink RX3 81 "Migrationledger" "done" "I", Cond.fieldLink RX3 34 "Migrationledger" "phase" "I", Cond.methodLink RX3 57 yX3_requireListed, Cond.instanceMethod yX3_requireListed, Cond.selects RX3 yX3_requireListed yX3_requireListed, Cond.code yX3_requireListed cX3_requireListed 2 none, Cond.classLink RX3 276 "java/lang/IndexOutOfBoundsException", Cond.initialized "java/lang/IndexOutOfBoundsException", Cond.fieldLink RX3 10 "Migrationledger" "list" "LMigrationledger$ChangeList;", Cond.methodLink RX3 273 yX0_contains, Cond.instanceMethod yX0_contains, Cond.selects RX0 yX0_contains yX0_contains, Cond.initialized RX0, Cond.code yX0_contains cX0_contains 2 (some .boolean), Cond.fieldLink RX0 24 "Migrationledger$ChangeList" "count" "I", Cond.methodLink RX3 64 yX3_activeNumber, Cond.instanceMethod yX3_activeNumber, Cond.selects RX3 yX3_activeNumber yX3_activeNumber]
def wsL_state_r2 : List Cond := [Cond.code yX3_activeNumber cX3_activeNumber 1 (some .int)]
def wsL_state : List Cond := .codeWith yL_state cL_state 4 (some .int) [(0, 9, 12, 21)] :: ((wsL_state_r1 ++ wsL_state_r2) ++ wsX30 ++ wsX00 ++ (vx_atS RX3 280 "java/lang/IndexOutOfBoundsException" ["java/lang/RuntimeException", "java/lang/Exception"]).filter goodWord)
def wsL_insert_r1 : List Cond := [Cond.classLink RL 13 "java/lang/IllegalArgumentException", Cond.classLink RL 15 "java/lang/IllegalStateException", Cond.methodLink RL 30 yX3_insert, Cond.instanceMethod yX3_insert, Cond.selects RX3 yX3_insert yX3_insert, Cond.initialized RX3, Cond.code yX3_insert cX3_insert 6 (some .int), Cond.classLink RX3 46 "java/lang/IllegalStateException", Cond.initialized "java/lang/IllegalStateException", Cond.fieldLink RX3 19 "Migrationledger" "table" "LMigrationledger$Table;", Cond.methodLink RX3 87 yX3_requireId, Cond.static yX3_requireId, Cond.code yX3_requireId cX3_requireId 1 none, Cond.classLink RX3 122 "java/lang/IllegalArgumentException", Cond.initialized "java/lang/IllegalArgumentException", Cond.methodLink RX3 90 yX3_requireTableValue, Cond.static yX3_requireTableValue, Cond.code yX3_requireTableValue cX3_requireTableValue 1 none, Cond.methodLink RX3 265 yX3_isTableValue, Cond.static yX3_isTableValue, Cond.code yX3_isTableValue cX3_isTableValue 2 (some .boolean), Cond.constantLong RX3 246 (-1000000000), Cond.constantLong RX3 248 (1000000000), Cond.methodLink RX3 93 yX2_isPresent]
def wsL_insert_r2 : List Cond := [Cond.instanceMethod yX2_isPresent, Cond.selects RX2 yX2_isPresent yX2_isPresent, Cond.initialized RX2, Cond.code yX2_isPresent cX2_isPresent 2 (some .boolean), Cond.fieldLink RX2 15 "Migrationledger$Table" "versions" "[I", Cond.methodLink RX3 99 yX3_versionForNewRow, Cond.instanceMethod yX3_versionForNewRow, Cond.selects RX3 yX3_versionForNewRow yX3_versionForNewRow, Cond.code yX3_versionForNewRow cX3_versionForNewRow 2 (some .int), Cond.fieldLink RX3 184 "Migrationledger" "position" "I", Cond.fieldLink RX3 81 "Migrationledger" "done" "I", Cond.methodLink RX3 61 yX3_isActive, Cond.instanceMethod yX3_isActive, Cond.selects RX3 yX3_isActive yX3_isActive, Cond.code yX3_isActive cX3_isActive 1 (some .boolean), Cond.fieldLink RX3 34 "Migrationledger" "phase" "I", Cond.methodLink RX3 64 yX3_activeNumber, Cond.instanceMethod yX3_activeNumber, Cond.selects RX3 yX3_activeNumber yX3_activeNumber, Cond.code yX3_activeNumber cX3_activeNumber 1 (some .int), Cond.methodLink RX3 102 yX2_setCell, Cond.instanceMethod yX2_setCell, Cond.selects RX2 yX2_setCell yX2_setCell, Cond.code yX2_setCell cX2_setCell 4 none]
def wsL_insert_r3 : List Cond := [Cond.fieldLink RX2 9 "Migrationledger$Table" "cells" "[I", Cond.methodLink RX3 105 yX2_setVersion, Cond.instanceMethod yX2_setVersion, Cond.selects RX2 yX2_setVersion yX2_setVersion, Cond.code yX2_setVersion cX2_setVersion 3 none]
def wsL_insert : List Cond := .codeWith yL_insert cL_insert 7 (some .int) [(0, 14, 17, 13), (0, 14, 21, 15)] :: ((wsL_insert_r1 ++ (wsL_insert_r2 ++ wsL_insert_r3)) ++ wsX30 ++ wsX20 ++ (vx_atS RX3 50 "java/lang/IllegalStateException" ["java/lang/RuntimeException", "java/lang/Exception"]).filter goodWord ++ (vx_atS RX3 126 "java/lang/IllegalArgumentException" ["java/lang/RuntimeException", "java/lang/Exception"]).filter goodWord)
def wsL_write_r1 : List Cond := [Cond.classLink RL 13 "java/lang/IllegalArgumentException", Cond.classLink RL 21 "java/lang/IndexOutOfBoundsException", Cond.methodLink RL 33 yX3_write, Cond.instanceMethod yX3_write, Cond.selects RX3 yX3_write yX3_write, Cond.initialized RX3, Cond.code yX3_write cX3_write 5 (some .int), Cond.fieldLink RX3 19 "Migrationledger" "table" "LMigrationledger$Table;", Cond.methodLink RX3 87 yX3_requireId, Cond.static yX3_requireId, Cond.code yX3_requireId cX3_requireId 1 none, Cond.classLink RX3 122 "java/lang/IllegalArgumentException", Cond.initialized "java/lang/IllegalArgumentException", Cond.methodLink RX3 109 yX3_requireColumn, Cond.static yX3_requireColumn, Cond.code yX3_requireColumn cX3_requireColumn 1 none, Cond.methodLink RX3 250 yX3_isColumn, Cond.static yX3_isColumn, Cond.code yX3_isColumn cX3_isColumn 1 (some .boolean), Cond.methodLink RX3 90 yX3_requireTableValue, Cond.static yX3_requireTableValue, Cond.code yX3_requireTableValue cX3_requireTableValue 1 none, Cond.methodLink RX3 265 yX3_isTableValue, Cond.static yX3_isTableValue]
def wsL_write_r2 : List Cond := [Cond.code yX3_isTableValue cX3_isTableValue 2 (some .boolean), Cond.constantLong RX3 246 (-1000000000), Cond.constantLong RX3 248 (1000000000), Cond.methodLink RX3 112 yX3_requirePresent, Cond.instanceMethod yX3_requirePresent, Cond.selects RX3 yX3_requirePresent yX3_requirePresent, Cond.code yX3_requirePresent cX3_requirePresent 2 none, Cond.classLink RX3 276 "java/lang/IndexOutOfBoundsException", Cond.initialized "java/lang/IndexOutOfBoundsException", Cond.methodLink RX3 93 yX2_isPresent, Cond.instanceMethod yX2_isPresent, Cond.selects RX2 yX2_isPresent yX2_isPresent, Cond.initialized RX2, Cond.code yX2_isPresent cX2_isPresent 2 (some .boolean), Cond.fieldLink RX2 15 "Migrationledger$Table" "versions" "[I", Cond.methodLink RX3 115 yX2_cell, Cond.instanceMethod yX2_cell, Cond.selects RX2 yX2_cell yX2_cell, Cond.code yX2_cell cX2_cell 3 (some .int), Cond.fieldLink RX2 9 "Migrationledger$Table" "cells" "[I", Cond.methodLink RX3 102 yX2_setCell, Cond.instanceMethod yX2_setCell, Cond.selects RX2 yX2_setCell yX2_setCell, Cond.code yX2_setCell cX2_setCell 4 none]
def wsL_write : List Cond := .codeWith yL_write cL_write 6 (some .int) [(0, 12, 15, 13), (0, 12, 19, 21)] :: ((wsL_write_r1 ++ wsL_write_r2) ++ wsX30 ++ wsX20 ++ (vx_atS RX3 126 "java/lang/IllegalArgumentException" ["java/lang/RuntimeException", "java/lang/Exception"]).filter goodWord ++ (vx_atS RX3 280 "java/lang/IndexOutOfBoundsException" ["java/lang/RuntimeException", "java/lang/Exception"]).filter goodWord)
def wsL_delete_r1 : List Cond := [Cond.classLink RL 13 "java/lang/IllegalArgumentException", Cond.classLink RL 21 "java/lang/IndexOutOfBoundsException", Cond.methodLink RL 36 yX3_delete, Cond.instanceMethod yX3_delete, Cond.selects RX3 yX3_delete yX3_delete, Cond.initialized RX3, Cond.code yX3_delete cX3_delete 3 (some .int), Cond.fieldLink RX3 19 "Migrationledger" "table" "LMigrationledger$Table;", Cond.methodLink RX3 87 yX3_requireId, Cond.static yX3_requireId, Cond.code yX3_requireId cX3_requireId 1 none, Cond.classLink RX3 122 "java/lang/IllegalArgumentException", Cond.initialized "java/lang/IllegalArgumentException", Cond.methodLink RX3 112 yX3_requirePresent, Cond.instanceMethod yX3_requirePresent, Cond.selects RX3 yX3_requirePresent yX3_requirePresent, Cond.code yX3_requirePresent cX3_requirePresent 2 none, Cond.classLink RX3 276 "java/lang/IndexOutOfBoundsException", Cond.initialized "java/lang/IndexOutOfBoundsException", Cond.methodLink RX3 93 yX2_isPresent, Cond.instanceMethod yX2_isPresent, Cond.selects RX2 yX2_isPresent yX2_isPresent, Cond.initialized RX2, Cond.code yX2_isPresent cX2_isPresent 2 (some .boolean)]
def wsL_delete_r2 : List Cond := [Cond.fieldLink RX2 15 "Migrationledger$Table" "versions" "[I", Cond.methodLink RX3 119 yX2_versionOf, Cond.instanceMethod yX2_versionOf, Cond.selects RX2 yX2_versionOf yX2_versionOf, Cond.code yX2_versionOf cX2_versionOf 2 (some .int), Cond.methodLink RX3 105 yX2_setVersion, Cond.instanceMethod yX2_setVersion, Cond.selects RX2 yX2_setVersion yX2_setVersion, Cond.code yX2_setVersion cX2_setVersion 3 none]
def wsL_delete : List Cond := .codeWith yL_delete cL_delete 4 (some .int) [(0, 9, 12, 13), (0, 9, 15, 21)] :: ((wsL_delete_r1 ++ wsL_delete_r2) ++ wsX30 ++ wsX20 ++ (vx_atS RX3 126 "java/lang/IllegalArgumentException" ["java/lang/RuntimeException", "java/lang/Exception"]).filter goodWord ++ (vx_atS RX3 280 "java/lang/IndexOutOfBoundsException" ["java/lang/RuntimeException", "java/lang/Exception"]).filter goodWord)
def wsL_value_r1 : List Cond := [Cond.classLink RL 13 "java/lang/IllegalArgumentException", Cond.classLink RL 21 "java/lang/IndexOutOfBoundsException", Cond.methodLink RL 39 yX3_value, Cond.instanceMethod yX3_value, Cond.selects RX3 yX3_value yX3_value, Cond.initialized RX3, Cond.code yX3_value cX3_value 3 (some .int), Cond.fieldLink RX3 19 "Migrationledger" "table" "LMigrationledger$Table;", Cond.methodLink RX3 87 yX3_requireId, Cond.static yX3_requireId, Cond.code yX3_requireId cX3_requireId 1 none, Cond.classLink RX3 122 "java/lang/IllegalArgumentException", Cond.initialized "java/lang/IllegalArgumentException", Cond.methodLink RX3 109 yX3_requireColumn, Cond.static yX3_requireColumn, Cond.code yX3_requireColumn cX3_requireColumn 1 none, Cond.methodLink RX3 250 yX3_isColumn, Cond.static yX3_isColumn, Cond.code yX3_isColumn cX3_isColumn 1 (some .boolean), Cond.methodLink RX3 112 yX3_requirePresent, Cond.instanceMethod yX3_requirePresent, Cond.selects RX3 yX3_requirePresent yX3_requirePresent, Cond.code yX3_requirePresent cX3_requirePresent 2 none, Cond.classLink RX3 276 "java/lang/IndexOutOfBoundsException"]
def wsL_value_r2 : List Cond := [Cond.initialized "java/lang/IndexOutOfBoundsException", Cond.methodLink RX3 93 yX2_isPresent, Cond.instanceMethod yX2_isPresent, Cond.selects RX2 yX2_isPresent yX2_isPresent, Cond.initialized RX2, Cond.code yX2_isPresent cX2_isPresent 2 (some .boolean), Cond.fieldLink RX2 15 "Migrationledger$Table" "versions" "[I", Cond.methodLink RX3 115 yX2_cell, Cond.instanceMethod yX2_cell, Cond.selects RX2 yX2_cell yX2_cell, Cond.code yX2_cell cX2_cell 3 (some .int), Cond.fieldLink RX2 9 "Migrationledger$Table" "cells" "[I"]
def wsL_value : List Cond := .codeWith yL_value cL_value 5 (some .int) [(0, 10, 13, 13), (0, 10, 17, 21)] :: ((wsL_value_r1 ++ wsL_value_r2) ++ wsX30 ++ wsX20 ++ (vx_atS RX3 126 "java/lang/IllegalArgumentException" ["java/lang/RuntimeException", "java/lang/Exception"]).filter goodWord ++ (vx_atS RX3 280 "java/lang/IndexOutOfBoundsException" ["java/lang/RuntimeException", "java/lang/Exception"]).filter goodWord)
def wsL_version : List Cond := .codeWith yL_version cL_version 4 (some .int) [(0, 9, 12, 13)] :: ([.classLink RL 13 "java/lang/IllegalArgumentException", .methodLink RL 43 yX3_version, .instanceMethod yX3_version, .selects RX3 yX3_version yX3_version, .initialized RX3, .code yX3_version cX3_version 2 (some .int), .fieldLink RX3 19 "Migrationledger" "table" "LMigrationledger$Table;", .methodLink RX3 87 yX3_requireId, .static yX3_requireId, .code yX3_requireId cX3_requireId 1 none, .classLink RX3 122 "java/lang/IllegalArgumentException", .initialized "java/lang/IllegalArgumentException", .methodLink RX3 119 yX2_versionOf, .instanceMethod yX2_versionOf, .selects RX2 yX2_versionOf yX2_versionOf, .initialized RX2, .code yX2_versionOf cX2_versionOf 2 (some .int), .fieldLink RX2 15 "Migrationledger$Table" "versions" "[I"] ++ wsX30 ++ wsX20 ++ (vx_atS RX3 126 "java/lang/IllegalArgumentException" ["java/lang/RuntimeException", "java/lang/Exception"]).filter goodWord)
def wsL_rowsAt : List Cond := .codeWith yL_rowsAt cL_rowsAt 4 (some .int) [(0, 9, 12, 13)] :: ([.classLink RL 13 "java/lang/IllegalArgumentException", .methodLink RL 46 yX3_rowsAt, .instanceMethod yX3_rowsAt, .selects RX3 yX3_rowsAt yX3_rowsAt, .initialized RX3, .code yX3_rowsAt cX3_rowsAt 2 (some .int), .classLink RX3 122 "java/lang/IllegalArgumentException", .initialized "java/lang/IllegalArgumentException", .fieldLink RX3 19 "Migrationledger" "table" "LMigrationledger$Table;", .methodLink RX3 127 yX2_countWithVersion, .instanceMethod yX2_countWithVersion, .selects RX2 yX2_countWithVersion yX2_countWithVersion, .initialized RX2, .code yX2_countWithVersion cX2_countWithVersion 4 (some .int), .fieldLink RX2 15 "Migrationledger$Table" "versions" "[I"] ++ wsX30 ++ wsX20 ++ (vx_atS RX3 126 "java/lang/IllegalArgumentException" ["java/lang/RuntimeException", "java/lang/Exception"]).filter goodWord)
def wsL_valueAt_r1 : List Cond := [Cond.classLink RL 13 "java/lang/IllegalArgumentException", Cond.classLink RL 21 "java/lang/IndexOutOfBoundsException", Cond.classLink RL 15 "java/lang/IllegalStateException", Cond.methodLink RL 49 yX3_valueAt, Cond.instanceMethod yX3_valueAt, Cond.selects RX3 yX3_valueAt yX3_valueAt, Cond.initialized RX3, Cond.code yX3_valueAt cX3_valueAt 4 (some .int), Cond.classLink RX3 122 "java/lang/IllegalArgumentException", Cond.initialized "java/lang/IllegalArgumentException", Cond.classLink RX3 46 "java/lang/IllegalStateException", Cond.initialized "java/lang/IllegalStateException", Cond.fieldLink RX3 10 "Migrationledger" "list" "LMigrationledger$ChangeList;", Cond.fieldLink RX3 19 "Migrationledger" "table" "LMigrationledger$Table;", Cond.fieldLink RX3 30 "Migrationledger" "tried" "[I", Cond.methodLink RX3 87 yX3_requireId, Cond.static yX3_requireId, Cond.code yX3_requireId cX3_requireId 1 none, Cond.methodLink RX3 109 yX3_requireColumn, Cond.static yX3_requireColumn, Cond.code yX3_requireColumn cX3_requireColumn 1 none, Cond.methodLink RX3 250 yX3_isColumn, Cond.static yX3_isColumn, Cond.code yX3_isColumn cX3_isColumn 1 (some .boolean)]
def wsL_valueAt_r2 : List Cond := [Cond.methodLink RX3 78 yX0_count, Cond.instanceMethod yX0_count, Cond.selects RX0 yX0_count yX0_count, Cond.initialized RX0, Cond.code yX0_count cX0_count 1 (some .int), Cond.fieldLink RX0 24 "Migrationledger$ChangeList" "count" "I", Cond.methodLink RX3 112 yX3_requirePresent, Cond.instanceMethod yX3_requirePresent, Cond.selects RX3 yX3_requirePresent yX3_requirePresent, Cond.code yX3_requirePresent cX3_requirePresent 2 none, Cond.classLink RX3 276 "java/lang/IndexOutOfBoundsException", Cond.initialized "java/lang/IndexOutOfBoundsException", Cond.methodLink RX3 93 yX2_isPresent, Cond.instanceMethod yX2_isPresent, Cond.selects RX2 yX2_isPresent yX2_isPresent, Cond.initialized RX2, Cond.code yX2_isPresent cX2_isPresent 2 (some .boolean), Cond.fieldLink RX2 15 "Migrationledger$Table" "versions" "[I", Cond.methodLink RX3 132 yX2_copyRow, Cond.instanceMethod yX2_copyRow, Cond.selects RX2 yX2_copyRow yX2_copyRow, Cond.code yX2_copyRow cX2_copyRow 4 none, Cond.methodLink RX2 18 yX2_cell, Cond.instanceMethod yX2_cell]
def wsL_valueAt_r3 : List Cond := [Cond.selects RX2 yX2_cell yX2_cell, Cond.code yX2_cell cX2_cell 3 (some .int), Cond.fieldLink RX2 9 "Migrationledger$Table" "cells" "[I", Cond.methodLink RX3 119 yX2_versionOf, Cond.instanceMethod yX2_versionOf, Cond.selects RX2 yX2_versionOf yX2_versionOf, Cond.code yX2_versionOf cX2_versionOf 2 (some .int), Cond.methodLink RX3 136 yX3_bringTried, Cond.instanceMethod yX3_bringTried, Cond.selects RX3 yX3_bringTried yX3_bringTried, Cond.code yX3_bringTried cX3_bringTried 4 (some .boolean), Cond.methodLink RX3 239 yX0_applyTo, Cond.instanceMethod yX0_applyTo, Cond.selects RX0 yX0_applyTo yX0_applyTo, Cond.code yX0_applyTo cX0_applyTo 7 (some .boolean), Cond.fieldLink RX0 15 "Migrationledger$ChangeList" "columns" "[I", Cond.fieldLink RX0 18 "Migrationledger$ChangeList" "operands" "[I", Cond.fieldLink RX0 9 "Migrationledger$ChangeList" "kinds" "[I", Cond.methodLink RX0 41 yX0_putResult, Cond.static yX0_putResult, Cond.code yX0_putResult cX0_putResult 4 (some .boolean), Cond.static yX3_isTableValue, Cond.code yX3_isTableValue cX3_isTableValue 2 (some .boolean), Cond.constantLong RX3 246 (-1000000000)]
def wsL_valueAt_r4 : List Cond := [Cond.constantLong RX3 248 (1000000000), Cond.methodLink RX0 45 yX0_exchange, Cond.static yX0_exchange, Cond.code yX0_exchange cX0_exchange 4 (some .boolean), Cond.methodLink RX3 243 yX0_undoOn, Cond.instanceMethod yX0_undoOn, Cond.selects RX0 yX0_undoOn yX0_undoOn, Cond.code yX0_undoOn cX0_undoOn 7 (some .boolean)]
def wsL_valueAt : List Cond := .codeWith yL_valueAt cL_valueAt 6 (some .int) [(0, 12, 15, 13), (0, 12, 19, 21), (0, 12, 23, 15)] :: ((wsL_valueAt_r1 ++ (wsL_valueAt_r2 ++ (wsL_valueAt_r3 ++ wsL_valueAt_r4))) ++ wsX30 ++ wsX00 ++ wsX20 ++ (vx_atS RX3 126 "java/lang/IllegalArgumentException" ["java/lang/RuntimeException", "java/lang/Exception"]).filter goodWord ++ (vx_atS RX3 50 "java/lang/IllegalStateException" ["java/lang/RuntimeException", "java/lang/Exception"]).filter goodWord ++ (vx_atS RX3 280 "java/lang/IndexOutOfBoundsException" ["java/lang/RuntimeException", "java/lang/Exception"]).filter goodWord)
def wsL_take_r1 : List Cond := [Cond.classLink RL 13 "java/lang/IllegalArgumentException", Cond.classLink RL 15 "java/lang/IllegalStateException", Cond.methodLink RL 52 yX3_take, Cond.instanceMethod yX3_take, Cond.selects RX3 yX3_take yX3_take, Cond.initialized RX3, Cond.code yX3_take cX3_take 4 (some .int), Cond.classLink RX3 122 "java/lang/IllegalArgumentException", Cond.initialized "java/lang/IllegalArgumentException", Cond.classLink RX3 46 "java/lang/IllegalStateException", Cond.initialized "java/lang/IllegalStateException", Cond.fieldLink RX3 26 "Migrationledger" "lock" "LMigrationledger$Lock;", Cond.methodLink RX3 142 yX3_requireWorker, Cond.static yX3_requireWorker, Cond.code yX3_requireWorker cX3_requireWorker 1 none, Cond.methodLink RX3 147 yX3_requireNotCrashed, Cond.instanceMethod yX3_requireNotCrashed, Cond.selects RX3 yX3_requireNotCrashed yX3_requireNotCrashed, Cond.code yX3_requireNotCrashed cX3_requireNotCrashed 2 none, Cond.methodLink RX3 164 yX1_hasCrashed, Cond.instanceMethod yX1_hasCrashed, Cond.selects RX1 yX1_hasCrashed yX1_hasCrashed, Cond.initialized RX1, Cond.code yX1_hasCrashed cX1_hasCrashed 2 (some .boolean)]
def wsL_take_r2 : List Cond := [Cond.fieldLink RX1 9 "Migrationledger$Lock" "crashed" "[Z", Cond.methodLink RX3 150 yX1_owner, Cond.instanceMethod yX1_owner, Cond.selects RX1 yX1_owner yX1_owner, Cond.code yX1_owner cX1_owner 1 (some .int), Cond.fieldLink RX1 19 "Migrationledger$Lock" "time" "I", Cond.fieldLink RX1 22 "Migrationledger$Lock" "leaseEnd" "I", Cond.fieldLink RX1 15 "Migrationledger$Lock" "taker" "I", Cond.methodLink RX3 155 yX1_grant, Cond.instanceMethod yX1_grant, Cond.selects RX1 yX1_grant yX1_grant, Cond.code yX1_grant cX1_grant 3 (some .int)]
def wsL_take : List Cond := .codeWith yL_take cL_take 5 (some .int) [(0, 10, 13, 13), (0, 10, 17, 15)] :: ((wsL_take_r1 ++ wsL_take_r2) ++ wsX30 ++ wsX10 ++ (vx_atS RX3 126 "java/lang/IllegalArgumentException" ["java/lang/RuntimeException", "java/lang/Exception"]).filter goodWord ++ (vx_atS RX3 50 "java/lang/IllegalStateException" ["java/lang/RuntimeException", "java/lang/Exception"]).filter goodWord)
def wsL_giveBack_r1 : List Cond := [Cond.classLink RL 13 "java/lang/IllegalArgumentException", Cond.classLink RL 15 "java/lang/IllegalStateException", Cond.methodLink RL 55 yX3_giveBack, Cond.instanceMethod yX3_giveBack, Cond.selects RX3 yX3_giveBack yX3_giveBack, Cond.initialized RX3, Cond.code yX3_giveBack cX3_giveBack 2 none, Cond.fieldLink RX3 26 "Migrationledger" "lock" "LMigrationledger$Lock;", Cond.methodLink RX3 142 yX3_requireWorker, Cond.static yX3_requireWorker, Cond.code yX3_requireWorker cX3_requireWorker 1 none, Cond.classLink RX3 122 "java/lang/IllegalArgumentException", Cond.initialized "java/lang/IllegalArgumentException", Cond.methodLink RX3 158 yX3_requireAtWork, Cond.instanceMethod yX3_requireAtWork, Cond.selects RX3 yX3_requireAtWork yX3_requireAtWork, Cond.code yX3_requireAtWork cX3_requireAtWork 2 none, Cond.classLink RX3 46 "java/lang/IllegalStateException", Cond.initialized "java/lang/IllegalStateException", Cond.methodLink RX3 147 yX3_requireNotCrashed, Cond.instanceMethod yX3_requireNotCrashed, Cond.selects RX3 yX3_requireNotCrashed yX3_requireNotCrashed, Cond.code yX3_requireNotCrashed cX3_requireNotCrashed 2 none, Cond.methodLink RX3 164 yX1_hasCrashed]
def wsL_giveBack_r2 : List Cond := [Cond.instanceMethod yX1_hasCrashed, Cond.selects RX1 yX1_hasCrashed yX1_hasCrashed, Cond.initialized RX1, Cond.code yX1_hasCrashed cX1_hasCrashed 2 (some .boolean), Cond.fieldLink RX1 9 "Migrationledger$Lock" "crashed" "[Z", Cond.methodLink RX3 150 yX1_owner, Cond.instanceMethod yX1_owner, Cond.selects RX1 yX1_owner yX1_owner, Cond.code yX1_owner cX1_owner 1 (some .int), Cond.fieldLink RX1 19 "Migrationledger$Lock" "time" "I", Cond.fieldLink RX1 22 "Migrationledger$Lock" "leaseEnd" "I", Cond.fieldLink RX1 15 "Migrationledger$Lock" "taker" "I", Cond.methodLink RX3 161 yX1_release, Cond.instanceMethod yX1_release, Cond.selects RX1 yX1_release yX1_release, Cond.code yX1_release cX1_release 1 none]
def wsL_giveBack : List Cond := .codeWith yL_giveBack cL_giveBack 3 (some .int) [(0, 5, 8, 13), (0, 5, 11, 15)] :: ((wsL_giveBack_r1 ++ wsL_giveBack_r2) ++ wsX30 ++ wsX10 ++ (vx_atS RX3 126 "java/lang/IllegalArgumentException" ["java/lang/RuntimeException", "java/lang/Exception"]).filter goodWord ++ (vx_atS RX3 50 "java/lang/IllegalStateException" ["java/lang/RuntimeException", "java/lang/Exception"]).filter goodWord)
def wsL_restart_r1 : List Cond := [Cond.classLink RL 13 "java/lang/IllegalArgumentException", Cond.classLink RL 15 "java/lang/IllegalStateException", Cond.methodLink RL 59 yX3_restart, Cond.instanceMethod yX3_restart, Cond.selects RX3 yX3_restart yX3_restart, Cond.initialized RX3, Cond.code yX3_restart cX3_restart 2 (some .boolean), Cond.classLink RX3 46 "java/lang/IllegalStateException", Cond.initialized "java/lang/IllegalStateException", Cond.fieldLink RX3 26 "Migrationledger" "lock" "LMigrationledger$Lock;", Cond.methodLink RX3 142 yX3_requireWorker, Cond.static yX3_requireWorker, Cond.code yX3_requireWorker cX3_requireWorker 1 none, Cond.classLink RX3 122 "java/lang/IllegalArgumentException", Cond.initialized "java/lang/IllegalArgumentException", Cond.methodLink RX3 164 yX1_hasCrashed, Cond.instanceMethod yX1_hasCrashed, Cond.selects RX1 yX1_hasCrashed yX1_hasCrashed, Cond.initialized RX1, Cond.code yX1_hasCrashed cX1_hasCrashed 2 (some .boolean), Cond.fieldLink RX1 9 "Migrationledger$Lock" "crashed" "[Z", Cond.methodLink RX3 169 yX1_setCrashed, Cond.instanceMethod yX1_setCrashed, Cond.selects RX1 yX1_setCrashed yX1_setCrashed]
def wsL_restart_r2 : List Cond := [Cond.code yX1_setCrashed cX1_setCrashed 3 none, Cond.methodLink RX3 150 yX1_owner, Cond.instanceMethod yX1_owner, Cond.selects RX1 yX1_owner yX1_owner, Cond.code yX1_owner cX1_owner 1 (some .int), Cond.fieldLink RX1 19 "Migrationledger$Lock" "time" "I", Cond.fieldLink RX1 22 "Migrationledger$Lock" "leaseEnd" "I", Cond.fieldLink RX1 15 "Migrationledger$Lock" "taker" "I"]
def wsL_restart : List Cond := .codeWith yL_restart cL_restart 4 (some .int) [(0, 16, 19, 13), (0, 16, 22, 15)] :: ((wsL_restart_r1 ++ wsL_restart_r2) ++ wsX30 ++ wsX10 ++ (vx_atS RX3 50 "java/lang/IllegalStateException" ["java/lang/RuntimeException", "java/lang/Exception"]).filter goodWord ++ (vx_atS RX3 126 "java/lang/IllegalArgumentException" ["java/lang/RuntimeException", "java/lang/Exception"]).filter goodWord)
def wsL_pass : List Cond := .codeWith yL_pass cL_pass 4 (some .int) [(0, 9, 12, 13)] :: ([.classLink RL 13 "java/lang/IllegalArgumentException", .methodLink RL 63 yX3_pass, .instanceMethod yX3_pass, .selects RX3 yX3_pass yX3_pass, .initialized RX3, .code yX3_pass cX3_pass 2 (some .int), .classLink RX3 122 "java/lang/IllegalArgumentException", .initialized "java/lang/IllegalArgumentException", .fieldLink RX3 26 "Migrationledger" "lock" "LMigrationledger$Lock;", .methodLink RX3 175 yX1_advance, .instanceMethod yX1_advance, .selects RX1 yX1_advance yX1_advance, .initialized RX1, .code yX1_advance cX1_advance 2 (some .int), .fieldLink RX1 19 "Migrationledger$Lock" "time" "I"] ++ wsX30 ++ wsX10 ++ (vx_atS RX3 126 "java/lang/IllegalArgumentException" ["java/lang/RuntimeException", "java/lang/Exception"]).filter goodWord)
def wsL_begin_r1 : List Cond := [Cond.classLink RL 13 "java/lang/IllegalArgumentException", Cond.classLink RL 15 "java/lang/IllegalStateException", Cond.methodLink RL 66 yX3_begin, Cond.instanceMethod yX3_begin, Cond.selects RX3 yX3_begin yX3_begin, Cond.initialized RX3, Cond.code yX3_begin cX3_begin 2 (some .int), Cond.classLink RX3 46 "java/lang/IllegalStateException", Cond.initialized "java/lang/IllegalStateException", Cond.fieldLink RX3 10 "Migrationledger" "list" "LMigrationledger$ChangeList;", Cond.fieldLink RX3 81 "Migrationledger" "done" "I", Cond.fieldLink RX3 34 "Migrationledger" "phase" "I", Cond.fieldLink RX3 184 "Migrationledger" "position" "I", Cond.methodLink RX3 142 yX3_requireWorker, Cond.static yX3_requireWorker, Cond.code yX3_requireWorker cX3_requireWorker 1 none, Cond.classLink RX3 122 "java/lang/IllegalArgumentException", Cond.initialized "java/lang/IllegalArgumentException", Cond.methodLink RX3 158 yX3_requireAtWork, Cond.instanceMethod yX3_requireAtWork, Cond.selects RX3 yX3_requireAtWork yX3_requireAtWork, Cond.code yX3_requireAtWork cX3_requireAtWork 2 none, Cond.fieldLink RX3 26 "Migrationledger" "lock" "LMigrationledger$Lock;", Cond.methodLink RX3 147 yX3_requireNotCrashed]
def wsL_begin_r2 : List Cond := [Cond.instanceMethod yX3_requireNotCrashed, Cond.selects RX3 yX3_requireNotCrashed yX3_requireNotCrashed, Cond.code yX3_requireNotCrashed cX3_requireNotCrashed 2 none, Cond.methodLink RX3 164 yX1_hasCrashed, Cond.instanceMethod yX1_hasCrashed, Cond.selects RX1 yX1_hasCrashed yX1_hasCrashed, Cond.initialized RX1, Cond.code yX1_hasCrashed cX1_hasCrashed 2 (some .boolean), Cond.fieldLink RX1 9 "Migrationledger$Lock" "crashed" "[Z", Cond.methodLink RX3 150 yX1_owner, Cond.instanceMethod yX1_owner, Cond.selects RX1 yX1_owner yX1_owner, Cond.code yX1_owner cX1_owner 1 (some .int), Cond.fieldLink RX1 19 "Migrationledger$Lock" "time" "I", Cond.fieldLink RX1 22 "Migrationledger$Lock" "leaseEnd" "I", Cond.fieldLink RX1 15 "Migrationledger$Lock" "taker" "I", Cond.methodLink RX3 61 yX3_isActive, Cond.instanceMethod yX3_isActive, Cond.selects RX3 yX3_isActive yX3_isActive, Cond.code yX3_isActive cX3_isActive 1 (some .boolean), Cond.methodLink RX3 84 yX0_firstDrifted, Cond.instanceMethod yX0_firstDrifted, Cond.selects RX0 yX0_firstDrifted yX0_firstDrifted, Cond.initialized RX0]
def wsL_begin_r3 : List Cond := [Cond.code yX0_firstDrifted cX0_firstDrifted 3 (some .int), Cond.methodLink RX0 37 yX0_hasDrifted, Cond.instanceMethod yX0_hasDrifted, Cond.selects RX0 yX0_hasDrifted yX0_hasDrifted, Cond.code yX0_hasDrifted cX0_hasDrifted 2 (some .boolean), Cond.fieldLink RX0 21 "Migrationledger$ChangeList" "recorded" "[I", Cond.methodLink RX0 33 yX0_checksumOf, Cond.instanceMethod yX0_checksumOf, Cond.selects RX0 yX0_checksumOf yX0_checksumOf, Cond.code yX0_checksumOf cX0_checksumOf 4 (some .int), Cond.fieldLink RX0 9 "Migrationledger$ChangeList" "kinds" "[I", Cond.fieldLink RX0 15 "Migrationledger$ChangeList" "columns" "[I", Cond.fieldLink RX0 18 "Migrationledger$ChangeList" "operands" "[I", Cond.constant RX0 32 (65521), Cond.methodLink RX3 78 yX0_count, Cond.instanceMethod yX0_count, Cond.selects RX0 yX0_count yX0_count, Cond.code yX0_count cX0_count 1 (some .int), Cond.fieldLink RX0 24 "Migrationledger$ChangeList" "count" "I", Cond.methodLink RX3 64 yX3_activeNumber, Cond.instanceMethod yX3_activeNumber, Cond.selects RX3 yX3_activeNumber yX3_activeNumber, Cond.code yX3_activeNumber cX3_activeNumber 1 (some .int), Cond.methodLink RX3 187 yX0_recordChecksum]
def wsL_begin_r4 : List Cond := [Cond.instanceMethod yX0_recordChecksum, Cond.selects RX0 yX0_recordChecksum yX0_recordChecksum, Cond.code yX0_recordChecksum cX0_recordChecksum 2 none]
def wsL_begin : List Cond := .codeWith yL_begin cL_begin 4 (some .int) [(0, 9, 12, 13), (0, 9, 15, 15)] :: ((wsL_begin_r1 ++ (wsL_begin_r2 ++ (wsL_begin_r3 ++ wsL_begin_r4))) ++ wsX30 ++ wsX10 ++ wsX00 ++ (vx_atS RX3 50 "java/lang/IllegalStateException" ["java/lang/RuntimeException", "java/lang/Exception"]).filter goodWord ++ (vx_atS RX3 126 "java/lang/IllegalArgumentException" ["java/lang/RuntimeException", "java/lang/Exception"]).filter goodWord)
def wsL_undo_r1 : List Cond := [Cond.classLink RL 13 "java/lang/IllegalArgumentException", Cond.classLink RL 15 "java/lang/IllegalStateException", Cond.methodLink RL 69 yX3_undo, Cond.instanceMethod yX3_undo, Cond.selects RX3 yX3_undo yX3_undo, Cond.initialized RX3, Cond.code yX3_undo cX3_undo 2 (some .int), Cond.classLink RX3 46 "java/lang/IllegalStateException", Cond.initialized "java/lang/IllegalStateException", Cond.fieldLink RX3 34 "Migrationledger" "phase" "I", Cond.fieldLink RX3 81 "Migrationledger" "done" "I", Cond.fieldLink RX3 184 "Migrationledger" "position" "I", Cond.methodLink RX3 142 yX3_requireWorker, Cond.static yX3_requireWorker, Cond.code yX3_requireWorker cX3_requireWorker 1 none, Cond.classLink RX3 122 "java/lang/IllegalArgumentException", Cond.initialized "java/lang/IllegalArgumentException", Cond.methodLink RX3 158 yX3_requireAtWork, Cond.instanceMethod yX3_requireAtWork, Cond.selects RX3 yX3_requireAtWork yX3_requireAtWork, Cond.code yX3_requireAtWork cX3_requireAtWork 2 none, Cond.fieldLink RX3 26 "Migrationledger" "lock" "LMigrationledger$Lock;", Cond.methodLink RX3 147 yX3_requireNotCrashed, Cond.instanceMethod yX3_requireNotCrashed]
def wsL_undo_r2 : List Cond := [Cond.selects RX3 yX3_requireNotCrashed yX3_requireNotCrashed, Cond.code yX3_requireNotCrashed cX3_requireNotCrashed 2 none, Cond.methodLink RX3 164 yX1_hasCrashed, Cond.instanceMethod yX1_hasCrashed, Cond.selects RX1 yX1_hasCrashed yX1_hasCrashed, Cond.initialized RX1, Cond.code yX1_hasCrashed cX1_hasCrashed 2 (some .boolean), Cond.fieldLink RX1 9 "Migrationledger$Lock" "crashed" "[Z", Cond.methodLink RX3 150 yX1_owner, Cond.instanceMethod yX1_owner, Cond.selects RX1 yX1_owner yX1_owner, Cond.code yX1_owner cX1_owner 1 (some .int), Cond.fieldLink RX1 19 "Migrationledger$Lock" "time" "I", Cond.fieldLink RX1 22 "Migrationledger$Lock" "leaseEnd" "I", Cond.fieldLink RX1 15 "Migrationledger$Lock" "taker" "I", Cond.methodLink RX3 192 yX3_requireUndoableDone, Cond.instanceMethod yX3_requireUndoableDone, Cond.selects RX3 yX3_requireUndoableDone yX3_requireUndoableDone, Cond.code yX3_requireUndoableDone cX3_requireUndoableDone 1 none, Cond.fieldLink RX3 10 "Migrationledger" "list" "LMigrationledger$ChangeList;", Cond.methodLink RX3 291 yX0_hasDrifted, Cond.instanceMethod yX0_hasDrifted, Cond.selects RX0 yX0_hasDrifted yX0_hasDrifted, Cond.initialized RX0]
def wsL_undo_r3 : List Cond := [Cond.code yX0_hasDrifted cX0_hasDrifted 2 (some .boolean), Cond.fieldLink RX0 21 "Migrationledger$ChangeList" "recorded" "[I", Cond.methodLink RX0 33 yX0_checksumOf, Cond.instanceMethod yX0_checksumOf, Cond.selects RX0 yX0_checksumOf yX0_checksumOf, Cond.code yX0_checksumOf cX0_checksumOf 4 (some .int), Cond.fieldLink RX0 9 "Migrationledger$ChangeList" "kinds" "[I", Cond.fieldLink RX0 15 "Migrationledger$ChangeList" "columns" "[I", Cond.fieldLink RX0 18 "Migrationledger$ChangeList" "operands" "[I", Cond.constant RX0 32 (65521), Cond.methodLink RX3 64 yX3_activeNumber, Cond.instanceMethod yX3_activeNumber, Cond.selects RX3 yX3_activeNumber yX3_activeNumber, Cond.code yX3_activeNumber cX3_activeNumber 1 (some .int)]
def wsL_undo : List Cond := .codeWith yL_undo cL_undo 4 (some .int) [(0, 9, 12, 13), (0, 9, 15, 15)] :: ((wsL_undo_r1 ++ (wsL_undo_r2 ++ wsL_undo_r3)) ++ wsX30 ++ wsX10 ++ wsX00 ++ (vx_atS RX3 50 "java/lang/IllegalStateException" ["java/lang/RuntimeException", "java/lang/Exception"]).filter goodWord ++ (vx_atS RX3 126 "java/lang/IllegalArgumentException" ["java/lang/RuntimeException", "java/lang/Exception"]).filter goodWord)
def wsL_step_r1 : List Cond := [Cond.classLink RL 13 "java/lang/IllegalArgumentException", Cond.classLink RL 15 "java/lang/IllegalStateException", Cond.methodLink RL 72 yX3_step, Cond.instanceMethod yX3_step, Cond.selects RX3 yX3_step yX3_step, Cond.initialized RX3, Cond.code yX3_step cX3_step 4 (some .int), Cond.classLink RX3 122 "java/lang/IllegalArgumentException", Cond.initialized "java/lang/IllegalArgumentException", Cond.methodLink RX3 205 Lib.Math.min.name, Cond.static Lib.Math.min.name, Cond.initialized "java/lang/Math", Cond.code Lib.Math.min.name Lib.Math.min.code 2 (some .int), Cond.methodLink RX3 142 yX3_requireWorker, Cond.static yX3_requireWorker, Cond.code yX3_requireWorker cX3_requireWorker 1 none, Cond.methodLink RX3 158 yX3_requireAtWork, Cond.instanceMethod yX3_requireAtWork, Cond.selects RX3 yX3_requireAtWork yX3_requireAtWork, Cond.code yX3_requireAtWork cX3_requireAtWork 2 none, Cond.classLink RX3 46 "java/lang/IllegalStateException", Cond.initialized "java/lang/IllegalStateException", Cond.fieldLink RX3 26 "Migrationledger" "lock" "LMigrationledger$Lock;", Cond.methodLink RX3 147 yX3_requireNotCrashed]
def wsL_step_r2 : List Cond := [Cond.instanceMethod yX3_requireNotCrashed, Cond.selects RX3 yX3_requireNotCrashed yX3_requireNotCrashed, Cond.code yX3_requireNotCrashed cX3_requireNotCrashed 2 none, Cond.methodLink RX3 164 yX1_hasCrashed, Cond.instanceMethod yX1_hasCrashed, Cond.selects RX1 yX1_hasCrashed yX1_hasCrashed, Cond.initialized RX1, Cond.code yX1_hasCrashed cX1_hasCrashed 2 (some .boolean), Cond.fieldLink RX1 9 "Migrationledger$Lock" "crashed" "[Z", Cond.methodLink RX3 150 yX1_owner, Cond.instanceMethod yX1_owner, Cond.selects RX1 yX1_owner yX1_owner, Cond.code yX1_owner cX1_owner 1 (some .int), Cond.fieldLink RX1 19 "Migrationledger$Lock" "time" "I", Cond.fieldLink RX1 22 "Migrationledger$Lock" "leaseEnd" "I", Cond.fieldLink RX1 15 "Migrationledger$Lock" "taker" "I", Cond.methodLink RX3 199 yX3_requireActive, Cond.instanceMethod yX3_requireActive, Cond.selects RX3 yX3_requireActive yX3_requireActive, Cond.code yX3_requireActive cX3_requireActive 1 none, Cond.methodLink RX3 61 yX3_isActive, Cond.instanceMethod yX3_isActive, Cond.selects RX3 yX3_isActive yX3_isActive, Cond.code yX3_isActive cX3_isActive 1 (some .boolean)]
def wsL_step_r3 : List Cond := [Cond.fieldLink RX3 34 "Migrationledger" "phase" "I", Cond.methodLink RX3 202 yX3_idsLeft, Cond.instanceMethod yX3_idsLeft, Cond.selects RX3 yX3_idsLeft yX3_idsLeft, Cond.code yX3_idsLeft cX3_idsLeft 1 (some .int), Cond.fieldLink RX3 184 "Migrationledger" "position" "I", Cond.methodLink RX3 210 yX3_goThrough, Cond.instanceMethod yX3_goThrough, Cond.selects RX3 yX3_goThrough yX3_goThrough, Cond.code yX3_goThrough cX3_goThrough 7 (some .int), Cond.methodLink RX3 221 yX3_idBehind, Cond.instanceMethod yX3_idBehind, Cond.selects RX3 yX3_idBehind yX3_idBehind, Cond.code yX3_idBehind cX3_idBehind 2 (some .int), Cond.methodLink RX3 224 yX3_isToBeChanged, Cond.instanceMethod yX3_isToBeChanged, Cond.selects RX3 yX3_isToBeChanged yX3_isToBeChanged, Cond.code yX3_isToBeChanged cX3_isToBeChanged 3 (some .boolean), Cond.fieldLink RX3 19 "Migrationledger" "table" "LMigrationledger$Table;", Cond.methodLink RX3 93 yX2_isPresent, Cond.instanceMethod yX2_isPresent, Cond.selects RX2 yX2_isPresent yX2_isPresent, Cond.initialized RX2, Cond.code yX2_isPresent cX2_isPresent 2 (some .boolean)]
def wsL_step_r4 : List Cond := [Cond.fieldLink RX2 15 "Migrationledger$Table" "versions" "[I", Cond.methodLink RX3 119 yX2_versionOf, Cond.instanceMethod yX2_versionOf, Cond.selects RX2 yX2_versionOf yX2_versionOf, Cond.code yX2_versionOf cX2_versionOf 2 (some .int), Cond.methodLink RX3 64 yX3_activeNumber, Cond.instanceMethod yX3_activeNumber, Cond.selects RX3 yX3_activeNumber yX3_activeNumber, Cond.code yX3_activeNumber cX3_activeNumber 1 (some .int), Cond.fieldLink RX3 81 "Migrationledger" "done" "I", Cond.methodLink RX3 227 yX3_changeRow, Cond.instanceMethod yX3_changeRow, Cond.selects RX3 yX3_changeRow yX3_changeRow, Cond.code yX3_changeRow cX3_changeRow 4 (some .boolean), Cond.fieldLink RX3 30 "Migrationledger" "tried" "[I", Cond.methodLink RX3 132 yX2_copyRow, Cond.instanceMethod yX2_copyRow, Cond.selects RX2 yX2_copyRow yX2_copyRow, Cond.code yX2_copyRow cX2_copyRow 4 none, Cond.methodLink RX2 18 yX2_cell, Cond.instanceMethod yX2_cell, Cond.selects RX2 yX2_cell yX2_cell, Cond.code yX2_cell cX2_cell 3 (some .int), Cond.fieldLink RX2 9 "Migrationledger$Table" "cells" "[I"]
def wsL_step_r5 : List Cond := [Cond.methodLink RX3 136 yX3_bringTried, Cond.instanceMethod yX3_bringTried, Cond.selects RX3 yX3_bringTried yX3_bringTried, Cond.code yX3_bringTried cX3_bringTried 4 (some .boolean), Cond.fieldLink RX3 10 "Migrationledger" "list" "LMigrationledger$ChangeList;", Cond.methodLink RX3 239 yX0_applyTo, Cond.instanceMethod yX0_applyTo, Cond.selects RX0 yX0_applyTo yX0_applyTo, Cond.initialized RX0, Cond.code yX0_applyTo cX0_applyTo 7 (some .boolean), Cond.fieldLink RX0 15 "Migrationledger$ChangeList" "columns" "[I", Cond.fieldLink RX0 18 "Migrationledger$ChangeList" "operands" "[I", Cond.fieldLink RX0 9 "Migrationledger$ChangeList" "kinds" "[I", Cond.methodLink RX0 41 yX0_putResult, Cond.static yX0_putResult, Cond.code yX0_putResult cX0_putResult 4 (some .boolean), Cond.static yX3_isTableValue, Cond.code yX3_isTableValue cX3_isTableValue 2 (some .boolean), Cond.constantLong RX3 246 (-1000000000), Cond.constantLong RX3 248 (1000000000), Cond.methodLink RX0 45 yX0_exchange, Cond.static yX0_exchange, Cond.code yX0_exchange cX0_exchange 4 (some .boolean), Cond.methodLink RX3 243 yX0_undoOn]
def wsL_step_r6 : List Cond := [Cond.instanceMethod yX0_undoOn, Cond.selects RX0 yX0_undoOn yX0_undoOn, Cond.code yX0_undoOn cX0_undoOn 7 (some .boolean), Cond.methodLink RX3 236 yX2_storeRow, Cond.instanceMethod yX2_storeRow, Cond.selects RX2 yX2_storeRow yX2_storeRow, Cond.code yX2_storeRow cX2_storeRow 4 none, Cond.methodLink RX2 22 yX2_setCell, Cond.instanceMethod yX2_setCell, Cond.selects RX2 yX2_setCell yX2_setCell, Cond.code yX2_setCell cX2_setCell 4 none, Cond.methodLink RX3 105 yX2_setVersion, Cond.instanceMethod yX2_setVersion, Cond.selects RX2 yX2_setVersion yX2_setVersion, Cond.code yX2_setVersion cX2_setVersion 3 none, Cond.methodLink RX3 230 yX3_positionBehind, Cond.instanceMethod yX3_positionBehind, Cond.selects RX3 yX3_positionBehind yX3_positionBehind, Cond.code yX3_positionBehind cX3_positionBehind 2 (some .int), Cond.methodLink RX3 169 yX1_setCrashed, Cond.instanceMethod yX1_setCrashed, Cond.selects RX1 yX1_setCrashed yX1_setCrashed, Cond.code yX1_setCrashed cX1_setCrashed 3 none, Cond.methodLink RX3 233 yX3_endIfAllPassed]
def wsL_step_r7 : List Cond := [Cond.instanceMethod yX3_endIfAllPassed, Cond.selects RX3 yX3_endIfAllPassed yX3_endIfAllPassed, Cond.code yX3_endIfAllPassed cX3_endIfAllPassed 1 none]
def wsL_step : List Cond := .codeWith yL_step cL_step 6 (some .int) [(0, 12, 15, 13), (0, 12, 19, 15)] :: ((wsL_step_r1 ++ (wsL_step_r2 ++ (wsL_step_r3 ++ (wsL_step_r4 ++ (wsL_step_r5 ++ (wsL_step_r6 ++ wsL_step_r7)))))) ++ wsX30 ++ wsX10 ++ wsX20 ++ wsX00 ++ (vx_atS RX3 126 "java/lang/IllegalArgumentException" ["java/lang/RuntimeException", "java/lang/Exception"]).filter goodWord ++ (vx_atS RX3 50 "java/lang/IllegalStateException" ["java/lang/RuntimeException", "java/lang/Exception"]).filter goodWord)
def wsL_cursor : List Cond := .codeWith yL_cursor cL_cursor 3 (some .int) [(0, 8, 11, 15)] :: ([.classLink RL 15 "java/lang/IllegalStateException", .methodLink RL 75 yX3_cursor, .instanceMethod yX3_cursor, .selects RX3 yX3_cursor yX3_cursor, .initialized RX3, .code yX3_cursor cX3_cursor 1 (some .int), .fieldLink RX3 184 "Migrationledger" "position" "I", .methodLink RX3 199 yX3_requireActive, .instanceMethod yX3_requireActive, .selects RX3 yX3_requireActive yX3_requireActive, .code yX3_requireActive cX3_requireActive 1 none, .classLink RX3 46 "java/lang/IllegalStateException", .initialized "java/lang/IllegalStateException", .methodLink RX3 61 yX3_isActive, .instanceMethod yX3_isActive, .selects RX3 yX3_isActive yX3_isActive, .code yX3_isActive cX3_isActive 1 (some .boolean), .fieldLink RX3 34 "Migrationledger" "phase" "I"] ++ wsX30 ++ (vx_atS RX3 50 "java/lang/IllegalStateException" ["java/lang/RuntimeException", "java/lang/Exception"]).filter goodWord)
def wsL_share_r1 : List Cond := [Cond.classLink RL 15 "java/lang/IllegalStateException", Cond.methodLink RL 79 yX3_share, Cond.instanceMethod yX3_share, Cond.selects RX3 yX3_share yX3_share, Cond.initialized RX3, Cond.code yX3_share cX3_share 2 (some .float), Cond.classLink RX3 46 "java/lang/IllegalStateException", Cond.initialized "java/lang/IllegalStateException", Cond.fieldLink RX3 19 "Migrationledger" "table" "LMigrationledger$Table;", Cond.methodLink RX3 199 yX3_requireActive, Cond.instanceMethod yX3_requireActive, Cond.selects RX3 yX3_requireActive yX3_requireActive, Cond.code yX3_requireActive cX3_requireActive 1 none, Cond.methodLink RX3 61 yX3_isActive, Cond.instanceMethod yX3_isActive, Cond.selects RX3 yX3_isActive yX3_isActive, Cond.code yX3_isActive cX3_isActive 1 (some .boolean), Cond.fieldLink RX3 34 "Migrationledger" "phase" "I", Cond.methodLink RX3 213 yX2_countPresent, Cond.instanceMethod yX2_countPresent, Cond.selects RX2 yX2_countPresent yX2_countPresent, Cond.initialized RX2, Cond.code yX2_countPresent cX2_countPresent 1 (some .int), Cond.methodLink RX2 26 yX2_countFromVersion]
def wsL_share_r2 : List Cond := [Cond.instanceMethod yX2_countFromVersion, Cond.selects RX2 yX2_countFromVersion yX2_countFromVersion, Cond.code yX2_countFromVersion cX2_countFromVersion 4 (some .int), Cond.fieldLink RX2 15 "Migrationledger$Table" "versions" "[I", Cond.methodLink RX3 64 yX3_activeNumber, Cond.instanceMethod yX3_activeNumber, Cond.selects RX3 yX3_activeNumber yX3_activeNumber, Cond.code yX3_activeNumber cX3_activeNumber 1 (some .int), Cond.fieldLink RX3 81 "Migrationledger" "done" "I", Cond.methodLink RX3 218 yX2_countFromVersion]
def wsL_share : List Cond := .codeWith yL_share cL_share 3 (some .int) [(0, 8, 11, 15)] :: ((wsL_share_r1 ++ wsL_share_r2) ++ wsX30 ++ wsX20 ++ (vx_atS RX3 50 "java/lang/IllegalStateException" ["java/lang/RuntimeException", "java/lang/Exception"]).filter goodWord)
abbrev vwCl : List vw_C := [(RX0, TX0, 5), (RX1, TX1, 4), (RX2, TX2, 2), (RX3, TX3, 7), (RX4, TX4, 16)]
end
section
def wsL_law0_r1 : List Cond := [Cond.classLink RL 8 RX3, Cond.instantiable RX3 7, Cond.initialized RX3, Cond.classLink RL 84 RX4, Cond.instantiable RX4 16, Cond.initialized RX4, Cond.arrayClass .long, Cond.arrayClass .double, Cond.methodLink RL 83 yX3_init, Cond.instanceMethod yX3_init, Cond.code yX3_init cX3_init 1 none, Cond.methodLink RX3 1 objectInit, Cond.instanceMethod objectInit, Cond.code objectInit ⟨#[0xb1]⟩ 1 none, Cond.classLink RX3 7 RX0, Cond.instantiable RX0 5, Cond.initialized RX0, Cond.fieldLink RX3 10 "Migrationledger" "list" "LMigrationledger$ChangeList;", Cond.classLink RX3 16 RX2, Cond.instantiable RX2 2, Cond.initialized RX2, Cond.fieldLink RX3 19 "Migrationledger" "table" "LMigrationledger$Table;", Cond.classLink RX3 23 RX1, Cond.instantiable RX1 4]
def wsL_law0_r2 : List Cond := [Cond.initialized RX1, Cond.fieldLink RX3 26 "Migrationledger" "lock" "LMigrationledger$Lock;", Cond.arrayClass .int, Cond.fieldLink RX3 30 "Migrationledger" "tried" "[I", Cond.fieldLink RX3 34 "Migrationledger" "phase" "I", Cond.instanceMethod yX0_init, Cond.code yX0_init cX0_init 1 none, Cond.methodLink RX0 3 objectInit, Cond.fieldLink RX0 9 "Migrationledger$ChangeList" "kinds" "[I", Cond.fieldLink RX0 15 "Migrationledger$ChangeList" "columns" "[I", Cond.fieldLink RX0 18 "Migrationledger$ChangeList" "operands" "[I", Cond.fieldLink RX0 21 "Migrationledger$ChangeList" "recorded" "[I", Cond.methodLink RX3 18 yX2_init, Cond.instanceMethod yX2_init, Cond.code yX2_init cX2_init 2 none, Cond.methodLink RX2 3 objectInit, Cond.fieldLink RX2 9 "Migrationledger$Table" "cells" "[I", Cond.fieldLink RX2 15 "Migrationledger$Table" "versions" "[I", Cond.instanceMethod yX1_init, Cond.code yX1_init cX1_init 1 none, Cond.methodLink RX1 3 objectInit, Cond.arrayClass .boolean, Cond.fieldLink RX1 9 "Migrationledger$Lock" "crashed" "[Z", Cond.fieldLink RX1 15 "Migrationledger$Lock" "taker" "I"]
def wsL_law0_r3 : List Cond := [Cond.methodLink RL 86 yX4_init, Cond.instanceMethod yX4_init, Cond.code yX4_init cX4_init 2 none, Cond.methodLink RX4 1 objectInit, Cond.fieldLink RX4 7 "MigrationledgerModel" "kinds" "[I", Cond.fieldLink RX4 13 "MigrationledgerModel" "columns" "[I", Cond.fieldLink RX4 16 "MigrationledgerModel" "operands" "[I", Cond.fieldLink RX4 19 "MigrationledgerModel" "recorded" "[I", Cond.fieldLink RX4 22 "MigrationledgerModel" "versions" "[I", Cond.fieldLink RX4 25 "MigrationledgerModel" "values" "[I", Cond.fieldLink RX4 28 "MigrationledgerModel" "spare" "[J", Cond.fieldLink RX4 32 "MigrationledgerModel" "holder" "I", Cond.fieldLink RX4 36 "MigrationledgerModel" "hasCrashed" "[Z", Cond.methodLink RL 87 yL_addChange, Cond.static yL_addChange, Cond.initialized RL, Cond.codeWith yL_addChange cL_addChange 6 (some .int) [(0, 12, 15, 13), (0, 12, 19, 15)], Cond.classLink RL 13 "java/lang/IllegalArgumentException", Cond.classLink RL 15 "java/lang/IllegalStateException", Cond.methodLink RL 7 yX3_addChange, Cond.instanceMethod yX3_addChange, Cond.selects RX3 yX3_addChange yX3_addChange, Cond.code yX3_addChange cX3_addChange 4 (some .int), Cond.classLink RX3 46 "java/lang/IllegalStateException"]
def wsL_law0_r4 : List Cond := [Cond.initialized "java/lang/IllegalStateException", Cond.methodLink RX3 38 yX3_requireChangeParts, Cond.static yX3_requireChangeParts, Cond.code yX3_requireChangeParts cX3_requireChangeParts 3 none, Cond.classLink RX3 122 "java/lang/IllegalArgumentException", Cond.initialized "java/lang/IllegalArgumentException", Cond.methodLink RX3 109 yX3_requireColumn, Cond.static yX3_requireColumn, Cond.code yX3_requireColumn cX3_requireColumn 1 none, Cond.methodLink RX3 250 yX3_isColumn, Cond.static yX3_isColumn, Cond.code yX3_isColumn cX3_isColumn 1 (some .boolean), Cond.methodLink RX3 255 yX3_isOperand, Cond.static yX3_isOperand, Cond.code yX3_isOperand cX3_isOperand 3 (some .boolean), Cond.methodLink RX3 42 yX0_isFull, Cond.instanceMethod yX0_isFull, Cond.selects RX0 yX0_isFull yX0_isFull, Cond.code yX0_isFull cX0_isFull 1 (some .boolean), Cond.fieldLink RX0 24 "Migrationledger$ChangeList" "count" "I", Cond.methodLink RX3 53 yX0_append, Cond.instanceMethod yX0_append, Cond.selects RX0 yX0_append yX0_append, Cond.code yX0_append cX0_append 4 (some .int)]
def wsL_law0_r5 : List Cond := [Cond.methodLink RX0 28 yX0_put, Cond.instanceMethod yX0_put, Cond.selects RX0 yX0_put yX0_put, Cond.code yX0_put cX0_put 5 none, Cond.methodLink RL 92 yX4_addChange, Cond.instanceMethod yX4_addChange, Cond.selects RX4 yX4_addChange yX4_addChange, Cond.code yX4_addChange cX4_addChange 4 (some .int), Cond.fieldLink RX4 55 "MigrationledgerModel" "many" "I", Cond.methodLink RX4 52 yX4_isChange, Cond.static yX4_isChange, Cond.code yX4_isChange cX4_isChange 4 (some .boolean), Cond.methodLink RX4 47 yX4_in, Cond.static yX4_in, Cond.code yX4_in cX4_in 3 (some .boolean), Cond.methodLink RX4 58 yX4_refused, Cond.instanceMethod yX4_refused, Cond.selects RX4 yX4_refused yX4_refused, Cond.code yX4_refused cX4_refused 2 (some .boolean), Cond.fieldLink RX4 40 "MigrationledgerModel" "refusal" "I", Cond.methodLink RX4 62 yX4_put, Cond.instanceMethod yX4_put, Cond.selects RX4 yX4_put yX4_put, Cond.code yX4_put cX4_put 5 none]
def wsL_law0_r6 : List Cond := [Cond.methodLink RL 93 yX4_thrown, Cond.instanceMethod yX4_thrown, Cond.selects RX4 yX4_thrown yX4_thrown, Cond.code yX4_thrown cX4_thrown 1 (some .int), Cond.methodLink RL 96 yL_edit, Cond.static yL_edit, Cond.codeWith yL_edit cL_edit 7 (some .int) [(0, 14, 17, 13), (0, 14, 21, 21), (0, 14, 25, 15)], Cond.classLink RL 21 "java/lang/IndexOutOfBoundsException", Cond.methodLink RL 17 yX3_edit, Cond.instanceMethod yX3_edit, Cond.selects RX3 yX3_edit yX3_edit, Cond.code yX3_edit cX3_edit 5 (some .int), Cond.methodLink RX3 57 yX3_requireListed, Cond.instanceMethod yX3_requireListed, Cond.selects RX3 yX3_requireListed yX3_requireListed, Cond.code yX3_requireListed cX3_requireListed 2 none, Cond.classLink RX3 276 "java/lang/IndexOutOfBoundsException", Cond.initialized "java/lang/IndexOutOfBoundsException", Cond.methodLink RX3 273 yX0_contains, Cond.instanceMethod yX0_contains, Cond.selects RX0 yX0_contains yX0_contains, Cond.code yX0_contains cX0_contains 2 (some .boolean), Cond.methodLink RX3 61 yX3_isActive, Cond.instanceMethod yX3_isActive]
def wsL_law0_r7 : List Cond := [Cond.selects RX3 yX3_isActive yX3_isActive, Cond.code yX3_isActive cX3_isActive 1 (some .boolean), Cond.methodLink RX3 64 yX3_activeNumber, Cond.instanceMethod yX3_activeNumber, Cond.selects RX3 yX3_activeNumber yX3_activeNumber, Cond.code yX3_activeNumber cX3_activeNumber 1 (some .int), Cond.fieldLink RX3 81 "Migrationledger" "done" "I", Cond.methodLink RX3 70 yX0_put, Cond.methodLink RX3 74 yX0_checksumOf, Cond.instanceMethod yX0_checksumOf, Cond.selects RX0 yX0_checksumOf yX0_checksumOf, Cond.code yX0_checksumOf cX0_checksumOf 4 (some .int), Cond.constant RX0 32 (65521), Cond.methodLink RL 99 yX4_edit, Cond.instanceMethod yX4_edit, Cond.selects RX4 yX4_edit yX4_edit, Cond.code yX4_edit cX4_edit 6 (some .int), Cond.methodLink RX4 72 yX4_stateOf, Cond.instanceMethod yX4_stateOf, Cond.selects RX4 yX4_stateOf yX4_stateOf, Cond.code yX4_stateOf cX4_stateOf 2 (some .int), Cond.fieldLink RX4 66 "MigrationledgerModel" "level" "I", Cond.fieldLink RX4 69 "MigrationledgerModel" "active" "I", Cond.methodLink RX4 76 yX4_sumOf]
def wsL_law0_r8 : List Cond := [Cond.instanceMethod yX4_sumOf, Cond.selects RX4 yX4_sumOf yX4_sumOf, Cond.code yX4_sumOf cX4_sumOf 2 (some .int), Cond.constant RX4 51 (65521), Cond.methodLink RL 100 yX3_changes, Cond.instanceMethod yX3_changes, Cond.selects RX3 yX3_changes yX3_changes, Cond.code yX3_changes cX3_changes 1 (some .int), Cond.methodLink RX3 78 yX0_count, Cond.instanceMethod yX0_count, Cond.selects RX0 yX0_count yX0_count, Cond.code yX0_count cX0_count 1 (some .int), Cond.methodLink RL 103 yX4_changes, Cond.instanceMethod yX4_changes, Cond.selects RX4 yX4_changes yX4_changes, Cond.code yX4_changes cX4_changes 1 (some .int), Cond.methodLink RX4 79 yX4_fine, Cond.instanceMethod yX4_fine, Cond.selects RX4 yX4_fine yX4_fine, Cond.code yX4_fine cX4_fine 2 (some .int), Cond.methodLink RL 104 yL_checksum, Cond.static yL_checksum, Cond.codeWith yL_checksum cL_checksum 4 (some .int) [(0, 9, 12, 21)], Cond.methodLink RL 23 yX3_checksum]
def wsL_law0_r9 : List Cond := [Cond.instanceMethod yX3_checksum, Cond.selects RX3 yX3_checksum yX3_checksum, Cond.code yX3_checksum cX3_checksum 2 (some .int), Cond.methodLink RL 107 yX4_checksum, Cond.instanceMethod yX4_checksum, Cond.selects RX4 yX4_checksum yX4_checksum, Cond.code yX4_checksum cX4_checksum 2 (some .int), Cond.methodLink RL 108 yL_state, Cond.static yL_state, Cond.codeWith yL_state cL_state 4 (some .int) [(0, 9, 12, 21)], Cond.methodLink RL 27 yX3_state, Cond.instanceMethod yX3_state, Cond.selects RX3 yX3_state yX3_state, Cond.code yX3_state cX3_state 2 (some .int), Cond.methodLink RL 110 yX4_state, Cond.instanceMethod yX4_state, Cond.selects RX4 yX4_state yX4_state, Cond.code yX4_state cX4_state 2 (some .int), Cond.methodLink RL 111 yX3_level, Cond.instanceMethod yX3_level, Cond.selects RX3 yX3_level yX3_level, Cond.code yX3_level cX3_level 1 (some .int), Cond.methodLink RL 114 yX4_level, Cond.instanceMethod yX4_level]
def wsL_law0_r10 : List Cond := [Cond.selects RX4 yX4_level yX4_level, Cond.code yX4_level cX4_level 1 (some .int), Cond.methodLink RL 115 yX3_drifted, Cond.instanceMethod yX3_drifted, Cond.selects RX3 yX3_drifted yX3_drifted, Cond.code yX3_drifted cX3_drifted 1 (some .int), Cond.methodLink RX3 84 yX0_firstDrifted, Cond.instanceMethod yX0_firstDrifted, Cond.selects RX0 yX0_firstDrifted yX0_firstDrifted, Cond.code yX0_firstDrifted cX0_firstDrifted 3 (some .int), Cond.methodLink RX0 37 yX0_hasDrifted, Cond.instanceMethod yX0_hasDrifted, Cond.selects RX0 yX0_hasDrifted yX0_hasDrifted, Cond.code yX0_hasDrifted cX0_hasDrifted 2 (some .boolean), Cond.methodLink RX0 33 yX0_checksumOf, Cond.methodLink RL 118 yX4_drifted, Cond.instanceMethod yX4_drifted, Cond.selects RX4 yX4_drifted yX4_drifted, Cond.code yX4_drifted cX4_drifted 1 (some .int), Cond.methodLink RX4 82 yX4_firstDrift, Cond.instanceMethod yX4_firstDrift, Cond.selects RX4 yX4_firstDrift yX4_firstDrift, Cond.code yX4_firstDrift cX4_firstDrift 3 (some .int), Cond.methodLink RL 119 yL_insert]
def wsL_law0_r11 : List Cond := [Cond.static yL_insert, Cond.codeWith yL_insert cL_insert 7 (some .int) [(0, 14, 17, 13), (0, 14, 21, 15)], Cond.methodLink RL 30 yX3_insert, Cond.instanceMethod yX3_insert, Cond.selects RX3 yX3_insert yX3_insert, Cond.code yX3_insert cX3_insert 6 (some .int), Cond.methodLink RX3 87 yX3_requireId, Cond.static yX3_requireId, Cond.code yX3_requireId cX3_requireId 1 none, Cond.methodLink RX3 90 yX3_requireTableValue, Cond.static yX3_requireTableValue, Cond.code yX3_requireTableValue cX3_requireTableValue 1 none, Cond.methodLink RX3 265 yX3_isTableValue, Cond.static yX3_isTableValue, Cond.code yX3_isTableValue cX3_isTableValue 2 (some .boolean), Cond.constantLong RX3 246 (-1000000000), Cond.constantLong RX3 248 (1000000000), Cond.methodLink RX3 93 yX2_isPresent, Cond.instanceMethod yX2_isPresent, Cond.selects RX2 yX2_isPresent yX2_isPresent, Cond.code yX2_isPresent cX2_isPresent 2 (some .boolean), Cond.methodLink RX3 99 yX3_versionForNewRow, Cond.instanceMethod yX3_versionForNewRow, Cond.selects RX3 yX3_versionForNewRow yX3_versionForNewRow]
def wsL_law0_r12 : List Cond := [Cond.code yX3_versionForNewRow cX3_versionForNewRow 2 (some .int), Cond.fieldLink RX3 184 "Migrationledger" "position" "I", Cond.methodLink RX3 102 yX2_setCell, Cond.instanceMethod yX2_setCell, Cond.selects RX2 yX2_setCell yX2_setCell, Cond.code yX2_setCell cX2_setCell 4 none, Cond.methodLink RX3 105 yX2_setVersion, Cond.instanceMethod yX2_setVersion, Cond.selects RX2 yX2_setVersion yX2_setVersion, Cond.code yX2_setVersion cX2_setVersion 3 none, Cond.methodLink RL 121 yX4_insert, Cond.instanceMethod yX4_insert, Cond.selects RX4 yX4_insert yX4_insert, Cond.code yX4_insert cX4_insert 6 (some .int), Cond.fieldLink RX4 93 "MigrationledgerModel" "cursor" "I", Cond.methodLink RX4 86 yX4_isRow, Cond.static yX4_isRow, Cond.code yX4_isRow cX4_isRow 1 (some .boolean), Cond.methodLink RX4 89 yX4_isValue, Cond.static yX4_isValue, Cond.code yX4_isValue cX4_isValue 2 (some .boolean), Cond.constantLong RX4 43 (-1000000000), Cond.constantLong RX4 45 (1000000000), Cond.methodLink RL 122 yL_write]
def wsL_law0_r13 : List Cond := [Cond.static yL_write, Cond.codeWith yL_write cL_write 6 (some .int) [(0, 12, 15, 13), (0, 12, 19, 21)], Cond.methodLink RL 33 yX3_write, Cond.instanceMethod yX3_write, Cond.selects RX3 yX3_write yX3_write, Cond.code yX3_write cX3_write 5 (some .int), Cond.methodLink RX3 112 yX3_requirePresent, Cond.instanceMethod yX3_requirePresent, Cond.selects RX3 yX3_requirePresent yX3_requirePresent, Cond.code yX3_requirePresent cX3_requirePresent 2 none, Cond.methodLink RX3 115 yX2_cell, Cond.instanceMethod yX2_cell, Cond.selects RX2 yX2_cell yX2_cell, Cond.code yX2_cell cX2_cell 3 (some .int), Cond.methodLink RL 124 yX4_write, Cond.instanceMethod yX4_write, Cond.selects RX4 yX4_write yX4_write, Cond.code yX4_write cX4_write 5 (some .int), Cond.methodLink RX4 96 yX4_noRow, Cond.instanceMethod yX4_noRow, Cond.selects RX4 yX4_noRow yX4_noRow, Cond.code yX4_noRow cX4_noRow 3 (some .boolean), Cond.methodLink RL 125 yL_delete, Cond.static yL_delete]
def wsL_law0_r14 : List Cond := [Cond.codeWith yL_delete cL_delete 4 (some .int) [(0, 9, 12, 13), (0, 9, 15, 21)], Cond.methodLink RL 36 yX3_delete, Cond.instanceMethod yX3_delete, Cond.selects RX3 yX3_delete yX3_delete, Cond.code yX3_delete cX3_delete 3 (some .int), Cond.methodLink RX3 119 yX2_versionOf, Cond.instanceMethod yX2_versionOf, Cond.selects RX2 yX2_versionOf yX2_versionOf, Cond.code yX2_versionOf cX2_versionOf 2 (some .int), Cond.methodLink RL 127 yX4_delete, Cond.instanceMethod yX4_delete, Cond.selects RX4 yX4_delete yX4_delete, Cond.code yX4_delete cX4_delete 3 (some .int), Cond.methodLink RL 128 yL_value, Cond.static yL_value, Cond.codeWith yL_value cL_value 5 (some .int) [(0, 10, 13, 13), (0, 10, 17, 21)], Cond.methodLink RL 39 yX3_value, Cond.instanceMethod yX3_value, Cond.selects RX3 yX3_value yX3_value, Cond.code yX3_value cX3_value 3 (some .int), Cond.methodLink RL 131 yX4_value, Cond.instanceMethod yX4_value, Cond.selects RX4 yX4_value yX4_value, Cond.code yX4_value cX4_value 3 (some .int)]
def wsL_law0_r15 : List Cond := [Cond.methodLink RL 132 yL_version, Cond.static yL_version, Cond.codeWith yL_version cL_version 4 (some .int) [(0, 9, 12, 13)], Cond.methodLink RL 43 yX3_version, Cond.instanceMethod yX3_version, Cond.selects RX3 yX3_version yX3_version, Cond.code yX3_version cX3_version 2 (some .int), Cond.methodLink RL 134 yX4_version, Cond.instanceMethod yX4_version, Cond.selects RX4 yX4_version yX4_version, Cond.code yX4_version cX4_version 2 (some .int), Cond.methodLink RL 135 yL_rowsAt, Cond.static yL_rowsAt, Cond.codeWith yL_rowsAt cL_rowsAt 4 (some .int) [(0, 9, 12, 13)], Cond.methodLink RL 46 yX3_rowsAt, Cond.instanceMethod yX3_rowsAt, Cond.selects RX3 yX3_rowsAt yX3_rowsAt, Cond.code yX3_rowsAt cX3_rowsAt 2 (some .int), Cond.methodLink RX3 127 yX2_countWithVersion, Cond.instanceMethod yX2_countWithVersion, Cond.selects RX2 yX2_countWithVersion yX2_countWithVersion, Cond.code yX2_countWithVersion cX2_countWithVersion 4 (some .int), Cond.methodLink RL 137 yX4_rowsAt, Cond.instanceMethod yX4_rowsAt]
def wsL_law0_r16 : List Cond := [Cond.selects RX4 yX4_rowsAt yX4_rowsAt, Cond.code yX4_rowsAt cX4_rowsAt 4 (some .int), Cond.methodLink RL 138 yL_valueAt, Cond.static yL_valueAt, Cond.codeWith yL_valueAt cL_valueAt 6 (some .int) [(0, 12, 15, 13), (0, 12, 19, 21), (0, 12, 23, 15)], Cond.methodLink RL 49 yX3_valueAt, Cond.instanceMethod yX3_valueAt, Cond.selects RX3 yX3_valueAt yX3_valueAt, Cond.code yX3_valueAt cX3_valueAt 4 (some .int), Cond.methodLink RX3 132 yX2_copyRow, Cond.instanceMethod yX2_copyRow, Cond.selects RX2 yX2_copyRow yX2_copyRow, Cond.code yX2_copyRow cX2_copyRow 4 none, Cond.methodLink RX2 18 yX2_cell, Cond.methodLink RX3 136 yX3_bringTried, Cond.instanceMethod yX3_bringTried, Cond.selects RX3 yX3_bringTried yX3_bringTried, Cond.code yX3_bringTried cX3_bringTried 4 (some .boolean), Cond.methodLink RX3 239 yX0_applyTo, Cond.instanceMethod yX0_applyTo, Cond.selects RX0 yX0_applyTo yX0_applyTo, Cond.code yX0_applyTo cX0_applyTo 7 (some .boolean), Cond.methodLink RX0 41 yX0_putResult, Cond.static yX0_putResult]
def wsL_law0_r17 : List Cond := [Cond.code yX0_putResult cX0_putResult 4 (some .boolean), Cond.methodLink RX0 45 yX0_exchange, Cond.static yX0_exchange, Cond.code yX0_exchange cX0_exchange 4 (some .boolean), Cond.methodLink RX3 243 yX0_undoOn, Cond.instanceMethod yX0_undoOn, Cond.selects RX0 yX0_undoOn yX0_undoOn, Cond.code yX0_undoOn cX0_undoOn 7 (some .boolean), Cond.methodLink RL 140 yX4_valueAt, Cond.instanceMethod yX4_valueAt, Cond.selects RX4 yX4_valueAt yX4_valueAt, Cond.code yX4_valueAt cX4_valueAt 6 (some .int), Cond.methodLink RX4 100 yX4_takeSpare, Cond.instanceMethod yX4_takeSpare, Cond.selects RX4 yX4_takeSpare yX4_takeSpare, Cond.code yX4_takeSpare cX4_takeSpare 3 none, Cond.methodLink RX4 104 yX4_tries, Cond.instanceMethod yX4_tries, Cond.selects RX4 yX4_tries yX4_tries, Cond.code yX4_tries cX4_tries 9 (some .boolean), Cond.methodLink RL 141 yL_take, Cond.static yL_take, Cond.codeWith yL_take cL_take 5 (some .int) [(0, 10, 13, 13), (0, 10, 17, 15)], Cond.methodLink RL 52 yX3_take]
def wsL_law0_r18 : List Cond := [Cond.instanceMethod yX3_take, Cond.selects RX3 yX3_take yX3_take, Cond.code yX3_take cX3_take 4 (some .int), Cond.methodLink RX3 142 yX3_requireWorker, Cond.static yX3_requireWorker, Cond.code yX3_requireWorker cX3_requireWorker 1 none, Cond.methodLink RX3 147 yX3_requireNotCrashed, Cond.instanceMethod yX3_requireNotCrashed, Cond.selects RX3 yX3_requireNotCrashed yX3_requireNotCrashed, Cond.code yX3_requireNotCrashed cX3_requireNotCrashed 2 none, Cond.methodLink RX3 164 yX1_hasCrashed, Cond.instanceMethod yX1_hasCrashed, Cond.selects RX1 yX1_hasCrashed yX1_hasCrashed, Cond.code yX1_hasCrashed cX1_hasCrashed 2 (some .boolean), Cond.methodLink RX3 150 yX1_owner, Cond.instanceMethod yX1_owner, Cond.selects RX1 yX1_owner yX1_owner, Cond.code yX1_owner cX1_owner 1 (some .int), Cond.fieldLink RX1 19 "Migrationledger$Lock" "time" "I", Cond.fieldLink RX1 22 "Migrationledger$Lock" "leaseEnd" "I", Cond.methodLink RX3 155 yX1_grant, Cond.instanceMethod yX1_grant, Cond.selects RX1 yX1_grant yX1_grant, Cond.code yX1_grant cX1_grant 3 (some .int)]
def wsL_law0_r19 : List Cond := [Cond.methodLink RL 143 yX4_take, Cond.instanceMethod yX4_take, Cond.selects RX4 yX4_take yX4_take, Cond.code yX4_take cX4_take 4 (some .int), Cond.fieldLink RX4 108 "MigrationledgerModel" "time" "I", Cond.fieldLink RX4 111 "MigrationledgerModel" "leaseEnd" "I", Cond.methodLink RX4 121 yX4_isWorker, Cond.static yX4_isWorker, Cond.code yX4_isWorker cX4_isWorker 1 (some .boolean), Cond.methodLink RX4 114 yX4_isHeld, Cond.instanceMethod yX4_isHeld, Cond.selects RX4 yX4_isHeld yX4_isHeld, Cond.code yX4_isHeld cX4_isHeld 1 (some .boolean), Cond.methodLink RL 144 yL_giveBack, Cond.static yL_giveBack, Cond.codeWith yL_giveBack cL_giveBack 3 (some .int) [(0, 5, 8, 13), (0, 5, 11, 15)], Cond.methodLink RL 55 yX3_giveBack, Cond.instanceMethod yX3_giveBack, Cond.selects RX3 yX3_giveBack yX3_giveBack, Cond.code yX3_giveBack cX3_giveBack 2 none, Cond.methodLink RX3 158 yX3_requireAtWork, Cond.instanceMethod yX3_requireAtWork, Cond.selects RX3 yX3_requireAtWork yX3_requireAtWork, Cond.code yX3_requireAtWork cX3_requireAtWork 2 none]
def wsL_law0_r20 : List Cond := [Cond.methodLink RX3 161 yX1_release, Cond.instanceMethod yX1_release, Cond.selects RX1 yX1_release yX1_release, Cond.code yX1_release cX1_release 1 none, Cond.methodLink RL 147 yX4_giveBack, Cond.instanceMethod yX4_giveBack, Cond.selects RX4 yX4_giveBack yX4_giveBack, Cond.code yX4_giveBack cX4_giveBack 2 none, Cond.methodLink RX4 124 yX4_cannot, Cond.instanceMethod yX4_cannot, Cond.selects RX4 yX4_cannot yX4_cannot, Cond.code yX4_cannot cX4_cannot 2 (some .boolean), Cond.methodLink RX4 118 yX4_has, Cond.instanceMethod yX4_has, Cond.selects RX4 yX4_has yX4_has, Cond.code yX4_has cX4_has 2 (some .boolean), Cond.methodLink RL 148 yX3_holder, Cond.instanceMethod yX3_holder, Cond.selects RX3 yX3_holder yX3_holder, Cond.code yX3_holder cX3_holder 1 (some .int), Cond.methodLink RL 151 yX4_holder, Cond.instanceMethod yX4_holder, Cond.selects RX4 yX4_holder yX4_holder, Cond.code yX4_holder cX4_holder 1 (some .int)]
def wsL_law0_r21 : List Cond := [Cond.methodLink RL 152 yL_restart, Cond.static yL_restart, Cond.codeWith yL_restart cL_restart 4 (some .int) [(0, 16, 19, 13), (0, 16, 22, 15)], Cond.methodLink RL 59 yX3_restart, Cond.instanceMethod yX3_restart, Cond.selects RX3 yX3_restart yX3_restart, Cond.code yX3_restart cX3_restart 2 (some .boolean), Cond.methodLink RX3 169 yX1_setCrashed, Cond.instanceMethod yX1_setCrashed, Cond.selects RX1 yX1_setCrashed yX1_setCrashed, Cond.code yX1_setCrashed cX1_setCrashed 3 none, Cond.methodLink RL 154 yX4_restart, Cond.instanceMethod yX4_restart, Cond.selects RX4 yX4_restart yX4_restart, Cond.code yX4_restart cX4_restart 2 (some .boolean), Cond.methodLink RL 155 yL_pass, Cond.static yL_pass, Cond.codeWith yL_pass cL_pass 4 (some .int) [(0, 9, 12, 13)], Cond.methodLink RL 63 yX3_pass, Cond.instanceMethod yX3_pass, Cond.selects RX3 yX3_pass yX3_pass, Cond.code yX3_pass cX3_pass 2 (some .int), Cond.methodLink RX3 175 yX1_advance, Cond.instanceMethod yX1_advance]
def wsL_law0_r22 : List Cond := [Cond.selects RX1 yX1_advance yX1_advance, Cond.code yX1_advance cX1_advance 2 (some .int), Cond.methodLink RL 157 yX4_pass, Cond.instanceMethod yX4_pass, Cond.selects RX4 yX4_pass yX4_pass, Cond.code yX4_pass cX4_pass 2 (some .int), Cond.methodLink RL 158 yL_begin, Cond.static yL_begin, Cond.codeWith yL_begin cL_begin 4 (some .int) [(0, 9, 12, 13), (0, 9, 15, 15)], Cond.methodLink RL 66 yX3_begin, Cond.instanceMethod yX3_begin, Cond.selects RX3 yX3_begin yX3_begin, Cond.code yX3_begin cX3_begin 2 (some .int), Cond.methodLink RX3 187 yX0_recordChecksum, Cond.instanceMethod yX0_recordChecksum, Cond.selects RX0 yX0_recordChecksum yX0_recordChecksum, Cond.code yX0_recordChecksum cX0_recordChecksum 2 none, Cond.methodLink RL 160 yX4_begin, Cond.instanceMethod yX4_begin, Cond.selects RX4 yX4_begin yX4_begin, Cond.code yX4_begin cX4_begin 2 (some .int), Cond.methodLink RL 161 yL_undo, Cond.static yL_undo, Cond.codeWith yL_undo cL_undo 4 (some .int) [(0, 9, 12, 13), (0, 9, 15, 15)]]
def wsL_law0_r23 : List Cond := [Cond.methodLink RL 69 yX3_undo, Cond.instanceMethod yX3_undo, Cond.selects RX3 yX3_undo yX3_undo, Cond.code yX3_undo cX3_undo 2 (some .int), Cond.methodLink RX3 192 yX3_requireUndoableDone, Cond.instanceMethod yX3_requireUndoableDone, Cond.selects RX3 yX3_requireUndoableDone yX3_requireUndoableDone, Cond.code yX3_requireUndoableDone cX3_requireUndoableDone 1 none, Cond.methodLink RX3 291 yX0_hasDrifted, Cond.methodLink RL 163 yX4_undo, Cond.instanceMethod yX4_undo, Cond.selects RX4 yX4_undo yX4_undo, Cond.code yX4_undo cX4_undo 3 (some .int), Cond.methodLink RL 164 yL_step, Cond.static yL_step, Cond.codeWith yL_step cL_step 6 (some .int) [(0, 12, 15, 13), (0, 12, 19, 15)], Cond.methodLink RL 72 yX3_step, Cond.instanceMethod yX3_step, Cond.selects RX3 yX3_step yX3_step, Cond.code yX3_step cX3_step 4 (some .int), Cond.methodLink RX3 205 Lib.Math.min.name, Cond.static Lib.Math.min.name, Cond.initialized "java/lang/Math", Cond.code Lib.Math.min.name Lib.Math.min.code 2 (some .int)]
def wsL_law0_r24 : List Cond := [Cond.methodLink RX3 199 yX3_requireActive, Cond.instanceMethod yX3_requireActive, Cond.selects RX3 yX3_requireActive yX3_requireActive, Cond.code yX3_requireActive cX3_requireActive 1 none, Cond.methodLink RX3 202 yX3_idsLeft, Cond.instanceMethod yX3_idsLeft, Cond.selects RX3 yX3_idsLeft yX3_idsLeft, Cond.code yX3_idsLeft cX3_idsLeft 1 (some .int), Cond.methodLink RX3 210 yX3_goThrough, Cond.instanceMethod yX3_goThrough, Cond.selects RX3 yX3_goThrough yX3_goThrough, Cond.code yX3_goThrough cX3_goThrough 7 (some .int), Cond.methodLink RX3 221 yX3_idBehind, Cond.instanceMethod yX3_idBehind, Cond.selects RX3 yX3_idBehind yX3_idBehind, Cond.code yX3_idBehind cX3_idBehind 2 (some .int), Cond.methodLink RX3 224 yX3_isToBeChanged, Cond.instanceMethod yX3_isToBeChanged, Cond.selects RX3 yX3_isToBeChanged yX3_isToBeChanged, Cond.code yX3_isToBeChanged cX3_isToBeChanged 3 (some .boolean), Cond.methodLink RX3 227 yX3_changeRow, Cond.instanceMethod yX3_changeRow, Cond.selects RX3 yX3_changeRow yX3_changeRow, Cond.code yX3_changeRow cX3_changeRow 4 (some .boolean)]
def wsL_law0_r25 : List Cond := [Cond.methodLink RX3 236 yX2_storeRow, Cond.instanceMethod yX2_storeRow, Cond.selects RX2 yX2_storeRow yX2_storeRow, Cond.code yX2_storeRow cX2_storeRow 4 none, Cond.methodLink RX2 22 yX2_setCell, Cond.methodLink RX3 230 yX3_positionBehind, Cond.instanceMethod yX3_positionBehind, Cond.selects RX3 yX3_positionBehind yX3_positionBehind, Cond.code yX3_positionBehind cX3_positionBehind 2 (some .int), Cond.methodLink RX3 233 yX3_endIfAllPassed, Cond.instanceMethod yX3_endIfAllPassed, Cond.selects RX3 yX3_endIfAllPassed yX3_endIfAllPassed, Cond.code yX3_endIfAllPassed cX3_endIfAllPassed 1 none, Cond.methodLink RL 166 yX4_step, Cond.instanceMethod yX4_step, Cond.selects RX4 yX4_step yX4_step, Cond.code yX4_step cX4_step 15 (some .int), Cond.methodLink RL 167 yL_cursor, Cond.static yL_cursor, Cond.codeWith yL_cursor cL_cursor 3 (some .int) [(0, 8, 11, 15)], Cond.methodLink RL 75 yX3_cursor, Cond.instanceMethod yX3_cursor, Cond.selects RX3 yX3_cursor yX3_cursor, Cond.code yX3_cursor cX3_cursor 1 (some .int)]
def wsL_law0_r26 : List Cond := [Cond.methodLink RL 170 yX4_cursor, Cond.instanceMethod yX4_cursor, Cond.selects RX4 yX4_cursor yX4_cursor, Cond.code yX4_cursor cX4_cursor 1 (some .int), Cond.methodLink RL 171 yL_share, Cond.static yL_share, Cond.codeWith yL_share cL_share 3 (some .int) [(0, 8, 11, 15)], Cond.methodLink RL 79 yX3_share, Cond.instanceMethod yX3_share, Cond.selects RX3 yX3_share yX3_share, Cond.code yX3_share cX3_share 2 (some .float), Cond.methodLink RX3 213 yX2_countPresent, Cond.instanceMethod yX2_countPresent, Cond.selects RX2 yX2_countPresent yX2_countPresent, Cond.code yX2_countPresent cX2_countPresent 1 (some .int), Cond.methodLink RX2 26 yX2_countFromVersion, Cond.instanceMethod yX2_countFromVersion, Cond.selects RX2 yX2_countFromVersion yX2_countFromVersion, Cond.code yX2_countFromVersion cX2_countFromVersion 4 (some .int), Cond.methodLink RX3 218 yX2_countFromVersion, Cond.methodLink RL 174 yX4_share, Cond.instanceMethod yX4_share, Cond.selects RX4 yX4_share yX4_share, Cond.code yX4_share cX4_share 4 (some .float)]
def wsL_law0 : List Cond := (wsL_law0_r1 ++ (wsL_law0_r2 ++ (wsL_law0_r3 ++ (wsL_law0_r4 ++ (wsL_law0_r5 ++ (wsL_law0_r6 ++ (wsL_law0_r7 ++ (wsL_law0_r8 ++ (wsL_law0_r9 ++ (wsL_law0_r10 ++ (wsL_law0_r11 ++ (wsL_law0_r12 ++ (wsL_law0_r13 ++ (wsL_law0_r14 ++ (wsL_law0_r15 ++ (wsL_law0_r16 ++ (wsL_law0_r17 ++ (wsL_law0_r18 ++ (wsL_law0_r19 ++ (wsL_law0_r20 ++ (wsL_law0_r21 ++ (wsL_law0_r22 ++ (wsL_law0_r23 ++ (wsL_law0_r24 ++ (wsL_law0_r25 ++ wsL_law0_r26))))))))))))))))))))))))) ++ wsX30 ++ wsX40 ++ wsX00 ++ wsX20 ++ wsX10 ++ ([] : List Cond)
def wsL_law : List Cond := wsL_law0 ++ (vx_atS RX3 50 "java/lang/IllegalStateException" ["java/lang/RuntimeException", "java/lang/Exception"]).filter goodWord ++ (vx_atS RX3 126 "java/lang/IllegalArgumentException" ["java/lang/RuntimeException", "java/lang/Exception"]).filter goodWord ++ (vx_atS RX3 280 "java/lang/IndexOutOfBoundsException" ["java/lang/RuntimeException", "java/lang/Exception"]).filter goodWord
set_option maxRecDepth 20000 in
theorem wsL_law0_r1_in : ∀ w ∈ wsL_law0_r1, w ∈ lw_tbl := fun w h => (goodIn_p wsL_law0_r1 [47, 50] (by decide +kernel) (by decide +kernel) w h).1
set_option maxRecDepth 20000 in
theorem wsL_law0_r2_in : ∀ w ∈ wsL_law0_r2, w ∈ lw_tbl := fun w h => (goodIn_p wsL_law0_r2 [55, 78, 91] (by decide +kernel) (by decide +kernel) w h).1
set_option maxRecDepth 20000 in
theorem wsL_law0_r3_in : ∀ w ∈ wsL_law0_r3, w ∈ lw_tbl := fun w h => (goodIn_p wsL_law0_r3 [638, 174] (by decide +kernel) (by decide +kernel) w h).1
set_option maxRecDepth 20000 in
theorem wsL_law0_r4_in : ∀ w ∈ wsL_law0_r4, w ∈ lw_tbl := fun w h => (goodIn_p wsL_law0_r4 [177, 248, 251, 255, 260, 280] (by decide +kernel) (by decide +kernel) w h).1
set_option maxRecDepth 20000 in
theorem wsL_law0_r5_in : ∀ w ∈ wsL_law0_r5, w ∈ lw_tbl := fun w h => (goodIn_p wsL_law0_r5 [284, 697, 700, 703, 707, 711] (by decide +kernel) (by decide +kernel) w h).1
set_option maxRecDepth 20000 in
theorem wsL_law0_r6_in : ∀ w ∈ wsL_law0_r6, w ∈ lw_tbl := fun w h => (goodIn_p wsL_law0_r6 [693, 292, 296, 300] (by decide +kernel) (by decide +kernel) w h).1
set_option maxRecDepth 20000 in
theorem wsL_law0_r7_in : ∀ w ∈ wsL_law0_r7, w ∈ lw_tbl := fun w h => (goodIn_p wsL_law0_r7 [320, 324, 156, 715, 719] (by decide +kernel) (by decide +kernel) w h).1
set_option maxRecDepth 20000 in
theorem wsL_law0_r8_in : ∀ w ∈ wsL_law0_r8, w ∈ lw_tbl := fun w h => (goodIn_p wsL_law0_r8 [723, 132, 136, 728, 732] (by decide +kernel) (by decide +kernel) w h).1
set_option maxRecDepth 20000 in
theorem wsL_law0_r9_in : ∀ w ∈ wsL_law0_r9, w ∈ lw_tbl := fun w h => (goodIn_p wsL_law0_r9 [334, 736, 341, 740, 140] (by decide +kernel) (by decide +kernel) w h).1
set_option maxRecDepth 20000 in
theorem wsL_law0_r10_in : ∀ w ∈ wsL_law0_r10, w ∈ lw_tbl := fun w h => (goodIn_p wsL_law0_r10 [744, 144, 148, 152, 748, 752] (by decide +kernel) (by decide +kernel) w h).1
set_option maxRecDepth 20000 in
theorem wsL_law0_r11_in : ∀ w ∈ wsL_law0_r11, w ∈ lw_tbl := fun w h => (goodIn_p wsL_law0_r11 [348, 351, 355, 358, 365] (by decide +kernel) (by decide +kernel) w h).1
set_option maxRecDepth 20000 in
theorem wsL_law0_r12_in : ∀ w ∈ wsL_law0_r12, w ∈ lw_tbl := fun w h => (goodIn_p wsL_law0_r12 [370, 374, 378, 756, 759, 762] (by decide +kernel) (by decide +kernel) w h).1
set_option maxRecDepth 20000 in
theorem wsL_law0_r13_in : ∀ w ∈ wsL_law0_r13, w ∈ lw_tbl := fun w h => (goodIn_p wsL_law0_r13 [385, 389, 394, 768, 772] (by decide +kernel) (by decide +kernel) w h).1
set_option maxRecDepth 20000 in
theorem wsL_law0_r14_in : ∀ w ∈ wsL_law0_r14, w ∈ lw_tbl := fun w h => (goodIn_p wsL_law0_r14 [401, 405, 776, 412, 780] (by decide +kernel) (by decide +kernel) w h).1
set_option maxRecDepth 20000 in
theorem wsL_law0_r15_in : ∀ w ∈ wsL_law0_r15, w ∈ lw_tbl := fun w h => (goodIn_p wsL_law0_r15 [419, 784, 426, 431] (by decide +kernel) (by decide +kernel) w h).1
set_option maxRecDepth 20000 in
theorem wsL_law0_r16_in : ∀ w ∈ wsL_law0_r16, w ∈ lw_tbl := fun w h => (goodIn_p wsL_law0_r16 [788, 438, 443, 448, 452] (by decide +kernel) (by decide +kernel) w h).1
set_option maxRecDepth 20000 in
theorem wsL_law0_r17_in : ∀ w ∈ wsL_law0_r17, w ∈ lw_tbl := fun w h => (goodIn_p wsL_law0_r17 [455, 459, 463, 792, 796, 800] (by decide +kernel) (by decide +kernel) w h).1
set_option maxRecDepth 20000 in
theorem wsL_law0_r18_in : ∀ w ∈ wsL_law0_r18, w ∈ lw_tbl := fun w h => (goodIn_p wsL_law0_r18 [471, 474, 480, 484, 165, 490] (by decide +kernel) (by decide +kernel) w h).1
set_option maxRecDepth 20000 in
theorem wsL_law0_r19_in : ∀ w ∈ wsL_law0_r19, w ∈ lw_tbl := fun w h => (goodIn_p wsL_law0_r19 [804, 807, 811, 497, 501] (by decide +kernel) (by decide +kernel) w h).1
set_option maxRecDepth 20000 in
theorem wsL_law0_r20_in : ∀ w ∈ wsL_law0_r20, w ∈ lw_tbl := fun w h => (goodIn_p wsL_law0_r20 [506, 815, 819, 823, 161, 827] (by decide +kernel) (by decide +kernel) w h).1
set_option maxRecDepth 20000 in
theorem wsL_law0_r21_in : ∀ w ∈ wsL_law0_r21, w ∈ lw_tbl := fun w h => (goodIn_p wsL_law0_r21 [513, 518, 831, 525] (by decide +kernel) (by decide +kernel) w h).1
set_option maxRecDepth 20000 in
theorem wsL_law0_r22_in : ∀ w ∈ wsL_law0_r22, w ∈ lw_tbl := fun w h => (goodIn_p wsL_law0_r22 [530, 835, 537, 544, 839] (by decide +kernel) (by decide +kernel) w h).1
set_option maxRecDepth 20000 in
theorem wsL_law0_r23_in : ∀ w ∈ wsL_law0_r23, w ∈ lw_tbl := fun w h => (goodIn_p wsL_law0_r23 [551, 556, 843, 566, 580] (by decide +kernel) (by decide +kernel) w h).1
set_option maxRecDepth 20000 in
theorem wsL_law0_r24_in : ∀ w ∈ wsL_law0_r24, w ∈ lw_tbl := fun w h => (goodIn_p wsL_law0_r24 [572, 577, 584, 588, 592, 596] (by decide +kernel) (by decide +kernel) w h).1
set_option maxRecDepth 20000 in
theorem wsL_law0_r25_in : ∀ w ∈ wsL_law0_r25, w ∈ lw_tbl := fun w h => (goodIn_p wsL_law0_r25 [600, 605, 609, 847, 616] (by decide +kernel) (by decide +kernel) w h).1
set_option maxRecDepth 20000 in
theorem wsL_law0_r26_in : ∀ w ∈ wsL_law0_r26, w ∈ lw_tbl := fun w h => (goodIn_p wsL_law0_r26 [851, 623, 627, 631, 855] (by decide +kernel) (by decide +kernel) w h).1
set_option maxRecDepth 20000 in
theorem wsX30_in9 : ∀ w ∈ wsX30, w ∈ lw_tbl := fun w h => (goodIn_p wsX30 [] (by decide +kernel) (by decide +kernel) w h).1
set_option maxRecDepth 20000 in
theorem wsX40_in9 : ∀ w ∈ wsX40, w ∈ lw_tbl := fun w h => (goodIn_p wsX40 [] (by decide +kernel) (by decide +kernel) w h).1
set_option maxRecDepth 20000 in
theorem wsX00_in9 : ∀ w ∈ wsX00, w ∈ lw_tbl := fun w h => (goodIn_p wsX00 [] (by decide +kernel) (by decide +kernel) w h).1
set_option maxRecDepth 20000 in
theorem wsX20_in9 : ∀ w ∈ wsX20, w ∈ lw_tbl := fun w h => (goodIn_p wsX20 [] (by decide +kernel) (by decide +kernel) w h).1
set_option maxRecDepth 20000 in
theorem wsX10_in9 : ∀ w ∈ wsX10, w ∈ lw_tbl := fun w h => (goodIn_p wsX10 [] (by decide +kernel) (by decide +kernel) w h).1
theorem wsL_law_in0 : ∀ w ∈ wsL_law0, w ∈ lw_tbl := by
  intro w h
  unfold wsL_law0 at h
  rcases List.mem_append.mp h with h | h
  case inr => exact absurd h List.not_mem_nil
  rcases List.mem_append.mp h with h | h
  case inr => exact wsX10_in9 w h
  rcases List.mem_append.mp h with h | h
  case inr => exact wsX20_in9 w h
  rcases List.mem_append.mp h with h | h
  case inr => exact wsX00_in9 w h
  rcases List.mem_append.mp h with h | h
  case inr => exact wsX40_in9 w h
  rcases List.mem_append.mp h with h | h
  case inr => exact wsX30_in9 w h
  rcases List.mem_append.mp h with h | h
  case inl => exact wsL_law0_r1_in w h
  rcases List.mem_append.mp h with h | h
  case inl => exact wsL_law0_r2_in w h
  rcases List.mem_append.mp h with h | h
  case inl => exact wsL_law0_r3_in w h
  rcases List.mem_append.mp h with h | h
  case inl => exact wsL_law0_r4_in w h
  rcases List.mem_append.mp h with h | h
  case inl => exact wsL_law0_r5_in w h
  rcases List.mem_append.mp h with h | h
  case inl => exact wsL_law0_r6_in w h
  rcases List.mem_append.mp h with h | h
  case inl => exact wsL_law0_r7_in w h
  rcases List.mem_append.mp h with h | h
  case inl => exact wsL_law0_r8_in w h
  rcases List.mem_append.mp h with h | h
  case inl => exact wsL_law0_r9_in w h
  rcases List.mem_append.mp h with h | h
  case inl => exact wsL_law0_r10_in w h
  rcases List.mem_append.mp h with h | h
  case inl => exact wsL_law0_r11_in w h
  rcases List.mem_append.mp h with h | h
  case inl => exact wsL_law0_r12_in w h
  rcases List.mem_append.mp h with h | h
  case inl => exact wsL_law0_r13_in w h
  rcases List.mem_append.mp h with h | h
  case inl => exact wsL_law0_r14_in w h
  rcases List.mem_append.mp h with h | h
  case inl => exact wsL_law0_r15_in w h
  rcases List.mem_append.mp h with h | h
  case inl => exact wsL_law0_r16_in w h
  rcases List.mem_append.mp h with h | h
  case inl => exact wsL_law0_r17_in w h
  rcases List.mem_append.mp h with h | h
  case inl => exact wsL_law0_r18_in w h
  rcases List.mem_append.mp h with h | h
  case inl => exact wsL_law0_r19_in w h
  rcases List.mem_append.mp h with h | h
  case inl => exact wsL_law0_r20_in w h
  rcases List.mem_append.mp h with h | h
  case inl => exact wsL_law0_r21_in w h
  rcases List.mem_append.mp h with h | h
  case inl => exact wsL_law0_r22_in w h
  rcases List.mem_append.mp h with h | h
  case inl => exact wsL_law0_r23_in w h
  rcases List.mem_append.mp h with h | h
  case inl => exact wsL_law0_r24_in w h
  rcases List.mem_append.mp h with h | h
  case inl => exact wsL_law0_r25_in w h
  exact wsL_law0_r26_in w h
theorem wsL_law_x0 : ∀ w ∈ (vx_atS RX3 50 "java/lang/IllegalStateException" ["java/lang/RuntimeException", "java/lang/Exception"]).filter goodWord, w ∈ lw_tbl := by decide +kernel
theorem wsL_law_x1 : ∀ w ∈ (vx_atS RX3 126 "java/lang/IllegalArgumentException" ["java/lang/RuntimeException", "java/lang/Exception"]).filter goodWord, w ∈ lw_tbl := by decide +kernel
theorem wsL_law_x2 : ∀ w ∈ (vx_atS RX3 280 "java/lang/IndexOutOfBoundsException" ["java/lang/RuntimeException", "java/lang/Exception"]).filter goodWord, w ∈ lw_tbl := by decide +kernel
theorem wsL_law_in : ∀ w ∈ wsL_law, w ∈ lw_tbl := fun w h => (List.mem_append.mp h).elim (fun h => (List.mem_append.mp h).elim (fun h => (List.mem_append.mp h).elim (fun h => wsL_law_in0 w h) (fun h => wsL_law_x0 w h)) (fun h => wsL_law_x1 w h)) (fun h => wsL_law_x2 w h)
theorem inlX0 : ∀ w ∈ wsX00, w ∈ wsL_law := fun _ h => List.mem_append_left _ (List.mem_append_left _ (List.mem_append_left _ (List.mem_append_left _ (List.mem_append_left _ (List.mem_append_left _ (List.mem_append_right _ h))))))
theorem inX0 : ∀ w ∈ wsX00, w ∈ lw_tbl := fun w h => wsL_law_in w (inlX0 w h)
theorem inlX1 : ∀ w ∈ wsX10, w ∈ wsL_law := fun _ h => List.mem_append_left _ (List.mem_append_left _ (List.mem_append_left _ (List.mem_append_left _ (List.mem_append_right _ h))))
theorem inX1 : ∀ w ∈ wsX10, w ∈ lw_tbl := fun w h => wsL_law_in w (inlX1 w h)
theorem inlX2 : ∀ w ∈ wsX20, w ∈ wsL_law := fun _ h => List.mem_append_left _ (List.mem_append_left _ (List.mem_append_left _ (List.mem_append_left _ (List.mem_append_left _ (List.mem_append_right _ h)))))
theorem inX2 : ∀ w ∈ wsX20, w ∈ lw_tbl := fun w h => wsL_law_in w (inlX2 w h)
theorem inlX3 : ∀ w ∈ wsX30, w ∈ wsL_law := fun _ h => List.mem_append_left _ (List.mem_append_left _ (List.mem_append_left _ (List.mem_append_left _ (List.mem_append_left _ (List.mem_append_left _ (List.mem_append_left _ (List.mem_append_left _ (List.mem_append_right _ h))))))))
theorem inX3 : ∀ w ∈ wsX30, w ∈ lw_tbl := fun w h => wsL_law_in w (inlX3 w h)
theorem inlX4 : ∀ w ∈ wsX40, w ∈ wsL_law := fun _ h => List.mem_append_left _ (List.mem_append_left _ (List.mem_append_left _ (List.mem_append_left _ (List.mem_append_left _ (List.mem_append_left _ (List.mem_append_left _ (List.mem_append_right _ h)))))))
theorem inX4 : ∀ w ∈ wsX40, w ∈ lw_tbl := fun w h => wsL_law_in w (inlX4 w h)
theorem inJ9 : ∀ w ∈ wsJ90, w ∈ lw_tbl := by decide +kernel
theorem inJ0 : ∀ w ∈ wsJ00, w ∈ lw_tbl := by decide +kernel
end
section
theorem dX0_init_0 : decode cX0_init 0 = .ok (.aload_n 0, 1) := by decide +kernel
theorem dX0_init_1 : decode cX0_init 1 = .ok (.invokespecial 3, 3) := by decide +kernel
theorem dX0_init_4 : decode cX0_init 4 = .ok (.aload_n 0, 1) := by decide +kernel
theorem dX0_init_5 : decode cX0_init 5 = .ok (.bipush 12, 2) := by decide +kernel
theorem dX0_init_7 : decode cX0_init 7 = .ok (.newarray .int, 2) := by decide +kernel
theorem dX0_init_9 : decode cX0_init 9 = .ok (.putfield 9, 3) := by decide +kernel
theorem dX0_init_12 : decode cX0_init 12 = .ok (.aload_n 0, 1) := by decide +kernel
theorem dX0_init_13 : decode cX0_init 13 = .ok (.bipush 12, 2) := by decide +kernel
theorem dX0_init_15 : decode cX0_init 15 = .ok (.newarray .int, 2) := by decide +kernel
theorem dX0_init_17 : decode cX0_init 17 = .ok (.putfield 15, 3) := by decide +kernel
theorem dX0_init_20 : decode cX0_init 20 = .ok (.aload_n 0, 1) := by decide +kernel
theorem dX0_init_21 : decode cX0_init 21 = .ok (.bipush 12, 2) := by decide +kernel
theorem dX0_init_23 : decode cX0_init 23 = .ok (.newarray .int, 2) := by decide +kernel
theorem dX0_init_25 : decode cX0_init 25 = .ok (.putfield 18, 3) := by decide +kernel
theorem dX0_init_28 : decode cX0_init 28 = .ok (.aload_n 0, 1) := by decide +kernel
theorem dX0_init_29 : decode cX0_init 29 = .ok (.bipush 12, 2) := by decide +kernel
theorem dX0_init_31 : decode cX0_init 31 = .ok (.newarray .int, 2) := by decide +kernel
theorem dX0_init_33 : decode cX0_init 33 = .ok (.putfield 21, 3) := by decide +kernel
theorem dX0_init_36 : decode cX0_init 36 = .ok (.return_, 1) := by decide +kernel
theorem dX0_count_0 : decode cX0_count 0 = .ok (.aload_n 0, 1) := by decide +kernel
theorem dX0_count_1 : decode cX0_count 1 = .ok (.getfield 24, 3) := by decide +kernel
theorem dX0_count_4 : decode cX0_count 4 = .ok (.ireturn, 1) := by decide +kernel
theorem dX0_isFull_0 : decode cX0_isFull 0 = .ok (.aload_n 0, 1) := by decide +kernel
theorem dX0_isFull_1 : decode cX0_isFull 1 = .ok (.getfield 24, 3) := by decide +kernel
theorem dX0_isFull_4 : decode cX0_isFull 4 = .ok (.bipush 12, 2) := by decide +kernel
theorem dX0_isFull_6 : decode cX0_isFull 6 = .ok (.if_icmp .lt 7, 3) := by decide +kernel
theorem dX0_isFull_9 : decode cX0_isFull 9 = .ok (.iconst 1, 1) := by decide +kernel
theorem dX0_isFull_10 : decode cX0_isFull 10 = .ok (.goto 4, 3) := by decide +kernel
theorem dX0_isFull_13 : decode cX0_isFull 13 = .ok (.iconst 0, 1) := by decide +kernel
theorem dX0_isFull_14 : decode cX0_isFull 14 = .ok (.ireturn, 1) := by decide +kernel
theorem dX0_contains_0 : decode cX0_contains 0 = .ok (.iload_n 1, 1) := by decide +kernel
theorem dX0_contains_1 : decode cX0_contains 1 = .ok (.iconst 1, 1) := by decide +kernel
theorem dX0_contains_2 : decode cX0_contains 2 = .ok (.if_icmp .lt 15, 3) := by decide +kernel
theorem dX0_contains_5 : decode cX0_contains 5 = .ok (.iload_n 1, 1) := by decide +kernel
theorem dX0_contains_6 : decode cX0_contains 6 = .ok (.aload_n 0, 1) := by decide +kernel
theorem dX0_contains_7 : decode cX0_contains 7 = .ok (.getfield 24, 3) := by decide +kernel
theorem dX0_contains_10 : decode cX0_contains 10 = .ok (.if_icmp .gt 7, 3) := by decide +kernel
theorem dX0_contains_13 : decode cX0_contains 13 = .ok (.iconst 1, 1) := by decide +kernel
theorem dX0_contains_14 : decode cX0_contains 14 = .ok (.goto 4, 3) := by decide +kernel
theorem dX0_contains_17 : decode cX0_contains 17 = .ok (.iconst 0, 1) := by decide +kernel
theorem dX0_contains_18 : decode cX0_contains 18 = .ok (.ireturn, 1) := by decide +kernel
set_option maxRecDepth 20000 in
theorem ggX0_append_X0_put : GoodIn wsX0_append wsX0_put := goodIn_r _ [6, 7, 8, 9, 10, 11, 12, 13, 14] (by decide +kernel) (by decide +kernel)
set_option maxRecDepth 20000 in
theorem gX0_append_X0_put : GoodIn wsX0_append (wsV RX0 28 RX0 yX0_put wsX0_put) := goodIn_app (goodIn_of _ (by decide +kernel)) ggX0_append_X0_put
theorem dX0_append_0 : decode cX0_append 0 = .ok (.aload_n 0, 1) := by decide +kernel
theorem dX0_append_1 : decode cX0_append 1 = .ok (.dup, 1) := by decide +kernel
theorem dX0_append_2 : decode cX0_append 2 = .ok (.getfield 24, 3) := by decide +kernel
theorem dX0_append_5 : decode cX0_append 5 = .ok (.iconst 1, 1) := by decide +kernel
theorem dX0_append_6 : decode cX0_append 6 = .ok (.iadd, 1) := by decide +kernel
theorem dX0_append_7 : decode cX0_append 7 = .ok (.putfield 24, 3) := by decide +kernel
theorem dX0_append_10 : decode cX0_append 10 = .ok (.aload_n 0, 1) := by decide +kernel
theorem dX0_append_11 : decode cX0_append 11 = .ok (.aload_n 0, 1) := by decide +kernel
theorem dX0_append_12 : decode cX0_append 12 = .ok (.getfield 24, 3) := by decide +kernel
theorem dX0_append_15 : decode cX0_append 15 = .ok (.iload_n 1, 1) := by decide +kernel
theorem dX0_append_16 : decode cX0_append 16 = .ok (.iload_n 2, 1) := by decide +kernel
theorem dX0_append_17 : decode cX0_append 17 = .ok (.iload_n 3, 1) := by decide +kernel
theorem dX0_append_18 : decode cX0_append 18 = .ok (.invokevirtual 28, 3) := by decide +kernel
theorem dX0_append_21 : decode cX0_append 21 = .ok (.aload_n 0, 1) := by decide +kernel
theorem dX0_append_22 : decode cX0_append 22 = .ok (.getfield 24, 3) := by decide +kernel
theorem dX0_append_25 : decode cX0_append 25 = .ok (.ireturn, 1) := by decide +kernel
theorem dX0_put_0 : decode cX0_put 0 = .ok (.aload_n 0, 1) := by decide +kernel
theorem dX0_put_1 : decode cX0_put 1 = .ok (.getfield 9, 3) := by decide +kernel
theorem dX0_put_4 : decode cX0_put 4 = .ok (.iload_n 1, 1) := by decide +kernel
theorem dX0_put_5 : decode cX0_put 5 = .ok (.iconst 1, 1) := by decide +kernel
theorem dX0_put_6 : decode cX0_put 6 = .ok (.isub, 1) := by decide +kernel
theorem dX0_put_7 : decode cX0_put 7 = .ok (.iload_n 2, 1) := by decide +kernel
theorem dX0_put_8 : decode cX0_put 8 = .ok (.iastore, 1) := by decide +kernel
theorem dX0_put_9 : decode cX0_put 9 = .ok (.aload_n 0, 1) := by decide +kernel
theorem dX0_put_10 : decode cX0_put 10 = .ok (.getfield 15, 3) := by decide +kernel
theorem dX0_put_13 : decode cX0_put 13 = .ok (.iload_n 1, 1) := by decide +kernel
theorem dX0_put_14 : decode cX0_put 14 = .ok (.iconst 1, 1) := by decide +kernel
theorem dX0_put_15 : decode cX0_put 15 = .ok (.isub, 1) := by decide +kernel
theorem dX0_put_16 : decode cX0_put 16 = .ok (.iload_n 3, 1) := by decide +kernel
theorem dX0_put_17 : decode cX0_put 17 = .ok (.iastore, 1) := by decide +kernel
theorem dX0_put_18 : decode cX0_put 18 = .ok (.aload_n 0, 1) := by decide +kernel
theorem dX0_put_19 : decode cX0_put 19 = .ok (.getfield 18, 3) := by decide +kernel
theorem dX0_put_22 : decode cX0_put 22 = .ok (.iload_n 1, 1) := by decide +kernel
theorem dX0_put_23 : decode cX0_put 23 = .ok (.iconst 1, 1) := by decide +kernel
theorem dX0_put_24 : decode cX0_put 24 = .ok (.isub, 1) := by decide +kernel
theorem dX0_put_25 : decode cX0_put 25 = .ok (.iload 4, 2) := by decide +kernel
theorem dX0_put_27 : decode cX0_put 27 = .ok (.iastore, 1) := by decide +kernel
theorem dX0_put_28 : decode cX0_put 28 = .ok (.return_, 1) := by decide +kernel
theorem dX0_checksumOf_0 : decode cX0_checksumOf 0 = .ok (.aload_n 0, 1) := by decide +kernel
theorem dX0_checksumOf_1 : decode cX0_checksumOf 1 = .ok (.getfield 9, 3) := by decide +kernel
theorem dX0_checksumOf_4 : decode cX0_checksumOf 4 = .ok (.iload_n 1, 1) := by decide +kernel
theorem dX0_checksumOf_5 : decode cX0_checksumOf 5 = .ok (.iconst 1, 1) := by decide +kernel
theorem dX0_checksumOf_6 : decode cX0_checksumOf 6 = .ok (.isub, 1) := by decide +kernel
theorem dX0_checksumOf_7 : decode cX0_checksumOf 7 = .ok (.iaload, 1) := by decide +kernel
theorem dX0_checksumOf_8 : decode cX0_checksumOf 8 = .ok (.bipush 31, 2) := by decide +kernel
theorem dX0_checksumOf_10 : decode cX0_checksumOf 10 = .ok (.imul, 1) := by decide +kernel
theorem dX0_checksumOf_11 : decode cX0_checksumOf 11 = .ok (.aload_n 0, 1) := by decide +kernel
theorem dX0_checksumOf_12 : decode cX0_checksumOf 12 = .ok (.getfield 15, 3) := by decide +kernel
theorem dX0_checksumOf_15 : decode cX0_checksumOf 15 = .ok (.iload_n 1, 1) := by decide +kernel
theorem dX0_checksumOf_16 : decode cX0_checksumOf 16 = .ok (.iconst 1, 1) := by decide +kernel
theorem dX0_checksumOf_17 : decode cX0_checksumOf 17 = .ok (.isub, 1) := by decide +kernel
theorem dX0_checksumOf_18 : decode cX0_checksumOf 18 = .ok (.iaload, 1) := by decide +kernel
theorem dX0_checksumOf_19 : decode cX0_checksumOf 19 = .ok (.iadd, 1) := by decide +kernel
theorem dX0_checksumOf_20 : decode cX0_checksumOf 20 = .ok (.istore_n 2, 1) := by decide +kernel
theorem dX0_checksumOf_21 : decode cX0_checksumOf 21 = .ok (.iload_n 2, 1) := by decide +kernel
theorem dX0_checksumOf_22 : decode cX0_checksumOf 22 = .ok (.sipush 2003, 3) := by decide +kernel
theorem dX0_checksumOf_25 : decode cX0_checksumOf 25 = .ok (.imul, 1) := by decide +kernel
theorem dX0_checksumOf_26 : decode cX0_checksumOf 26 = .ok (.aload_n 0, 1) := by decide +kernel
theorem dX0_checksumOf_27 : decode cX0_checksumOf 27 = .ok (.getfield 18, 3) := by decide +kernel
theorem dX0_checksumOf_30 : decode cX0_checksumOf 30 = .ok (.iload_n 1, 1) := by decide +kernel
theorem dX0_checksumOf_31 : decode cX0_checksumOf 31 = .ok (.iconst 1, 1) := by decide +kernel
theorem dX0_checksumOf_32 : decode cX0_checksumOf 32 = .ok (.isub, 1) := by decide +kernel
theorem dX0_checksumOf_33 : decode cX0_checksumOf 33 = .ok (.iaload, 1) := by decide +kernel
theorem dX0_checksumOf_34 : decode cX0_checksumOf 34 = .ok (.iadd, 1) := by decide +kernel
theorem dX0_checksumOf_35 : decode cX0_checksumOf 35 = .ok (.sipush 1001, 3) := by decide +kernel
theorem dX0_checksumOf_38 : decode cX0_checksumOf 38 = .ok (.iadd, 1) := by decide +kernel
theorem dX0_checksumOf_39 : decode cX0_checksumOf 39 = .ok (.istore_n 3, 1) := by decide +kernel
theorem dX0_checksumOf_40 : decode cX0_checksumOf 40 = .ok (.iload_n 3, 1) := by decide +kernel
theorem dX0_checksumOf_41 : decode cX0_checksumOf 41 = .ok (.bipush 7, 2) := by decide +kernel
theorem dX0_checksumOf_43 : decode cX0_checksumOf 43 = .ok (.imul, 1) := by decide +kernel
theorem dX0_checksumOf_44 : decode cX0_checksumOf 44 = .ok (.iload_n 1, 1) := by decide +kernel
theorem dX0_checksumOf_45 : decode cX0_checksumOf 45 = .ok (.iadd, 1) := by decide +kernel
theorem dX0_checksumOf_46 : decode cX0_checksumOf 46 = .ok (.ldc 32, 2) := by decide +kernel
theorem dX0_checksumOf_48 : decode cX0_checksumOf 48 = .ok (.irem, 1) := by decide +kernel
theorem dX0_checksumOf_49 : decode cX0_checksumOf 49 = .ok (.ireturn, 1) := by decide +kernel
set_option maxRecDepth 20000 in
theorem ggX0_recordChecksum_X0_checksumOf : GoodIn wsX0_recordChecksum wsX0_checksumOf := goodIn_r _ [6, 7, 8, 9, 10, 11, 12, 13, 14, 15] (by decide +kernel) (by decide +kernel)
set_option maxRecDepth 20000 in
theorem gX0_recordChecksum_X0_checksumOf : GoodIn wsX0_recordChecksum (wsV RX0 33 RX0 yX0_checksumOf wsX0_checksumOf) := goodIn_app (goodIn_of _ (by decide +kernel)) ggX0_recordChecksum_X0_checksumOf
theorem dX0_recordChecksum_0 : decode cX0_recordChecksum 0 = .ok (.aload_n 0, 1) := by decide +kernel
theorem dX0_recordChecksum_1 : decode cX0_recordChecksum 1 = .ok (.getfield 21, 3) := by decide +kernel
theorem dX0_recordChecksum_4 : decode cX0_recordChecksum 4 = .ok (.iload_n 1, 1) := by decide +kernel
theorem dX0_recordChecksum_5 : decode cX0_recordChecksum 5 = .ok (.iconst 1, 1) := by decide +kernel
theorem dX0_recordChecksum_6 : decode cX0_recordChecksum 6 = .ok (.isub, 1) := by decide +kernel
theorem dX0_recordChecksum_7 : decode cX0_recordChecksum 7 = .ok (.aload_n 0, 1) := by decide +kernel
theorem dX0_recordChecksum_8 : decode cX0_recordChecksum 8 = .ok (.iload_n 1, 1) := by decide +kernel
theorem dX0_recordChecksum_9 : decode cX0_recordChecksum 9 = .ok (.invokevirtual 33, 3) := by decide +kernel
theorem dX0_recordChecksum_12 : decode cX0_recordChecksum 12 = .ok (.iastore, 1) := by decide +kernel
theorem dX0_recordChecksum_13 : decode cX0_recordChecksum 13 = .ok (.return_, 1) := by decide +kernel
set_option maxRecDepth 20000 in
theorem ggX0_hasDrifted_X0_checksumOf : GoodIn wsX0_hasDrifted wsX0_checksumOf := goodIn_r _ [6, 7, 8, 9, 10, 11, 12, 13, 14, 15] (by decide +kernel) (by decide +kernel)
set_option maxRecDepth 20000 in
theorem gX0_hasDrifted_X0_checksumOf : GoodIn wsX0_hasDrifted (wsV RX0 33 RX0 yX0_checksumOf wsX0_checksumOf) := goodIn_app (goodIn_of _ (by decide +kernel)) ggX0_hasDrifted_X0_checksumOf
theorem dX0_hasDrifted_0 : decode cX0_hasDrifted 0 = .ok (.aload_n 0, 1) := by decide +kernel
theorem dX0_hasDrifted_1 : decode cX0_hasDrifted 1 = .ok (.iload_n 1, 1) := by decide +kernel
theorem dX0_hasDrifted_2 : decode cX0_hasDrifted 2 = .ok (.invokevirtual 33, 3) := by decide +kernel
theorem dX0_hasDrifted_5 : decode cX0_hasDrifted 5 = .ok (.aload_n 0, 1) := by decide +kernel
theorem dX0_hasDrifted_6 : decode cX0_hasDrifted 6 = .ok (.getfield 21, 3) := by decide +kernel
theorem dX0_hasDrifted_9 : decode cX0_hasDrifted 9 = .ok (.iload_n 1, 1) := by decide +kernel
theorem dX0_hasDrifted_10 : decode cX0_hasDrifted 10 = .ok (.iconst 1, 1) := by decide +kernel
theorem dX0_hasDrifted_11 : decode cX0_hasDrifted 11 = .ok (.isub, 1) := by decide +kernel
theorem dX0_hasDrifted_12 : decode cX0_hasDrifted 12 = .ok (.iaload, 1) := by decide +kernel
theorem dX0_hasDrifted_13 : decode cX0_hasDrifted 13 = .ok (.if_icmp .eq 7, 3) := by decide +kernel
theorem dX0_hasDrifted_16 : decode cX0_hasDrifted 16 = .ok (.iconst 1, 1) := by decide +kernel
theorem dX0_hasDrifted_17 : decode cX0_hasDrifted 17 = .ok (.goto 4, 3) := by decide +kernel
theorem dX0_hasDrifted_20 : decode cX0_hasDrifted 20 = .ok (.iconst 0, 1) := by decide +kernel
theorem dX0_hasDrifted_21 : decode cX0_hasDrifted 21 = .ok (.ireturn, 1) := by decide +kernel
set_option maxRecDepth 20000 in
theorem ggX0_firstDrifted_X0_hasDrifted : GoodIn wsX0_firstDrifted wsX0_hasDrifted := goodIn_r _ [5, 6, 7, 8, 9, 4, 10, 11, 12, 13, 14, 15, 16, 17, 18, 19] (by decide +kernel) (by decide +kernel)
set_option maxRecDepth 20000 in
theorem gX0_firstDrifted_X0_hasDrifted : GoodIn wsX0_firstDrifted (wsV RX0 37 RX0 yX0_hasDrifted wsX0_hasDrifted) := goodIn_app (goodIn_of _ (by decide +kernel)) ggX0_firstDrifted_X0_hasDrifted
theorem dX0_firstDrifted_0 : decode cX0_firstDrifted 0 = .ok (.iconst 1, 1) := by decide +kernel
theorem dX0_firstDrifted_1 : decode cX0_firstDrifted 1 = .ok (.istore_n 2, 1) := by decide +kernel
theorem dX0_firstDrifted_2 : decode cX0_firstDrifted 2 = .ok (.iload_n 2, 1) := by decide +kernel
theorem dX0_firstDrifted_3 : decode cX0_firstDrifted 3 = .ok (.iload_n 1, 1) := by decide +kernel
theorem dX0_firstDrifted_4 : decode cX0_firstDrifted 4 = .ok (.if_icmp .gt 19, 3) := by decide +kernel
theorem dX0_firstDrifted_7 : decode cX0_firstDrifted 7 = .ok (.aload_n 0, 1) := by decide +kernel
theorem dX0_firstDrifted_8 : decode cX0_firstDrifted 8 = .ok (.iload_n 2, 1) := by decide +kernel
theorem dX0_firstDrifted_9 : decode cX0_firstDrifted 9 = .ok (.invokevirtual 37, 3) := by decide +kernel
theorem dX0_firstDrifted_12 : decode cX0_firstDrifted 12 = .ok (.ifCond .eq 5, 3) := by decide +kernel
theorem dX0_firstDrifted_15 : decode cX0_firstDrifted 15 = .ok (.iload_n 2, 1) := by decide +kernel
theorem dX0_firstDrifted_16 : decode cX0_firstDrifted 16 = .ok (.ireturn, 1) := by decide +kernel
theorem dX0_firstDrifted_17 : decode cX0_firstDrifted 17 = .ok (.iinc 2 1, 3) := by decide +kernel
theorem dX0_firstDrifted_20 : decode cX0_firstDrifted 20 = .ok (.goto (-18), 3) := by decide +kernel
theorem dX0_firstDrifted_23 : decode cX0_firstDrifted 23 = .ok (.iconst 0, 1) := by decide +kernel
theorem dX0_firstDrifted_24 : decode cX0_firstDrifted 24 = .ok (.ireturn, 1) := by decide +kernel
set_option maxRecDepth 20000 in
theorem ggX0_applyTo_X0_putResult : GoodIn wsX0_applyTo wsX0_putResult := goodIn_r _ [7, 8, 9, 10, 11, 12] (by decide +kernel) (by decide +kernel)
set_option maxRecDepth 20000 in
theorem gX0_applyTo_X0_putResult : GoodIn wsX0_applyTo (va_wsS RX0 41 yX0_putResult wsX0_putResult) := goodIn_app (goodIn_of _ (by decide +kernel)) ggX0_applyTo_X0_putResult
set_option maxRecDepth 20000 in
theorem ggX0_applyTo_X0_exchange : GoodIn wsX0_applyTo wsX0_exchange := goodIn_r _ [15] (by decide +kernel) (by decide +kernel)
set_option maxRecDepth 20000 in
theorem gX0_applyTo_X0_exchange : GoodIn wsX0_applyTo (va_wsS RX0 45 yX0_exchange wsX0_exchange) := goodIn_app (goodIn_of _ (by decide +kernel)) ggX0_applyTo_X0_exchange
theorem dX0_applyTo_0 : decode cX0_applyTo 0 = .ok (.aload_n 0, 1) := by decide +kernel
theorem dX0_applyTo_1 : decode cX0_applyTo 1 = .ok (.getfield 15, 3) := by decide +kernel
theorem dX0_applyTo_4 : decode cX0_applyTo 4 = .ok (.iload_n 2, 1) := by decide +kernel
theorem dX0_applyTo_5 : decode cX0_applyTo 5 = .ok (.iconst 1, 1) := by decide +kernel
theorem dX0_applyTo_6 : decode cX0_applyTo 6 = .ok (.isub, 1) := by decide +kernel
theorem dX0_applyTo_7 : decode cX0_applyTo 7 = .ok (.iaload, 1) := by decide +kernel
theorem dX0_applyTo_8 : decode cX0_applyTo 8 = .ok (.istore_n 3, 1) := by decide +kernel
theorem dX0_applyTo_9 : decode cX0_applyTo 9 = .ok (.aload_n 0, 1) := by decide +kernel
theorem dX0_applyTo_10 : decode cX0_applyTo 10 = .ok (.getfield 18, 3) := by decide +kernel
theorem dX0_applyTo_13 : decode cX0_applyTo 13 = .ok (.iload_n 2, 1) := by decide +kernel
theorem dX0_applyTo_14 : decode cX0_applyTo 14 = .ok (.iconst 1, 1) := by decide +kernel
theorem dX0_applyTo_15 : decode cX0_applyTo 15 = .ok (.isub, 1) := by decide +kernel
theorem dX0_applyTo_16 : decode cX0_applyTo 16 = .ok (.iaload, 1) := by decide +kernel
theorem dX0_applyTo_17 : decode cX0_applyTo 17 = .ok (.istore 4, 2) := by decide +kernel
theorem dX0_applyTo_19 : decode cX0_applyTo 19 = .ok (.aload_n 1, 1) := by decide +kernel
theorem dX0_applyTo_20 : decode cX0_applyTo 20 = .ok (.iload_n 3, 1) := by decide +kernel
theorem dX0_applyTo_21 : decode cX0_applyTo 21 = .ok (.iaload, 1) := by decide +kernel
theorem dX0_applyTo_22 : decode cX0_applyTo 22 = .ok (.i2l, 1) := by decide +kernel
theorem dX0_applyTo_23 : decode cX0_applyTo 23 = .ok (.lstore 5, 2) := by decide +kernel
theorem dX0_applyTo_25 : decode cX0_applyTo 25 = .ok (.aload_n 0, 1) := by decide +kernel
theorem dX0_applyTo_26 : decode cX0_applyTo 26 = .ok (.getfield 9, 3) := by decide +kernel
theorem dX0_applyTo_29 : decode cX0_applyTo 29 = .ok (.iload_n 2, 1) := by decide +kernel
theorem dX0_applyTo_30 : decode cX0_applyTo 30 = .ok (.iconst 1, 1) := by decide +kernel
theorem dX0_applyTo_31 : decode cX0_applyTo 31 = .ok (.isub, 1) := by decide +kernel
theorem dX0_applyTo_32 : decode cX0_applyTo 32 = .ok (.iaload, 1) := by decide +kernel
theorem dX0_applyTo_33 : decode cX0_applyTo 33 = .ok (.lookupswitch 51 #[(0, 27), (1, 39)], 27) := by decide +kernel
theorem dX0_applyTo_60 : decode cX0_applyTo 60 = .ok (.aload_n 1, 1) := by decide +kernel
theorem dX0_applyTo_61 : decode cX0_applyTo 61 = .ok (.iload_n 3, 1) := by decide +kernel
theorem dX0_applyTo_62 : decode cX0_applyTo 62 = .ok (.lload 5, 2) := by decide +kernel
theorem dX0_applyTo_64 : decode cX0_applyTo 64 = .ok (.iload 4, 2) := by decide +kernel
theorem dX0_applyTo_66 : decode cX0_applyTo 66 = .ok (.i2l, 1) := by decide +kernel
theorem dX0_applyTo_67 : decode cX0_applyTo 67 = .ok (.ladd, 1) := by decide +kernel
theorem dX0_applyTo_68 : decode cX0_applyTo 68 = .ok (.invokestatic 41, 3) := by decide +kernel
theorem dX0_applyTo_71 : decode cX0_applyTo 71 = .ok (.ireturn, 1) := by decide +kernel
theorem dX0_applyTo_72 : decode cX0_applyTo 72 = .ok (.aload_n 1, 1) := by decide +kernel
theorem dX0_applyTo_73 : decode cX0_applyTo 73 = .ok (.iload_n 3, 1) := by decide +kernel
theorem dX0_applyTo_74 : decode cX0_applyTo 74 = .ok (.lload 5, 2) := by decide +kernel
theorem dX0_applyTo_76 : decode cX0_applyTo 76 = .ok (.iload 4, 2) := by decide +kernel
theorem dX0_applyTo_78 : decode cX0_applyTo 78 = .ok (.i2l, 1) := by decide +kernel
theorem dX0_applyTo_79 : decode cX0_applyTo 79 = .ok (.lmul, 1) := by decide +kernel
theorem dX0_applyTo_80 : decode cX0_applyTo 80 = .ok (.invokestatic 41, 3) := by decide +kernel
theorem dX0_applyTo_83 : decode cX0_applyTo 83 = .ok (.ireturn, 1) := by decide +kernel
theorem dX0_applyTo_84 : decode cX0_applyTo 84 = .ok (.aload_n 1, 1) := by decide +kernel
theorem dX0_applyTo_85 : decode cX0_applyTo 85 = .ok (.iload_n 3, 1) := by decide +kernel
theorem dX0_applyTo_86 : decode cX0_applyTo 86 = .ok (.iload 4, 2) := by decide +kernel
theorem dX0_applyTo_88 : decode cX0_applyTo 88 = .ok (.invokestatic 45, 3) := by decide +kernel
theorem dX0_applyTo_91 : decode cX0_applyTo 91 = .ok (.ireturn, 1) := by decide +kernel
set_option maxRecDepth 20000 in
theorem ggX0_undoOn_X0_putResult : GoodIn wsX0_undoOn wsX0_putResult := goodIn_r _ [7, 8, 9, 10, 11, 12] (by decide +kernel) (by decide +kernel)
set_option maxRecDepth 20000 in
theorem gX0_undoOn_X0_putResult : GoodIn wsX0_undoOn (va_wsS RX0 41 yX0_putResult wsX0_putResult) := goodIn_app (goodIn_of _ (by decide +kernel)) ggX0_undoOn_X0_putResult
set_option maxRecDepth 20000 in
theorem ggX0_undoOn_X0_exchange : GoodIn wsX0_undoOn wsX0_exchange := goodIn_r _ [15] (by decide +kernel) (by decide +kernel)
set_option maxRecDepth 20000 in
theorem gX0_undoOn_X0_exchange : GoodIn wsX0_undoOn (va_wsS RX0 45 yX0_exchange wsX0_exchange) := goodIn_app (goodIn_of _ (by decide +kernel)) ggX0_undoOn_X0_exchange
theorem dX0_undoOn_0 : decode cX0_undoOn 0 = .ok (.aload_n 0, 1) := by decide +kernel
theorem dX0_undoOn_1 : decode cX0_undoOn 1 = .ok (.getfield 15, 3) := by decide +kernel
theorem dX0_undoOn_4 : decode cX0_undoOn 4 = .ok (.iload_n 2, 1) := by decide +kernel
theorem dX0_undoOn_5 : decode cX0_undoOn 5 = .ok (.iconst 1, 1) := by decide +kernel
theorem dX0_undoOn_6 : decode cX0_undoOn 6 = .ok (.isub, 1) := by decide +kernel
theorem dX0_undoOn_7 : decode cX0_undoOn 7 = .ok (.iaload, 1) := by decide +kernel
theorem dX0_undoOn_8 : decode cX0_undoOn 8 = .ok (.istore_n 3, 1) := by decide +kernel
theorem dX0_undoOn_9 : decode cX0_undoOn 9 = .ok (.aload_n 0, 1) := by decide +kernel
theorem dX0_undoOn_10 : decode cX0_undoOn 10 = .ok (.getfield 18, 3) := by decide +kernel
theorem dX0_undoOn_13 : decode cX0_undoOn 13 = .ok (.iload_n 2, 1) := by decide +kernel
theorem dX0_undoOn_14 : decode cX0_undoOn 14 = .ok (.iconst 1, 1) := by decide +kernel
theorem dX0_undoOn_15 : decode cX0_undoOn 15 = .ok (.isub, 1) := by decide +kernel
theorem dX0_undoOn_16 : decode cX0_undoOn 16 = .ok (.iaload, 1) := by decide +kernel
theorem dX0_undoOn_17 : decode cX0_undoOn 17 = .ok (.istore 4, 2) := by decide +kernel
theorem dX0_undoOn_19 : decode cX0_undoOn 19 = .ok (.aload_n 1, 1) := by decide +kernel
theorem dX0_undoOn_20 : decode cX0_undoOn 20 = .ok (.iload_n 3, 1) := by decide +kernel
theorem dX0_undoOn_21 : decode cX0_undoOn 21 = .ok (.iaload, 1) := by decide +kernel
theorem dX0_undoOn_22 : decode cX0_undoOn 22 = .ok (.i2l, 1) := by decide +kernel
theorem dX0_undoOn_23 : decode cX0_undoOn 23 = .ok (.lstore 5, 2) := by decide +kernel
theorem dX0_undoOn_25 : decode cX0_undoOn 25 = .ok (.aload_n 0, 1) := by decide +kernel
theorem dX0_undoOn_26 : decode cX0_undoOn 26 = .ok (.getfield 9, 3) := by decide +kernel
theorem dX0_undoOn_29 : decode cX0_undoOn 29 = .ok (.iload_n 2, 1) := by decide +kernel
theorem dX0_undoOn_30 : decode cX0_undoOn 30 = .ok (.iconst 1, 1) := by decide +kernel
theorem dX0_undoOn_31 : decode cX0_undoOn 31 = .ok (.isub, 1) := by decide +kernel
theorem dX0_undoOn_32 : decode cX0_undoOn 32 = .ok (.iaload, 1) := by decide +kernel
theorem dX0_undoOn_33 : decode cX0_undoOn 33 = .ok (.lookupswitch 75 #[(0, 27), (1, 39)], 27) := by decide +kernel
theorem dX0_undoOn_60 : decode cX0_undoOn 60 = .ok (.aload_n 1, 1) := by decide +kernel
theorem dX0_undoOn_61 : decode cX0_undoOn 61 = .ok (.iload_n 3, 1) := by decide +kernel
theorem dX0_undoOn_62 : decode cX0_undoOn 62 = .ok (.lload 5, 2) := by decide +kernel
theorem dX0_undoOn_64 : decode cX0_undoOn 64 = .ok (.iload 4, 2) := by decide +kernel
theorem dX0_undoOn_66 : decode cX0_undoOn 66 = .ok (.i2l, 1) := by decide +kernel
theorem dX0_undoOn_67 : decode cX0_undoOn 67 = .ok (.lsub, 1) := by decide +kernel
theorem dX0_undoOn_68 : decode cX0_undoOn 68 = .ok (.invokestatic 41, 3) := by decide +kernel
theorem dX0_undoOn_71 : decode cX0_undoOn 71 = .ok (.ireturn, 1) := by decide +kernel
theorem dX0_undoOn_72 : decode cX0_undoOn 72 = .ok (.iload 4, 2) := by decide +kernel
theorem dX0_undoOn_74 : decode cX0_undoOn 74 = .ok (.ifCond .eq 32, 3) := by decide +kernel
theorem dX0_undoOn_77 : decode cX0_undoOn 77 = .ok (.lload 5, 2) := by decide +kernel
theorem dX0_undoOn_79 : decode cX0_undoOn 79 = .ok (.iload 4, 2) := by decide +kernel
theorem dX0_undoOn_81 : decode cX0_undoOn 81 = .ok (.i2l, 1) := by decide +kernel
theorem dX0_undoOn_82 : decode cX0_undoOn 82 = .ok (.lrem, 1) := by decide +kernel
theorem dX0_undoOn_83 : decode cX0_undoOn 83 = .ok (.lconst 0, 1) := by decide +kernel
theorem dX0_undoOn_84 : decode cX0_undoOn 84 = .ok (.lcmp, 1) := by decide +kernel
theorem dX0_undoOn_85 : decode cX0_undoOn 85 = .ok (.ifCond .ne 21, 3) := by decide +kernel
theorem dX0_undoOn_88 : decode cX0_undoOn 88 = .ok (.aload_n 1, 1) := by decide +kernel
theorem dX0_undoOn_89 : decode cX0_undoOn 89 = .ok (.iload_n 3, 1) := by decide +kernel
theorem dX0_undoOn_90 : decode cX0_undoOn 90 = .ok (.lload 5, 2) := by decide +kernel
theorem dX0_undoOn_92 : decode cX0_undoOn 92 = .ok (.iload 4, 2) := by decide +kernel
theorem dX0_undoOn_94 : decode cX0_undoOn 94 = .ok (.i2l, 1) := by decide +kernel
theorem dX0_undoOn_95 : decode cX0_undoOn 95 = .ok (.ldiv, 1) := by decide +kernel
theorem dX0_undoOn_96 : decode cX0_undoOn 96 = .ok (.invokestatic 41, 3) := by decide +kernel
theorem dX0_undoOn_99 : decode cX0_undoOn 99 = .ok (.ifCond .eq 7, 3) := by decide +kernel
theorem dX0_undoOn_102 : decode cX0_undoOn 102 = .ok (.iconst 1, 1) := by decide +kernel
theorem dX0_undoOn_103 : decode cX0_undoOn 103 = .ok (.goto 4, 3) := by decide +kernel
theorem dX0_undoOn_106 : decode cX0_undoOn 106 = .ok (.iconst 0, 1) := by decide +kernel
theorem dX0_undoOn_107 : decode cX0_undoOn 107 = .ok (.ireturn, 1) := by decide +kernel
theorem dX0_undoOn_108 : decode cX0_undoOn 108 = .ok (.aload_n 1, 1) := by decide +kernel
theorem dX0_undoOn_109 : decode cX0_undoOn 109 = .ok (.iload_n 3, 1) := by decide +kernel
theorem dX0_undoOn_110 : decode cX0_undoOn 110 = .ok (.iload 4, 2) := by decide +kernel
theorem dX0_undoOn_112 : decode cX0_undoOn 112 = .ok (.invokestatic 45, 3) := by decide +kernel
theorem dX0_undoOn_115 : decode cX0_undoOn 115 = .ok (.ireturn, 1) := by decide +kernel
set_option maxRecDepth 20000 in
theorem ggX0_putResult_X3_isTableValue : GoodIn wsX0_putResult wsX3_isTableValue := goodIn_r _ [3, 4, 5] (by decide +kernel) (by decide +kernel)
set_option maxRecDepth 20000 in
theorem gX0_putResult_X3_isTableValue_n49 : GoodIn wsX0_putResult (wsX3_isTableValue) := ggX0_putResult_X3_isTableValue
theorem dX0_putResult_0 : decode cX0_putResult 0 = .ok (.lload_n 2, 1) := by decide +kernel
theorem dX0_putResult_1 : decode cX0_putResult 1 = .ok (.invokestatic 49, 3) := by decide +kernel
theorem dX0_putResult_4 : decode cX0_putResult 4 = .ok (.ifCond .ne 5, 3) := by decide +kernel
theorem dX0_putResult_7 : decode cX0_putResult 7 = .ok (.iconst 0, 1) := by decide +kernel
theorem dX0_putResult_8 : decode cX0_putResult 8 = .ok (.ireturn, 1) := by decide +kernel
theorem dX0_putResult_9 : decode cX0_putResult 9 = .ok (.aload_n 0, 1) := by decide +kernel
theorem dX0_putResult_10 : decode cX0_putResult 10 = .ok (.iload_n 1, 1) := by decide +kernel
theorem dX0_putResult_11 : decode cX0_putResult 11 = .ok (.lload_n 2, 1) := by decide +kernel
theorem dX0_putResult_12 : decode cX0_putResult 12 = .ok (.l2i, 1) := by decide +kernel
theorem dX0_putResult_13 : decode cX0_putResult 13 = .ok (.iastore, 1) := by decide +kernel
theorem dX0_putResult_14 : decode cX0_putResult 14 = .ok (.iconst 1, 1) := by decide +kernel
theorem dX0_putResult_15 : decode cX0_putResult 15 = .ok (.ireturn, 1) := by decide +kernel
theorem dX0_exchange_0 : decode cX0_exchange 0 = .ok (.aload_n 0, 1) := by decide +kernel
theorem dX0_exchange_1 : decode cX0_exchange 1 = .ok (.iload_n 1, 1) := by decide +kernel
theorem dX0_exchange_2 : decode cX0_exchange 2 = .ok (.iaload, 1) := by decide +kernel
theorem dX0_exchange_3 : decode cX0_exchange 3 = .ok (.istore_n 3, 1) := by decide +kernel
theorem dX0_exchange_4 : decode cX0_exchange 4 = .ok (.aload_n 0, 1) := by decide +kernel
theorem dX0_exchange_5 : decode cX0_exchange 5 = .ok (.iload_n 1, 1) := by decide +kernel
theorem dX0_exchange_6 : decode cX0_exchange 6 = .ok (.aload_n 0, 1) := by decide +kernel
theorem dX0_exchange_7 : decode cX0_exchange 7 = .ok (.iload_n 2, 1) := by decide +kernel
theorem dX0_exchange_8 : decode cX0_exchange 8 = .ok (.iaload, 1) := by decide +kernel
theorem dX0_exchange_9 : decode cX0_exchange 9 = .ok (.iastore, 1) := by decide +kernel
theorem dX0_exchange_10 : decode cX0_exchange 10 = .ok (.aload_n 0, 1) := by decide +kernel
theorem dX0_exchange_11 : decode cX0_exchange 11 = .ok (.iload_n 2, 1) := by decide +kernel
theorem dX0_exchange_12 : decode cX0_exchange 12 = .ok (.iload_n 3, 1) := by decide +kernel
theorem dX0_exchange_13 : decode cX0_exchange 13 = .ok (.iastore, 1) := by decide +kernel
theorem dX0_exchange_14 : decode cX0_exchange 14 = .ok (.iconst 1, 1) := by decide +kernel
theorem dX0_exchange_15 : decode cX0_exchange 15 = .ok (.ireturn, 1) := by decide +kernel
theorem dX1_init_0 : decode cX1_init 0 = .ok (.aload_n 0, 1) := by decide +kernel
theorem dX1_init_1 : decode cX1_init 1 = .ok (.invokespecial 3, 3) := by decide +kernel
theorem dX1_init_4 : decode cX1_init 4 = .ok (.aload_n 0, 1) := by decide +kernel
theorem dX1_init_5 : decode cX1_init 5 = .ok (.iconst 4, 1) := by decide +kernel
theorem dX1_init_6 : decode cX1_init 6 = .ok (.newarray .boolean, 2) := by decide +kernel
theorem dX1_init_8 : decode cX1_init 8 = .ok (.putfield 9, 3) := by decide +kernel
theorem dX1_init_11 : decode cX1_init 11 = .ok (.aload_n 0, 1) := by decide +kernel
theorem dX1_init_12 : decode cX1_init 12 = .ok (.iconst (-1), 1) := by decide +kernel
theorem dX1_init_13 : decode cX1_init 13 = .ok (.putfield 15, 3) := by decide +kernel
theorem dX1_init_16 : decode cX1_init 16 = .ok (.return_, 1) := by decide +kernel
theorem dX1_owner_0 : decode cX1_owner 0 = .ok (.aload_n 0, 1) := by decide +kernel
theorem dX1_owner_1 : decode cX1_owner 1 = .ok (.getfield 19, 3) := by decide +kernel
theorem dX1_owner_4 : decode cX1_owner 4 = .ok (.aload_n 0, 1) := by decide +kernel
theorem dX1_owner_5 : decode cX1_owner 5 = .ok (.getfield 22, 3) := by decide +kernel
theorem dX1_owner_8 : decode cX1_owner 8 = .ok (.if_icmp .ge 10, 3) := by decide +kernel
theorem dX1_owner_11 : decode cX1_owner 11 = .ok (.aload_n 0, 1) := by decide +kernel
theorem dX1_owner_12 : decode cX1_owner 12 = .ok (.getfield 15, 3) := by decide +kernel
theorem dX1_owner_15 : decode cX1_owner 15 = .ok (.goto 4, 3) := by decide +kernel
theorem dX1_owner_18 : decode cX1_owner 18 = .ok (.iconst (-1), 1) := by decide +kernel
theorem dX1_owner_19 : decode cX1_owner 19 = .ok (.ireturn, 1) := by decide +kernel
theorem dX1_grant_0 : decode cX1_grant 0 = .ok (.aload_n 0, 1) := by decide +kernel
theorem dX1_grant_1 : decode cX1_grant 1 = .ok (.iload_n 1, 1) := by decide +kernel
theorem dX1_grant_2 : decode cX1_grant 2 = .ok (.putfield 15, 3) := by decide +kernel
theorem dX1_grant_5 : decode cX1_grant 5 = .ok (.aload_n 0, 1) := by decide +kernel
theorem dX1_grant_6 : decode cX1_grant 6 = .ok (.aload_n 0, 1) := by decide +kernel
theorem dX1_grant_7 : decode cX1_grant 7 = .ok (.getfield 19, 3) := by decide +kernel
theorem dX1_grant_10 : decode cX1_grant 10 = .ok (.iload_n 2, 1) := by decide +kernel
theorem dX1_grant_11 : decode cX1_grant 11 = .ok (.iadd, 1) := by decide +kernel
theorem dX1_grant_12 : decode cX1_grant 12 = .ok (.putfield 22, 3) := by decide +kernel
theorem dX1_grant_15 : decode cX1_grant 15 = .ok (.aload_n 0, 1) := by decide +kernel
theorem dX1_grant_16 : decode cX1_grant 16 = .ok (.getfield 22, 3) := by decide +kernel
theorem dX1_grant_19 : decode cX1_grant 19 = .ok (.ireturn, 1) := by decide +kernel
theorem dX1_release_0 : decode cX1_release 0 = .ok (.aload_n 0, 1) := by decide +kernel
theorem dX1_release_1 : decode cX1_release 1 = .ok (.iconst (-1), 1) := by decide +kernel
theorem dX1_release_2 : decode cX1_release 2 = .ok (.putfield 15, 3) := by decide +kernel
theorem dX1_release_5 : decode cX1_release 5 = .ok (.return_, 1) := by decide +kernel
theorem dX1_advance_0 : decode cX1_advance 0 = .ok (.aload_n 0, 1) := by decide +kernel
theorem dX1_advance_1 : decode cX1_advance 1 = .ok (.dup, 1) := by decide +kernel
theorem dX1_advance_2 : decode cX1_advance 2 = .ok (.getfield 19, 3) := by decide +kernel
theorem dX1_advance_5 : decode cX1_advance 5 = .ok (.iload_n 1, 1) := by decide +kernel
theorem dX1_advance_6 : decode cX1_advance 6 = .ok (.iadd, 1) := by decide +kernel
theorem dX1_advance_7 : decode cX1_advance 7 = .ok (.putfield 19, 3) := by decide +kernel
theorem dX1_advance_10 : decode cX1_advance 10 = .ok (.aload_n 0, 1) := by decide +kernel
theorem dX1_advance_11 : decode cX1_advance 11 = .ok (.getfield 19, 3) := by decide +kernel
theorem dX1_advance_14 : decode cX1_advance 14 = .ok (.ireturn, 1) := by decide +kernel
theorem dX1_hasCrashed_0 : decode cX1_hasCrashed 0 = .ok (.aload_n 0, 1) := by decide +kernel
theorem dX1_hasCrashed_1 : decode cX1_hasCrashed 1 = .ok (.getfield 9, 3) := by decide +kernel
theorem dX1_hasCrashed_4 : decode cX1_hasCrashed 4 = .ok (.iload_n 1, 1) := by decide +kernel
theorem dX1_hasCrashed_5 : decode cX1_hasCrashed 5 = .ok (.baload, 1) := by decide +kernel
theorem dX1_hasCrashed_6 : decode cX1_hasCrashed 6 = .ok (.ireturn, 1) := by decide +kernel
theorem dX1_setCrashed_0 : decode cX1_setCrashed 0 = .ok (.aload_n 0, 1) := by decide +kernel
theorem dX1_setCrashed_1 : decode cX1_setCrashed 1 = .ok (.getfield 9, 3) := by decide +kernel
theorem dX1_setCrashed_4 : decode cX1_setCrashed 4 = .ok (.iload_n 1, 1) := by decide +kernel
theorem dX1_setCrashed_5 : decode cX1_setCrashed 5 = .ok (.iload_n 2, 1) := by decide +kernel
theorem dX1_setCrashed_6 : decode cX1_setCrashed 6 = .ok (.bastore, 1) := by decide +kernel
theorem dX1_setCrashed_7 : decode cX1_setCrashed 7 = .ok (.return_, 1) := by decide +kernel
theorem dX2_init_0 : decode cX2_init 0 = .ok (.aload_n 0, 1) := by decide +kernel
theorem dX2_init_1 : decode cX2_init 1 = .ok (.invokespecial 3, 3) := by decide +kernel
theorem dX2_init_4 : decode cX2_init 4 = .ok (.aload_n 0, 1) := by decide +kernel
theorem dX2_init_5 : decode cX2_init 5 = .ok (.bipush 120, 2) := by decide +kernel
theorem dX2_init_7 : decode cX2_init 7 = .ok (.newarray .int, 2) := by decide +kernel
theorem dX2_init_9 : decode cX2_init 9 = .ok (.putfield 9, 3) := by decide +kernel
theorem dX2_init_12 : decode cX2_init 12 = .ok (.aload_n 0, 1) := by decide +kernel
theorem dX2_init_13 : decode cX2_init 13 = .ok (.bipush 40, 2) := by decide +kernel
theorem dX2_init_15 : decode cX2_init 15 = .ok (.newarray .int, 2) := by decide +kernel
theorem dX2_init_17 : decode cX2_init 17 = .ok (.putfield 15, 3) := by decide +kernel
theorem dX2_init_20 : decode cX2_init 20 = .ok (.iconst 0, 1) := by decide +kernel
theorem dX2_init_21 : decode cX2_init 21 = .ok (.istore_n 1, 1) := by decide +kernel
theorem dX2_init_22 : decode cX2_init 22 = .ok (.iload_n 1, 1) := by decide +kernel
theorem dX2_init_23 : decode cX2_init 23 = .ok (.bipush 40, 2) := by decide +kernel
theorem dX2_init_25 : decode cX2_init 25 = .ok (.if_icmp .ge 16, 3) := by decide +kernel
theorem dX2_init_28 : decode cX2_init 28 = .ok (.aload_n 0, 1) := by decide +kernel
theorem dX2_init_29 : decode cX2_init 29 = .ok (.getfield 15, 3) := by decide +kernel
theorem dX2_init_32 : decode cX2_init 32 = .ok (.iload_n 1, 1) := by decide +kernel
theorem dX2_init_33 : decode cX2_init 33 = .ok (.iconst (-1), 1) := by decide +kernel
theorem dX2_init_34 : decode cX2_init 34 = .ok (.iastore, 1) := by decide +kernel
theorem dX2_init_35 : decode cX2_init 35 = .ok (.iinc 1 1, 3) := by decide +kernel
theorem dX2_init_38 : decode cX2_init 38 = .ok (.goto (-16), 3) := by decide +kernel
theorem dX2_init_41 : decode cX2_init 41 = .ok (.return_, 1) := by decide +kernel
theorem dX2_isPresent_0 : decode cX2_isPresent 0 = .ok (.aload_n 0, 1) := by decide +kernel
theorem dX2_isPresent_1 : decode cX2_isPresent 1 = .ok (.getfield 15, 3) := by decide +kernel
theorem dX2_isPresent_4 : decode cX2_isPresent 4 = .ok (.iload_n 1, 1) := by decide +kernel
theorem dX2_isPresent_5 : decode cX2_isPresent 5 = .ok (.iaload, 1) := by decide +kernel
theorem dX2_isPresent_6 : decode cX2_isPresent 6 = .ok (.iconst (-1), 1) := by decide +kernel
theorem dX2_isPresent_7 : decode cX2_isPresent 7 = .ok (.if_icmp .eq 7, 3) := by decide +kernel
theorem dX2_isPresent_10 : decode cX2_isPresent 10 = .ok (.iconst 1, 1) := by decide +kernel
theorem dX2_isPresent_11 : decode cX2_isPresent 11 = .ok (.goto 4, 3) := by decide +kernel
theorem dX2_isPresent_14 : decode cX2_isPresent 14 = .ok (.iconst 0, 1) := by decide +kernel
theorem dX2_isPresent_15 : decode cX2_isPresent 15 = .ok (.ireturn, 1) := by decide +kernel
theorem dX2_versionOf_0 : decode cX2_versionOf 0 = .ok (.aload_n 0, 1) := by decide +kernel
theorem dX2_versionOf_1 : decode cX2_versionOf 1 = .ok (.getfield 15, 3) := by decide +kernel
theorem dX2_versionOf_4 : decode cX2_versionOf 4 = .ok (.iload_n 1, 1) := by decide +kernel
theorem dX2_versionOf_5 : decode cX2_versionOf 5 = .ok (.iaload, 1) := by decide +kernel
theorem dX2_versionOf_6 : decode cX2_versionOf 6 = .ok (.ireturn, 1) := by decide +kernel
theorem dX2_setVersion_0 : decode cX2_setVersion 0 = .ok (.aload_n 0, 1) := by decide +kernel
theorem dX2_setVersion_1 : decode cX2_setVersion 1 = .ok (.getfield 15, 3) := by decide +kernel
theorem dX2_setVersion_4 : decode cX2_setVersion 4 = .ok (.iload_n 1, 1) := by decide +kernel
theorem dX2_setVersion_5 : decode cX2_setVersion 5 = .ok (.iload_n 2, 1) := by decide +kernel
theorem dX2_setVersion_6 : decode cX2_setVersion 6 = .ok (.iastore, 1) := by decide +kernel
theorem dX2_setVersion_7 : decode cX2_setVersion 7 = .ok (.return_, 1) := by decide +kernel
theorem dX2_cell_0 : decode cX2_cell 0 = .ok (.aload_n 0, 1) := by decide +kernel
theorem dX2_cell_1 : decode cX2_cell 1 = .ok (.getfield 9, 3) := by decide +kernel
theorem dX2_cell_4 : decode cX2_cell 4 = .ok (.iload_n 1, 1) := by decide +kernel
theorem dX2_cell_5 : decode cX2_cell 5 = .ok (.iconst 3, 1) := by decide +kernel
theorem dX2_cell_6 : decode cX2_cell 6 = .ok (.imul, 1) := by decide +kernel
theorem dX2_cell_7 : decode cX2_cell 7 = .ok (.iload_n 2, 1) := by decide +kernel
theorem dX2_cell_8 : decode cX2_cell 8 = .ok (.iadd, 1) := by decide +kernel
theorem dX2_cell_9 : decode cX2_cell 9 = .ok (.iaload, 1) := by decide +kernel
theorem dX2_cell_10 : decode cX2_cell 10 = .ok (.ireturn, 1) := by decide +kernel
theorem dX2_setCell_0 : decode cX2_setCell 0 = .ok (.aload_n 0, 1) := by decide +kernel
theorem dX2_setCell_1 : decode cX2_setCell 1 = .ok (.getfield 9, 3) := by decide +kernel
theorem dX2_setCell_4 : decode cX2_setCell 4 = .ok (.iload_n 1, 1) := by decide +kernel
theorem dX2_setCell_5 : decode cX2_setCell 5 = .ok (.iconst 3, 1) := by decide +kernel
theorem dX2_setCell_6 : decode cX2_setCell 6 = .ok (.imul, 1) := by decide +kernel
theorem dX2_setCell_7 : decode cX2_setCell 7 = .ok (.iload_n 2, 1) := by decide +kernel
theorem dX2_setCell_8 : decode cX2_setCell 8 = .ok (.iadd, 1) := by decide +kernel
theorem dX2_setCell_9 : decode cX2_setCell 9 = .ok (.iload_n 3, 1) := by decide +kernel
theorem dX2_setCell_10 : decode cX2_setCell 10 = .ok (.iastore, 1) := by decide +kernel
theorem dX2_setCell_11 : decode cX2_setCell 11 = .ok (.return_, 1) := by decide +kernel
set_option maxRecDepth 20000 in
theorem ggX2_copyRow_X2_cell : GoodIn wsX2_copyRow wsX2_cell := goodIn_r _ [5, 6, 7, 8] (by decide +kernel) (by decide +kernel)
set_option maxRecDepth 20000 in
theorem gX2_copyRow_X2_cell : GoodIn wsX2_copyRow (wsV RX2 18 RX2 yX2_cell wsX2_cell) := goodIn_app (goodIn_of _ (by decide +kernel)) ggX2_copyRow_X2_cell
theorem dX2_copyRow_0 : decode cX2_copyRow 0 = .ok (.iconst 0, 1) := by decide +kernel
theorem dX2_copyRow_1 : decode cX2_copyRow 1 = .ok (.istore_n 3, 1) := by decide +kernel
theorem dX2_copyRow_2 : decode cX2_copyRow 2 = .ok (.iload_n 3, 1) := by decide +kernel
theorem dX2_copyRow_3 : decode cX2_copyRow 3 = .ok (.iconst 3, 1) := by decide +kernel
theorem dX2_copyRow_4 : decode cX2_copyRow 4 = .ok (.if_icmp .ge 18, 3) := by decide +kernel
theorem dX2_copyRow_7 : decode cX2_copyRow 7 = .ok (.aload_n 2, 1) := by decide +kernel
theorem dX2_copyRow_8 : decode cX2_copyRow 8 = .ok (.iload_n 3, 1) := by decide +kernel
theorem dX2_copyRow_9 : decode cX2_copyRow 9 = .ok (.aload_n 0, 1) := by decide +kernel
theorem dX2_copyRow_10 : decode cX2_copyRow 10 = .ok (.iload_n 1, 1) := by decide +kernel
theorem dX2_copyRow_11 : decode cX2_copyRow 11 = .ok (.iload_n 3, 1) := by decide +kernel
theorem dX2_copyRow_12 : decode cX2_copyRow 12 = .ok (.invokevirtual 18, 3) := by decide +kernel
theorem dX2_copyRow_15 : decode cX2_copyRow 15 = .ok (.iastore, 1) := by decide +kernel
theorem dX2_copyRow_16 : decode cX2_copyRow 16 = .ok (.iinc 3 1, 3) := by decide +kernel
theorem dX2_copyRow_19 : decode cX2_copyRow 19 = .ok (.goto (-17), 3) := by decide +kernel
theorem dX2_copyRow_22 : decode cX2_copyRow 22 = .ok (.return_, 1) := by decide +kernel
set_option maxRecDepth 20000 in
theorem ggX2_storeRow_X2_setCell : GoodIn wsX2_storeRow wsX2_setCell := goodIn_r _ [5, 6, 7, 8] (by decide +kernel) (by decide +kernel)
set_option maxRecDepth 20000 in
theorem gX2_storeRow_X2_setCell : GoodIn wsX2_storeRow (wsV RX2 22 RX2 yX2_setCell wsX2_setCell) := goodIn_app (goodIn_of _ (by decide +kernel)) ggX2_storeRow_X2_setCell
theorem dX2_storeRow_0 : decode cX2_storeRow 0 = .ok (.iconst 0, 1) := by decide +kernel
theorem dX2_storeRow_1 : decode cX2_storeRow 1 = .ok (.istore_n 3, 1) := by decide +kernel
theorem dX2_storeRow_2 : decode cX2_storeRow 2 = .ok (.iload_n 3, 1) := by decide +kernel
theorem dX2_storeRow_3 : decode cX2_storeRow 3 = .ok (.iconst 3, 1) := by decide +kernel
theorem dX2_storeRow_4 : decode cX2_storeRow 4 = .ok (.if_icmp .ge 18, 3) := by decide +kernel
theorem dX2_storeRow_7 : decode cX2_storeRow 7 = .ok (.aload_n 0, 1) := by decide +kernel
theorem dX2_storeRow_8 : decode cX2_storeRow 8 = .ok (.iload_n 1, 1) := by decide +kernel
theorem dX2_storeRow_9 : decode cX2_storeRow 9 = .ok (.iload_n 3, 1) := by decide +kernel
theorem dX2_storeRow_10 : decode cX2_storeRow 10 = .ok (.aload_n 2, 1) := by decide +kernel
theorem dX2_storeRow_11 : decode cX2_storeRow 11 = .ok (.iload_n 3, 1) := by decide +kernel
theorem dX2_storeRow_12 : decode cX2_storeRow 12 = .ok (.iaload, 1) := by decide +kernel
theorem dX2_storeRow_13 : decode cX2_storeRow 13 = .ok (.invokevirtual 22, 3) := by decide +kernel
theorem dX2_storeRow_16 : decode cX2_storeRow 16 = .ok (.iinc 3 1, 3) := by decide +kernel
theorem dX2_storeRow_19 : decode cX2_storeRow 19 = .ok (.goto (-17), 3) := by decide +kernel
theorem dX2_storeRow_22 : decode cX2_storeRow 22 = .ok (.return_, 1) := by decide +kernel
theorem dX2_countWithVersion_0 : decode cX2_countWithVersion 0 = .ok (.iconst 0, 1) := by decide +kernel
theorem dX2_countWithVersion_1 : decode cX2_countWithVersion 1 = .ok (.istore_n 2, 1) := by decide +kernel
theorem dX2_countWithVersion_2 : decode cX2_countWithVersion 2 = .ok (.iconst 0, 1) := by decide +kernel
theorem dX2_countWithVersion_3 : decode cX2_countWithVersion 3 = .ok (.istore_n 3, 1) := by decide +kernel
theorem dX2_countWithVersion_4 : decode cX2_countWithVersion 4 = .ok (.iload_n 3, 1) := by decide +kernel
theorem dX2_countWithVersion_5 : decode cX2_countWithVersion 5 = .ok (.bipush 40, 2) := by decide +kernel
theorem dX2_countWithVersion_7 : decode cX2_countWithVersion 7 = .ok (.if_icmp .ge 22, 3) := by decide +kernel
theorem dX2_countWithVersion_10 : decode cX2_countWithVersion 10 = .ok (.aload_n 0, 1) := by decide +kernel
theorem dX2_countWithVersion_11 : decode cX2_countWithVersion 11 = .ok (.getfield 15, 3) := by decide +kernel
theorem dX2_countWithVersion_14 : decode cX2_countWithVersion 14 = .ok (.iload_n 3, 1) := by decide +kernel
theorem dX2_countWithVersion_15 : decode cX2_countWithVersion 15 = .ok (.iaload, 1) := by decide +kernel
theorem dX2_countWithVersion_16 : decode cX2_countWithVersion 16 = .ok (.iload_n 1, 1) := by decide +kernel
theorem dX2_countWithVersion_17 : decode cX2_countWithVersion 17 = .ok (.if_icmp .ne 6, 3) := by decide +kernel
theorem dX2_countWithVersion_20 : decode cX2_countWithVersion 20 = .ok (.iinc 2 1, 3) := by decide +kernel
theorem dX2_countWithVersion_23 : decode cX2_countWithVersion 23 = .ok (.iinc 3 1, 3) := by decide +kernel
theorem dX2_countWithVersion_26 : decode cX2_countWithVersion 26 = .ok (.goto (-22), 3) := by decide +kernel
theorem dX2_countWithVersion_29 : decode cX2_countWithVersion 29 = .ok (.iload_n 2, 1) := by decide +kernel
theorem dX2_countWithVersion_30 : decode cX2_countWithVersion 30 = .ok (.ireturn, 1) := by decide +kernel
theorem dX2_countFromVersion_0 : decode cX2_countFromVersion 0 = .ok (.iconst 0, 1) := by decide +kernel
theorem dX2_countFromVersion_1 : decode cX2_countFromVersion 1 = .ok (.istore_n 2, 1) := by decide +kernel
theorem dX2_countFromVersion_2 : decode cX2_countFromVersion 2 = .ok (.iconst 0, 1) := by decide +kernel
theorem dX2_countFromVersion_3 : decode cX2_countFromVersion 3 = .ok (.istore_n 3, 1) := by decide +kernel
theorem dX2_countFromVersion_4 : decode cX2_countFromVersion 4 = .ok (.iload_n 3, 1) := by decide +kernel
theorem dX2_countFromVersion_5 : decode cX2_countFromVersion 5 = .ok (.bipush 40, 2) := by decide +kernel
theorem dX2_countFromVersion_7 : decode cX2_countFromVersion 7 = .ok (.if_icmp .ge 22, 3) := by decide +kernel
theorem dX2_countFromVersion_10 : decode cX2_countFromVersion 10 = .ok (.aload_n 0, 1) := by decide +kernel
theorem dX2_countFromVersion_11 : decode cX2_countFromVersion 11 = .ok (.getfield 15, 3) := by decide +kernel
theorem dX2_countFromVersion_14 : decode cX2_countFromVersion 14 = .ok (.iload_n 3, 1) := by decide +kernel
theorem dX2_countFromVersion_15 : decode cX2_countFromVersion 15 = .ok (.iaload, 1) := by decide +kernel
theorem dX2_countFromVersion_16 : decode cX2_countFromVersion 16 = .ok (.iload_n 1, 1) := by decide +kernel
theorem dX2_countFromVersion_17 : decode cX2_countFromVersion 17 = .ok (.if_icmp .lt 6, 3) := by decide +kernel
theorem dX2_countFromVersion_20 : decode cX2_countFromVersion 20 = .ok (.iinc 2 1, 3) := by decide +kernel
theorem dX2_countFromVersion_23 : decode cX2_countFromVersion 23 = .ok (.iinc 3 1, 3) := by decide +kernel
theorem dX2_countFromVersion_26 : decode cX2_countFromVersion 26 = .ok (.goto (-22), 3) := by decide +kernel
theorem dX2_countFromVersion_29 : decode cX2_countFromVersion 29 = .ok (.iload_n 2, 1) := by decide +kernel
theorem dX2_countFromVersion_30 : decode cX2_countFromVersion 30 = .ok (.ireturn, 1) := by decide +kernel
set_option maxRecDepth 20000 in
theorem ggX2_countPresent_X2_countFromVersion : GoodIn wsX2_countPresent wsX2_countFromVersion := goodIn_r _ [5, 6, 7, 8] (by decide +kernel) (by decide +kernel)
set_option maxRecDepth 20000 in
theorem gX2_countPresent_X2_countFromVersion : GoodIn wsX2_countPresent (wsV RX2 26 RX2 yX2_countFromVersion wsX2_countFromVersion) := goodIn_app (goodIn_of _ (by decide +kernel)) ggX2_countPresent_X2_countFromVersion
theorem dX2_countPresent_0 : decode cX2_countPresent 0 = .ok (.aload_n 0, 1) := by decide +kernel
theorem dX2_countPresent_1 : decode cX2_countPresent 1 = .ok (.iconst 0, 1) := by decide +kernel
theorem dX2_countPresent_2 : decode cX2_countPresent 2 = .ok (.invokevirtual 26, 3) := by decide +kernel
theorem dX2_countPresent_5 : decode cX2_countPresent 5 = .ok (.ireturn, 1) := by decide +kernel
set_option maxRecDepth 20000 in
theorem ggX3_init_X0_init : GoodIn wsX3_init wsX0_init := goodIn_r _ [20, 21, 2, 3, 16, 22, 23, 24, 25, 38, 39, 40, 41, 42] (by decide +kernel) (by decide +kernel)
set_option maxRecDepth 20000 in
theorem gX3_init_X0_init_n9 : GoodIn wsX3_init (wsX0_init) := ggX3_init_X0_init
set_option maxRecDepth 20000 in
theorem ggX3_init_X2_init : GoodIn wsX3_init wsX2_init := goodIn_r _ [28, 29, 2, 3, 16, 30, 31, 50, 51] (by decide +kernel) (by decide +kernel)
set_option maxRecDepth 20000 in
theorem gX3_init_X2_init : GoodIn wsX3_init (wsX2_init) := ggX3_init_X2_init
set_option maxRecDepth 20000 in
theorem ggX3_init_X1_init : GoodIn wsX3_init wsX1_init := goodIn_r _ [33, 34, 2, 3, 35, 36, 37, 52, 53, 54, 55] (by decide +kernel) (by decide +kernel)
set_option maxRecDepth 20000 in
theorem gX3_init_X1_init_n25 : GoodIn wsX3_init (wsX1_init) := ggX3_init_X1_init
theorem dX3_init_0 : decode cX3_init 0 = .ok (.aload_n 0, 1) := by decide +kernel
theorem dX3_init_1 : decode cX3_init 1 = .ok (.invokespecial 1, 3) := by decide +kernel
theorem dX3_init_4 : decode cX3_init 4 = .ok (.aload_n 0, 1) := by decide +kernel
theorem dX3_init_5 : decode cX3_init 5 = .ok (.new 7, 3) := by decide +kernel
theorem dX3_init_8 : decode cX3_init 8 = .ok (.dup, 1) := by decide +kernel
theorem dX3_init_9 : decode cX3_init 9 = .ok (.invokespecial 9, 3) := by decide +kernel
theorem dX3_init_12 : decode cX3_init 12 = .ok (.putfield 10, 3) := by decide +kernel
theorem dX3_init_15 : decode cX3_init 15 = .ok (.aload_n 0, 1) := by decide +kernel
theorem dX3_init_16 : decode cX3_init 16 = .ok (.new 16, 3) := by decide +kernel
theorem dX3_init_19 : decode cX3_init 19 = .ok (.dup, 1) := by decide +kernel
theorem dX3_init_20 : decode cX3_init 20 = .ok (.invokespecial 18, 3) := by decide +kernel
theorem dX3_init_23 : decode cX3_init 23 = .ok (.putfield 19, 3) := by decide +kernel
theorem dX3_init_26 : decode cX3_init 26 = .ok (.aload_n 0, 1) := by decide +kernel
theorem dX3_init_27 : decode cX3_init 27 = .ok (.new 23, 3) := by decide +kernel
theorem dX3_init_30 : decode cX3_init 30 = .ok (.dup, 1) := by decide +kernel
theorem dX3_init_31 : decode cX3_init 31 = .ok (.invokespecial 25, 3) := by decide +kernel
theorem dX3_init_34 : decode cX3_init 34 = .ok (.putfield 26, 3) := by decide +kernel
theorem dX3_init_37 : decode cX3_init 37 = .ok (.aload_n 0, 1) := by decide +kernel
theorem dX3_init_38 : decode cX3_init 38 = .ok (.iconst 3, 1) := by decide +kernel
theorem dX3_init_39 : decode cX3_init 39 = .ok (.newarray .int, 2) := by decide +kernel
theorem dX3_init_41 : decode cX3_init 41 = .ok (.putfield 30, 3) := by decide +kernel
theorem dX3_init_44 : decode cX3_init 44 = .ok (.aload_n 0, 1) := by decide +kernel
theorem dX3_init_45 : decode cX3_init 45 = .ok (.iconst 0, 1) := by decide +kernel
theorem dX3_init_46 : decode cX3_init 46 = .ok (.putfield 34, 3) := by decide +kernel
theorem dX3_init_49 : decode cX3_init 49 = .ok (.return_, 1) := by decide +kernel
set_option maxRecDepth 20000 in
theorem ggX3_addChange_X3_requireChangeParts : GoodIn wsX3_addChange wsX3_requireChangeParts := goodIn_ca (goodIn_r _ [7, 8, 9, 10, 11, 6, 12, 13, 14, 15, 16, 17, 18] (by decide +kernel) (by decide +kernel)) (goodIn_sub (fun _ h => List.mem_cons_of_mem _ (List.mem_append_right _ h)) (by decide +kernel))
set_option maxRecDepth 20000 in
theorem gX3_addChange_X3_requireChangeParts : GoodIn wsX3_addChange (va_wsS RX3 38 yX3_requireChangeParts wsX3_requireChangeParts) := goodIn_app (goodIn_of _ (by decide +kernel)) ggX3_addChange_X3_requireChangeParts
set_option maxRecDepth 20000 in
theorem ggX3_addChange_X0_isFull : GoodIn wsX3_addChange wsX0_isFull := goodIn_r _ [23, 24, 43, 44, 45, 46, 47] (by decide +kernel) (by decide +kernel)
set_option maxRecDepth 20000 in
theorem gX3_addChange_X0_isFull : GoodIn wsX3_addChange (wsV RX3 42 RX0 yX0_isFull wsX0_isFull) := goodIn_app (goodIn_of _ (by decide +kernel)) ggX3_addChange_X0_isFull
set_option maxRecDepth 20000 in
theorem ggX3_addChange_X0_append : GoodIn wsX3_addChange wsX0_append := goodIn_r _ [28, 24, 29, 30, 31, 22, 32, 33, 34, 35, 43, 44, 45, 46, 47] (by decide +kernel) (by decide +kernel)
set_option maxRecDepth 20000 in
theorem gX3_addChange_X0_append : GoodIn wsX3_addChange (wsV RX3 53 RX0 yX0_append wsX0_append) := goodIn_app (goodIn_of _ (by decide +kernel)) ggX3_addChange_X0_append
theorem dX3_addChange_0 : decode cX3_addChange 0 = .ok (.iload_n 1, 1) := by decide +kernel
theorem dX3_addChange_1 : decode cX3_addChange 1 = .ok (.iload_n 2, 1) := by decide +kernel
theorem dX3_addChange_2 : decode cX3_addChange 2 = .ok (.iload_n 3, 1) := by decide +kernel
theorem dX3_addChange_3 : decode cX3_addChange 3 = .ok (.invokestatic 38, 3) := by decide +kernel
theorem dX3_addChange_6 : decode cX3_addChange 6 = .ok (.aload_n 0, 1) := by decide +kernel
theorem dX3_addChange_7 : decode cX3_addChange 7 = .ok (.getfield 10, 3) := by decide +kernel
theorem dX3_addChange_10 : decode cX3_addChange 10 = .ok (.invokevirtual 42, 3) := by decide +kernel
theorem dX3_addChange_13 : decode cX3_addChange 13 = .ok (.ifCond .eq 13, 3) := by decide +kernel
theorem dX3_addChange_16 : decode cX3_addChange 16 = .ok (.new 46, 3) := by decide +kernel
theorem dX3_addChange_19 : decode cX3_addChange 19 = .ok (.dup, 1) := by decide +kernel
theorem dX3_addChange_20 : decode cX3_addChange 20 = .ok (.ldc 48, 2) := by decide +kernel
theorem dX3_addChange_22 : decode cX3_addChange 22 = .ok (.invokespecial 50, 3) := by decide +kernel
theorem dX3_addChange_25 : decode cX3_addChange 25 = .ok (.athrow, 1) := by decide +kernel
theorem dX3_addChange_26 : decode cX3_addChange 26 = .ok (.aload_n 0, 1) := by decide +kernel
theorem dX3_addChange_27 : decode cX3_addChange 27 = .ok (.getfield 10, 3) := by decide +kernel
theorem dX3_addChange_30 : decode cX3_addChange 30 = .ok (.iload_n 1, 1) := by decide +kernel
theorem dX3_addChange_31 : decode cX3_addChange 31 = .ok (.iload_n 2, 1) := by decide +kernel
theorem dX3_addChange_32 : decode cX3_addChange 32 = .ok (.iload_n 3, 1) := by decide +kernel
theorem dX3_addChange_33 : decode cX3_addChange 33 = .ok (.invokevirtual 53, 3) := by decide +kernel
theorem dX3_addChange_36 : decode cX3_addChange 36 = .ok (.ireturn, 1) := by decide +kernel
set_option maxRecDepth 20000 in
theorem ggX3_edit_X3_requireChangeParts : GoodIn wsX3_edit wsX3_requireChangeParts := goodIn_ca (goodIn_r _ [7, 8, 9, 10, 11, 6, 12, 13, 14, 15, 16, 17, 18] (by decide +kernel) (by decide +kernel)) (goodIn_sub (fun _ h => List.mem_cons_of_mem _ (List.mem_append_left _ (List.mem_append_right _ h))) (by decide +kernel))
set_option maxRecDepth 20000 in
theorem gX3_edit_X3_requireChangeParts : GoodIn wsX3_edit (va_wsS RX3 38 yX3_requireChangeParts wsX3_requireChangeParts) := goodIn_app (goodIn_of _ (by decide +kernel)) ggX3_edit_X3_requireChangeParts
set_option maxRecDepth 20000 in
theorem ggX3_edit_X3_requireListed : GoodIn wsX3_edit wsX3_requireListed := goodIn_ca (goodIn_r _ [22, 23, 24, 3, 25, 26, 27, 28, 29, 30, 53, 54, 55, 56, 57, 58, 59, 60, 61, 62, 63, 64] (by decide +kernel) (by decide +kernel)) (goodIn_sub (fun _ h => List.mem_cons_of_mem _ (List.mem_append_right _ h)) (by decide +kernel))
set_option maxRecDepth 20000 in
theorem gX3_edit_X3_requireListed : GoodIn wsX3_edit (wsV RX3 57 RX3 yX3_requireListed wsX3_requireListed) := goodIn_app (goodIn_of _ (by decide +kernel)) ggX3_edit_X3_requireListed
set_option maxRecDepth 20000 in
theorem ggX3_edit_X3_isActive : GoodIn wsX3_edit wsX3_isActive := goodIn_r _ [34, 35, 53, 54, 55, 56, 57, 58, 59] (by decide +kernel) (by decide +kernel)
set_option maxRecDepth 20000 in
theorem gX3_edit_X3_isActive : GoodIn wsX3_edit (wsV RX3 61 RX3 yX3_isActive wsX3_isActive) := goodIn_app (goodIn_of _ (by decide +kernel)) ggX3_edit_X3_isActive
set_option maxRecDepth 20000 in
theorem ggX3_edit_X3_activeNumber : GoodIn wsX3_edit wsX3_activeNumber := goodIn_r _ [39, 40, 53, 54, 55, 56, 57, 58, 59] (by decide +kernel) (by decide +kernel)
set_option maxRecDepth 20000 in
theorem gX3_edit_X3_activeNumber : GoodIn wsX3_edit (wsV RX3 64 RX3 yX3_activeNumber wsX3_activeNumber) := goodIn_app (goodIn_of _ (by decide +kernel)) ggX3_edit_X3_activeNumber
set_option maxRecDepth 20000 in
theorem ggX3_edit_X0_put : GoodIn wsX3_edit wsX0_put := goodIn_r _ [44, 45, 46, 47, 60, 61, 62, 63, 64] (by decide +kernel) (by decide +kernel)
set_option maxRecDepth 20000 in
theorem gX3_edit_X0_put : GoodIn wsX3_edit (wsV RX3 70 RX0 yX0_put wsX0_put) := goodIn_app (goodIn_of _ (by decide +kernel)) ggX3_edit_X0_put
set_option maxRecDepth 20000 in
theorem ggX3_edit_X0_checksumOf : GoodIn wsX3_edit wsX0_checksumOf := goodIn_r _ [51, 45, 46, 47, 52, 60, 61, 62, 63, 64] (by decide +kernel) (by decide +kernel)
set_option maxRecDepth 20000 in
theorem gX3_edit_X0_checksumOf : GoodIn wsX3_edit (wsV RX3 74 RX0 yX0_checksumOf wsX0_checksumOf) := goodIn_app (goodIn_of _ (by decide +kernel)) ggX3_edit_X0_checksumOf
theorem dX3_edit_0 : decode cX3_edit 0 = .ok (.iload_n 2, 1) := by decide +kernel
theorem dX3_edit_1 : decode cX3_edit 1 = .ok (.iload_n 3, 1) := by decide +kernel
theorem dX3_edit_2 : decode cX3_edit 2 = .ok (.iload 4, 2) := by decide +kernel
theorem dX3_edit_4 : decode cX3_edit 4 = .ok (.invokestatic 38, 3) := by decide +kernel
theorem dX3_edit_7 : decode cX3_edit 7 = .ok (.aload_n 0, 1) := by decide +kernel
theorem dX3_edit_8 : decode cX3_edit 8 = .ok (.iload_n 1, 1) := by decide +kernel
theorem dX3_edit_9 : decode cX3_edit 9 = .ok (.invokevirtual 57, 3) := by decide +kernel
theorem dX3_edit_12 : decode cX3_edit 12 = .ok (.aload_n 0, 1) := by decide +kernel
theorem dX3_edit_13 : decode cX3_edit 13 = .ok (.invokevirtual 61, 3) := by decide +kernel
theorem dX3_edit_16 : decode cX3_edit 16 = .ok (.ifCond .eq 21, 3) := by decide +kernel
theorem dX3_edit_19 : decode cX3_edit 19 = .ok (.iload_n 1, 1) := by decide +kernel
theorem dX3_edit_20 : decode cX3_edit 20 = .ok (.aload_n 0, 1) := by decide +kernel
theorem dX3_edit_21 : decode cX3_edit 21 = .ok (.invokevirtual 64, 3) := by decide +kernel
theorem dX3_edit_24 : decode cX3_edit 24 = .ok (.if_icmp .ne 13, 3) := by decide +kernel
theorem dX3_edit_27 : decode cX3_edit 27 = .ok (.new 46, 3) := by decide +kernel
theorem dX3_edit_30 : decode cX3_edit 30 = .ok (.dup, 1) := by decide +kernel
theorem dX3_edit_31 : decode cX3_edit 31 = .ok (.ldc 68, 2) := by decide +kernel
theorem dX3_edit_33 : decode cX3_edit 33 = .ok (.invokespecial 50, 3) := by decide +kernel
theorem dX3_edit_36 : decode cX3_edit 36 = .ok (.athrow, 1) := by decide +kernel
theorem dX3_edit_37 : decode cX3_edit 37 = .ok (.aload_n 0, 1) := by decide +kernel
theorem dX3_edit_38 : decode cX3_edit 38 = .ok (.getfield 10, 3) := by decide +kernel
theorem dX3_edit_41 : decode cX3_edit 41 = .ok (.iload_n 1, 1) := by decide +kernel
theorem dX3_edit_42 : decode cX3_edit 42 = .ok (.iload_n 2, 1) := by decide +kernel
theorem dX3_edit_43 : decode cX3_edit 43 = .ok (.iload_n 3, 1) := by decide +kernel
theorem dX3_edit_44 : decode cX3_edit 44 = .ok (.iload 4, 2) := by decide +kernel
theorem dX3_edit_46 : decode cX3_edit 46 = .ok (.invokevirtual 70, 3) := by decide +kernel
theorem dX3_edit_49 : decode cX3_edit 49 = .ok (.aload_n 0, 1) := by decide +kernel
theorem dX3_edit_50 : decode cX3_edit 50 = .ok (.getfield 10, 3) := by decide +kernel
theorem dX3_edit_53 : decode cX3_edit 53 = .ok (.iload_n 1, 1) := by decide +kernel
theorem dX3_edit_54 : decode cX3_edit 54 = .ok (.invokevirtual 74, 3) := by decide +kernel
theorem dX3_edit_57 : decode cX3_edit 57 = .ok (.ireturn, 1) := by decide +kernel
set_option maxRecDepth 20000 in
theorem ggX3_changes_X0_count : GoodIn wsX3_changes wsX0_count := goodIn_r _ [6, 7, 15, 16, 17, 18, 19] (by decide +kernel) (by decide +kernel)
set_option maxRecDepth 20000 in
theorem gX3_changes_X0_count : GoodIn wsX3_changes (wsV RX3 78 RX0 yX0_count wsX0_count) := goodIn_app (goodIn_of _ (by decide +kernel)) ggX3_changes_X0_count
theorem dX3_changes_0 : decode cX3_changes 0 = .ok (.aload_n 0, 1) := by decide +kernel
theorem dX3_changes_1 : decode cX3_changes 1 = .ok (.getfield 10, 3) := by decide +kernel
theorem dX3_changes_4 : decode cX3_changes 4 = .ok (.invokevirtual 78, 3) := by decide +kernel
theorem dX3_changes_7 : decode cX3_changes 7 = .ok (.ireturn, 1) := by decide +kernel
set_option maxRecDepth 20000 in
theorem ggX3_checksum_X3_requireListed : GoodIn wsX3_checksum wsX3_requireListed := goodIn_ca (goodIn_r _ [6, 7, 8, 1, 9, 10, 11, 12, 13, 14, 23, 24, 25, 26, 27, 28, 29, 30, 31, 32, 33, 34] (by decide +kernel) (by decide +kernel)) (goodIn_sub (fun _ h => List.mem_cons_of_mem _ (List.mem_append_right _ h)) (by decide +kernel))
set_option maxRecDepth 20000 in
theorem gX3_checksum_X3_requireListed : GoodIn wsX3_checksum (wsV RX3 57 RX3 yX3_requireListed wsX3_requireListed) := goodIn_app (goodIn_of _ (by decide +kernel)) ggX3_checksum_X3_requireListed
set_option maxRecDepth 20000 in
theorem ggX3_checksum_X0_checksumOf : GoodIn wsX3_checksum wsX0_checksumOf := goodIn_r _ [18, 19, 20, 21, 22, 30, 31, 32, 33, 34] (by decide +kernel) (by decide +kernel)
set_option maxRecDepth 20000 in
theorem gX3_checksum_X0_checksumOf : GoodIn wsX3_checksum (wsV RX3 74 RX0 yX0_checksumOf wsX0_checksumOf) := goodIn_app (goodIn_of _ (by decide +kernel)) ggX3_checksum_X0_checksumOf
theorem dX3_checksum_0 : decode cX3_checksum 0 = .ok (.aload_n 0, 1) := by decide +kernel
theorem dX3_checksum_1 : decode cX3_checksum 1 = .ok (.iload_n 1, 1) := by decide +kernel
theorem dX3_checksum_2 : decode cX3_checksum 2 = .ok (.invokevirtual 57, 3) := by decide +kernel
theorem dX3_checksum_5 : decode cX3_checksum 5 = .ok (.aload_n 0, 1) := by decide +kernel
theorem dX3_checksum_6 : decode cX3_checksum 6 = .ok (.getfield 10, 3) := by decide +kernel
theorem dX3_checksum_9 : decode cX3_checksum 9 = .ok (.iload_n 1, 1) := by decide +kernel
theorem dX3_checksum_10 : decode cX3_checksum 10 = .ok (.invokevirtual 74, 3) := by decide +kernel
theorem dX3_checksum_13 : decode cX3_checksum 13 = .ok (.ireturn, 1) := by decide +kernel
set_option maxRecDepth 20000 in
theorem ggX3_state_X3_requireListed : GoodIn wsX3_state wsX3_requireListed := goodIn_ca (goodIn_r _ [7, 8, 9, 10, 11, 12, 13, 14, 15, 16, 21, 22, 23, 24, 25, 26, 27, 28, 29, 30, 31, 32] (by decide +kernel) (by decide +kernel)) (goodIn_sub (fun _ h => List.mem_cons_of_mem _ (List.mem_append_right _ h)) (by decide +kernel))
set_option maxRecDepth 20000 in
theorem gX3_state_X3_requireListed : GoodIn wsX3_state (wsV RX3 57 RX3 yX3_requireListed wsX3_requireListed) := goodIn_app (goodIn_of _ (by decide +kernel)) ggX3_state_X3_requireListed
set_option maxRecDepth 20000 in
theorem ggX3_state_X3_activeNumber : GoodIn wsX3_state wsX3_activeNumber := goodIn_r _ [20, 1, 21, 22, 23, 24, 25, 26, 27] (by decide +kernel) (by decide +kernel)
set_option maxRecDepth 20000 in
theorem gX3_state_X3_activeNumber : GoodIn wsX3_state (wsV RX3 64 RX3 yX3_activeNumber wsX3_activeNumber) := goodIn_app (goodIn_of _ (by decide +kernel)) ggX3_state_X3_activeNumber
theorem dX3_state_0 : decode cX3_state 0 = .ok (.aload_n 0, 1) := by decide +kernel
theorem dX3_state_1 : decode cX3_state 1 = .ok (.iload_n 1, 1) := by decide +kernel
theorem dX3_state_2 : decode cX3_state 2 = .ok (.invokevirtual 57, 3) := by decide +kernel
theorem dX3_state_5 : decode cX3_state 5 = .ok (.iload_n 1, 1) := by decide +kernel
theorem dX3_state_6 : decode cX3_state 6 = .ok (.aload_n 0, 1) := by decide +kernel
theorem dX3_state_7 : decode cX3_state 7 = .ok (.getfield 81, 3) := by decide +kernel
theorem dX3_state_10 : decode cX3_state 10 = .ok (.if_icmp .gt 5, 3) := by decide +kernel
theorem dX3_state_13 : decode cX3_state 13 = .ok (.iconst 2, 1) := by decide +kernel
theorem dX3_state_14 : decode cX3_state 14 = .ok (.ireturn, 1) := by decide +kernel
theorem dX3_state_15 : decode cX3_state 15 = .ok (.iload_n 1, 1) := by decide +kernel
theorem dX3_state_16 : decode cX3_state 16 = .ok (.aload_n 0, 1) := by decide +kernel
theorem dX3_state_17 : decode cX3_state 17 = .ok (.invokevirtual 64, 3) := by decide +kernel
theorem dX3_state_20 : decode cX3_state 20 = .ok (.if_icmp .ne 10, 3) := by decide +kernel
theorem dX3_state_23 : decode cX3_state 23 = .ok (.aload_n 0, 1) := by decide +kernel
theorem dX3_state_24 : decode cX3_state 24 = .ok (.getfield 34, 3) := by decide +kernel
theorem dX3_state_27 : decode cX3_state 27 = .ok (.goto 4, 3) := by decide +kernel
theorem dX3_state_30 : decode cX3_state 30 = .ok (.iconst 0, 1) := by decide +kernel
theorem dX3_state_31 : decode cX3_state 31 = .ok (.ireturn, 1) := by decide +kernel
theorem dX3_level_0 : decode cX3_level 0 = .ok (.aload_n 0, 1) := by decide +kernel
theorem dX3_level_1 : decode cX3_level 1 = .ok (.getfield 81, 3) := by decide +kernel
theorem dX3_level_4 : decode cX3_level 4 = .ok (.ireturn, 1) := by decide +kernel
set_option maxRecDepth 20000 in
theorem ggX3_drifted_X0_firstDrifted : GoodIn wsX3_drifted wsX0_firstDrifted := goodIn_r _ [7, 8, 9, 10, 6, 11, 12, 13, 14, 15, 16, 17, 18, 19, 20, 28, 29, 30, 31, 32] (by decide +kernel) (by decide +kernel)
set_option maxRecDepth 20000 in
theorem gX3_drifted_X0_firstDrifted : GoodIn wsX3_drifted (wsV RX3 84 RX0 yX0_firstDrifted wsX0_firstDrifted) := goodIn_app (goodIn_of _ (by decide +kernel)) ggX3_drifted_X0_firstDrifted
theorem dX3_drifted_0 : decode cX3_drifted 0 = .ok (.aload_n 0, 1) := by decide +kernel
theorem dX3_drifted_1 : decode cX3_drifted 1 = .ok (.getfield 10, 3) := by decide +kernel
theorem dX3_drifted_4 : decode cX3_drifted 4 = .ok (.aload_n 0, 1) := by decide +kernel
theorem dX3_drifted_5 : decode cX3_drifted 5 = .ok (.getfield 81, 3) := by decide +kernel
theorem dX3_drifted_8 : decode cX3_drifted 8 = .ok (.invokevirtual 84, 3) := by decide +kernel
theorem dX3_drifted_11 : decode cX3_drifted 11 = .ok (.ireturn, 1) := by decide +kernel
set_option maxRecDepth 20000 in
theorem ggX3_insert_X3_requireId : GoodIn wsX3_insert wsX3_requireId := goodIn_ca (goodIn_r _ [7, 8, 9] (by decide +kernel) (by decide +kernel)) (goodIn_sub (fun _ h => List.mem_cons_of_mem _ (List.mem_append_right _ h)) (by decide +kernel))
set_option maxRecDepth 20000 in
theorem gX3_insert_X3_requireId : GoodIn wsX3_insert (va_wsS RX3 87 yX3_requireId wsX3_requireId) := goodIn_app (goodIn_of _ (by decide +kernel)) ggX3_insert_X3_requireId
set_option maxRecDepth 20000 in
theorem ggX3_insert_X3_requireTableValue : GoodIn wsX3_insert wsX3_requireTableValue := goodIn_ca (goodIn_r _ [12, 8, 9, 13, 14, 6, 15, 16, 17] (by decide +kernel) (by decide +kernel)) (goodIn_sub (fun _ h => List.mem_cons_of_mem _ (List.mem_append_right _ h)) (by decide +kernel))
set_option maxRecDepth 20000 in
theorem gX3_insert_X3_requireTableValue : GoodIn wsX3_insert (va_wsS RX3 90 yX3_requireTableValue wsX3_requireTableValue) := goodIn_app (goodIn_of _ (by decide +kernel)) ggX3_insert_X3_requireTableValue
set_option maxRecDepth 20000 in
theorem ggX3_insert_X2_isPresent : GoodIn wsX3_insert wsX2_isPresent := goodIn_r _ [22, 23, 55, 56] (by decide +kernel) (by decide +kernel)
set_option maxRecDepth 20000 in
theorem gX3_insert_X2_isPresent : GoodIn wsX3_insert (wsV RX3 93 RX2 yX2_isPresent wsX2_isPresent) := goodIn_app (goodIn_of _ (by decide +kernel)) ggX3_insert_X2_isPresent
set_option maxRecDepth 20000 in
theorem ggX3_insert_X3_versionForNewRow : GoodIn wsX3_insert wsX3_versionForNewRow := goodIn_r _ [27, 28, 29, 30, 31, 32, 6, 33, 34, 35, 36, 37, 38, 48, 49, 50, 51, 52, 53, 54] (by decide +kernel) (by decide +kernel)
set_option maxRecDepth 20000 in
theorem gX3_insert_X3_versionForNewRow : GoodIn wsX3_insert (wsV RX3 99 RX3 yX3_versionForNewRow wsX3_versionForNewRow) := goodIn_app (goodIn_of _ (by decide +kernel)) ggX3_insert_X3_versionForNewRow
set_option maxRecDepth 20000 in
theorem ggX3_insert_X2_setCell : GoodIn wsX3_insert wsX2_setCell := goodIn_r _ [42, 43, 55, 56] (by decide +kernel) (by decide +kernel)
set_option maxRecDepth 20000 in
theorem gX3_insert_X2_setCell : GoodIn wsX3_insert (wsV RX3 102 RX2 yX2_setCell wsX2_setCell) := goodIn_app (goodIn_of _ (by decide +kernel)) ggX3_insert_X2_setCell
set_option maxRecDepth 20000 in
theorem ggX3_insert_X2_setVersion : GoodIn wsX3_insert wsX2_setVersion := goodIn_r _ [47, 23, 55, 56] (by decide +kernel) (by decide +kernel)
set_option maxRecDepth 20000 in
theorem gX3_insert_X2_setVersion : GoodIn wsX3_insert (wsV RX3 105 RX2 yX2_setVersion wsX2_setVersion) := goodIn_app (goodIn_of _ (by decide +kernel)) ggX3_insert_X2_setVersion
theorem dX3_insert_0 : decode cX3_insert 0 = .ok (.iload_n 1, 1) := by decide +kernel
theorem dX3_insert_1 : decode cX3_insert 1 = .ok (.invokestatic 87, 3) := by decide +kernel
theorem dX3_insert_4 : decode cX3_insert 4 = .ok (.iload_n 2, 1) := by decide +kernel
theorem dX3_insert_5 : decode cX3_insert 5 = .ok (.invokestatic 90, 3) := by decide +kernel
theorem dX3_insert_8 : decode cX3_insert 8 = .ok (.iload_n 3, 1) := by decide +kernel
theorem dX3_insert_9 : decode cX3_insert 9 = .ok (.invokestatic 90, 3) := by decide +kernel
theorem dX3_insert_12 : decode cX3_insert 12 = .ok (.iload 4, 2) := by decide +kernel
theorem dX3_insert_14 : decode cX3_insert 14 = .ok (.invokestatic 90, 3) := by decide +kernel
theorem dX3_insert_17 : decode cX3_insert 17 = .ok (.aload_n 0, 1) := by decide +kernel
theorem dX3_insert_18 : decode cX3_insert 18 = .ok (.getfield 19, 3) := by decide +kernel
theorem dX3_insert_21 : decode cX3_insert 21 = .ok (.iload_n 1, 1) := by decide +kernel
theorem dX3_insert_22 : decode cX3_insert 22 = .ok (.invokevirtual 93, 3) := by decide +kernel
theorem dX3_insert_25 : decode cX3_insert 25 = .ok (.ifCond .eq 13, 3) := by decide +kernel
theorem dX3_insert_28 : decode cX3_insert 28 = .ok (.new 46, 3) := by decide +kernel
theorem dX3_insert_31 : decode cX3_insert 31 = .ok (.dup, 1) := by decide +kernel
theorem dX3_insert_32 : decode cX3_insert 32 = .ok (.ldc 97, 2) := by decide +kernel
theorem dX3_insert_34 : decode cX3_insert 34 = .ok (.invokespecial 50, 3) := by decide +kernel
theorem dX3_insert_37 : decode cX3_insert 37 = .ok (.athrow, 1) := by decide +kernel
theorem dX3_insert_38 : decode cX3_insert 38 = .ok (.aload_n 0, 1) := by decide +kernel
theorem dX3_insert_39 : decode cX3_insert 39 = .ok (.iload_n 1, 1) := by decide +kernel
theorem dX3_insert_40 : decode cX3_insert 40 = .ok (.invokevirtual 99, 3) := by decide +kernel
theorem dX3_insert_43 : decode cX3_insert 43 = .ok (.istore 5, 2) := by decide +kernel
theorem dX3_insert_45 : decode cX3_insert 45 = .ok (.aload_n 0, 1) := by decide +kernel
theorem dX3_insert_46 : decode cX3_insert 46 = .ok (.getfield 19, 3) := by decide +kernel
theorem dX3_insert_49 : decode cX3_insert 49 = .ok (.iload_n 1, 1) := by decide +kernel
theorem dX3_insert_50 : decode cX3_insert 50 = .ok (.iconst 0, 1) := by decide +kernel
theorem dX3_insert_51 : decode cX3_insert 51 = .ok (.iload_n 2, 1) := by decide +kernel
theorem dX3_insert_52 : decode cX3_insert 52 = .ok (.invokevirtual 102, 3) := by decide +kernel
theorem dX3_insert_55 : decode cX3_insert 55 = .ok (.aload_n 0, 1) := by decide +kernel
theorem dX3_insert_56 : decode cX3_insert 56 = .ok (.getfield 19, 3) := by decide +kernel
theorem dX3_insert_59 : decode cX3_insert 59 = .ok (.iload_n 1, 1) := by decide +kernel
theorem dX3_insert_60 : decode cX3_insert 60 = .ok (.iconst 1, 1) := by decide +kernel
theorem dX3_insert_61 : decode cX3_insert 61 = .ok (.iload_n 3, 1) := by decide +kernel
theorem dX3_insert_62 : decode cX3_insert 62 = .ok (.invokevirtual 102, 3) := by decide +kernel
theorem dX3_insert_65 : decode cX3_insert 65 = .ok (.aload_n 0, 1) := by decide +kernel
theorem dX3_insert_66 : decode cX3_insert 66 = .ok (.getfield 19, 3) := by decide +kernel
theorem dX3_insert_69 : decode cX3_insert 69 = .ok (.iload_n 1, 1) := by decide +kernel
theorem dX3_insert_70 : decode cX3_insert 70 = .ok (.iconst 2, 1) := by decide +kernel
theorem dX3_insert_71 : decode cX3_insert 71 = .ok (.iload 4, 2) := by decide +kernel
theorem dX3_insert_73 : decode cX3_insert 73 = .ok (.invokevirtual 102, 3) := by decide +kernel
theorem dX3_insert_76 : decode cX3_insert 76 = .ok (.aload_n 0, 1) := by decide +kernel
theorem dX3_insert_77 : decode cX3_insert 77 = .ok (.getfield 19, 3) := by decide +kernel
theorem dX3_insert_80 : decode cX3_insert 80 = .ok (.iload_n 1, 1) := by decide +kernel
theorem dX3_insert_81 : decode cX3_insert 81 = .ok (.iload 5, 2) := by decide +kernel
theorem dX3_insert_83 : decode cX3_insert 83 = .ok (.invokevirtual 105, 3) := by decide +kernel
theorem dX3_insert_86 : decode cX3_insert 86 = .ok (.iload 5, 2) := by decide +kernel
theorem dX3_insert_88 : decode cX3_insert 88 = .ok (.ireturn, 1) := by decide +kernel
set_option maxRecDepth 20000 in
theorem ggX3_write_X3_requireId : GoodIn wsX3_write wsX3_requireId := goodIn_ca (goodIn_r _ [5, 6, 7] (by decide +kernel) (by decide +kernel)) (goodIn_sub (fun _ h => List.mem_cons_of_mem _ (List.mem_append_left _ (List.mem_append_right _ h))) (by decide +kernel))
set_option maxRecDepth 20000 in
theorem gX3_write_X3_requireId : GoodIn wsX3_write (va_wsS RX3 87 yX3_requireId wsX3_requireId) := goodIn_app (goodIn_of _ (by decide +kernel)) ggX3_write_X3_requireId
set_option maxRecDepth 20000 in
theorem ggX3_write_X3_requireColumn : GoodIn wsX3_write wsX3_requireColumn := goodIn_ca (goodIn_r _ [10, 6, 7, 11, 12, 4, 13] (by decide +kernel) (by decide +kernel)) (goodIn_sub (fun _ h => List.mem_cons_of_mem _ (List.mem_append_left _ (List.mem_append_right _ h))) (by decide +kernel))
set_option maxRecDepth 20000 in
theorem gX3_write_X3_requireColumn : GoodIn wsX3_write (va_wsS RX3 109 yX3_requireColumn wsX3_requireColumn) := goodIn_app (goodIn_of _ (by decide +kernel)) ggX3_write_X3_requireColumn
set_option maxRecDepth 20000 in
theorem ggX3_write_X3_requireTableValue : GoodIn wsX3_write wsX3_requireTableValue := goodIn_ca (goodIn_r _ [16, 6, 7, 17, 18, 4, 19, 20, 21] (by decide +kernel) (by decide +kernel)) (goodIn_sub (fun _ h => List.mem_cons_of_mem _ (List.mem_append_left _ (List.mem_append_right _ h))) (by decide +kernel))
set_option maxRecDepth 20000 in
theorem gX3_write_X3_requireTableValue : GoodIn wsX3_write (va_wsS RX3 90 yX3_requireTableValue wsX3_requireTableValue) := goodIn_app (goodIn_of _ (by decide +kernel)) ggX3_write_X3_requireTableValue
set_option maxRecDepth 20000 in
theorem ggX3_write_X3_requirePresent : GoodIn wsX3_write wsX3_requirePresent := goodIn_ca (goodIn_r _ [25, 26, 27, 1, 28, 29, 30, 31, 32, 33, 43, 44, 45, 46, 47, 48, 49, 50, 51] (by decide +kernel) (by decide +kernel)) (goodIn_sub (fun _ h => List.mem_cons_of_mem _ (List.mem_append_right _ h)) (by decide +kernel))
set_option maxRecDepth 20000 in
theorem gX3_write_X3_requirePresent : GoodIn wsX3_write (wsV RX3 112 RX3 yX3_requirePresent wsX3_requirePresent) := goodIn_app (goodIn_of _ (by decide +kernel)) ggX3_write_X3_requirePresent
set_option maxRecDepth 20000 in
theorem ggX3_write_X2_cell : GoodIn wsX3_write wsX2_cell := goodIn_r _ [37, 38, 50, 51] (by decide +kernel) (by decide +kernel)
set_option maxRecDepth 20000 in
theorem gX3_write_X2_cell : GoodIn wsX3_write (wsV RX3 115 RX2 yX2_cell wsX2_cell) := goodIn_app (goodIn_of _ (by decide +kernel)) ggX3_write_X2_cell
set_option maxRecDepth 20000 in
theorem ggX3_write_X2_setCell : GoodIn wsX3_write wsX2_setCell := goodIn_r _ [42, 38, 50, 51] (by decide +kernel) (by decide +kernel)
set_option maxRecDepth 20000 in
theorem gX3_write_X2_setCell : GoodIn wsX3_write (wsV RX3 102 RX2 yX2_setCell wsX2_setCell) := goodIn_app (goodIn_of _ (by decide +kernel)) ggX3_write_X2_setCell
theorem dX3_write_0 : decode cX3_write 0 = .ok (.iload_n 1, 1) := by decide +kernel
theorem dX3_write_1 : decode cX3_write 1 = .ok (.invokestatic 87, 3) := by decide +kernel
theorem dX3_write_4 : decode cX3_write 4 = .ok (.iload_n 2, 1) := by decide +kernel
theorem dX3_write_5 : decode cX3_write 5 = .ok (.invokestatic 109, 3) := by decide +kernel
theorem dX3_write_8 : decode cX3_write 8 = .ok (.iload_n 3, 1) := by decide +kernel
theorem dX3_write_9 : decode cX3_write 9 = .ok (.invokestatic 90, 3) := by decide +kernel
theorem dX3_write_12 : decode cX3_write 12 = .ok (.aload_n 0, 1) := by decide +kernel
theorem dX3_write_13 : decode cX3_write 13 = .ok (.iload_n 1, 1) := by decide +kernel
theorem dX3_write_14 : decode cX3_write 14 = .ok (.invokevirtual 112, 3) := by decide +kernel
theorem dX3_write_17 : decode cX3_write 17 = .ok (.aload_n 0, 1) := by decide +kernel
theorem dX3_write_18 : decode cX3_write 18 = .ok (.getfield 19, 3) := by decide +kernel
theorem dX3_write_21 : decode cX3_write 21 = .ok (.iload_n 1, 1) := by decide +kernel
theorem dX3_write_22 : decode cX3_write 22 = .ok (.iload_n 2, 1) := by decide +kernel
theorem dX3_write_23 : decode cX3_write 23 = .ok (.invokevirtual 115, 3) := by decide +kernel
theorem dX3_write_26 : decode cX3_write 26 = .ok (.istore 4, 2) := by decide +kernel
theorem dX3_write_28 : decode cX3_write 28 = .ok (.aload_n 0, 1) := by decide +kernel
theorem dX3_write_29 : decode cX3_write 29 = .ok (.getfield 19, 3) := by decide +kernel
theorem dX3_write_32 : decode cX3_write 32 = .ok (.iload_n 1, 1) := by decide +kernel
theorem dX3_write_33 : decode cX3_write 33 = .ok (.iload_n 2, 1) := by decide +kernel
theorem dX3_write_34 : decode cX3_write 34 = .ok (.iload_n 3, 1) := by decide +kernel
theorem dX3_write_35 : decode cX3_write 35 = .ok (.invokevirtual 102, 3) := by decide +kernel
theorem dX3_write_38 : decode cX3_write 38 = .ok (.iload 4, 2) := by decide +kernel
theorem dX3_write_40 : decode cX3_write 40 = .ok (.ireturn, 1) := by decide +kernel
set_option maxRecDepth 20000 in
theorem ggX3_delete_X3_requireId : GoodIn wsX3_delete wsX3_requireId := goodIn_ca (goodIn_r _ [5, 6, 7] (by decide +kernel) (by decide +kernel)) (goodIn_sub (fun _ h => List.mem_cons_of_mem _ (List.mem_append_left _ (List.mem_append_right _ h))) (by decide +kernel))
set_option maxRecDepth 20000 in
theorem gX3_delete_X3_requireId : GoodIn wsX3_delete (va_wsS RX3 87 yX3_requireId wsX3_requireId) := goodIn_app (goodIn_of _ (by decide +kernel)) ggX3_delete_X3_requireId
set_option maxRecDepth 20000 in
theorem ggX3_delete_X3_requirePresent : GoodIn wsX3_delete wsX3_requirePresent := goodIn_ca (goodIn_r _ [11, 12, 13, 1, 14, 15, 16, 17, 18, 19, 28, 29, 30, 31, 32, 33, 34, 35, 36] (by decide +kernel) (by decide +kernel)) (goodIn_sub (fun _ h => List.mem_cons_of_mem _ (List.mem_append_right _ h)) (by decide +kernel))
set_option maxRecDepth 20000 in
theorem gX3_delete_X3_requirePresent : GoodIn wsX3_delete (wsV RX3 112 RX3 yX3_requirePresent wsX3_requirePresent) := goodIn_app (goodIn_of _ (by decide +kernel)) ggX3_delete_X3_requirePresent
set_option maxRecDepth 20000 in
theorem ggX3_delete_X2_versionOf : GoodIn wsX3_delete wsX2_versionOf := goodIn_r _ [23, 19, 35, 36] (by decide +kernel) (by decide +kernel)
set_option maxRecDepth 20000 in
theorem gX3_delete_X2_versionOf : GoodIn wsX3_delete (wsV RX3 119 RX2 yX2_versionOf wsX2_versionOf) := goodIn_app (goodIn_of _ (by decide +kernel)) ggX3_delete_X2_versionOf
set_option maxRecDepth 20000 in
theorem ggX3_delete_X2_setVersion : GoodIn wsX3_delete wsX2_setVersion := goodIn_r _ [27, 19, 35, 36] (by decide +kernel) (by decide +kernel)
set_option maxRecDepth 20000 in
theorem gX3_delete_X2_setVersion : GoodIn wsX3_delete (wsV RX3 105 RX2 yX2_setVersion wsX2_setVersion) := goodIn_app (goodIn_of _ (by decide +kernel)) ggX3_delete_X2_setVersion
theorem dX3_delete_0 : decode cX3_delete 0 = .ok (.iload_n 1, 1) := by decide +kernel
theorem dX3_delete_1 : decode cX3_delete 1 = .ok (.invokestatic 87, 3) := by decide +kernel
theorem dX3_delete_4 : decode cX3_delete 4 = .ok (.aload_n 0, 1) := by decide +kernel
theorem dX3_delete_5 : decode cX3_delete 5 = .ok (.iload_n 1, 1) := by decide +kernel
theorem dX3_delete_6 : decode cX3_delete 6 = .ok (.invokevirtual 112, 3) := by decide +kernel
theorem dX3_delete_9 : decode cX3_delete 9 = .ok (.aload_n 0, 1) := by decide +kernel
theorem dX3_delete_10 : decode cX3_delete 10 = .ok (.getfield 19, 3) := by decide +kernel
theorem dX3_delete_13 : decode cX3_delete 13 = .ok (.iload_n 1, 1) := by decide +kernel
theorem dX3_delete_14 : decode cX3_delete 14 = .ok (.invokevirtual 119, 3) := by decide +kernel
theorem dX3_delete_17 : decode cX3_delete 17 = .ok (.istore_n 2, 1) := by decide +kernel
theorem dX3_delete_18 : decode cX3_delete 18 = .ok (.aload_n 0, 1) := by decide +kernel
theorem dX3_delete_19 : decode cX3_delete 19 = .ok (.getfield 19, 3) := by decide +kernel
theorem dX3_delete_22 : decode cX3_delete 22 = .ok (.iload_n 1, 1) := by decide +kernel
theorem dX3_delete_23 : decode cX3_delete 23 = .ok (.iconst (-1), 1) := by decide +kernel
theorem dX3_delete_24 : decode cX3_delete 24 = .ok (.invokevirtual 105, 3) := by decide +kernel
theorem dX3_delete_27 : decode cX3_delete 27 = .ok (.iload_n 2, 1) := by decide +kernel
theorem dX3_delete_28 : decode cX3_delete 28 = .ok (.ireturn, 1) := by decide +kernel
set_option maxRecDepth 20000 in
theorem ggX3_value_X3_requireId : GoodIn wsX3_value wsX3_requireId := goodIn_ca (goodIn_r _ [5, 6, 7] (by decide +kernel) (by decide +kernel)) (goodIn_sub (fun _ h => List.mem_cons_of_mem _ (List.mem_append_left _ (List.mem_append_right _ h))) (by decide +kernel))
set_option maxRecDepth 20000 in
theorem gX3_value_X3_requireId : GoodIn wsX3_value (va_wsS RX3 87 yX3_requireId wsX3_requireId) := goodIn_app (goodIn_of _ (by decide +kernel)) ggX3_value_X3_requireId
set_option maxRecDepth 20000 in
theorem ggX3_value_X3_requireColumn : GoodIn wsX3_value wsX3_requireColumn := goodIn_ca (goodIn_r _ [10, 6, 7, 11, 12, 4, 13] (by decide +kernel) (by decide +kernel)) (goodIn_sub (fun _ h => List.mem_cons_of_mem _ (List.mem_append_left _ (List.mem_append_right _ h))) (by decide +kernel))
set_option maxRecDepth 20000 in
theorem gX3_value_X3_requireColumn : GoodIn wsX3_value (va_wsS RX3 109 yX3_requireColumn wsX3_requireColumn) := goodIn_app (goodIn_of _ (by decide +kernel)) ggX3_value_X3_requireColumn
set_option maxRecDepth 20000 in
theorem ggX3_value_X3_requirePresent : GoodIn wsX3_value wsX3_requirePresent := goodIn_ca (goodIn_r _ [17, 18, 19, 1, 20, 21, 22, 23, 24, 25, 31, 32, 33, 34, 35, 36, 37, 38, 39] (by decide +kernel) (by decide +kernel)) (goodIn_sub (fun _ h => List.mem_cons_of_mem _ (List.mem_append_right _ h)) (by decide +kernel))
set_option maxRecDepth 20000 in
theorem gX3_value_X3_requirePresent : GoodIn wsX3_value (wsV RX3 112 RX3 yX3_requirePresent wsX3_requirePresent) := goodIn_app (goodIn_of _ (by decide +kernel)) ggX3_value_X3_requirePresent
set_option maxRecDepth 20000 in
theorem ggX3_value_X2_cell : GoodIn wsX3_value wsX2_cell := goodIn_r _ [29, 30, 38, 39] (by decide +kernel) (by decide +kernel)
set_option maxRecDepth 20000 in
theorem gX3_value_X2_cell : GoodIn wsX3_value (wsV RX3 115 RX2 yX2_cell wsX2_cell) := goodIn_app (goodIn_of _ (by decide +kernel)) ggX3_value_X2_cell
theorem dX3_value_0 : decode cX3_value 0 = .ok (.iload_n 1, 1) := by decide +kernel
theorem dX3_value_1 : decode cX3_value 1 = .ok (.invokestatic 87, 3) := by decide +kernel
theorem dX3_value_4 : decode cX3_value 4 = .ok (.iload_n 2, 1) := by decide +kernel
theorem dX3_value_5 : decode cX3_value 5 = .ok (.invokestatic 109, 3) := by decide +kernel
theorem dX3_value_8 : decode cX3_value 8 = .ok (.aload_n 0, 1) := by decide +kernel
theorem dX3_value_9 : decode cX3_value 9 = .ok (.iload_n 1, 1) := by decide +kernel
theorem dX3_value_10 : decode cX3_value 10 = .ok (.invokevirtual 112, 3) := by decide +kernel
theorem dX3_value_13 : decode cX3_value 13 = .ok (.aload_n 0, 1) := by decide +kernel
theorem dX3_value_14 : decode cX3_value 14 = .ok (.getfield 19, 3) := by decide +kernel
theorem dX3_value_17 : decode cX3_value 17 = .ok (.iload_n 1, 1) := by decide +kernel
theorem dX3_value_18 : decode cX3_value 18 = .ok (.iload_n 2, 1) := by decide +kernel
theorem dX3_value_19 : decode cX3_value 19 = .ok (.invokevirtual 115, 3) := by decide +kernel
theorem dX3_value_22 : decode cX3_value 22 = .ok (.ireturn, 1) := by decide +kernel
set_option maxRecDepth 20000 in
theorem ggX3_version_X3_requireId : GoodIn wsX3_version wsX3_requireId := goodIn_ca (goodIn_r _ [5, 6, 7] (by decide +kernel) (by decide +kernel)) (goodIn_sub (fun _ h => List.mem_cons_of_mem _ (List.mem_append_right _ h)) (by decide +kernel))
set_option maxRecDepth 20000 in
theorem gX3_version_X3_requireId : GoodIn wsX3_version (va_wsS RX3 87 yX3_requireId wsX3_requireId) := goodIn_app (goodIn_of _ (by decide +kernel)) ggX3_version_X3_requireId
set_option maxRecDepth 20000 in
theorem ggX3_version_X2_versionOf : GoodIn wsX3_version wsX2_versionOf := goodIn_r _ [12, 13, 21, 22] (by decide +kernel) (by decide +kernel)
end
section
set_option maxRecDepth 20000 in
theorem gX3_version_X2_versionOf : GoodIn wsX3_version (wsV RX3 119 RX2 yX2_versionOf wsX2_versionOf) := goodIn_app (goodIn_of _ (by decide +kernel)) ggX3_version_X2_versionOf
theorem dX3_version_0 : decode cX3_version 0 = .ok (.iload_n 1, 1) := by decide +kernel
theorem dX3_version_1 : decode cX3_version 1 = .ok (.invokestatic 87, 3) := by decide +kernel
theorem dX3_version_4 : decode cX3_version 4 = .ok (.aload_n 0, 1) := by decide +kernel
theorem dX3_version_5 : decode cX3_version 5 = .ok (.getfield 19, 3) := by decide +kernel
theorem dX3_version_8 : decode cX3_version 8 = .ok (.iload_n 1, 1) := by decide +kernel
theorem dX3_version_9 : decode cX3_version 9 = .ok (.invokevirtual 119, 3) := by decide +kernel
theorem dX3_version_12 : decode cX3_version 12 = .ok (.ireturn, 1) := by decide +kernel
set_option maxRecDepth 20000 in
theorem ggX3_rowsAt_X2_countWithVersion : GoodIn wsX3_rowsAt wsX2_countWithVersion := goodIn_r _ [8, 9, 17, 18] (by decide +kernel) (by decide +kernel)
set_option maxRecDepth 20000 in
theorem gX3_rowsAt_X2_countWithVersion : GoodIn wsX3_rowsAt (wsV RX3 127 RX2 yX2_countWithVersion wsX2_countWithVersion) := goodIn_app (goodIn_of _ (by decide +kernel)) ggX3_rowsAt_X2_countWithVersion
theorem dX3_rowsAt_0 : decode cX3_rowsAt 0 = .ok (.iload_n 1, 1) := by decide +kernel
theorem dX3_rowsAt_1 : decode cX3_rowsAt 1 = .ok (.ifCond .lt 9, 3) := by decide +kernel
theorem dX3_rowsAt_4 : decode cX3_rowsAt 4 = .ok (.iload_n 1, 1) := by decide +kernel
theorem dX3_rowsAt_5 : decode cX3_rowsAt 5 = .ok (.bipush 12, 2) := by decide +kernel
theorem dX3_rowsAt_7 : decode cX3_rowsAt 7 = .ok (.if_icmp .le 13, 3) := by decide +kernel
theorem dX3_rowsAt_10 : decode cX3_rowsAt 10 = .ok (.new 122, 3) := by decide +kernel
theorem dX3_rowsAt_13 : decode cX3_rowsAt 13 = .ok (.dup, 1) := by decide +kernel
theorem dX3_rowsAt_14 : decode cX3_rowsAt 14 = .ok (.ldc 124, 2) := by decide +kernel
theorem dX3_rowsAt_16 : decode cX3_rowsAt 16 = .ok (.invokespecial 126, 3) := by decide +kernel
theorem dX3_rowsAt_19 : decode cX3_rowsAt 19 = .ok (.athrow, 1) := by decide +kernel
theorem dX3_rowsAt_20 : decode cX3_rowsAt 20 = .ok (.aload_n 0, 1) := by decide +kernel
theorem dX3_rowsAt_21 : decode cX3_rowsAt 21 = .ok (.getfield 19, 3) := by decide +kernel
theorem dX3_rowsAt_24 : decode cX3_rowsAt 24 = .ok (.iload_n 1, 1) := by decide +kernel
theorem dX3_rowsAt_25 : decode cX3_rowsAt 25 = .ok (.invokevirtual 127, 3) := by decide +kernel
theorem dX3_rowsAt_28 : decode cX3_rowsAt 28 = .ok (.ireturn, 1) := by decide +kernel
set_option maxRecDepth 20000 in
theorem ggX3_valueAt_X3_requireId : GoodIn wsX3_valueAt wsX3_requireId := goodIn_ca (goodIn_r _ [11, 1, 2] (by decide +kernel) (by decide +kernel)) (goodIn_sub (fun _ h => List.mem_cons_of_mem _ (List.mem_append_left _ (List.mem_append_left _ (List.mem_append_right _ h)))) (by decide +kernel))
set_option maxRecDepth 20000 in
theorem gX3_valueAt_X3_requireId : GoodIn wsX3_valueAt (va_wsS RX3 87 yX3_requireId wsX3_requireId) := goodIn_app (goodIn_of _ (by decide +kernel)) ggX3_valueAt_X3_requireId
set_option maxRecDepth 20000 in
theorem ggX3_valueAt_X3_requireColumn : GoodIn wsX3_valueAt wsX3_requireColumn := goodIn_ca (goodIn_r _ [14, 1, 2, 15, 16, 10, 17] (by decide +kernel) (by decide +kernel)) (goodIn_sub (fun _ h => List.mem_cons_of_mem _ (List.mem_append_left _ (List.mem_append_left _ (List.mem_append_right _ h)))) (by decide +kernel))
set_option maxRecDepth 20000 in
theorem gX3_valueAt_X3_requireColumn : GoodIn wsX3_valueAt (va_wsS RX3 109 yX3_requireColumn wsX3_requireColumn) := goodIn_app (goodIn_of _ (by decide +kernel)) ggX3_valueAt_X3_requireColumn
set_option maxRecDepth 20000 in
theorem ggX3_valueAt_X0_count : GoodIn wsX3_valueAt wsX0_count := goodIn_r _ [22, 23, 81, 82, 83, 84, 85] (by decide +kernel) (by decide +kernel)
set_option maxRecDepth 20000 in
theorem gX3_valueAt_X0_count : GoodIn wsX3_valueAt (wsV RX3 78 RX0 yX0_count wsX0_count) := goodIn_app (goodIn_of _ (by decide +kernel)) ggX3_valueAt_X0_count
set_option maxRecDepth 20000 in
theorem ggX3_valueAt_X3_requirePresent : GoodIn wsX3_valueAt wsX3_requirePresent := goodIn_ca (goodIn_r _ [27, 28, 29, 6, 30, 31, 32, 33, 34, 35, 74, 75, 76, 77, 78, 79, 80, 86, 87] (by decide +kernel) (by decide +kernel)) (goodIn_sub (fun _ h => List.mem_cons_of_mem _ (List.mem_append_right _ h)) (by decide +kernel))
set_option maxRecDepth 20000 in
theorem gX3_valueAt_X3_requirePresent : GoodIn wsX3_valueAt (wsV RX3 112 RX3 yX3_requirePresent wsX3_requirePresent) := goodIn_app (goodIn_of _ (by decide +kernel)) ggX3_valueAt_X3_requirePresent
set_option maxRecDepth 20000 in
theorem ggX3_valueAt_X2_copyRow : GoodIn wsX3_valueAt wsX2_copyRow := goodIn_r _ [39, 40, 41, 42, 33, 43, 44, 86, 87] (by decide +kernel) (by decide +kernel)
set_option maxRecDepth 20000 in
theorem gX3_valueAt_X2_copyRow : GoodIn wsX3_valueAt (wsV RX3 132 RX2 yX2_copyRow wsX2_copyRow) := goodIn_app (goodIn_of _ (by decide +kernel)) ggX3_valueAt_X2_copyRow
set_option maxRecDepth 20000 in
theorem ggX3_valueAt_X2_versionOf : GoodIn wsX3_valueAt wsX2_versionOf := goodIn_r _ [48, 35, 86, 87] (by decide +kernel) (by decide +kernel)
set_option maxRecDepth 20000 in
theorem gX3_valueAt_X2_versionOf : GoodIn wsX3_valueAt (wsV RX3 119 RX2 yX2_versionOf wsX2_versionOf) := goodIn_app (goodIn_of _ (by decide +kernel)) ggX3_valueAt_X2_versionOf
set_option maxRecDepth 20000 in
theorem ggX3_valueAt_X3_bringTried : GoodIn wsX3_valueAt wsX3_bringTried := goodIn_r _ [52, 5, 7, 53, 54, 55, 21, 56, 57, 58, 59, 60, 61, 62, 63, 10, 64, 65, 66, 67, 68, 69, 70, 71, 72, 73, 74, 75, 76, 77, 78, 79, 80, 81, 82, 83, 84, 85] (by decide +kernel) (by decide +kernel)
set_option maxRecDepth 20000 in
theorem gX3_valueAt_X3_bringTried : GoodIn wsX3_valueAt (wsV RX3 136 RX3 yX3_bringTried wsX3_bringTried) := goodIn_app (goodIn_of _ (by decide +kernel)) ggX3_valueAt_X3_bringTried
theorem dX3_valueAt_0 : decode cX3_valueAt 0 = .ok (.iload_n 1, 1) := by decide +kernel
theorem dX3_valueAt_1 : decode cX3_valueAt 1 = .ok (.invokestatic 87, 3) := by decide +kernel
theorem dX3_valueAt_4 : decode cX3_valueAt 4 = .ok (.iload_n 2, 1) := by decide +kernel
theorem dX3_valueAt_5 : decode cX3_valueAt 5 = .ok (.invokestatic 109, 3) := by decide +kernel
theorem dX3_valueAt_8 : decode cX3_valueAt 8 = .ok (.iload_n 3, 1) := by decide +kernel
theorem dX3_valueAt_9 : decode cX3_valueAt 9 = .ok (.ifCond .lt 14, 3) := by decide +kernel
theorem dX3_valueAt_12 : decode cX3_valueAt 12 = .ok (.iload_n 3, 1) := by decide +kernel
theorem dX3_valueAt_13 : decode cX3_valueAt 13 = .ok (.aload_n 0, 1) := by decide +kernel
theorem dX3_valueAt_14 : decode cX3_valueAt 14 = .ok (.getfield 10, 3) := by decide +kernel
theorem dX3_valueAt_17 : decode cX3_valueAt 17 = .ok (.invokevirtual 78, 3) := by decide +kernel
theorem dX3_valueAt_20 : decode cX3_valueAt 20 = .ok (.if_icmp .le 13, 3) := by decide +kernel
theorem dX3_valueAt_23 : decode cX3_valueAt 23 = .ok (.new 122, 3) := by decide +kernel
theorem dX3_valueAt_26 : decode cX3_valueAt 26 = .ok (.dup, 1) := by decide +kernel
theorem dX3_valueAt_27 : decode cX3_valueAt 27 = .ok (.ldc 130, 2) := by decide +kernel
theorem dX3_valueAt_29 : decode cX3_valueAt 29 = .ok (.invokespecial 126, 3) := by decide +kernel
theorem dX3_valueAt_32 : decode cX3_valueAt 32 = .ok (.athrow, 1) := by decide +kernel
theorem dX3_valueAt_33 : decode cX3_valueAt 33 = .ok (.aload_n 0, 1) := by decide +kernel
theorem dX3_valueAt_34 : decode cX3_valueAt 34 = .ok (.iload_n 1, 1) := by decide +kernel
theorem dX3_valueAt_35 : decode cX3_valueAt 35 = .ok (.invokevirtual 112, 3) := by decide +kernel
theorem dX3_valueAt_38 : decode cX3_valueAt 38 = .ok (.aload_n 0, 1) := by decide +kernel
theorem dX3_valueAt_39 : decode cX3_valueAt 39 = .ok (.getfield 19, 3) := by decide +kernel
theorem dX3_valueAt_42 : decode cX3_valueAt 42 = .ok (.iload_n 1, 1) := by decide +kernel
theorem dX3_valueAt_43 : decode cX3_valueAt 43 = .ok (.aload_n 0, 1) := by decide +kernel
theorem dX3_valueAt_44 : decode cX3_valueAt 44 = .ok (.getfield 30, 3) := by decide +kernel
theorem dX3_valueAt_47 : decode cX3_valueAt 47 = .ok (.invokevirtual 132, 3) := by decide +kernel
theorem dX3_valueAt_50 : decode cX3_valueAt 50 = .ok (.aload_n 0, 1) := by decide +kernel
theorem dX3_valueAt_51 : decode cX3_valueAt 51 = .ok (.aload_n 0, 1) := by decide +kernel
theorem dX3_valueAt_52 : decode cX3_valueAt 52 = .ok (.getfield 19, 3) := by decide +kernel
theorem dX3_valueAt_55 : decode cX3_valueAt 55 = .ok (.iload_n 1, 1) := by decide +kernel
theorem dX3_valueAt_56 : decode cX3_valueAt 56 = .ok (.invokevirtual 119, 3) := by decide +kernel
theorem dX3_valueAt_59 : decode cX3_valueAt 59 = .ok (.iload_n 3, 1) := by decide +kernel
theorem dX3_valueAt_60 : decode cX3_valueAt 60 = .ok (.invokevirtual 136, 3) := by decide +kernel
theorem dX3_valueAt_63 : decode cX3_valueAt 63 = .ok (.ifCond .ne 13, 3) := by decide +kernel
theorem dX3_valueAt_66 : decode cX3_valueAt 66 = .ok (.new 46, 3) := by decide +kernel
theorem dX3_valueAt_69 : decode cX3_valueAt 69 = .ok (.dup, 1) := by decide +kernel
theorem dX3_valueAt_70 : decode cX3_valueAt 70 = .ok (.ldc 140, 2) := by decide +kernel
theorem dX3_valueAt_72 : decode cX3_valueAt 72 = .ok (.invokespecial 50, 3) := by decide +kernel
theorem dX3_valueAt_75 : decode cX3_valueAt 75 = .ok (.athrow, 1) := by decide +kernel
theorem dX3_valueAt_76 : decode cX3_valueAt 76 = .ok (.aload_n 0, 1) := by decide +kernel
theorem dX3_valueAt_77 : decode cX3_valueAt 77 = .ok (.getfield 30, 3) := by decide +kernel
theorem dX3_valueAt_80 : decode cX3_valueAt 80 = .ok (.iload_n 2, 1) := by decide +kernel
theorem dX3_valueAt_81 : decode cX3_valueAt 81 = .ok (.iaload, 1) := by decide +kernel
theorem dX3_valueAt_82 : decode cX3_valueAt 82 = .ok (.ireturn, 1) := by decide +kernel
set_option maxRecDepth 20000 in
theorem ggX3_take_X3_requireWorker : GoodIn wsX3_take wsX3_requireWorker := goodIn_ca (goodIn_r _ [9, 1, 2] (by decide +kernel) (by decide +kernel)) (goodIn_sub (fun _ h => List.mem_cons_of_mem _ (List.mem_append_left _ (List.mem_append_right _ h))) (by decide +kernel))
set_option maxRecDepth 20000 in
theorem gX3_take_X3_requireWorker : GoodIn wsX3_take (va_wsS RX3 142 yX3_requireWorker wsX3_requireWorker) := goodIn_app (goodIn_of _ (by decide +kernel)) ggX3_take_X3_requireWorker
set_option maxRecDepth 20000 in
theorem ggX3_take_X3_requireNotCrashed : GoodIn wsX3_take wsX3_requireNotCrashed := goodIn_ca (goodIn_r _ [13, 3, 4, 5, 14, 15, 16, 17, 18, 19, 31, 32, 33, 34, 35, 36, 37, 38, 39, 40, 41] (by decide +kernel) (by decide +kernel)) (goodIn_sub (fun _ h => List.mem_cons_of_mem _ (List.mem_append_right _ h)) (by decide +kernel))
set_option maxRecDepth 20000 in
theorem gX3_take_X3_requireNotCrashed : GoodIn wsX3_take (wsV RX3 147 RX3 yX3_requireNotCrashed wsX3_requireNotCrashed) := goodIn_app (goodIn_of _ (by decide +kernel)) ggX3_take_X3_requireNotCrashed
set_option maxRecDepth 20000 in
theorem ggX3_take_X1_owner : GoodIn wsX3_take wsX1_owner := goodIn_r _ [23, 24, 25, 26, 38, 39, 40, 41] (by decide +kernel) (by decide +kernel)
set_option maxRecDepth 20000 in
theorem gX3_take_X1_owner : GoodIn wsX3_take (wsV RX3 150 RX1 yX1_owner wsX1_owner) := goodIn_app (goodIn_of _ (by decide +kernel)) ggX3_take_X1_owner
set_option maxRecDepth 20000 in
theorem ggX3_take_X1_grant : GoodIn wsX3_take wsX1_grant := goodIn_r _ [30, 26, 24, 25, 38, 39, 40, 41] (by decide +kernel) (by decide +kernel)
set_option maxRecDepth 20000 in
theorem gX3_take_X1_grant : GoodIn wsX3_take (wsV RX3 155 RX1 yX1_grant wsX1_grant) := goodIn_app (goodIn_of _ (by decide +kernel)) ggX3_take_X1_grant
theorem dX3_take_0 : decode cX3_take 0 = .ok (.iload_n 1, 1) := by decide +kernel
theorem dX3_take_1 : decode cX3_take 1 = .ok (.invokestatic 142, 3) := by decide +kernel
theorem dX3_take_4 : decode cX3_take 4 = .ok (.iload_n 2, 1) := by decide +kernel
theorem dX3_take_5 : decode cX3_take 5 = .ok (.iconst 1, 1) := by decide +kernel
theorem dX3_take_6 : decode cX3_take 6 = .ok (.if_icmp .lt 9, 3) := by decide +kernel
theorem dX3_take_9 : decode cX3_take 9 = .ok (.iload_n 2, 1) := by decide +kernel
theorem dX3_take_10 : decode cX3_take 10 = .ok (.bipush 100, 2) := by decide +kernel
theorem dX3_take_12 : decode cX3_take 12 = .ok (.if_icmp .le 13, 3) := by decide +kernel
theorem dX3_take_15 : decode cX3_take 15 = .ok (.new 122, 3) := by decide +kernel
theorem dX3_take_18 : decode cX3_take 18 = .ok (.dup, 1) := by decide +kernel
theorem dX3_take_19 : decode cX3_take 19 = .ok (.ldc 145, 2) := by decide +kernel
theorem dX3_take_21 : decode cX3_take 21 = .ok (.invokespecial 126, 3) := by decide +kernel
theorem dX3_take_24 : decode cX3_take 24 = .ok (.athrow, 1) := by decide +kernel
theorem dX3_take_25 : decode cX3_take 25 = .ok (.aload_n 0, 1) := by decide +kernel
theorem dX3_take_26 : decode cX3_take 26 = .ok (.iload_n 1, 1) := by decide +kernel
theorem dX3_take_27 : decode cX3_take 27 = .ok (.invokevirtual 147, 3) := by decide +kernel
theorem dX3_take_30 : decode cX3_take 30 = .ok (.aload_n 0, 1) := by decide +kernel
theorem dX3_take_31 : decode cX3_take 31 = .ok (.getfield 26, 3) := by decide +kernel
theorem dX3_take_34 : decode cX3_take 34 = .ok (.invokevirtual 150, 3) := by decide +kernel
theorem dX3_take_37 : decode cX3_take 37 = .ok (.istore_n 3, 1) := by decide +kernel
theorem dX3_take_38 : decode cX3_take 38 = .ok (.iload_n 3, 1) := by decide +kernel
theorem dX3_take_39 : decode cX3_take 39 = .ok (.iconst (-1), 1) := by decide +kernel
theorem dX3_take_40 : decode cX3_take 40 = .ok (.if_icmp .eq 18, 3) := by decide +kernel
theorem dX3_take_43 : decode cX3_take 43 = .ok (.iload_n 3, 1) := by decide +kernel
theorem dX3_take_44 : decode cX3_take 44 = .ok (.iload_n 1, 1) := by decide +kernel
theorem dX3_take_45 : decode cX3_take 45 = .ok (.if_icmp .eq 13, 3) := by decide +kernel
theorem dX3_take_48 : decode cX3_take 48 = .ok (.new 46, 3) := by decide +kernel
theorem dX3_take_51 : decode cX3_take 51 = .ok (.dup, 1) := by decide +kernel
theorem dX3_take_52 : decode cX3_take 52 = .ok (.ldc 153, 2) := by decide +kernel
theorem dX3_take_54 : decode cX3_take 54 = .ok (.invokespecial 50, 3) := by decide +kernel
theorem dX3_take_57 : decode cX3_take 57 = .ok (.athrow, 1) := by decide +kernel
theorem dX3_take_58 : decode cX3_take 58 = .ok (.aload_n 0, 1) := by decide +kernel
theorem dX3_take_59 : decode cX3_take 59 = .ok (.getfield 26, 3) := by decide +kernel
theorem dX3_take_62 : decode cX3_take 62 = .ok (.iload_n 1, 1) := by decide +kernel
theorem dX3_take_63 : decode cX3_take 63 = .ok (.iload_n 2, 1) := by decide +kernel
theorem dX3_take_64 : decode cX3_take 64 = .ok (.invokevirtual 155, 3) := by decide +kernel
theorem dX3_take_67 : decode cX3_take 67 = .ok (.ireturn, 1) := by decide +kernel
set_option maxRecDepth 20000 in
theorem ggX3_giveBack_X3_requireWorker : GoodIn wsX3_giveBack wsX3_requireWorker := goodIn_ca (goodIn_r _ [5, 6, 7] (by decide +kernel) (by decide +kernel)) (goodIn_sub (fun _ h => List.mem_cons_of_mem _ (List.mem_append_left _ (List.mem_append_right _ h))) (by decide +kernel))
set_option maxRecDepth 20000 in
theorem gX3_giveBack_X3_requireWorker : GoodIn wsX3_giveBack (va_wsS RX3 142 yX3_requireWorker wsX3_requireWorker) := goodIn_app (goodIn_of _ (by decide +kernel)) ggX3_giveBack_X3_requireWorker
set_option maxRecDepth 20000 in
theorem ggX3_giveBack_X3_requireAtWork : GoodIn wsX3_giveBack wsX3_requireAtWork := goodIn_ca (goodIn_r _ [11, 12, 13, 1, 14, 15, 16, 4, 17, 18, 19, 20, 21, 22, 23, 24, 25, 26, 27, 28, 29, 30, 35, 36, 37, 38, 39, 40, 41, 42, 43, 44, 45] (by decide +kernel) (by decide +kernel)) (goodIn_sub (fun _ h => List.mem_cons_of_mem _ (List.mem_append_right _ h)) (by decide +kernel))
set_option maxRecDepth 20000 in
theorem gX3_giveBack_X3_requireAtWork : GoodIn wsX3_giveBack (wsV RX3 158 RX3 yX3_requireAtWork wsX3_requireAtWork) := goodIn_app (goodIn_of _ (by decide +kernel)) ggX3_giveBack_X3_requireAtWork
set_option maxRecDepth 20000 in
theorem ggX3_giveBack_X1_release : GoodIn wsX3_giveBack wsX1_release := goodIn_r _ [34, 30, 42, 43, 44, 45] (by decide +kernel) (by decide +kernel)
set_option maxRecDepth 20000 in
theorem gX3_giveBack_X1_release : GoodIn wsX3_giveBack (wsV RX3 161 RX1 yX1_release wsX1_release) := goodIn_app (goodIn_of _ (by decide +kernel)) ggX3_giveBack_X1_release
theorem dX3_giveBack_0 : decode cX3_giveBack 0 = .ok (.iload_n 1, 1) := by decide +kernel
theorem dX3_giveBack_1 : decode cX3_giveBack 1 = .ok (.invokestatic 142, 3) := by decide +kernel
theorem dX3_giveBack_4 : decode cX3_giveBack 4 = .ok (.aload_n 0, 1) := by decide +kernel
theorem dX3_giveBack_5 : decode cX3_giveBack 5 = .ok (.iload_n 1, 1) := by decide +kernel
theorem dX3_giveBack_6 : decode cX3_giveBack 6 = .ok (.invokevirtual 158, 3) := by decide +kernel
theorem dX3_giveBack_9 : decode cX3_giveBack 9 = .ok (.aload_n 0, 1) := by decide +kernel
theorem dX3_giveBack_10 : decode cX3_giveBack 10 = .ok (.getfield 26, 3) := by decide +kernel
theorem dX3_giveBack_13 : decode cX3_giveBack 13 = .ok (.invokevirtual 161, 3) := by decide +kernel
theorem dX3_giveBack_16 : decode cX3_giveBack 16 = .ok (.return_, 1) := by decide +kernel
set_option maxRecDepth 20000 in
theorem ggX3_holder_X1_owner : GoodIn wsX3_holder wsX1_owner := goodIn_r _ [6, 7, 8, 9, 17, 18, 19, 20] (by decide +kernel) (by decide +kernel)
set_option maxRecDepth 20000 in
theorem gX3_holder_X1_owner : GoodIn wsX3_holder (wsV RX3 150 RX1 yX1_owner wsX1_owner) := goodIn_app (goodIn_of _ (by decide +kernel)) ggX3_holder_X1_owner
theorem dX3_holder_0 : decode cX3_holder 0 = .ok (.aload_n 0, 1) := by decide +kernel
theorem dX3_holder_1 : decode cX3_holder 1 = .ok (.getfield 26, 3) := by decide +kernel
theorem dX3_holder_4 : decode cX3_holder 4 = .ok (.invokevirtual 150, 3) := by decide +kernel
theorem dX3_holder_7 : decode cX3_holder 7 = .ok (.ireturn, 1) := by decide +kernel
set_option maxRecDepth 20000 in
theorem ggX3_restart_X3_requireWorker : GoodIn wsX3_restart wsX3_requireWorker := goodIn_ca (goodIn_r _ [7, 8, 9] (by decide +kernel) (by decide +kernel)) (goodIn_sub (fun _ h => List.mem_cons_of_mem _ (List.mem_append_right _ h)) (by decide +kernel))
set_option maxRecDepth 20000 in
theorem gX3_restart_X3_requireWorker : GoodIn wsX3_restart (va_wsS RX3 142 yX3_requireWorker wsX3_requireWorker) := goodIn_app (goodIn_of _ (by decide +kernel)) ggX3_restart_X3_requireWorker
set_option maxRecDepth 20000 in
theorem ggX3_restart_X1_hasCrashed : GoodIn wsX3_restart wsX1_hasCrashed := goodIn_r _ [14, 15, 34, 35, 36, 37] (by decide +kernel) (by decide +kernel)
set_option maxRecDepth 20000 in
theorem gX3_restart_X1_hasCrashed : GoodIn wsX3_restart (wsV RX3 164 RX1 yX1_hasCrashed wsX1_hasCrashed) := goodIn_app (goodIn_of _ (by decide +kernel)) ggX3_restart_X1_hasCrashed
set_option maxRecDepth 20000 in
theorem ggX3_restart_X1_setCrashed : GoodIn wsX3_restart wsX1_setCrashed := goodIn_r _ [19, 15, 34, 35, 36, 37] (by decide +kernel) (by decide +kernel)
set_option maxRecDepth 20000 in
theorem gX3_restart_X1_setCrashed : GoodIn wsX3_restart (wsV RX3 169 RX1 yX1_setCrashed wsX1_setCrashed) := goodIn_app (goodIn_of _ (by decide +kernel)) ggX3_restart_X1_setCrashed
set_option maxRecDepth 20000 in
theorem ggX3_restart_X1_owner : GoodIn wsX3_restart wsX1_owner := goodIn_r _ [23, 24, 25, 26, 34, 35, 36, 37] (by decide +kernel) (by decide +kernel)
set_option maxRecDepth 20000 in
theorem gX3_restart_X1_owner : GoodIn wsX3_restart (wsV RX3 150 RX1 yX1_owner wsX1_owner) := goodIn_app (goodIn_of _ (by decide +kernel)) ggX3_restart_X1_owner
theorem dX3_restart_0 : decode cX3_restart 0 = .ok (.iload_n 1, 1) := by decide +kernel
theorem dX3_restart_1 : decode cX3_restart 1 = .ok (.invokestatic 142, 3) := by decide +kernel
theorem dX3_restart_4 : decode cX3_restart 4 = .ok (.aload_n 0, 1) := by decide +kernel
theorem dX3_restart_5 : decode cX3_restart 5 = .ok (.getfield 26, 3) := by decide +kernel
theorem dX3_restart_8 : decode cX3_restart 8 = .ok (.iload_n 1, 1) := by decide +kernel
theorem dX3_restart_9 : decode cX3_restart 9 = .ok (.invokevirtual 164, 3) := by decide +kernel
theorem dX3_restart_12 : decode cX3_restart 12 = .ok (.ifCond .ne 13, 3) := by decide +kernel
theorem dX3_restart_15 : decode cX3_restart 15 = .ok (.new 46, 3) := by decide +kernel
theorem dX3_restart_18 : decode cX3_restart 18 = .ok (.dup, 1) := by decide +kernel
theorem dX3_restart_19 : decode cX3_restart 19 = .ok (.ldc 167, 2) := by decide +kernel
theorem dX3_restart_21 : decode cX3_restart 21 = .ok (.invokespecial 50, 3) := by decide +kernel
theorem dX3_restart_24 : decode cX3_restart 24 = .ok (.athrow, 1) := by decide +kernel
theorem dX3_restart_25 : decode cX3_restart 25 = .ok (.aload_n 0, 1) := by decide +kernel
theorem dX3_restart_26 : decode cX3_restart 26 = .ok (.getfield 26, 3) := by decide +kernel
theorem dX3_restart_29 : decode cX3_restart 29 = .ok (.iload_n 1, 1) := by decide +kernel
theorem dX3_restart_30 : decode cX3_restart 30 = .ok (.iconst 0, 1) := by decide +kernel
theorem dX3_restart_31 : decode cX3_restart 31 = .ok (.invokevirtual 169, 3) := by decide +kernel
theorem dX3_restart_34 : decode cX3_restart 34 = .ok (.aload_n 0, 1) := by decide +kernel
theorem dX3_restart_35 : decode cX3_restart 35 = .ok (.getfield 26, 3) := by decide +kernel
theorem dX3_restart_38 : decode cX3_restart 38 = .ok (.invokevirtual 150, 3) := by decide +kernel
theorem dX3_restart_41 : decode cX3_restart 41 = .ok (.iload_n 1, 1) := by decide +kernel
theorem dX3_restart_42 : decode cX3_restart 42 = .ok (.if_icmp .ne 7, 3) := by decide +kernel
theorem dX3_restart_45 : decode cX3_restart 45 = .ok (.iconst 1, 1) := by decide +kernel
theorem dX3_restart_46 : decode cX3_restart 46 = .ok (.goto 4, 3) := by decide +kernel
theorem dX3_restart_49 : decode cX3_restart 49 = .ok (.iconst 0, 1) := by decide +kernel
theorem dX3_restart_50 : decode cX3_restart 50 = .ok (.ireturn, 1) := by decide +kernel
set_option maxRecDepth 20000 in
theorem ggX3_pass_X1_advance : GoodIn wsX3_pass wsX1_advance := goodIn_r _ [8, 9, 17, 18, 19, 20] (by decide +kernel) (by decide +kernel)
set_option maxRecDepth 20000 in
theorem gX3_pass_X1_advance : GoodIn wsX3_pass (wsV RX3 175 RX1 yX1_advance wsX1_advance) := goodIn_app (goodIn_of _ (by decide +kernel)) ggX3_pass_X1_advance
theorem dX3_pass_0 : decode cX3_pass 0 = .ok (.iload_n 1, 1) := by decide +kernel
theorem dX3_pass_1 : decode cX3_pass 1 = .ok (.iconst 1, 1) := by decide +kernel
theorem dX3_pass_2 : decode cX3_pass 2 = .ok (.if_icmp .lt 10, 3) := by decide +kernel
theorem dX3_pass_5 : decode cX3_pass 5 = .ok (.iload_n 1, 1) := by decide +kernel
theorem dX3_pass_6 : decode cX3_pass 6 = .ok (.sipush 1000, 3) := by decide +kernel
theorem dX3_pass_9 : decode cX3_pass 9 = .ok (.if_icmp .le 13, 3) := by decide +kernel
theorem dX3_pass_12 : decode cX3_pass 12 = .ok (.new 122, 3) := by decide +kernel
theorem dX3_pass_15 : decode cX3_pass 15 = .ok (.dup, 1) := by decide +kernel
theorem dX3_pass_16 : decode cX3_pass 16 = .ok (.ldc 173, 2) := by decide +kernel
theorem dX3_pass_18 : decode cX3_pass 18 = .ok (.invokespecial 126, 3) := by decide +kernel
theorem dX3_pass_21 : decode cX3_pass 21 = .ok (.athrow, 1) := by decide +kernel
theorem dX3_pass_22 : decode cX3_pass 22 = .ok (.aload_n 0, 1) := by decide +kernel
theorem dX3_pass_23 : decode cX3_pass 23 = .ok (.getfield 26, 3) := by decide +kernel
theorem dX3_pass_26 : decode cX3_pass 26 = .ok (.iload_n 1, 1) := by decide +kernel
theorem dX3_pass_27 : decode cX3_pass 27 = .ok (.invokevirtual 175, 3) := by decide +kernel
theorem dX3_pass_30 : decode cX3_pass 30 = .ok (.ireturn, 1) := by decide +kernel
set_option maxRecDepth 20000 in
theorem ggX3_begin_X3_requireWorker : GoodIn wsX3_begin wsX3_requireWorker := goodIn_ca (goodIn_r _ [10, 11, 12] (by decide +kernel) (by decide +kernel)) (goodIn_sub (fun _ h => List.mem_cons_of_mem _ (List.mem_append_right _ h)) (by decide +kernel))
set_option maxRecDepth 20000 in
theorem gX3_begin_X3_requireWorker : GoodIn wsX3_begin (va_wsS RX3 142 yX3_requireWorker wsX3_requireWorker) := goodIn_app (goodIn_of _ (by decide +kernel)) ggX3_begin_X3_requireWorker
set_option maxRecDepth 20000 in
theorem ggX3_begin_X3_requireAtWork : GoodIn wsX3_begin wsX3_requireAtWork := goodIn_ca (goodIn_r _ [16, 1, 2, 17, 18, 19, 20, 9, 21, 22, 23, 24, 25, 26, 27, 28, 29, 30, 31, 32, 33, 34, 70, 71, 72, 73, 74, 75, 76, 77, 78, 79, 80] (by decide +kernel) (by decide +kernel)) (goodIn_sub (fun _ h => List.mem_cons_of_mem _ (List.mem_append_left _ (List.mem_append_right _ h))) (by decide +kernel))
set_option maxRecDepth 20000 in
theorem gX3_begin_X3_requireAtWork : GoodIn wsX3_begin (wsV RX3 158 RX3 yX3_requireAtWork wsX3_requireAtWork) := goodIn_app (goodIn_of _ (by decide +kernel)) ggX3_begin_X3_requireAtWork
set_option maxRecDepth 20000 in
theorem ggX3_begin_X3_isActive : GoodIn wsX3_begin wsX3_isActive := goodIn_r _ [38, 5, 70, 71, 72, 73, 74, 75, 76] (by decide +kernel) (by decide +kernel)
set_option maxRecDepth 20000 in
theorem gX3_begin_X3_isActive : GoodIn wsX3_begin (wsV RX3 61 RX3 yX3_isActive wsX3_isActive) := goodIn_app (goodIn_of _ (by decide +kernel)) ggX3_begin_X3_isActive
set_option maxRecDepth 20000 in
theorem ggX3_begin_X0_firstDrifted : GoodIn wsX3_begin wsX0_firstDrifted := goodIn_r _ [43, 44, 45, 46, 42, 47, 48, 49, 50, 51, 52, 53, 54, 55, 56, 81, 82, 83, 84, 85] (by decide +kernel) (by decide +kernel)
set_option maxRecDepth 20000 in
theorem gX3_begin_X0_firstDrifted : GoodIn wsX3_begin (wsV RX3 84 RX0 yX0_firstDrifted wsX0_firstDrifted) := goodIn_app (goodIn_of _ (by decide +kernel)) ggX3_begin_X0_firstDrifted
set_option maxRecDepth 20000 in
theorem ggX3_begin_X0_count : GoodIn wsX3_begin wsX0_count := goodIn_r _ [60, 61, 81, 82, 83, 84, 85] (by decide +kernel) (by decide +kernel)
set_option maxRecDepth 20000 in
theorem gX3_begin_X0_count : GoodIn wsX3_begin (wsV RX3 78 RX0 yX0_count wsX0_count) := goodIn_app (goodIn_of _ (by decide +kernel)) ggX3_begin_X0_count
set_option maxRecDepth 20000 in
theorem ggX3_begin_X3_activeNumber : GoodIn wsX3_begin wsX3_activeNumber := goodIn_r _ [65, 4, 70, 71, 72, 73, 74, 75, 76] (by decide +kernel) (by decide +kernel)
set_option maxRecDepth 20000 in
theorem gX3_begin_X3_activeNumber : GoodIn wsX3_begin (wsV RX3 64 RX3 yX3_activeNumber wsX3_activeNumber) := goodIn_app (goodIn_of _ (by decide +kernel)) ggX3_begin_X3_activeNumber
set_option maxRecDepth 20000 in
theorem ggX3_begin_X0_recordChecksum : GoodIn wsX3_begin wsX0_recordChecksum := goodIn_r _ [69, 48, 49, 50, 51, 42, 52, 53, 54, 55, 56, 81, 82, 83, 84, 85] (by decide +kernel) (by decide +kernel)
set_option maxRecDepth 20000 in
theorem gX3_begin_X0_recordChecksum : GoodIn wsX3_begin (wsV RX3 187 RX0 yX0_recordChecksum wsX0_recordChecksum) := goodIn_app (goodIn_of _ (by decide +kernel)) ggX3_begin_X0_recordChecksum
theorem dX3_begin_0 : decode cX3_begin 0 = .ok (.iload_n 1, 1) := by decide +kernel
theorem dX3_begin_1 : decode cX3_begin 1 = .ok (.invokestatic 142, 3) := by decide +kernel
theorem dX3_begin_4 : decode cX3_begin 4 = .ok (.aload_n 0, 1) := by decide +kernel
theorem dX3_begin_5 : decode cX3_begin 5 = .ok (.iload_n 1, 1) := by decide +kernel
theorem dX3_begin_6 : decode cX3_begin 6 = .ok (.invokevirtual 158, 3) := by decide +kernel
theorem dX3_begin_9 : decode cX3_begin 9 = .ok (.aload_n 0, 1) := by decide +kernel
theorem dX3_begin_10 : decode cX3_begin 10 = .ok (.invokevirtual 61, 3) := by decide +kernel
theorem dX3_begin_13 : decode cX3_begin 13 = .ok (.ifCond .eq 13, 3) := by decide +kernel
theorem dX3_begin_16 : decode cX3_begin 16 = .ok (.new 46, 3) := by decide +kernel
theorem dX3_begin_19 : decode cX3_begin 19 = .ok (.dup, 1) := by decide +kernel
theorem dX3_begin_20 : decode cX3_begin 20 = .ok (.ldc 178, 2) := by decide +kernel
theorem dX3_begin_22 : decode cX3_begin 22 = .ok (.invokespecial 50, 3) := by decide +kernel
theorem dX3_begin_25 : decode cX3_begin 25 = .ok (.athrow, 1) := by decide +kernel
theorem dX3_begin_26 : decode cX3_begin 26 = .ok (.aload_n 0, 1) := by decide +kernel
theorem dX3_begin_27 : decode cX3_begin 27 = .ok (.getfield 10, 3) := by decide +kernel
theorem dX3_begin_30 : decode cX3_begin 30 = .ok (.aload_n 0, 1) := by decide +kernel
theorem dX3_begin_31 : decode cX3_begin 31 = .ok (.getfield 81, 3) := by decide +kernel
theorem dX3_begin_34 : decode cX3_begin 34 = .ok (.invokevirtual 84, 3) := by decide +kernel
theorem dX3_begin_37 : decode cX3_begin 37 = .ok (.ifCond .eq 13, 3) := by decide +kernel
theorem dX3_begin_40 : decode cX3_begin 40 = .ok (.new 46, 3) := by decide +kernel
theorem dX3_begin_43 : decode cX3_begin 43 = .ok (.dup, 1) := by decide +kernel
theorem dX3_begin_44 : decode cX3_begin 44 = .ok (.ldc 180, 2) := by decide +kernel
theorem dX3_begin_46 : decode cX3_begin 46 = .ok (.invokespecial 50, 3) := by decide +kernel
theorem dX3_begin_49 : decode cX3_begin 49 = .ok (.athrow, 1) := by decide +kernel
theorem dX3_begin_50 : decode cX3_begin 50 = .ok (.aload_n 0, 1) := by decide +kernel
theorem dX3_begin_51 : decode cX3_begin 51 = .ok (.getfield 81, 3) := by decide +kernel
theorem dX3_begin_54 : decode cX3_begin 54 = .ok (.aload_n 0, 1) := by decide +kernel
theorem dX3_begin_55 : decode cX3_begin 55 = .ok (.getfield 10, 3) := by decide +kernel
theorem dX3_begin_58 : decode cX3_begin 58 = .ok (.invokevirtual 78, 3) := by decide +kernel
theorem dX3_begin_61 : decode cX3_begin 61 = .ok (.if_icmp .lt 13, 3) := by decide +kernel
theorem dX3_begin_64 : decode cX3_begin 64 = .ok (.new 46, 3) := by decide +kernel
theorem dX3_begin_67 : decode cX3_begin 67 = .ok (.dup, 1) := by decide +kernel
theorem dX3_begin_68 : decode cX3_begin 68 = .ok (.ldc 182, 2) := by decide +kernel
theorem dX3_begin_70 : decode cX3_begin 70 = .ok (.invokespecial 50, 3) := by decide +kernel
theorem dX3_begin_73 : decode cX3_begin 73 = .ok (.athrow, 1) := by decide +kernel
theorem dX3_begin_74 : decode cX3_begin 74 = .ok (.aload_n 0, 1) := by decide +kernel
theorem dX3_begin_75 : decode cX3_begin 75 = .ok (.iconst 1, 1) := by decide +kernel
theorem dX3_begin_76 : decode cX3_begin 76 = .ok (.putfield 34, 3) := by decide +kernel
theorem dX3_begin_79 : decode cX3_begin 79 = .ok (.aload_n 0, 1) := by decide +kernel
theorem dX3_begin_80 : decode cX3_begin 80 = .ok (.iconst 0, 1) := by decide +kernel
theorem dX3_begin_81 : decode cX3_begin 81 = .ok (.putfield 184, 3) := by decide +kernel
theorem dX3_begin_84 : decode cX3_begin 84 = .ok (.aload_n 0, 1) := by decide +kernel
theorem dX3_begin_85 : decode cX3_begin 85 = .ok (.getfield 10, 3) := by decide +kernel
theorem dX3_begin_88 : decode cX3_begin 88 = .ok (.aload_n 0, 1) := by decide +kernel
theorem dX3_begin_89 : decode cX3_begin 89 = .ok (.invokevirtual 64, 3) := by decide +kernel
theorem dX3_begin_92 : decode cX3_begin 92 = .ok (.invokevirtual 187, 3) := by decide +kernel
theorem dX3_begin_95 : decode cX3_begin 95 = .ok (.aload_n 0, 1) := by decide +kernel
theorem dX3_begin_96 : decode cX3_begin 96 = .ok (.invokevirtual 64, 3) := by decide +kernel
theorem dX3_begin_99 : decode cX3_begin 99 = .ok (.ireturn, 1) := by decide +kernel
set_option maxRecDepth 20000 in
theorem ggX3_undo_X3_requireWorker : GoodIn wsX3_undo wsX3_requireWorker := goodIn_ca (goodIn_r _ [9, 10, 11] (by decide +kernel) (by decide +kernel)) (goodIn_sub (fun _ h => List.mem_cons_of_mem _ (List.mem_append_right _ h)) (by decide +kernel))
set_option maxRecDepth 20000 in
theorem gX3_undo_X3_requireWorker : GoodIn wsX3_undo (va_wsS RX3 142 yX3_requireWorker wsX3_requireWorker) := goodIn_app (goodIn_of _ (by decide +kernel)) ggX3_undo_X3_requireWorker
set_option maxRecDepth 20000 in
theorem ggX3_undo_X3_requireAtWork : GoodIn wsX3_undo wsX3_requireAtWork := goodIn_ca (goodIn_r _ [15, 1, 2, 16, 17, 18, 19, 8, 20, 21, 22, 23, 24, 25, 26, 27, 28, 29, 30, 31, 32, 33, 57, 58, 59, 60, 61, 62, 63, 64, 65, 66, 67] (by decide +kernel) (by decide +kernel)) (goodIn_sub (fun _ h => List.mem_cons_of_mem _ (List.mem_append_left _ (List.mem_append_right _ h))) (by decide +kernel))
set_option maxRecDepth 20000 in
theorem gX3_undo_X3_requireAtWork : GoodIn wsX3_undo (wsV RX3 158 RX3 yX3_requireAtWork wsX3_requireAtWork) := goodIn_app (goodIn_of _ (by decide +kernel)) ggX3_undo_X3_requireAtWork
set_option maxRecDepth 20000 in
theorem ggX3_undo_X3_requireUndoableDone : GoodIn wsX3_undo wsX3_requireUndoableDone := goodIn_ca (goodIn_r _ [37, 1, 2, 4, 38, 39, 40, 41, 42, 43, 44, 45, 46, 47, 48, 49, 50, 51, 52, 57, 58, 59, 60, 61, 62, 63, 68, 69, 70, 71, 72] (by decide +kernel) (by decide +kernel)) (goodIn_sub (fun _ h => List.mem_cons_of_mem _ (List.mem_append_left _ (List.mem_append_right _ h))) (by decide +kernel))
set_option maxRecDepth 20000 in
theorem gX3_undo_X3_requireUndoableDone : GoodIn wsX3_undo (wsV RX3 192 RX3 yX3_requireUndoableDone wsX3_requireUndoableDone) := goodIn_app (goodIn_of _ (by decide +kernel)) ggX3_undo_X3_requireUndoableDone
set_option maxRecDepth 20000 in
theorem ggX3_undo_X3_activeNumber : GoodIn wsX3_undo wsX3_activeNumber := goodIn_r _ [56, 4, 57, 58, 59, 60, 61, 62, 63] (by decide +kernel) (by decide +kernel)
set_option maxRecDepth 20000 in
theorem gX3_undo_X3_activeNumber : GoodIn wsX3_undo (wsV RX3 64 RX3 yX3_activeNumber wsX3_activeNumber) := goodIn_app (goodIn_of _ (by decide +kernel)) ggX3_undo_X3_activeNumber
theorem dX3_undo_0 : decode cX3_undo 0 = .ok (.iload_n 1, 1) := by decide +kernel
theorem dX3_undo_1 : decode cX3_undo 1 = .ok (.invokestatic 142, 3) := by decide +kernel
theorem dX3_undo_4 : decode cX3_undo 4 = .ok (.aload_n 0, 1) := by decide +kernel
theorem dX3_undo_5 : decode cX3_undo 5 = .ok (.iload_n 1, 1) := by decide +kernel
theorem dX3_undo_6 : decode cX3_undo 6 = .ok (.invokevirtual 158, 3) := by decide +kernel
theorem dX3_undo_9 : decode cX3_undo 9 = .ok (.aload_n 0, 1) := by decide +kernel
theorem dX3_undo_10 : decode cX3_undo 10 = .ok (.getfield 34, 3) := by decide +kernel
theorem dX3_undo_13 : decode cX3_undo 13 = .ok (.iconst 3, 1) := by decide +kernel
theorem dX3_undo_14 : decode cX3_undo 14 = .ok (.if_icmp .ne 13, 3) := by decide +kernel
theorem dX3_undo_17 : decode cX3_undo 17 = .ok (.new 46, 3) := by decide +kernel
theorem dX3_undo_20 : decode cX3_undo 20 = .ok (.dup, 1) := by decide +kernel
theorem dX3_undo_21 : decode cX3_undo 21 = .ok (.ldc 190, 2) := by decide +kernel
theorem dX3_undo_23 : decode cX3_undo 23 = .ok (.invokespecial 50, 3) := by decide +kernel
theorem dX3_undo_26 : decode cX3_undo 26 = .ok (.athrow, 1) := by decide +kernel
theorem dX3_undo_27 : decode cX3_undo 27 = .ok (.aload_n 0, 1) := by decide +kernel
theorem dX3_undo_28 : decode cX3_undo 28 = .ok (.getfield 34, 3) := by decide +kernel
theorem dX3_undo_31 : decode cX3_undo 31 = .ok (.iconst 1, 1) := by decide +kernel
theorem dX3_undo_32 : decode cX3_undo 32 = .ok (.if_icmp .eq 17, 3) := by decide +kernel
theorem dX3_undo_35 : decode cX3_undo 35 = .ok (.aload_n 0, 1) := by decide +kernel
theorem dX3_undo_36 : decode cX3_undo 36 = .ok (.invokevirtual 192, 3) := by decide +kernel
theorem dX3_undo_39 : decode cX3_undo 39 = .ok (.aload_n 0, 1) := by decide +kernel
theorem dX3_undo_40 : decode cX3_undo 40 = .ok (.dup, 1) := by decide +kernel
theorem dX3_undo_41 : decode cX3_undo 41 = .ok (.getfield 81, 3) := by decide +kernel
theorem dX3_undo_44 : decode cX3_undo 44 = .ok (.iconst 1, 1) := by decide +kernel
theorem dX3_undo_45 : decode cX3_undo 45 = .ok (.isub, 1) := by decide +kernel
theorem dX3_undo_46 : decode cX3_undo 46 = .ok (.putfield 81, 3) := by decide +kernel
theorem dX3_undo_49 : decode cX3_undo 49 = .ok (.aload_n 0, 1) := by decide +kernel
theorem dX3_undo_50 : decode cX3_undo 50 = .ok (.iconst 3, 1) := by decide +kernel
theorem dX3_undo_51 : decode cX3_undo 51 = .ok (.putfield 34, 3) := by decide +kernel
theorem dX3_undo_54 : decode cX3_undo 54 = .ok (.aload_n 0, 1) := by decide +kernel
theorem dX3_undo_55 : decode cX3_undo 55 = .ok (.bipush 40, 2) := by decide +kernel
theorem dX3_undo_57 : decode cX3_undo 57 = .ok (.putfield 184, 3) := by decide +kernel
theorem dX3_undo_60 : decode cX3_undo 60 = .ok (.aload_n 0, 1) := by decide +kernel
theorem dX3_undo_61 : decode cX3_undo 61 = .ok (.invokevirtual 64, 3) := by decide +kernel
theorem dX3_undo_64 : decode cX3_undo 64 = .ok (.ireturn, 1) := by decide +kernel
set_option maxRecDepth 20000 in
theorem ggX3_step_X3_requireWorker : GoodIn wsX3_step wsX3_requireWorker := goodIn_ca (goodIn_r _ [10, 1, 2] (by decide +kernel) (by decide +kernel)) (goodIn_sub (fun _ h => List.mem_cons_of_mem _ (List.mem_append_left _ (List.mem_append_right _ h))) (by decide +kernel))
set_option maxRecDepth 20000 in
theorem gX3_step_X3_requireWorker : GoodIn wsX3_step (va_wsS RX3 142 yX3_requireWorker wsX3_requireWorker) := goodIn_app (goodIn_of _ (by decide +kernel)) ggX3_step_X3_requireWorker
set_option maxRecDepth 20000 in
theorem ggX3_step_X3_requireAtWork : GoodIn wsX3_step wsX3_requireAtWork := goodIn_ca (goodIn_r _ [14, 15, 16, 17, 18, 19, 20, 9, 21, 22, 23, 24, 25, 26, 27, 28, 29, 30, 31, 32, 33, 34, 142, 143, 144, 145, 146, 147, 148, 149, 150, 151, 152] (by decide +kernel) (by decide +kernel)) (goodIn_sub (fun _ h => List.mem_cons_of_mem _ (List.mem_append_right _ h)) (by decide +kernel))
set_option maxRecDepth 20000 in
theorem gX3_step_X3_requireAtWork : GoodIn wsX3_step (wsV RX3 158 RX3 yX3_requireAtWork wsX3_requireAtWork) := goodIn_app (goodIn_of _ (by decide +kernel)) ggX3_step_X3_requireAtWork
set_option maxRecDepth 20000 in
theorem ggX3_step_X3_requireActive : GoodIn wsX3_step wsX3_requireActive := goodIn_ca (goodIn_r _ [38, 15, 16, 39, 40, 41, 9, 42, 43, 142, 143, 144, 145, 146, 147, 148] (by decide +kernel) (by decide +kernel)) (goodIn_sub (fun _ h => List.mem_cons_of_mem _ (List.mem_append_right _ h)) (by decide +kernel))
set_option maxRecDepth 20000 in
theorem gX3_step_X3_requireActive : GoodIn wsX3_step (wsV RX3 199 RX3 yX3_requireActive wsX3_requireActive) := goodIn_app (goodIn_of _ (by decide +kernel)) ggX3_step_X3_requireActive
set_option maxRecDepth 20000 in
theorem ggX3_step_X3_idsLeft : GoodIn wsX3_step wsX3_idsLeft := goodIn_r _ [47, 43, 48, 142, 143, 144, 145, 146, 147, 148] (by decide +kernel) (by decide +kernel)
set_option maxRecDepth 20000 in
theorem gX3_step_X3_idsLeft : GoodIn wsX3_step (wsV RX3 202 RX3 yX3_idsLeft wsX3_idsLeft) := goodIn_app (goodIn_of _ (by decide +kernel)) ggX3_step_X3_idsLeft
set_option maxRecDepth 20000 in
theorem ggX3_step_X3_goThrough : GoodIn wsX3_step wsX3_goThrough := goodIn_r _ [52, 48, 17, 53, 54, 55, 9, 56, 43, 57, 58, 59, 60, 61, 62, 63, 64, 65, 66, 67, 68, 69, 70, 71, 72, 73, 74, 75, 76, 77, 78, 79, 80, 81, 82, 83, 84, 85, 86, 87, 88, 89, 90, 91, 92, 93, 94, 95, 96, 97, 98, 99, 100, 101, 102, 103, 104, 105, 106, 107, 108, 109, 110, 111, 112, 113, 114, 115, 116, 117, 118, 119, 120, 121, 122, 123, 124, 125, 126, 127, 128, 129, 130, 131, 132, 133, 134, 135, 136, 25, 137, 27, 138, 139, 140, 141, 44, 45, 46, 47, 142, 143, 144, 145, 146, 147, 148, 153, 154, 155, 156, 157, 158, 159, 149, 150, 151, 152] (by decide +kernel) (by decide +kernel)
set_option maxRecDepth 20000 in
theorem gX3_step_X3_goThrough : GoodIn wsX3_step (wsV RX3 210 RX3 yX3_goThrough wsX3_goThrough) := goodIn_app (goodIn_of _ (by decide +kernel)) ggX3_step_X3_goThrough
theorem dX3_step_0 : decode cX3_step 0 = .ok (.iload_n 1, 1) := by decide +kernel
theorem dX3_step_1 : decode cX3_step 1 = .ok (.invokestatic 142, 3) := by decide +kernel
theorem dX3_step_4 : decode cX3_step 4 = .ok (.iload_n 2, 1) := by decide +kernel
theorem dX3_step_5 : decode cX3_step 5 = .ok (.iconst 1, 1) := by decide +kernel
theorem dX3_step_6 : decode cX3_step 6 = .ok (.if_icmp .lt 9, 3) := by decide +kernel
theorem dX3_step_9 : decode cX3_step 9 = .ok (.iload_n 2, 1) := by decide +kernel
theorem dX3_step_10 : decode cX3_step 10 = .ok (.bipush 40, 2) := by decide +kernel
theorem dX3_step_12 : decode cX3_step 12 = .ok (.if_icmp .le 13, 3) := by decide +kernel
theorem dX3_step_15 : decode cX3_step 15 = .ok (.new 122, 3) := by decide +kernel
theorem dX3_step_18 : decode cX3_step 18 = .ok (.dup, 1) := by decide +kernel
theorem dX3_step_19 : decode cX3_step 19 = .ok (.ldc 195, 2) := by decide +kernel
theorem dX3_step_21 : decode cX3_step 21 = .ok (.invokespecial 126, 3) := by decide +kernel
theorem dX3_step_24 : decode cX3_step 24 = .ok (.athrow, 1) := by decide +kernel
theorem dX3_step_25 : decode cX3_step 25 = .ok (.iload_n 3, 1) := by decide +kernel
theorem dX3_step_26 : decode cX3_step 26 = .ok (.ifCond .lt 9, 3) := by decide +kernel
theorem dX3_step_29 : decode cX3_step 29 = .ok (.iload_n 3, 1) := by decide +kernel
theorem dX3_step_30 : decode cX3_step 30 = .ok (.bipush 40, 2) := by decide +kernel
theorem dX3_step_32 : decode cX3_step 32 = .ok (.if_icmp .le 13, 3) := by decide +kernel
theorem dX3_step_35 : decode cX3_step 35 = .ok (.new 122, 3) := by decide +kernel
theorem dX3_step_38 : decode cX3_step 38 = .ok (.dup, 1) := by decide +kernel
theorem dX3_step_39 : decode cX3_step 39 = .ok (.ldc 197, 2) := by decide +kernel
theorem dX3_step_41 : decode cX3_step 41 = .ok (.invokespecial 126, 3) := by decide +kernel
theorem dX3_step_44 : decode cX3_step 44 = .ok (.athrow, 1) := by decide +kernel
theorem dX3_step_45 : decode cX3_step 45 = .ok (.aload_n 0, 1) := by decide +kernel
theorem dX3_step_46 : decode cX3_step 46 = .ok (.iload_n 1, 1) := by decide +kernel
theorem dX3_step_47 : decode cX3_step 47 = .ok (.invokevirtual 158, 3) := by decide +kernel
theorem dX3_step_50 : decode cX3_step 50 = .ok (.aload_n 0, 1) := by decide +kernel
theorem dX3_step_51 : decode cX3_step 51 = .ok (.invokevirtual 199, 3) := by decide +kernel
theorem dX3_step_54 : decode cX3_step 54 = .ok (.aload_n 0, 1) := by decide +kernel
theorem dX3_step_55 : decode cX3_step 55 = .ok (.iload_n 2, 1) := by decide +kernel
theorem dX3_step_56 : decode cX3_step 56 = .ok (.aload_n 0, 1) := by decide +kernel
theorem dX3_step_57 : decode cX3_step 57 = .ok (.invokevirtual 202, 3) := by decide +kernel
theorem dX3_step_60 : decode cX3_step 60 = .ok (.invokestatic 205, 3) := by decide +kernel
theorem dX3_step_63 : decode cX3_step 63 = .ok (.iload_n 1, 1) := by decide +kernel
theorem dX3_step_64 : decode cX3_step 64 = .ok (.iload_n 3, 1) := by decide +kernel
theorem dX3_step_65 : decode cX3_step 65 = .ok (.invokevirtual 210, 3) := by decide +kernel
theorem dX3_step_68 : decode cX3_step 68 = .ok (.ireturn, 1) := by decide +kernel
set_option maxRecDepth 20000 in
theorem ggX3_cursor_X3_requireActive : GoodIn wsX3_cursor wsX3_requireActive := goodIn_ca (goodIn_r _ [6, 7, 8, 9, 10, 11, 5, 12, 13, 14, 15, 16, 17, 18, 19, 20] (by decide +kernel) (by decide +kernel)) (goodIn_sub (fun _ h => List.mem_cons_of_mem _ (List.mem_append_right _ h)) (by decide +kernel))
set_option maxRecDepth 20000 in
theorem gX3_cursor_X3_requireActive : GoodIn wsX3_cursor (wsV RX3 199 RX3 yX3_requireActive wsX3_requireActive) := goodIn_app (goodIn_of _ (by decide +kernel)) ggX3_cursor_X3_requireActive
theorem dX3_cursor_0 : decode cX3_cursor 0 = .ok (.aload_n 0, 1) := by decide +kernel
theorem dX3_cursor_1 : decode cX3_cursor 1 = .ok (.invokevirtual 199, 3) := by decide +kernel
theorem dX3_cursor_4 : decode cX3_cursor 4 = .ok (.aload_n 0, 1) := by decide +kernel
theorem dX3_cursor_5 : decode cX3_cursor 5 = .ok (.getfield 184, 3) := by decide +kernel
theorem dX3_cursor_8 : decode cX3_cursor 8 = .ok (.ireturn, 1) := by decide +kernel
set_option maxRecDepth 20000 in
theorem ggX3_share_X3_requireActive : GoodIn wsX3_share wsX3_requireActive := goodIn_ca (goodIn_r _ [8, 1, 2, 9, 10, 11, 7, 12, 13, 30, 31, 32, 33, 34, 35, 36] (by decide +kernel) (by decide +kernel)) (goodIn_sub (fun _ h => List.mem_cons_of_mem _ (List.mem_append_right _ h)) (by decide +kernel))
set_option maxRecDepth 20000 in
theorem gX3_share_X3_requireActive : GoodIn wsX3_share (wsV RX3 199 RX3 yX3_requireActive wsX3_requireActive) := goodIn_app (goodIn_of _ (by decide +kernel)) ggX3_share_X3_requireActive
set_option maxRecDepth 20000 in
theorem ggX3_share_X2_countPresent : GoodIn wsX3_share wsX2_countPresent := goodIn_r _ [18, 19, 20, 21, 17, 22, 23, 37, 38] (by decide +kernel) (by decide +kernel)
set_option maxRecDepth 20000 in
theorem gX3_share_X2_countPresent : GoodIn wsX3_share (wsV RX3 213 RX2 yX2_countPresent wsX2_countPresent) := goodIn_app (goodIn_of _ (by decide +kernel)) ggX3_share_X2_countPresent
set_option maxRecDepth 20000 in
theorem ggX3_share_X3_activeNumber : GoodIn wsX3_share wsX3_activeNumber := goodIn_r _ [27, 28, 30, 31, 32, 33, 34, 35, 36] (by decide +kernel) (by decide +kernel)
set_option maxRecDepth 20000 in
theorem gX3_share_X3_activeNumber : GoodIn wsX3_share (wsV RX3 64 RX3 yX3_activeNumber wsX3_activeNumber) := goodIn_app (goodIn_of _ (by decide +kernel)) ggX3_share_X3_activeNumber
set_option maxRecDepth 20000 in
theorem ggX3_share_X2_countFromVersion : GoodIn wsX3_share wsX2_countFromVersion := goodIn_r _ [22, 23, 37, 38] (by decide +kernel) (by decide +kernel)
set_option maxRecDepth 20000 in
theorem gX3_share_X2_countFromVersion : GoodIn wsX3_share (wsV RX3 218 RX2 yX2_countFromVersion wsX2_countFromVersion) := goodIn_app (goodIn_of _ (by decide +kernel)) ggX3_share_X2_countFromVersion
theorem dX3_share_0 : decode cX3_share 0 = .ok (.aload_n 0, 1) := by decide +kernel
theorem dX3_share_1 : decode cX3_share 1 = .ok (.invokevirtual 199, 3) := by decide +kernel
theorem dX3_share_4 : decode cX3_share 4 = .ok (.aload_n 0, 1) := by decide +kernel
theorem dX3_share_5 : decode cX3_share 5 = .ok (.getfield 19, 3) := by decide +kernel
theorem dX3_share_8 : decode cX3_share 8 = .ok (.invokevirtual 213, 3) := by decide +kernel
theorem dX3_share_11 : decode cX3_share 11 = .ok (.istore_n 1, 1) := by decide +kernel
theorem dX3_share_12 : decode cX3_share 12 = .ok (.iload_n 1, 1) := by decide +kernel
theorem dX3_share_13 : decode cX3_share 13 = .ok (.ifCond .ne 13, 3) := by decide +kernel
theorem dX3_share_16 : decode cX3_share 16 = .ok (.new 46, 3) := by decide +kernel
theorem dX3_share_19 : decode cX3_share 19 = .ok (.dup, 1) := by decide +kernel
theorem dX3_share_20 : decode cX3_share 20 = .ok (.ldc 216, 2) := by decide +kernel
theorem dX3_share_22 : decode cX3_share 22 = .ok (.invokespecial 50, 3) := by decide +kernel
theorem dX3_share_25 : decode cX3_share 25 = .ok (.athrow, 1) := by decide +kernel
theorem dX3_share_26 : decode cX3_share 26 = .ok (.aload_n 0, 1) := by decide +kernel
theorem dX3_share_27 : decode cX3_share 27 = .ok (.getfield 19, 3) := by decide +kernel
theorem dX3_share_30 : decode cX3_share 30 = .ok (.aload_n 0, 1) := by decide +kernel
theorem dX3_share_31 : decode cX3_share 31 = .ok (.invokevirtual 64, 3) := by decide +kernel
theorem dX3_share_34 : decode cX3_share 34 = .ok (.invokevirtual 218, 3) := by decide +kernel
theorem dX3_share_37 : decode cX3_share 37 = .ok (.i2f, 1) := by decide +kernel
theorem dX3_share_38 : decode cX3_share 38 = .ok (.iload_n 1, 1) := by decide +kernel
theorem dX3_share_39 : decode cX3_share 39 = .ok (.i2f, 1) := by decide +kernel
theorem dX3_share_40 : decode cX3_share 40 = .ok (.fdiv, 1) := by decide +kernel
theorem dX3_share_41 : decode cX3_share 41 = .ok (.freturn, 1) := by decide +kernel
theorem dX3_isActive_0 : decode cX3_isActive 0 = .ok (.aload_n 0, 1) := by decide +kernel
theorem dX3_isActive_1 : decode cX3_isActive 1 = .ok (.getfield 34, 3) := by decide +kernel
theorem dX3_isActive_4 : decode cX3_isActive 4 = .ok (.ifCond .eq 7, 3) := by decide +kernel
theorem dX3_isActive_7 : decode cX3_isActive 7 = .ok (.iconst 1, 1) := by decide +kernel
theorem dX3_isActive_8 : decode cX3_isActive 8 = .ok (.goto 4, 3) := by decide +kernel
theorem dX3_isActive_11 : decode cX3_isActive 11 = .ok (.iconst 0, 1) := by decide +kernel
theorem dX3_isActive_12 : decode cX3_isActive 12 = .ok (.ireturn, 1) := by decide +kernel
theorem dX3_activeNumber_0 : decode cX3_activeNumber 0 = .ok (.aload_n 0, 1) := by decide +kernel
theorem dX3_activeNumber_1 : decode cX3_activeNumber 1 = .ok (.getfield 81, 3) := by decide +kernel
theorem dX3_activeNumber_4 : decode cX3_activeNumber 4 = .ok (.iconst 1, 1) := by decide +kernel
theorem dX3_activeNumber_5 : decode cX3_activeNumber 5 = .ok (.iadd, 1) := by decide +kernel
theorem dX3_activeNumber_6 : decode cX3_activeNumber 6 = .ok (.ireturn, 1) := by decide +kernel
set_option maxRecDepth 20000 in
theorem ggX3_versionForNewRow_X3_isActive : GoodIn wsX3_versionForNewRow wsX3_isActive := goodIn_r _ [7, 8, 13, 14, 15, 16, 17, 18, 19] (by decide +kernel) (by decide +kernel)
set_option maxRecDepth 20000 in
theorem gX3_versionForNewRow_X3_isActive : GoodIn wsX3_versionForNewRow (wsV RX3 61 RX3 yX3_isActive wsX3_isActive) := goodIn_app (goodIn_of _ (by decide +kernel)) ggX3_versionForNewRow_X3_isActive
set_option maxRecDepth 20000 in
theorem ggX3_versionForNewRow_X3_activeNumber : GoodIn wsX3_versionForNewRow wsX3_activeNumber := goodIn_r _ [12, 2, 13, 14, 15, 16, 17, 18, 19] (by decide +kernel) (by decide +kernel)
set_option maxRecDepth 20000 in
theorem gX3_versionForNewRow_X3_activeNumber : GoodIn wsX3_versionForNewRow (wsV RX3 64 RX3 yX3_activeNumber wsX3_activeNumber) := goodIn_app (goodIn_of _ (by decide +kernel)) ggX3_versionForNewRow_X3_activeNumber
theorem dX3_versionForNewRow_0 : decode cX3_versionForNewRow 0 = .ok (.aload_n 0, 1) := by decide +kernel
theorem dX3_versionForNewRow_1 : decode cX3_versionForNewRow 1 = .ok (.invokevirtual 61, 3) := by decide +kernel
theorem dX3_versionForNewRow_4 : decode cX3_versionForNewRow 4 = .ok (.ifCond .eq 18, 3) := by decide +kernel
theorem dX3_versionForNewRow_7 : decode cX3_versionForNewRow 7 = .ok (.iload_n 1, 1) := by decide +kernel
theorem dX3_versionForNewRow_8 : decode cX3_versionForNewRow 8 = .ok (.aload_n 0, 1) := by decide +kernel
theorem dX3_versionForNewRow_9 : decode cX3_versionForNewRow 9 = .ok (.getfield 184, 3) := by decide +kernel
theorem dX3_versionForNewRow_12 : decode cX3_versionForNewRow 12 = .ok (.if_icmp .ge 10, 3) := by decide +kernel
theorem dX3_versionForNewRow_15 : decode cX3_versionForNewRow 15 = .ok (.aload_n 0, 1) := by decide +kernel
theorem dX3_versionForNewRow_16 : decode cX3_versionForNewRow 16 = .ok (.invokevirtual 64, 3) := by decide +kernel
theorem dX3_versionForNewRow_19 : decode cX3_versionForNewRow 19 = .ok (.goto 7, 3) := by decide +kernel
theorem dX3_versionForNewRow_22 : decode cX3_versionForNewRow 22 = .ok (.aload_n 0, 1) := by decide +kernel
theorem dX3_versionForNewRow_23 : decode cX3_versionForNewRow 23 = .ok (.getfield 81, 3) := by decide +kernel
theorem dX3_versionForNewRow_26 : decode cX3_versionForNewRow 26 = .ok (.ireturn, 1) := by decide +kernel
theorem dX3_idsLeft_0 : decode cX3_idsLeft 0 = .ok (.aload_n 0, 1) := by decide +kernel
theorem dX3_idsLeft_1 : decode cX3_idsLeft 1 = .ok (.getfield 34, 3) := by decide +kernel
theorem dX3_idsLeft_4 : decode cX3_idsLeft 4 = .ok (.iconst 1, 1) := by decide +kernel
theorem dX3_idsLeft_5 : decode cX3_idsLeft 5 = .ok (.if_icmp .ne 13, 3) := by decide +kernel
theorem dX3_idsLeft_8 : decode cX3_idsLeft 8 = .ok (.bipush 40, 2) := by decide +kernel
theorem dX3_idsLeft_10 : decode cX3_idsLeft 10 = .ok (.aload_n 0, 1) := by decide +kernel
theorem dX3_idsLeft_11 : decode cX3_idsLeft 11 = .ok (.getfield 184, 3) := by decide +kernel
theorem dX3_idsLeft_14 : decode cX3_idsLeft 14 = .ok (.isub, 1) := by decide +kernel
theorem dX3_idsLeft_15 : decode cX3_idsLeft 15 = .ok (.goto 7, 3) := by decide +kernel
theorem dX3_idsLeft_18 : decode cX3_idsLeft 18 = .ok (.aload_n 0, 1) := by decide +kernel
theorem dX3_idsLeft_19 : decode cX3_idsLeft 19 = .ok (.getfield 184, 3) := by decide +kernel
theorem dX3_idsLeft_22 : decode cX3_idsLeft 22 = .ok (.ireturn, 1) := by decide +kernel
theorem dX3_positionBehind_0 : decode cX3_positionBehind 0 = .ok (.aload_n 0, 1) := by decide +kernel
theorem dX3_positionBehind_1 : decode cX3_positionBehind 1 = .ok (.getfield 34, 3) := by decide +kernel
theorem dX3_positionBehind_4 : decode cX3_positionBehind 4 = .ok (.iconst 1, 1) := by decide +kernel
theorem dX3_positionBehind_5 : decode cX3_positionBehind 5 = .ok (.if_icmp .ne 12, 3) := by decide +kernel
theorem dX3_positionBehind_8 : decode cX3_positionBehind 8 = .ok (.aload_n 0, 1) := by decide +kernel
theorem dX3_positionBehind_9 : decode cX3_positionBehind 9 = .ok (.getfield 184, 3) := by decide +kernel
theorem dX3_positionBehind_12 : decode cX3_positionBehind 12 = .ok (.iload_n 1, 1) := by decide +kernel
theorem dX3_positionBehind_13 : decode cX3_positionBehind 13 = .ok (.iadd, 1) := by decide +kernel
theorem dX3_positionBehind_14 : decode cX3_positionBehind 14 = .ok (.goto 9, 3) := by decide +kernel
theorem dX3_positionBehind_17 : decode cX3_positionBehind 17 = .ok (.aload_n 0, 1) := by decide +kernel
theorem dX3_positionBehind_18 : decode cX3_positionBehind 18 = .ok (.getfield 184, 3) := by decide +kernel
theorem dX3_positionBehind_21 : decode cX3_positionBehind 21 = .ok (.iload_n 1, 1) := by decide +kernel
theorem dX3_positionBehind_22 : decode cX3_positionBehind 22 = .ok (.isub, 1) := by decide +kernel
theorem dX3_positionBehind_23 : decode cX3_positionBehind 23 = .ok (.ireturn, 1) := by decide +kernel
theorem dX3_idBehind_0 : decode cX3_idBehind 0 = .ok (.aload_n 0, 1) := by decide +kernel
theorem dX3_idBehind_1 : decode cX3_idBehind 1 = .ok (.getfield 34, 3) := by decide +kernel
theorem dX3_idBehind_4 : decode cX3_idBehind 4 = .ok (.iconst 1, 1) := by decide +kernel
theorem dX3_idBehind_5 : decode cX3_idBehind 5 = .ok (.if_icmp .ne 12, 3) := by decide +kernel
theorem dX3_idBehind_8 : decode cX3_idBehind 8 = .ok (.aload_n 0, 1) := by decide +kernel
theorem dX3_idBehind_9 : decode cX3_idBehind 9 = .ok (.getfield 184, 3) := by decide +kernel
theorem dX3_idBehind_12 : decode cX3_idBehind 12 = .ok (.iload_n 1, 1) := by decide +kernel
theorem dX3_idBehind_13 : decode cX3_idBehind 13 = .ok (.iadd, 1) := by decide +kernel
theorem dX3_idBehind_14 : decode cX3_idBehind 14 = .ok (.goto 11, 3) := by decide +kernel
theorem dX3_idBehind_17 : decode cX3_idBehind 17 = .ok (.aload_n 0, 1) := by decide +kernel
theorem dX3_idBehind_18 : decode cX3_idBehind 18 = .ok (.getfield 184, 3) := by decide +kernel
theorem dX3_idBehind_21 : decode cX3_idBehind 21 = .ok (.iconst 1, 1) := by decide +kernel
theorem dX3_idBehind_22 : decode cX3_idBehind 22 = .ok (.isub, 1) := by decide +kernel
theorem dX3_idBehind_23 : decode cX3_idBehind 23 = .ok (.iload_n 1, 1) := by decide +kernel
theorem dX3_idBehind_24 : decode cX3_idBehind 24 = .ok (.isub, 1) := by decide +kernel
theorem dX3_idBehind_25 : decode cX3_idBehind 25 = .ok (.ireturn, 1) := by decide +kernel
set_option maxRecDepth 20000 in
theorem ggX3_goThrough_X3_idBehind : GoodIn wsX3_goThrough wsX3_idBehind := goodIn_r _ [7, 8, 1, 100, 101, 102, 103, 104, 105, 106] (by decide +kernel) (by decide +kernel)
set_option maxRecDepth 20000 in
theorem gX3_goThrough_X3_idBehind : GoodIn wsX3_goThrough (wsV RX3 221 RX3 yX3_idBehind wsX3_idBehind) := goodIn_app (goodIn_of _ (by decide +kernel)) ggX3_goThrough_X3_idBehind
set_option maxRecDepth 20000 in
theorem ggX3_goThrough_X3_isToBeChanged : GoodIn wsX3_goThrough wsX3_isToBeChanged := goodIn_r _ [12, 13, 8, 14, 15, 16, 17, 18, 19, 20, 21, 22, 23, 24, 25, 26, 6, 27, 28, 100, 101, 102, 103, 104, 105, 106, 107, 108] (by decide +kernel) (by decide +kernel)
set_option maxRecDepth 20000 in
theorem gX3_goThrough_X3_isToBeChanged : GoodIn wsX3_goThrough (wsV RX3 224 RX3 yX3_isToBeChanged wsX3_isToBeChanged) := goodIn_app (goodIn_of _ (by decide +kernel)) ggX3_goThrough_X3_isToBeChanged
set_option maxRecDepth 20000 in
theorem ggX3_goThrough_X3_changeRow : GoodIn wsX3_goThrough wsX3_changeRow := goodIn_r _ [32, 13, 8, 33, 20, 21, 22, 17, 23, 19, 34, 35, 36, 37, 38, 39, 40, 41, 42, 43, 44, 45, 6, 46, 47, 48, 49, 50, 51, 52, 53, 54, 55, 56, 57, 58, 59, 60, 61, 62, 63, 64, 65, 66, 67, 68, 69, 70, 71, 72, 73, 74, 75, 76, 77, 78, 79, 80, 81, 100, 101, 102, 103, 104, 105, 106, 107, 108, 109, 110, 111, 112, 113] (by decide +kernel) (by decide +kernel)
set_option maxRecDepth 20000 in
theorem gX3_goThrough_X3_changeRow : GoodIn wsX3_goThrough (wsV RX3 227 RX3 yX3_changeRow wsX3_changeRow) := goodIn_app (goodIn_of _ (by decide +kernel)) ggX3_goThrough_X3_changeRow
set_option maxRecDepth 20000 in
theorem ggX3_goThrough_X3_positionBehind : GoodIn wsX3_goThrough wsX3_positionBehind := goodIn_r _ [85, 8, 1, 100, 101, 102, 103, 104, 105, 106] (by decide +kernel) (by decide +kernel)
set_option maxRecDepth 20000 in
theorem gX3_goThrough_X3_positionBehind : GoodIn wsX3_goThrough (wsV RX3 230 RX3 yX3_positionBehind wsX3_positionBehind) := goodIn_app (goodIn_of _ (by decide +kernel)) ggX3_goThrough_X3_positionBehind
set_option maxRecDepth 20000 in
theorem ggX3_goThrough_X1_setCrashed : GoodIn wsX3_goThrough wsX1_setCrashed := goodIn_r _ [90, 91, 114, 115, 116, 117] (by decide +kernel) (by decide +kernel)
set_option maxRecDepth 20000 in
theorem gX3_goThrough_X1_setCrashed : GoodIn wsX3_goThrough (wsV RX3 169 RX1 yX1_setCrashed wsX1_setCrashed) := goodIn_app (goodIn_of _ (by decide +kernel)) ggX3_goThrough_X1_setCrashed
set_option maxRecDepth 20000 in
theorem ggX3_goThrough_X3_endIfAllPassed : GoodIn wsX3_goThrough wsX3_endIfAllPassed := goodIn_r _ [95, 8, 28, 96, 97, 98, 6, 99, 1, 100, 101, 102, 103, 104, 105, 106] (by decide +kernel) (by decide +kernel)
set_option maxRecDepth 20000 in
theorem gX3_goThrough_X3_endIfAllPassed : GoodIn wsX3_goThrough (wsV RX3 233 RX3 yX3_endIfAllPassed wsX3_endIfAllPassed) := goodIn_app (goodIn_of _ (by decide +kernel)) ggX3_goThrough_X3_endIfAllPassed
theorem dX3_goThrough_0 : decode cX3_goThrough 0 = .ok (.iconst 0, 1) := by decide +kernel
theorem dX3_goThrough_1 : decode cX3_goThrough 1 = .ok (.istore 4, 2) := by decide +kernel
theorem dX3_goThrough_3 : decode cX3_goThrough 3 = .ok (.iconst 0, 1) := by decide +kernel
theorem dX3_goThrough_4 : decode cX3_goThrough 4 = .ok (.istore 5, 2) := by decide +kernel
theorem dX3_goThrough_6 : decode cX3_goThrough 6 = .ok (.iload 5, 2) := by decide +kernel
theorem dX3_goThrough_8 : decode cX3_goThrough 8 = .ok (.iload_n 1, 1) := by decide +kernel
theorem dX3_goThrough_9 : decode cX3_goThrough 9 = .ok (.if_icmp .ge 75, 3) := by decide +kernel
theorem dX3_goThrough_12 : decode cX3_goThrough 12 = .ok (.aload_n 0, 1) := by decide +kernel
theorem dX3_goThrough_13 : decode cX3_goThrough 13 = .ok (.iload 5, 2) := by decide +kernel
theorem dX3_goThrough_15 : decode cX3_goThrough 15 = .ok (.invokevirtual 221, 3) := by decide +kernel
theorem dX3_goThrough_18 : decode cX3_goThrough 18 = .ok (.istore 6, 2) := by decide +kernel
theorem dX3_goThrough_20 : decode cX3_goThrough 20 = .ok (.aload_n 0, 1) := by decide +kernel
theorem dX3_goThrough_21 : decode cX3_goThrough 21 = .ok (.iload 6, 2) := by decide +kernel
theorem dX3_goThrough_23 : decode cX3_goThrough 23 = .ok (.invokevirtual 224, 3) := by decide +kernel
theorem dX3_goThrough_26 : decode cX3_goThrough 26 = .ok (.ifCond .ne 6, 3) := by decide +kernel
theorem dX3_goThrough_29 : decode cX3_goThrough 29 = .ok (.goto 49, 3) := by decide +kernel
theorem dX3_goThrough_32 : decode cX3_goThrough 32 = .ok (.aload_n 0, 1) := by decide +kernel
theorem dX3_goThrough_33 : decode cX3_goThrough 33 = .ok (.iload 6, 2) := by decide +kernel
theorem dX3_goThrough_35 : decode cX3_goThrough 35 = .ok (.invokevirtual 227, 3) := by decide +kernel
theorem dX3_goThrough_38 : decode cX3_goThrough 38 = .ok (.ifCond .ne 19, 3) := by decide +kernel
theorem dX3_goThrough_41 : decode cX3_goThrough 41 = .ok (.aload_n 0, 1) := by decide +kernel
theorem dX3_goThrough_42 : decode cX3_goThrough 42 = .ok (.aload_n 0, 1) := by decide +kernel
theorem dX3_goThrough_43 : decode cX3_goThrough 43 = .ok (.iload 5, 2) := by decide +kernel
theorem dX3_goThrough_45 : decode cX3_goThrough 45 = .ok (.invokevirtual 230, 3) := by decide +kernel
theorem dX3_goThrough_48 : decode cX3_goThrough 48 = .ok (.putfield 184, 3) := by decide +kernel
theorem dX3_goThrough_51 : decode cX3_goThrough 51 = .ok (.iload 4, 2) := by decide +kernel
theorem dX3_goThrough_53 : decode cX3_goThrough 53 = .ok (.bipush 100, 2) := by decide +kernel
theorem dX3_goThrough_55 : decode cX3_goThrough 55 = .ok (.isub, 1) := by decide +kernel
theorem dX3_goThrough_56 : decode cX3_goThrough 56 = .ok (.ireturn, 1) := by decide +kernel
theorem dX3_goThrough_57 : decode cX3_goThrough 57 = .ok (.iinc 4 1, 3) := by decide +kernel
theorem dX3_goThrough_60 : decode cX3_goThrough 60 = .ok (.iload 4, 2) := by decide +kernel
theorem dX3_goThrough_62 : decode cX3_goThrough 62 = .ok (.iload_n 3, 1) := by decide +kernel
theorem dX3_goThrough_63 : decode cX3_goThrough 63 = .ok (.if_icmp .ne 15, 3) := by decide +kernel
theorem dX3_goThrough_66 : decode cX3_goThrough 66 = .ok (.aload_n 0, 1) := by decide +kernel
theorem dX3_goThrough_67 : decode cX3_goThrough 67 = .ok (.getfield 26, 3) := by decide +kernel
theorem dX3_goThrough_70 : decode cX3_goThrough 70 = .ok (.iload_n 2, 1) := by decide +kernel
theorem dX3_goThrough_71 : decode cX3_goThrough 71 = .ok (.iconst 1, 1) := by decide +kernel
theorem dX3_goThrough_72 : decode cX3_goThrough 72 = .ok (.invokevirtual 169, 3) := by decide +kernel
theorem dX3_goThrough_75 : decode cX3_goThrough 75 = .ok (.iload 4, 2) := by decide +kernel
theorem dX3_goThrough_77 : decode cX3_goThrough 77 = .ok (.ireturn, 1) := by decide +kernel
theorem dX3_goThrough_78 : decode cX3_goThrough 78 = .ok (.iinc 5 1, 3) := by decide +kernel
theorem dX3_goThrough_81 : decode cX3_goThrough 81 = .ok (.goto (-75), 3) := by decide +kernel
theorem dX3_goThrough_84 : decode cX3_goThrough 84 = .ok (.aload_n 0, 1) := by decide +kernel
theorem dX3_goThrough_85 : decode cX3_goThrough 85 = .ok (.aload_n 0, 1) := by decide +kernel
theorem dX3_goThrough_86 : decode cX3_goThrough 86 = .ok (.iload_n 1, 1) := by decide +kernel
theorem dX3_goThrough_87 : decode cX3_goThrough 87 = .ok (.invokevirtual 230, 3) := by decide +kernel
theorem dX3_goThrough_90 : decode cX3_goThrough 90 = .ok (.putfield 184, 3) := by decide +kernel
theorem dX3_goThrough_93 : decode cX3_goThrough 93 = .ok (.aload_n 0, 1) := by decide +kernel
theorem dX3_goThrough_94 : decode cX3_goThrough 94 = .ok (.invokevirtual 233, 3) := by decide +kernel
theorem dX3_goThrough_97 : decode cX3_goThrough 97 = .ok (.iload 4, 2) := by decide +kernel
theorem dX3_goThrough_99 : decode cX3_goThrough 99 = .ok (.ireturn, 1) := by decide +kernel
set_option maxRecDepth 20000 in
theorem ggX3_isToBeChanged_X2_isPresent : GoodIn wsX3_isToBeChanged wsX2_isPresent := goodIn_r _ [7, 8, 26, 27] (by decide +kernel) (by decide +kernel)
set_option maxRecDepth 20000 in
theorem gX3_isToBeChanged_X2_isPresent : GoodIn wsX3_isToBeChanged (wsV RX3 93 RX2 yX2_isPresent wsX2_isPresent) := goodIn_app (goodIn_of _ (by decide +kernel)) ggX3_isToBeChanged_X2_isPresent
set_option maxRecDepth 20000 in
theorem ggX3_isToBeChanged_X2_versionOf : GoodIn wsX3_isToBeChanged wsX2_versionOf := goodIn_r _ [12, 8, 26, 27] (by decide +kernel) (by decide +kernel)
set_option maxRecDepth 20000 in
theorem gX3_isToBeChanged_X2_versionOf : GoodIn wsX3_isToBeChanged (wsV RX3 119 RX2 yX2_versionOf wsX2_versionOf) := goodIn_app (goodIn_of _ (by decide +kernel)) ggX3_isToBeChanged_X2_versionOf
set_option maxRecDepth 20000 in
theorem ggX3_isToBeChanged_X3_activeNumber : GoodIn wsX3_isToBeChanged wsX3_activeNumber := goodIn_r _ [17, 18, 19, 20, 21, 22, 23, 24, 25] (by decide +kernel) (by decide +kernel)
set_option maxRecDepth 20000 in
theorem gX3_isToBeChanged_X3_activeNumber : GoodIn wsX3_isToBeChanged (wsV RX3 64 RX3 yX3_activeNumber wsX3_activeNumber) := goodIn_app (goodIn_of _ (by decide +kernel)) ggX3_isToBeChanged_X3_activeNumber
theorem dX3_isToBeChanged_0 : decode cX3_isToBeChanged 0 = .ok (.aload_n 0, 1) := by decide +kernel
theorem dX3_isToBeChanged_1 : decode cX3_isToBeChanged 1 = .ok (.getfield 19, 3) := by decide +kernel
theorem dX3_isToBeChanged_4 : decode cX3_isToBeChanged 4 = .ok (.iload_n 1, 1) := by decide +kernel
theorem dX3_isToBeChanged_5 : decode cX3_isToBeChanged 5 = .ok (.invokevirtual 93, 3) := by decide +kernel
theorem dX3_isToBeChanged_8 : decode cX3_isToBeChanged 8 = .ok (.ifCond .ne 5, 3) := by decide +kernel
theorem dX3_isToBeChanged_11 : decode cX3_isToBeChanged 11 = .ok (.iconst 0, 1) := by decide +kernel
theorem dX3_isToBeChanged_12 : decode cX3_isToBeChanged 12 = .ok (.ireturn, 1) := by decide +kernel
theorem dX3_isToBeChanged_13 : decode cX3_isToBeChanged 13 = .ok (.aload_n 0, 1) := by decide +kernel
theorem dX3_isToBeChanged_14 : decode cX3_isToBeChanged 14 = .ok (.getfield 19, 3) := by decide +kernel
theorem dX3_isToBeChanged_17 : decode cX3_isToBeChanged 17 = .ok (.iload_n 1, 1) := by decide +kernel
theorem dX3_isToBeChanged_18 : decode cX3_isToBeChanged 18 = .ok (.invokevirtual 119, 3) := by decide +kernel
theorem dX3_isToBeChanged_21 : decode cX3_isToBeChanged 21 = .ok (.aload_n 0, 1) := by decide +kernel
theorem dX3_isToBeChanged_22 : decode cX3_isToBeChanged 22 = .ok (.invokevirtual 64, 3) := by decide +kernel
theorem dX3_isToBeChanged_25 : decode cX3_isToBeChanged 25 = .ok (.if_icmp .lt 7, 3) := by decide +kernel
theorem dX3_isToBeChanged_28 : decode cX3_isToBeChanged 28 = .ok (.iconst 1, 1) := by decide +kernel
theorem dX3_isToBeChanged_29 : decode cX3_isToBeChanged 29 = .ok (.goto 4, 3) := by decide +kernel
theorem dX3_isToBeChanged_32 : decode cX3_isToBeChanged 32 = .ok (.iconst 0, 1) := by decide +kernel
theorem dX3_isToBeChanged_33 : decode cX3_isToBeChanged 33 = .ok (.istore_n 2, 1) := by decide +kernel
theorem dX3_isToBeChanged_34 : decode cX3_isToBeChanged 34 = .ok (.aload_n 0, 1) := by decide +kernel
theorem dX3_isToBeChanged_35 : decode cX3_isToBeChanged 35 = .ok (.getfield 34, 3) := by decide +kernel
theorem dX3_isToBeChanged_38 : decode cX3_isToBeChanged 38 = .ok (.iconst 1, 1) := by decide +kernel
theorem dX3_isToBeChanged_39 : decode cX3_isToBeChanged 39 = .ok (.if_icmp .ne 15, 3) := by decide +kernel
theorem dX3_isToBeChanged_42 : decode cX3_isToBeChanged 42 = .ok (.iload_n 2, 1) := by decide +kernel
theorem dX3_isToBeChanged_43 : decode cX3_isToBeChanged 43 = .ok (.ifCond .ne 7, 3) := by decide +kernel
theorem dX3_isToBeChanged_46 : decode cX3_isToBeChanged 46 = .ok (.iconst 1, 1) := by decide +kernel
theorem dX3_isToBeChanged_47 : decode cX3_isToBeChanged 47 = .ok (.goto 8, 3) := by decide +kernel
theorem dX3_isToBeChanged_50 : decode cX3_isToBeChanged 50 = .ok (.iconst 0, 1) := by decide +kernel
theorem dX3_isToBeChanged_51 : decode cX3_isToBeChanged 51 = .ok (.goto 4, 3) := by decide +kernel
theorem dX3_isToBeChanged_54 : decode cX3_isToBeChanged 54 = .ok (.iload_n 2, 1) := by decide +kernel
theorem dX3_isToBeChanged_55 : decode cX3_isToBeChanged 55 = .ok (.ireturn, 1) := by decide +kernel
set_option maxRecDepth 20000 in
theorem ggX3_changeRow_X2_versionOf : GoodIn wsX3_changeRow wsX2_versionOf := goodIn_r _ [8, 9, 66, 67] (by decide +kernel) (by decide +kernel)
set_option maxRecDepth 20000 in
theorem gX3_changeRow_X2_versionOf : GoodIn wsX3_changeRow (wsV RX3 119 RX2 yX2_versionOf wsX2_versionOf) := goodIn_app (goodIn_of _ (by decide +kernel)) ggX3_changeRow_X2_versionOf
set_option maxRecDepth 20000 in
theorem ggX3_changeRow_X2_copyRow : GoodIn wsX3_changeRow wsX2_copyRow := goodIn_r _ [13, 14, 15, 16, 7, 17, 18, 66, 67] (by decide +kernel) (by decide +kernel)
set_option maxRecDepth 20000 in
theorem gX3_changeRow_X2_copyRow : GoodIn wsX3_changeRow (wsV RX3 132 RX2 yX2_copyRow wsX2_copyRow) := goodIn_app (goodIn_of _ (by decide +kernel)) ggX3_changeRow_X2_copyRow
set_option maxRecDepth 20000 in
theorem ggX3_changeRow_X3_bringTried : GoodIn wsX3_changeRow wsX3_bringTried := goodIn_r _ [23, 24, 3, 25, 26, 27, 28, 29, 30, 31, 32, 33, 34, 35, 36, 22, 37, 38, 39, 40, 41, 42, 43, 44, 45, 46, 59, 60, 61, 62, 63, 64, 65, 68, 69, 70, 71, 72] (by decide +kernel) (by decide +kernel)
set_option maxRecDepth 20000 in
theorem gX3_changeRow_X3_bringTried : GoodIn wsX3_changeRow (wsV RX3 136 RX3 yX3_bringTried wsX3_bringTried) := goodIn_app (goodIn_of _ (by decide +kernel)) ggX3_changeRow_X3_bringTried
set_option maxRecDepth 20000 in
theorem ggX3_changeRow_X2_storeRow : GoodIn wsX3_changeRow wsX2_storeRow := goodIn_r _ [50, 51, 52, 53, 7, 54, 18, 66, 67] (by decide +kernel) (by decide +kernel)
set_option maxRecDepth 20000 in
theorem gX3_changeRow_X2_storeRow : GoodIn wsX3_changeRow (wsV RX3 236 RX2 yX2_storeRow wsX2_storeRow) := goodIn_app (goodIn_of _ (by decide +kernel)) ggX3_changeRow_X2_storeRow
set_option maxRecDepth 20000 in
theorem ggX3_changeRow_X2_setVersion : GoodIn wsX3_changeRow wsX2_setVersion := goodIn_r _ [58, 9, 66, 67] (by decide +kernel) (by decide +kernel)
set_option maxRecDepth 20000 in
theorem gX3_changeRow_X2_setVersion : GoodIn wsX3_changeRow (wsV RX3 105 RX2 yX2_setVersion wsX2_setVersion) := goodIn_app (goodIn_of _ (by decide +kernel)) ggX3_changeRow_X2_setVersion
theorem dX3_changeRow_0 : decode cX3_changeRow 0 = .ok (.aload_n 0, 1) := by decide +kernel
theorem dX3_changeRow_1 : decode cX3_changeRow 1 = .ok (.getfield 19, 3) := by decide +kernel
theorem dX3_changeRow_4 : decode cX3_changeRow 4 = .ok (.iload_n 1, 1) := by decide +kernel
theorem dX3_changeRow_5 : decode cX3_changeRow 5 = .ok (.invokevirtual 119, 3) := by decide +kernel
theorem dX3_changeRow_8 : decode cX3_changeRow 8 = .ok (.istore_n 2, 1) := by decide +kernel
theorem dX3_changeRow_9 : decode cX3_changeRow 9 = .ok (.aload_n 0, 1) := by decide +kernel
theorem dX3_changeRow_10 : decode cX3_changeRow 10 = .ok (.getfield 34, 3) := by decide +kernel
theorem dX3_changeRow_13 : decode cX3_changeRow 13 = .ok (.iconst 1, 1) := by decide +kernel
theorem dX3_changeRow_14 : decode cX3_changeRow 14 = .ok (.if_icmp .ne 9, 3) := by decide +kernel
theorem dX3_changeRow_17 : decode cX3_changeRow 17 = .ok (.iload_n 2, 1) := by decide +kernel
theorem dX3_changeRow_18 : decode cX3_changeRow 18 = .ok (.iconst 1, 1) := by decide +kernel
theorem dX3_changeRow_19 : decode cX3_changeRow 19 = .ok (.iadd, 1) := by decide +kernel
theorem dX3_changeRow_20 : decode cX3_changeRow 20 = .ok (.goto 6, 3) := by decide +kernel
theorem dX3_changeRow_23 : decode cX3_changeRow 23 = .ok (.iload_n 2, 1) := by decide +kernel
theorem dX3_changeRow_24 : decode cX3_changeRow 24 = .ok (.iconst 1, 1) := by decide +kernel
theorem dX3_changeRow_25 : decode cX3_changeRow 25 = .ok (.isub, 1) := by decide +kernel
theorem dX3_changeRow_26 : decode cX3_changeRow 26 = .ok (.istore_n 3, 1) := by decide +kernel
theorem dX3_changeRow_27 : decode cX3_changeRow 27 = .ok (.aload_n 0, 1) := by decide +kernel
theorem dX3_changeRow_28 : decode cX3_changeRow 28 = .ok (.getfield 19, 3) := by decide +kernel
theorem dX3_changeRow_31 : decode cX3_changeRow 31 = .ok (.iload_n 1, 1) := by decide +kernel
theorem dX3_changeRow_32 : decode cX3_changeRow 32 = .ok (.aload_n 0, 1) := by decide +kernel
theorem dX3_changeRow_33 : decode cX3_changeRow 33 = .ok (.getfield 30, 3) := by decide +kernel
theorem dX3_changeRow_36 : decode cX3_changeRow 36 = .ok (.invokevirtual 132, 3) := by decide +kernel
theorem dX3_changeRow_39 : decode cX3_changeRow 39 = .ok (.aload_n 0, 1) := by decide +kernel
theorem dX3_changeRow_40 : decode cX3_changeRow 40 = .ok (.iload_n 2, 1) := by decide +kernel
theorem dX3_changeRow_41 : decode cX3_changeRow 41 = .ok (.iload_n 3, 1) := by decide +kernel
theorem dX3_changeRow_42 : decode cX3_changeRow 42 = .ok (.invokevirtual 136, 3) := by decide +kernel
theorem dX3_changeRow_45 : decode cX3_changeRow 45 = .ok (.ifCond .ne 5, 3) := by decide +kernel
theorem dX3_changeRow_48 : decode cX3_changeRow 48 = .ok (.iconst 0, 1) := by decide +kernel
theorem dX3_changeRow_49 : decode cX3_changeRow 49 = .ok (.ireturn, 1) := by decide +kernel
theorem dX3_changeRow_50 : decode cX3_changeRow 50 = .ok (.aload_n 0, 1) := by decide +kernel
theorem dX3_changeRow_51 : decode cX3_changeRow 51 = .ok (.getfield 19, 3) := by decide +kernel
theorem dX3_changeRow_54 : decode cX3_changeRow 54 = .ok (.iload_n 1, 1) := by decide +kernel
theorem dX3_changeRow_55 : decode cX3_changeRow 55 = .ok (.aload_n 0, 1) := by decide +kernel
theorem dX3_changeRow_56 : decode cX3_changeRow 56 = .ok (.getfield 30, 3) := by decide +kernel
theorem dX3_changeRow_59 : decode cX3_changeRow 59 = .ok (.invokevirtual 236, 3) := by decide +kernel
theorem dX3_changeRow_62 : decode cX3_changeRow 62 = .ok (.aload_n 0, 1) := by decide +kernel
theorem dX3_changeRow_63 : decode cX3_changeRow 63 = .ok (.getfield 19, 3) := by decide +kernel
theorem dX3_changeRow_66 : decode cX3_changeRow 66 = .ok (.iload_n 1, 1) := by decide +kernel
theorem dX3_changeRow_67 : decode cX3_changeRow 67 = .ok (.iload_n 3, 1) := by decide +kernel
theorem dX3_changeRow_68 : decode cX3_changeRow 68 = .ok (.invokevirtual 105, 3) := by decide +kernel
theorem dX3_changeRow_71 : decode cX3_changeRow 71 = .ok (.iconst 1, 1) := by decide +kernel
theorem dX3_changeRow_72 : decode cX3_changeRow 72 = .ok (.ireturn, 1) := by decide +kernel
set_option maxRecDepth 20000 in
theorem ggX3_endIfAllPassed_X3_idsLeft : GoodIn wsX3_endIfAllPassed wsX3_idsLeft := goodIn_r _ [7, 1, 8, 9, 10, 11, 12, 13, 14, 15] (by decide +kernel) (by decide +kernel)
set_option maxRecDepth 20000 in
theorem gX3_endIfAllPassed_X3_idsLeft : GoodIn wsX3_endIfAllPassed (wsV RX3 202 RX3 yX3_idsLeft wsX3_idsLeft) := goodIn_app (goodIn_of _ (by decide +kernel)) ggX3_endIfAllPassed_X3_idsLeft
theorem dX3_endIfAllPassed_0 : decode cX3_endIfAllPassed 0 = .ok (.aload_n 0, 1) := by decide +kernel
theorem dX3_endIfAllPassed_1 : decode cX3_endIfAllPassed 1 = .ok (.invokevirtual 202, 3) := by decide +kernel
theorem dX3_endIfAllPassed_4 : decode cX3_endIfAllPassed 4 = .ok (.ifCond .le 4, 3) := by decide +kernel
theorem dX3_endIfAllPassed_7 : decode cX3_endIfAllPassed 7 = .ok (.return_, 1) := by decide +kernel
theorem dX3_endIfAllPassed_8 : decode cX3_endIfAllPassed 8 = .ok (.aload_n 0, 1) := by decide +kernel
theorem dX3_endIfAllPassed_9 : decode cX3_endIfAllPassed 9 = .ok (.getfield 34, 3) := by decide +kernel
theorem dX3_endIfAllPassed_12 : decode cX3_endIfAllPassed 12 = .ok (.iconst 1, 1) := by decide +kernel
theorem dX3_endIfAllPassed_13 : decode cX3_endIfAllPassed 13 = .ok (.if_icmp .ne 13, 3) := by decide +kernel
theorem dX3_endIfAllPassed_16 : decode cX3_endIfAllPassed 16 = .ok (.aload_n 0, 1) := by decide +kernel
theorem dX3_endIfAllPassed_17 : decode cX3_endIfAllPassed 17 = .ok (.dup, 1) := by decide +kernel
theorem dX3_endIfAllPassed_18 : decode cX3_endIfAllPassed 18 = .ok (.getfield 81, 3) := by decide +kernel
theorem dX3_endIfAllPassed_21 : decode cX3_endIfAllPassed 21 = .ok (.iconst 1, 1) := by decide +kernel
theorem dX3_endIfAllPassed_22 : decode cX3_endIfAllPassed 22 = .ok (.iadd, 1) := by decide +kernel
theorem dX3_endIfAllPassed_23 : decode cX3_endIfAllPassed 23 = .ok (.putfield 81, 3) := by decide +kernel
theorem dX3_endIfAllPassed_26 : decode cX3_endIfAllPassed 26 = .ok (.aload_n 0, 1) := by decide +kernel
theorem dX3_endIfAllPassed_27 : decode cX3_endIfAllPassed 27 = .ok (.iconst 0, 1) := by decide +kernel
theorem dX3_endIfAllPassed_28 : decode cX3_endIfAllPassed 28 = .ok (.putfield 34, 3) := by decide +kernel
theorem dX3_endIfAllPassed_31 : decode cX3_endIfAllPassed 31 = .ok (.return_, 1) := by decide +kernel
set_option maxRecDepth 20000 in
theorem ggX3_bringTried_X0_applyTo : GoodIn wsX3_bringTried wsX0_applyTo := goodIn_r _ [7, 8, 9, 10, 11, 12, 6, 13, 14, 15, 16, 17, 18, 19, 20, 21, 33, 34, 35, 36, 37] (by decide +kernel) (by decide +kernel)
set_option maxRecDepth 20000 in
theorem gX3_bringTried_X0_applyTo : GoodIn wsX3_bringTried (wsV RX3 239 RX0 yX0_applyTo wsX0_applyTo) := goodIn_app (goodIn_of _ (by decide +kernel)) ggX3_bringTried_X0_applyTo
set_option maxRecDepth 20000 in
theorem ggX3_bringTried_X0_undoOn : GoodIn wsX3_bringTried wsX0_undoOn := goodIn_r _ [25, 8, 9, 10, 11, 12, 6, 13, 14, 15, 16, 17, 18, 19, 20, 21, 33, 34, 35, 36, 37] (by decide +kernel) (by decide +kernel)
set_option maxRecDepth 20000 in
theorem gX3_bringTried_X0_undoOn : GoodIn wsX3_bringTried (wsV RX3 243 RX0 yX0_undoOn wsX0_undoOn) := goodIn_app (goodIn_of _ (by decide +kernel)) ggX3_bringTried_X0_undoOn
theorem dX3_bringTried_0 : decode cX3_bringTried 0 = .ok (.iload_n 1, 1) := by decide +kernel
theorem dX3_bringTried_1 : decode cX3_bringTried 1 = .ok (.iconst 1, 1) := by decide +kernel
theorem dX3_bringTried_2 : decode cX3_bringTried 2 = .ok (.iadd, 1) := by decide +kernel
theorem dX3_bringTried_3 : decode cX3_bringTried 3 = .ok (.istore_n 3, 1) := by decide +kernel
theorem dX3_bringTried_4 : decode cX3_bringTried 4 = .ok (.iload_n 3, 1) := by decide +kernel
theorem dX3_bringTried_5 : decode cX3_bringTried 5 = .ok (.iload_n 2, 1) := by decide +kernel
theorem dX3_bringTried_6 : decode cX3_bringTried 6 = .ok (.if_icmp .gt 26, 3) := by decide +kernel
theorem dX3_bringTried_9 : decode cX3_bringTried 9 = .ok (.aload_n 0, 1) := by decide +kernel
theorem dX3_bringTried_10 : decode cX3_bringTried 10 = .ok (.getfield 10, 3) := by decide +kernel
theorem dX3_bringTried_13 : decode cX3_bringTried 13 = .ok (.aload_n 0, 1) := by decide +kernel
theorem dX3_bringTried_14 : decode cX3_bringTried 14 = .ok (.getfield 30, 3) := by decide +kernel
theorem dX3_bringTried_17 : decode cX3_bringTried 17 = .ok (.iload_n 3, 1) := by decide +kernel
theorem dX3_bringTried_18 : decode cX3_bringTried 18 = .ok (.invokevirtual 239, 3) := by decide +kernel
theorem dX3_bringTried_21 : decode cX3_bringTried 21 = .ok (.ifCond .ne 5, 3) := by decide +kernel
theorem dX3_bringTried_24 : decode cX3_bringTried 24 = .ok (.iconst 0, 1) := by decide +kernel
theorem dX3_bringTried_25 : decode cX3_bringTried 25 = .ok (.ireturn, 1) := by decide +kernel
theorem dX3_bringTried_26 : decode cX3_bringTried 26 = .ok (.iinc 3 1, 3) := by decide +kernel
theorem dX3_bringTried_29 : decode cX3_bringTried 29 = .ok (.goto (-25), 3) := by decide +kernel
theorem dX3_bringTried_32 : decode cX3_bringTried 32 = .ok (.iload_n 1, 1) := by decide +kernel
theorem dX3_bringTried_33 : decode cX3_bringTried 33 = .ok (.istore_n 3, 1) := by decide +kernel
theorem dX3_bringTried_34 : decode cX3_bringTried 34 = .ok (.iload_n 3, 1) := by decide +kernel
theorem dX3_bringTried_35 : decode cX3_bringTried 35 = .ok (.iload_n 2, 1) := by decide +kernel
theorem dX3_bringTried_36 : decode cX3_bringTried 36 = .ok (.if_icmp .le 26, 3) := by decide +kernel
theorem dX3_bringTried_39 : decode cX3_bringTried 39 = .ok (.aload_n 0, 1) := by decide +kernel
theorem dX3_bringTried_40 : decode cX3_bringTried 40 = .ok (.getfield 10, 3) := by decide +kernel
theorem dX3_bringTried_43 : decode cX3_bringTried 43 = .ok (.aload_n 0, 1) := by decide +kernel
theorem dX3_bringTried_44 : decode cX3_bringTried 44 = .ok (.getfield 30, 3) := by decide +kernel
theorem dX3_bringTried_47 : decode cX3_bringTried 47 = .ok (.iload_n 3, 1) := by decide +kernel
theorem dX3_bringTried_48 : decode cX3_bringTried 48 = .ok (.invokevirtual 243, 3) := by decide +kernel
theorem dX3_bringTried_51 : decode cX3_bringTried 51 = .ok (.ifCond .ne 5, 3) := by decide +kernel
theorem dX3_bringTried_54 : decode cX3_bringTried 54 = .ok (.iconst 0, 1) := by decide +kernel
theorem dX3_bringTried_55 : decode cX3_bringTried 55 = .ok (.ireturn, 1) := by decide +kernel
theorem dX3_bringTried_56 : decode cX3_bringTried 56 = .ok (.iinc 3 (-1), 3) := by decide +kernel
theorem dX3_bringTried_59 : decode cX3_bringTried 59 = .ok (.goto (-25), 3) := by decide +kernel
theorem dX3_bringTried_62 : decode cX3_bringTried 62 = .ok (.iconst 1, 1) := by decide +kernel
theorem dX3_bringTried_63 : decode cX3_bringTried 63 = .ok (.ireturn, 1) := by decide +kernel
theorem dX3_isTableValue_0 : decode cX3_isTableValue 0 = .ok (.lload_n 0, 1) := by decide +kernel
theorem dX3_isTableValue_1 : decode cX3_isTableValue 1 = .ok (.ldc2_w 246, 3) := by decide +kernel
theorem dX3_isTableValue_4 : decode cX3_isTableValue 4 = .ok (.lcmp, 1) := by decide +kernel
theorem dX3_isTableValue_5 : decode cX3_isTableValue 5 = .ok (.ifCond .lt 15, 3) := by decide +kernel
theorem dX3_isTableValue_8 : decode cX3_isTableValue 8 = .ok (.lload_n 0, 1) := by decide +kernel
theorem dX3_isTableValue_9 : decode cX3_isTableValue 9 = .ok (.ldc2_w 248, 3) := by decide +kernel
theorem dX3_isTableValue_12 : decode cX3_isTableValue 12 = .ok (.lcmp, 1) := by decide +kernel
theorem dX3_isTableValue_13 : decode cX3_isTableValue 13 = .ok (.ifCond .gt 7, 3) := by decide +kernel
theorem dX3_isTableValue_16 : decode cX3_isTableValue 16 = .ok (.iconst 1, 1) := by decide +kernel
theorem dX3_isTableValue_17 : decode cX3_isTableValue 17 = .ok (.goto 4, 3) := by decide +kernel
theorem dX3_isTableValue_20 : decode cX3_isTableValue 20 = .ok (.iconst 0, 1) := by decide +kernel
theorem dX3_isTableValue_21 : decode cX3_isTableValue 21 = .ok (.ireturn, 1) := by decide +kernel
theorem dX3_isColumn_0 : decode cX3_isColumn 0 = .ok (.iload_n 0, 1) := by decide +kernel
theorem dX3_isColumn_1 : decode cX3_isColumn 1 = .ok (.ifCond .lt 12, 3) := by decide +kernel
theorem dX3_isColumn_4 : decode cX3_isColumn 4 = .ok (.iload_n 0, 1) := by decide +kernel
theorem dX3_isColumn_5 : decode cX3_isColumn 5 = .ok (.iconst 3, 1) := by decide +kernel
theorem dX3_isColumn_6 : decode cX3_isColumn 6 = .ok (.if_icmp .ge 7, 3) := by decide +kernel
theorem dX3_isColumn_9 : decode cX3_isColumn 9 = .ok (.iconst 1, 1) := by decide +kernel
theorem dX3_isColumn_10 : decode cX3_isColumn 10 = .ok (.goto 4, 3) := by decide +kernel
theorem dX3_isColumn_13 : decode cX3_isColumn 13 = .ok (.iconst 0, 1) := by decide +kernel
theorem dX3_isColumn_14 : decode cX3_isColumn 14 = .ok (.ireturn, 1) := by decide +kernel
set_option maxRecDepth 20000 in
theorem ggX3_isOperand_X3_isColumn : GoodIn wsX3_isOperand wsX3_isColumn := goodIn_r _ [4] (by decide +kernel) (by decide +kernel)
set_option maxRecDepth 20000 in
theorem gX3_isOperand_X3_isColumn : GoodIn wsX3_isOperand (va_wsS RX3 250 yX3_isColumn wsX3_isColumn) := goodIn_app (goodIn_of _ (by decide +kernel)) ggX3_isOperand_X3_isColumn
theorem dX3_isOperand_0 : decode cX3_isOperand 0 = .ok (.iload_n 0, 1) := by decide +kernel
theorem dX3_isOperand_1 : decode cX3_isOperand 1 = .ok (.lookupswitch 69 #[(0, 27), (1, 47)], 27) := by decide +kernel
theorem dX3_isOperand_28 : decode cX3_isOperand 28 = .ok (.iload_n 2, 1) := by decide +kernel
theorem dX3_isOperand_29 : decode cX3_isOperand 29 = .ok (.sipush (-1000), 3) := by decide +kernel
theorem dX3_isOperand_32 : decode cX3_isOperand 32 = .ok (.if_icmp .lt 14, 3) := by decide +kernel
theorem dX3_isOperand_35 : decode cX3_isOperand 35 = .ok (.iload_n 2, 1) := by decide +kernel
theorem dX3_isOperand_36 : decode cX3_isOperand 36 = .ok (.sipush 1000, 3) := by decide +kernel
theorem dX3_isOperand_39 : decode cX3_isOperand 39 = .ok (.if_icmp .gt 7, 3) := by decide +kernel
theorem dX3_isOperand_42 : decode cX3_isOperand 42 = .ok (.iconst 1, 1) := by decide +kernel
theorem dX3_isOperand_43 : decode cX3_isOperand 43 = .ok (.goto 4, 3) := by decide +kernel
theorem dX3_isOperand_46 : decode cX3_isOperand 46 = .ok (.iconst 0, 1) := by decide +kernel
theorem dX3_isOperand_47 : decode cX3_isOperand 47 = .ok (.ireturn, 1) := by decide +kernel
theorem dX3_isOperand_48 : decode cX3_isOperand 48 = .ok (.iload_n 2, 1) := by decide +kernel
theorem dX3_isOperand_49 : decode cX3_isOperand 49 = .ok (.bipush (-9), 2) := by decide +kernel
theorem dX3_isOperand_51 : decode cX3_isOperand 51 = .ok (.if_icmp .lt 17, 3) := by decide +kernel
theorem dX3_isOperand_54 : decode cX3_isOperand 54 = .ok (.iload_n 2, 1) := by decide +kernel
theorem dX3_isOperand_55 : decode cX3_isOperand 55 = .ok (.bipush 9, 2) := by decide +kernel
theorem dX3_isOperand_57 : decode cX3_isOperand 57 = .ok (.if_icmp .gt 11, 3) := by decide +kernel
theorem dX3_isOperand_60 : decode cX3_isOperand 60 = .ok (.iload_n 2, 1) := by decide +kernel
theorem dX3_isOperand_61 : decode cX3_isOperand 61 = .ok (.ifCond .eq 7, 3) := by decide +kernel
theorem dX3_isOperand_64 : decode cX3_isOperand 64 = .ok (.iconst 1, 1) := by decide +kernel
theorem dX3_isOperand_65 : decode cX3_isOperand 65 = .ok (.goto 4, 3) := by decide +kernel
theorem dX3_isOperand_68 : decode cX3_isOperand 68 = .ok (.iconst 0, 1) := by decide +kernel
theorem dX3_isOperand_69 : decode cX3_isOperand 69 = .ok (.ireturn, 1) := by decide +kernel
theorem dX3_isOperand_70 : decode cX3_isOperand 70 = .ok (.iload_n 2, 1) := by decide +kernel
theorem dX3_isOperand_71 : decode cX3_isOperand 71 = .ok (.invokestatic 250, 3) := by decide +kernel
theorem dX3_isOperand_74 : decode cX3_isOperand 74 = .ok (.ifCond .eq 12, 3) := by decide +kernel
theorem dX3_isOperand_77 : decode cX3_isOperand 77 = .ok (.iload_n 2, 1) := by decide +kernel
theorem dX3_isOperand_78 : decode cX3_isOperand 78 = .ok (.iload_n 1, 1) := by decide +kernel
theorem dX3_isOperand_79 : decode cX3_isOperand 79 = .ok (.if_icmp .eq 7, 3) := by decide +kernel
theorem dX3_isOperand_82 : decode cX3_isOperand 82 = .ok (.iconst 1, 1) := by decide +kernel
theorem dX3_isOperand_83 : decode cX3_isOperand 83 = .ok (.goto 4, 3) := by decide +kernel
theorem dX3_isOperand_86 : decode cX3_isOperand 86 = .ok (.iconst 0, 1) := by decide +kernel
theorem dX3_isOperand_87 : decode cX3_isOperand 87 = .ok (.ireturn, 1) := by decide +kernel
set_option maxRecDepth 20000 in
theorem ggX3_requireChangeParts_X3_requireColumn : GoodIn wsX3_requireChangeParts wsX3_requireColumn := goodIn_ca (goodIn_r _ [6, 1, 2, 7, 8, 5, 9] (by decide +kernel) (by decide +kernel)) (goodIn_sub (fun _ h => List.mem_cons_of_mem _ (List.mem_append_right _ h)) (by decide +kernel))
set_option maxRecDepth 20000 in
theorem gX3_requireChangeParts_X3_requireColumn : GoodIn wsX3_requireChangeParts (va_wsS RX3 109 yX3_requireColumn wsX3_requireColumn) := goodIn_app (goodIn_of _ (by decide +kernel)) ggX3_requireChangeParts_X3_requireColumn
set_option maxRecDepth 20000 in
theorem ggX3_requireChangeParts_X3_isOperand : GoodIn wsX3_requireChangeParts wsX3_isOperand := goodIn_r _ [12, 7, 8, 5, 9] (by decide +kernel) (by decide +kernel)
set_option maxRecDepth 20000 in
theorem gX3_requireChangeParts_X3_isOperand : GoodIn wsX3_requireChangeParts (va_wsS RX3 255 yX3_isOperand wsX3_isOperand) := goodIn_app (goodIn_of _ (by decide +kernel)) ggX3_requireChangeParts_X3_isOperand
theorem dX3_requireChangeParts_0 : decode cX3_requireChangeParts 0 = .ok (.iload_n 0, 1) := by decide +kernel
theorem dX3_requireChangeParts_1 : decode cX3_requireChangeParts 1 = .ok (.ifCond .lt 8, 3) := by decide +kernel
theorem dX3_requireChangeParts_4 : decode cX3_requireChangeParts 4 = .ok (.iload_n 0, 1) := by decide +kernel
theorem dX3_requireChangeParts_5 : decode cX3_requireChangeParts 5 = .ok (.iconst 2, 1) := by decide +kernel
theorem dX3_requireChangeParts_6 : decode cX3_requireChangeParts 6 = .ok (.if_icmp .le 13, 3) := by decide +kernel
theorem dX3_requireChangeParts_9 : decode cX3_requireChangeParts 9 = .ok (.new 122, 3) := by decide +kernel
theorem dX3_requireChangeParts_12 : decode cX3_requireChangeParts 12 = .ok (.dup, 1) := by decide +kernel
theorem dX3_requireChangeParts_13 : decode cX3_requireChangeParts 13 = .ok (.ldc 253, 2) := by decide +kernel
theorem dX3_requireChangeParts_15 : decode cX3_requireChangeParts 15 = .ok (.invokespecial 126, 3) := by decide +kernel
theorem dX3_requireChangeParts_18 : decode cX3_requireChangeParts 18 = .ok (.athrow, 1) := by decide +kernel
theorem dX3_requireChangeParts_19 : decode cX3_requireChangeParts 19 = .ok (.iload_n 1, 1) := by decide +kernel
theorem dX3_requireChangeParts_20 : decode cX3_requireChangeParts 20 = .ok (.invokestatic 109, 3) := by decide +kernel
theorem dX3_requireChangeParts_23 : decode cX3_requireChangeParts 23 = .ok (.iload_n 0, 1) := by decide +kernel
theorem dX3_requireChangeParts_24 : decode cX3_requireChangeParts 24 = .ok (.iload_n 1, 1) := by decide +kernel
theorem dX3_requireChangeParts_25 : decode cX3_requireChangeParts 25 = .ok (.iload_n 2, 1) := by decide +kernel
theorem dX3_requireChangeParts_26 : decode cX3_requireChangeParts 26 = .ok (.invokestatic 255, 3) := by decide +kernel
theorem dX3_requireChangeParts_29 : decode cX3_requireChangeParts 29 = .ok (.ifCond .ne 14, 3) := by decide +kernel
theorem dX3_requireChangeParts_32 : decode cX3_requireChangeParts 32 = .ok (.new 122, 3) := by decide +kernel
theorem dX3_requireChangeParts_35 : decode cX3_requireChangeParts 35 = .ok (.dup, 1) := by decide +kernel
theorem dX3_requireChangeParts_36 : decode cX3_requireChangeParts 36 = .ok (.ldc_w 259, 3) := by decide +kernel
theorem dX3_requireChangeParts_39 : decode cX3_requireChangeParts 39 = .ok (.invokespecial 126, 3) := by decide +kernel
theorem dX3_requireChangeParts_42 : decode cX3_requireChangeParts 42 = .ok (.athrow, 1) := by decide +kernel
theorem dX3_requireChangeParts_43 : decode cX3_requireChangeParts 43 = .ok (.return_, 1) := by decide +kernel
set_option maxRecDepth 20000 in
theorem ggX3_requireColumn_X3_isColumn : GoodIn wsX3_requireColumn wsX3_isColumn := goodIn_r _ [6] (by decide +kernel) (by decide +kernel)
set_option maxRecDepth 20000 in
theorem gX3_requireColumn_X3_isColumn : GoodIn wsX3_requireColumn (va_wsS RX3 250 yX3_isColumn wsX3_isColumn) := goodIn_app (goodIn_of _ (by decide +kernel)) ggX3_requireColumn_X3_isColumn
theorem dX3_requireColumn_0 : decode cX3_requireColumn 0 = .ok (.iload_n 0, 1) := by decide +kernel
theorem dX3_requireColumn_1 : decode cX3_requireColumn 1 = .ok (.invokestatic 250, 3) := by decide +kernel
theorem dX3_requireColumn_4 : decode cX3_requireColumn 4 = .ok (.ifCond .ne 14, 3) := by decide +kernel
theorem dX3_requireColumn_7 : decode cX3_requireColumn 7 = .ok (.new 122, 3) := by decide +kernel
theorem dX3_requireColumn_10 : decode cX3_requireColumn 10 = .ok (.dup, 1) := by decide +kernel
theorem dX3_requireColumn_11 : decode cX3_requireColumn 11 = .ok (.ldc_w 261, 3) := by decide +kernel
theorem dX3_requireColumn_14 : decode cX3_requireColumn 14 = .ok (.invokespecial 126, 3) := by decide +kernel
theorem dX3_requireColumn_17 : decode cX3_requireColumn 17 = .ok (.athrow, 1) := by decide +kernel
theorem dX3_requireColumn_18 : decode cX3_requireColumn 18 = .ok (.return_, 1) := by decide +kernel
end
section
theorem dX3_requireId_0 : decode cX3_requireId 0 = .ok (.iload_n 0, 1) := by decide +kernel
theorem dX3_requireId_1 : decode cX3_requireId 1 = .ok (.ifCond .lt 9, 3) := by decide +kernel
theorem dX3_requireId_4 : decode cX3_requireId 4 = .ok (.iload_n 0, 1) := by decide +kernel
theorem dX3_requireId_5 : decode cX3_requireId 5 = .ok (.bipush 40, 2) := by decide +kernel
theorem dX3_requireId_7 : decode cX3_requireId 7 = .ok (.if_icmp .lt 14, 3) := by decide +kernel
theorem dX3_requireId_10 : decode cX3_requireId 10 = .ok (.new 122, 3) := by decide +kernel
theorem dX3_requireId_13 : decode cX3_requireId 13 = .ok (.dup, 1) := by decide +kernel
theorem dX3_requireId_14 : decode cX3_requireId 14 = .ok (.ldc_w 263, 3) := by decide +kernel
theorem dX3_requireId_17 : decode cX3_requireId 17 = .ok (.invokespecial 126, 3) := by decide +kernel
theorem dX3_requireId_20 : decode cX3_requireId 20 = .ok (.athrow, 1) := by decide +kernel
theorem dX3_requireId_21 : decode cX3_requireId 21 = .ok (.return_, 1) := by decide +kernel
set_option maxRecDepth 20000 in
theorem ggX3_requireTableValue_X3_isTableValue : GoodIn wsX3_requireTableValue wsX3_isTableValue := goodIn_r _ [6, 7, 8] (by decide +kernel) (by decide +kernel)
set_option maxRecDepth 20000 in
theorem gX3_requireTableValue_X3_isTableValue : GoodIn wsX3_requireTableValue (va_wsS RX3 265 yX3_isTableValue wsX3_isTableValue) := goodIn_app (goodIn_of _ (by decide +kernel)) ggX3_requireTableValue_X3_isTableValue
theorem dX3_requireTableValue_0 : decode cX3_requireTableValue 0 = .ok (.iload_n 0, 1) := by decide +kernel
theorem dX3_requireTableValue_1 : decode cX3_requireTableValue 1 = .ok (.i2l, 1) := by decide +kernel
theorem dX3_requireTableValue_2 : decode cX3_requireTableValue 2 = .ok (.invokestatic 265, 3) := by decide +kernel
theorem dX3_requireTableValue_5 : decode cX3_requireTableValue 5 = .ok (.ifCond .ne 14, 3) := by decide +kernel
theorem dX3_requireTableValue_8 : decode cX3_requireTableValue 8 = .ok (.new 122, 3) := by decide +kernel
theorem dX3_requireTableValue_11 : decode cX3_requireTableValue 11 = .ok (.dup, 1) := by decide +kernel
theorem dX3_requireTableValue_12 : decode cX3_requireTableValue 12 = .ok (.ldc_w 269, 3) := by decide +kernel
theorem dX3_requireTableValue_15 : decode cX3_requireTableValue 15 = .ok (.invokespecial 126, 3) := by decide +kernel
theorem dX3_requireTableValue_18 : decode cX3_requireTableValue 18 = .ok (.athrow, 1) := by decide +kernel
theorem dX3_requireTableValue_19 : decode cX3_requireTableValue 19 = .ok (.return_, 1) := by decide +kernel
theorem dX3_requireWorker_0 : decode cX3_requireWorker 0 = .ok (.iload_n 0, 1) := by decide +kernel
theorem dX3_requireWorker_1 : decode cX3_requireWorker 1 = .ok (.ifCond .lt 8, 3) := by decide +kernel
theorem dX3_requireWorker_4 : decode cX3_requireWorker 4 = .ok (.iload_n 0, 1) := by decide +kernel
theorem dX3_requireWorker_5 : decode cX3_requireWorker 5 = .ok (.iconst 4, 1) := by decide +kernel
theorem dX3_requireWorker_6 : decode cX3_requireWorker 6 = .ok (.if_icmp .lt 14, 3) := by decide +kernel
theorem dX3_requireWorker_9 : decode cX3_requireWorker 9 = .ok (.new 122, 3) := by decide +kernel
theorem dX3_requireWorker_12 : decode cX3_requireWorker 12 = .ok (.dup, 1) := by decide +kernel
theorem dX3_requireWorker_13 : decode cX3_requireWorker 13 = .ok (.ldc_w 271, 3) := by decide +kernel
theorem dX3_requireWorker_16 : decode cX3_requireWorker 16 = .ok (.invokespecial 126, 3) := by decide +kernel
theorem dX3_requireWorker_19 : decode cX3_requireWorker 19 = .ok (.athrow, 1) := by decide +kernel
theorem dX3_requireWorker_20 : decode cX3_requireWorker 20 = .ok (.return_, 1) := by decide +kernel
set_option maxRecDepth 20000 in
theorem ggX3_requireListed_X0_contains : GoodIn wsX3_requireListed wsX0_contains := goodIn_r _ [8, 9, 17, 18, 19, 20, 21] (by decide +kernel) (by decide +kernel)
set_option maxRecDepth 20000 in
theorem gX3_requireListed_X0_contains : GoodIn wsX3_requireListed (wsV RX3 273 RX0 yX0_contains wsX0_contains) := goodIn_app (goodIn_of _ (by decide +kernel)) ggX3_requireListed_X0_contains
theorem dX3_requireListed_0 : decode cX3_requireListed 0 = .ok (.aload_n 0, 1) := by decide +kernel
theorem dX3_requireListed_1 : decode cX3_requireListed 1 = .ok (.getfield 10, 3) := by decide +kernel
theorem dX3_requireListed_4 : decode cX3_requireListed 4 = .ok (.iload_n 1, 1) := by decide +kernel
theorem dX3_requireListed_5 : decode cX3_requireListed 5 = .ok (.invokevirtual 273, 3) := by decide +kernel
theorem dX3_requireListed_8 : decode cX3_requireListed 8 = .ok (.ifCond .ne 14, 3) := by decide +kernel
theorem dX3_requireListed_11 : decode cX3_requireListed 11 = .ok (.new 276, 3) := by decide +kernel
theorem dX3_requireListed_14 : decode cX3_requireListed 14 = .ok (.dup, 1) := by decide +kernel
theorem dX3_requireListed_15 : decode cX3_requireListed 15 = .ok (.ldc_w 278, 3) := by decide +kernel
theorem dX3_requireListed_18 : decode cX3_requireListed 18 = .ok (.invokespecial 280, 3) := by decide +kernel
theorem dX3_requireListed_21 : decode cX3_requireListed 21 = .ok (.athrow, 1) := by decide +kernel
theorem dX3_requireListed_22 : decode cX3_requireListed 22 = .ok (.return_, 1) := by decide +kernel
set_option maxRecDepth 20000 in
theorem ggX3_requirePresent_X2_isPresent : GoodIn wsX3_requirePresent wsX2_isPresent := goodIn_r _ [8, 9, 17, 18] (by decide +kernel) (by decide +kernel)
set_option maxRecDepth 20000 in
theorem gX3_requirePresent_X2_isPresent : GoodIn wsX3_requirePresent (wsV RX3 93 RX2 yX2_isPresent wsX2_isPresent) := goodIn_app (goodIn_of _ (by decide +kernel)) ggX3_requirePresent_X2_isPresent
theorem dX3_requirePresent_0 : decode cX3_requirePresent 0 = .ok (.aload_n 0, 1) := by decide +kernel
theorem dX3_requirePresent_1 : decode cX3_requirePresent 1 = .ok (.getfield 19, 3) := by decide +kernel
theorem dX3_requirePresent_4 : decode cX3_requirePresent 4 = .ok (.iload_n 1, 1) := by decide +kernel
theorem dX3_requirePresent_5 : decode cX3_requirePresent 5 = .ok (.invokevirtual 93, 3) := by decide +kernel
theorem dX3_requirePresent_8 : decode cX3_requirePresent 8 = .ok (.ifCond .ne 14, 3) := by decide +kernel
theorem dX3_requirePresent_11 : decode cX3_requirePresent 11 = .ok (.new 276, 3) := by decide +kernel
theorem dX3_requirePresent_14 : decode cX3_requirePresent 14 = .ok (.dup, 1) := by decide +kernel
theorem dX3_requirePresent_15 : decode cX3_requirePresent 15 = .ok (.ldc_w 281, 3) := by decide +kernel
theorem dX3_requirePresent_18 : decode cX3_requirePresent 18 = .ok (.invokespecial 280, 3) := by decide +kernel
theorem dX3_requirePresent_21 : decode cX3_requirePresent 21 = .ok (.athrow, 1) := by decide +kernel
theorem dX3_requirePresent_22 : decode cX3_requirePresent 22 = .ok (.return_, 1) := by decide +kernel
set_option maxRecDepth 20000 in
theorem ggX3_requireNotCrashed_X1_hasCrashed : GoodIn wsX3_requireNotCrashed wsX1_hasCrashed := goodIn_r _ [8, 9, 17, 18, 19, 20] (by decide +kernel) (by decide +kernel)
set_option maxRecDepth 20000 in
theorem gX3_requireNotCrashed_X1_hasCrashed : GoodIn wsX3_requireNotCrashed (wsV RX3 164 RX1 yX1_hasCrashed wsX1_hasCrashed) := goodIn_app (goodIn_of _ (by decide +kernel)) ggX3_requireNotCrashed_X1_hasCrashed
theorem dX3_requireNotCrashed_0 : decode cX3_requireNotCrashed 0 = .ok (.aload_n 0, 1) := by decide +kernel
theorem dX3_requireNotCrashed_1 : decode cX3_requireNotCrashed 1 = .ok (.getfield 26, 3) := by decide +kernel
theorem dX3_requireNotCrashed_4 : decode cX3_requireNotCrashed 4 = .ok (.iload_n 1, 1) := by decide +kernel
theorem dX3_requireNotCrashed_5 : decode cX3_requireNotCrashed 5 = .ok (.invokevirtual 164, 3) := by decide +kernel
theorem dX3_requireNotCrashed_8 : decode cX3_requireNotCrashed 8 = .ok (.ifCond .eq 14, 3) := by decide +kernel
theorem dX3_requireNotCrashed_11 : decode cX3_requireNotCrashed 11 = .ok (.new 46, 3) := by decide +kernel
theorem dX3_requireNotCrashed_14 : decode cX3_requireNotCrashed 14 = .ok (.dup, 1) := by decide +kernel
theorem dX3_requireNotCrashed_15 : decode cX3_requireNotCrashed 15 = .ok (.ldc_w 283, 3) := by decide +kernel
theorem dX3_requireNotCrashed_18 : decode cX3_requireNotCrashed 18 = .ok (.invokespecial 50, 3) := by decide +kernel
theorem dX3_requireNotCrashed_21 : decode cX3_requireNotCrashed 21 = .ok (.athrow, 1) := by decide +kernel
theorem dX3_requireNotCrashed_22 : decode cX3_requireNotCrashed 22 = .ok (.return_, 1) := by decide +kernel
set_option maxRecDepth 20000 in
theorem ggX3_requireAtWork_X3_requireNotCrashed : GoodIn wsX3_requireAtWork wsX3_requireNotCrashed := goodIn_ca (goodIn_r _ [8, 1, 2, 3, 9, 10, 11, 12, 13, 14, 22, 23, 24, 25, 26, 27, 28, 29, 30, 31, 32] (by decide +kernel) (by decide +kernel)) (goodIn_sub (fun _ h => List.mem_cons_of_mem _ (List.mem_append_right _ h)) (by decide +kernel))
set_option maxRecDepth 20000 in
theorem gX3_requireAtWork_X3_requireNotCrashed : GoodIn wsX3_requireAtWork (wsV RX3 147 RX3 yX3_requireNotCrashed wsX3_requireNotCrashed) := goodIn_app (goodIn_of _ (by decide +kernel)) ggX3_requireAtWork_X3_requireNotCrashed
set_option maxRecDepth 20000 in
theorem ggX3_requireAtWork_X1_owner : GoodIn wsX3_requireAtWork wsX1_owner := goodIn_r _ [18, 19, 20, 21, 29, 30, 31, 32] (by decide +kernel) (by decide +kernel)
set_option maxRecDepth 20000 in
theorem gX3_requireAtWork_X1_owner : GoodIn wsX3_requireAtWork (wsV RX3 150 RX1 yX1_owner wsX1_owner) := goodIn_app (goodIn_of _ (by decide +kernel)) ggX3_requireAtWork_X1_owner
theorem dX3_requireAtWork_0 : decode cX3_requireAtWork 0 = .ok (.aload_n 0, 1) := by decide +kernel
theorem dX3_requireAtWork_1 : decode cX3_requireAtWork 1 = .ok (.iload_n 1, 1) := by decide +kernel
theorem dX3_requireAtWork_2 : decode cX3_requireAtWork 2 = .ok (.invokevirtual 147, 3) := by decide +kernel
theorem dX3_requireAtWork_5 : decode cX3_requireAtWork 5 = .ok (.aload_n 0, 1) := by decide +kernel
theorem dX3_requireAtWork_6 : decode cX3_requireAtWork 6 = .ok (.getfield 26, 3) := by decide +kernel
theorem dX3_requireAtWork_9 : decode cX3_requireAtWork 9 = .ok (.invokevirtual 150, 3) := by decide +kernel
theorem dX3_requireAtWork_12 : decode cX3_requireAtWork 12 = .ok (.iload_n 1, 1) := by decide +kernel
theorem dX3_requireAtWork_13 : decode cX3_requireAtWork 13 = .ok (.if_icmp .eq 14, 3) := by decide +kernel
theorem dX3_requireAtWork_16 : decode cX3_requireAtWork 16 = .ok (.new 46, 3) := by decide +kernel
theorem dX3_requireAtWork_19 : decode cX3_requireAtWork 19 = .ok (.dup, 1) := by decide +kernel
theorem dX3_requireAtWork_20 : decode cX3_requireAtWork 20 = .ok (.ldc_w 285, 3) := by decide +kernel
theorem dX3_requireAtWork_23 : decode cX3_requireAtWork 23 = .ok (.invokespecial 50, 3) := by decide +kernel
theorem dX3_requireAtWork_26 : decode cX3_requireAtWork 26 = .ok (.athrow, 1) := by decide +kernel
theorem dX3_requireAtWork_27 : decode cX3_requireAtWork 27 = .ok (.return_, 1) := by decide +kernel
set_option maxRecDepth 20000 in
theorem ggX3_requireActive_X3_isActive : GoodIn wsX3_requireActive wsX3_isActive := goodIn_r _ [7, 8, 9, 10, 11, 12, 13, 14, 15] (by decide +kernel) (by decide +kernel)
set_option maxRecDepth 20000 in
theorem gX3_requireActive_X3_isActive : GoodIn wsX3_requireActive (wsV RX3 61 RX3 yX3_isActive wsX3_isActive) := goodIn_app (goodIn_of _ (by decide +kernel)) ggX3_requireActive_X3_isActive
theorem dX3_requireActive_0 : decode cX3_requireActive 0 = .ok (.aload_n 0, 1) := by decide +kernel
theorem dX3_requireActive_1 : decode cX3_requireActive 1 = .ok (.invokevirtual 61, 3) := by decide +kernel
theorem dX3_requireActive_4 : decode cX3_requireActive 4 = .ok (.ifCond .ne 14, 3) := by decide +kernel
theorem dX3_requireActive_7 : decode cX3_requireActive 7 = .ok (.new 46, 3) := by decide +kernel
theorem dX3_requireActive_10 : decode cX3_requireActive 10 = .ok (.dup, 1) := by decide +kernel
theorem dX3_requireActive_11 : decode cX3_requireActive 11 = .ok (.ldc_w 287, 3) := by decide +kernel
theorem dX3_requireActive_14 : decode cX3_requireActive 14 = .ok (.invokespecial 50, 3) := by decide +kernel
theorem dX3_requireActive_17 : decode cX3_requireActive 17 = .ok (.athrow, 1) := by decide +kernel
theorem dX3_requireActive_18 : decode cX3_requireActive 18 = .ok (.return_, 1) := by decide +kernel
set_option maxRecDepth 20000 in
theorem ggX3_requireUndoableDone_X0_hasDrifted : GoodIn wsX3_requireUndoableDone wsX0_hasDrifted := goodIn_r _ [9, 10, 11, 12, 13, 8, 14, 15, 16, 17, 18, 26, 27, 28, 29, 30] (by decide +kernel) (by decide +kernel)
set_option maxRecDepth 20000 in
theorem gX3_requireUndoableDone_X0_hasDrifted : GoodIn wsX3_requireUndoableDone (wsV RX3 291 RX0 yX0_hasDrifted wsX0_hasDrifted) := goodIn_app (goodIn_of _ (by decide +kernel)) ggX3_requireUndoableDone_X0_hasDrifted
theorem dX3_requireUndoableDone_0 : decode cX3_requireUndoableDone 0 = .ok (.aload_n 0, 1) := by decide +kernel
theorem dX3_requireUndoableDone_1 : decode cX3_requireUndoableDone 1 = .ok (.getfield 81, 3) := by decide +kernel
theorem dX3_requireUndoableDone_4 : decode cX3_requireUndoableDone 4 = .ok (.ifCond .ne 14, 3) := by decide +kernel
theorem dX3_requireUndoableDone_7 : decode cX3_requireUndoableDone 7 = .ok (.new 46, 3) := by decide +kernel
theorem dX3_requireUndoableDone_10 : decode cX3_requireUndoableDone 10 = .ok (.dup, 1) := by decide +kernel
theorem dX3_requireUndoableDone_11 : decode cX3_requireUndoableDone 11 = .ok (.ldc_w 289, 3) := by decide +kernel
theorem dX3_requireUndoableDone_14 : decode cX3_requireUndoableDone 14 = .ok (.invokespecial 50, 3) := by decide +kernel
theorem dX3_requireUndoableDone_17 : decode cX3_requireUndoableDone 17 = .ok (.athrow, 1) := by decide +kernel
theorem dX3_requireUndoableDone_18 : decode cX3_requireUndoableDone 18 = .ok (.aload_n 0, 1) := by decide +kernel
theorem dX3_requireUndoableDone_19 : decode cX3_requireUndoableDone 19 = .ok (.getfield 10, 3) := by decide +kernel
theorem dX3_requireUndoableDone_22 : decode cX3_requireUndoableDone 22 = .ok (.aload_n 0, 1) := by decide +kernel
theorem dX3_requireUndoableDone_23 : decode cX3_requireUndoableDone 23 = .ok (.getfield 81, 3) := by decide +kernel
theorem dX3_requireUndoableDone_26 : decode cX3_requireUndoableDone 26 = .ok (.invokevirtual 291, 3) := by decide +kernel
theorem dX3_requireUndoableDone_29 : decode cX3_requireUndoableDone 29 = .ok (.ifCond .eq 14, 3) := by decide +kernel
theorem dX3_requireUndoableDone_32 : decode cX3_requireUndoableDone 32 = .ok (.new 46, 3) := by decide +kernel
theorem dX3_requireUndoableDone_35 : decode cX3_requireUndoableDone 35 = .ok (.dup, 1) := by decide +kernel
theorem dX3_requireUndoableDone_36 : decode cX3_requireUndoableDone 36 = .ok (.ldc_w 294, 3) := by decide +kernel
theorem dX3_requireUndoableDone_39 : decode cX3_requireUndoableDone 39 = .ok (.invokespecial 50, 3) := by decide +kernel
theorem dX3_requireUndoableDone_42 : decode cX3_requireUndoableDone 42 = .ok (.athrow, 1) := by decide +kernel
theorem dX3_requireUndoableDone_43 : decode cX3_requireUndoableDone 43 = .ok (.return_, 1) := by decide +kernel
theorem dX4_init_0 : decode cX4_init 0 = .ok (.aload_n 0, 1) := by decide +kernel
theorem dX4_init_1 : decode cX4_init 1 = .ok (.invokespecial 1, 3) := by decide +kernel
theorem dX4_init_4 : decode cX4_init 4 = .ok (.aload_n 0, 1) := by decide +kernel
theorem dX4_init_5 : decode cX4_init 5 = .ok (.bipush 13, 2) := by decide +kernel
theorem dX4_init_7 : decode cX4_init 7 = .ok (.newarray .int, 2) := by decide +kernel
theorem dX4_init_9 : decode cX4_init 9 = .ok (.putfield 7, 3) := by decide +kernel
theorem dX4_init_12 : decode cX4_init 12 = .ok (.aload_n 0, 1) := by decide +kernel
theorem dX4_init_13 : decode cX4_init 13 = .ok (.bipush 13, 2) := by decide +kernel
theorem dX4_init_15 : decode cX4_init 15 = .ok (.newarray .int, 2) := by decide +kernel
theorem dX4_init_17 : decode cX4_init 17 = .ok (.putfield 13, 3) := by decide +kernel
theorem dX4_init_20 : decode cX4_init 20 = .ok (.aload_n 0, 1) := by decide +kernel
theorem dX4_init_21 : decode cX4_init 21 = .ok (.bipush 13, 2) := by decide +kernel
theorem dX4_init_23 : decode cX4_init 23 = .ok (.newarray .int, 2) := by decide +kernel
theorem dX4_init_25 : decode cX4_init 25 = .ok (.putfield 16, 3) := by decide +kernel
theorem dX4_init_28 : decode cX4_init 28 = .ok (.aload_n 0, 1) := by decide +kernel
theorem dX4_init_29 : decode cX4_init 29 = .ok (.bipush 13, 2) := by decide +kernel
theorem dX4_init_31 : decode cX4_init 31 = .ok (.newarray .int, 2) := by decide +kernel
theorem dX4_init_33 : decode cX4_init 33 = .ok (.putfield 19, 3) := by decide +kernel
theorem dX4_init_36 : decode cX4_init 36 = .ok (.aload_n 0, 1) := by decide +kernel
theorem dX4_init_37 : decode cX4_init 37 = .ok (.bipush 40, 2) := by decide +kernel
theorem dX4_init_39 : decode cX4_init 39 = .ok (.newarray .int, 2) := by decide +kernel
theorem dX4_init_41 : decode cX4_init 41 = .ok (.putfield 22, 3) := by decide +kernel
theorem dX4_init_44 : decode cX4_init 44 = .ok (.aload_n 0, 1) := by decide +kernel
theorem dX4_init_45 : decode cX4_init 45 = .ok (.bipush 120, 2) := by decide +kernel
theorem dX4_init_47 : decode cX4_init 47 = .ok (.newarray .int, 2) := by decide +kernel
theorem dX4_init_49 : decode cX4_init 49 = .ok (.putfield 25, 3) := by decide +kernel
theorem dX4_init_52 : decode cX4_init 52 = .ok (.aload_n 0, 1) := by decide +kernel
theorem dX4_init_53 : decode cX4_init 53 = .ok (.iconst 3, 1) := by decide +kernel
theorem dX4_init_54 : decode cX4_init 54 = .ok (.newarray .long, 2) := by decide +kernel
theorem dX4_init_56 : decode cX4_init 56 = .ok (.putfield 28, 3) := by decide +kernel
theorem dX4_init_59 : decode cX4_init 59 = .ok (.aload_n 0, 1) := by decide +kernel
theorem dX4_init_60 : decode cX4_init 60 = .ok (.iconst (-1), 1) := by decide +kernel
theorem dX4_init_61 : decode cX4_init 61 = .ok (.putfield 32, 3) := by decide +kernel
theorem dX4_init_64 : decode cX4_init 64 = .ok (.aload_n 0, 1) := by decide +kernel
theorem dX4_init_65 : decode cX4_init 65 = .ok (.iconst 4, 1) := by decide +kernel
theorem dX4_init_66 : decode cX4_init 66 = .ok (.newarray .boolean, 2) := by decide +kernel
theorem dX4_init_68 : decode cX4_init 68 = .ok (.putfield 36, 3) := by decide +kernel
theorem dX4_init_71 : decode cX4_init 71 = .ok (.iconst 0, 1) := by decide +kernel
theorem dX4_init_72 : decode cX4_init 72 = .ok (.istore_n 1, 1) := by decide +kernel
theorem dX4_init_73 : decode cX4_init 73 = .ok (.iload_n 1, 1) := by decide +kernel
theorem dX4_init_74 : decode cX4_init 74 = .ok (.bipush 40, 2) := by decide +kernel
theorem dX4_init_76 : decode cX4_init 76 = .ok (.if_icmp .ge 16, 3) := by decide +kernel
theorem dX4_init_79 : decode cX4_init 79 = .ok (.aload_n 0, 1) := by decide +kernel
theorem dX4_init_80 : decode cX4_init 80 = .ok (.getfield 22, 3) := by decide +kernel
theorem dX4_init_83 : decode cX4_init 83 = .ok (.iload_n 1, 1) := by decide +kernel
theorem dX4_init_84 : decode cX4_init 84 = .ok (.iconst (-1), 1) := by decide +kernel
theorem dX4_init_85 : decode cX4_init 85 = .ok (.iastore, 1) := by decide +kernel
theorem dX4_init_86 : decode cX4_init 86 = .ok (.iinc 1 1, 3) := by decide +kernel
theorem dX4_init_89 : decode cX4_init 89 = .ok (.goto (-16), 3) := by decide +kernel
theorem dX4_init_92 : decode cX4_init 92 = .ok (.return_, 1) := by decide +kernel
theorem dX4_thrown_0 : decode cX4_thrown 0 = .ok (.aload_n 0, 1) := by decide +kernel
theorem dX4_thrown_1 : decode cX4_thrown 1 = .ok (.getfield 40, 3) := by decide +kernel
theorem dX4_thrown_4 : decode cX4_thrown 4 = .ok (.ireturn, 1) := by decide +kernel
theorem dX4_refused_0 : decode cX4_refused 0 = .ok (.aload_n 0, 1) := by decide +kernel
theorem dX4_refused_1 : decode cX4_refused 1 = .ok (.iload_n 1, 1) := by decide +kernel
theorem dX4_refused_2 : decode cX4_refused 2 = .ok (.putfield 40, 3) := by decide +kernel
theorem dX4_refused_5 : decode cX4_refused 5 = .ok (.iload_n 1, 1) := by decide +kernel
theorem dX4_refused_6 : decode cX4_refused 6 = .ok (.ifCond .eq 7, 3) := by decide +kernel
theorem dX4_refused_9 : decode cX4_refused 9 = .ok (.iconst 1, 1) := by decide +kernel
theorem dX4_refused_10 : decode cX4_refused 10 = .ok (.goto 4, 3) := by decide +kernel
theorem dX4_refused_13 : decode cX4_refused 13 = .ok (.iconst 0, 1) := by decide +kernel
theorem dX4_refused_14 : decode cX4_refused 14 = .ok (.ireturn, 1) := by decide +kernel
theorem dX4_fine_0 : decode cX4_fine 0 = .ok (.aload_n 0, 1) := by decide +kernel
theorem dX4_fine_1 : decode cX4_fine 1 = .ok (.iconst 0, 1) := by decide +kernel
theorem dX4_fine_2 : decode cX4_fine 2 = .ok (.putfield 40, 3) := by decide +kernel
theorem dX4_fine_5 : decode cX4_fine 5 = .ok (.iload_n 1, 1) := by decide +kernel
theorem dX4_fine_6 : decode cX4_fine 6 = .ok (.ireturn, 1) := by decide +kernel
theorem dX4_in_0 : decode cX4_in 0 = .ok (.iload_n 0, 1) := by decide +kernel
theorem dX4_in_1 : decode cX4_in 1 = .ok (.iload_n 1, 1) := by decide +kernel
theorem dX4_in_2 : decode cX4_in 2 = .ok (.if_icmp .lt 12, 3) := by decide +kernel
theorem dX4_in_5 : decode cX4_in 5 = .ok (.iload_n 0, 1) := by decide +kernel
theorem dX4_in_6 : decode cX4_in 6 = .ok (.iload_n 2, 1) := by decide +kernel
theorem dX4_in_7 : decode cX4_in 7 = .ok (.if_icmp .gt 7, 3) := by decide +kernel
theorem dX4_in_10 : decode cX4_in 10 = .ok (.iconst 1, 1) := by decide +kernel
theorem dX4_in_11 : decode cX4_in 11 = .ok (.goto 4, 3) := by decide +kernel
theorem dX4_in_14 : decode cX4_in 14 = .ok (.iconst 0, 1) := by decide +kernel
theorem dX4_in_15 : decode cX4_in 15 = .ok (.ireturn, 1) := by decide +kernel
theorem dX4_isValue_0 : decode cX4_isValue 0 = .ok (.lload_n 0, 1) := by decide +kernel
theorem dX4_isValue_1 : decode cX4_isValue 1 = .ok (.ldc2_w 43, 3) := by decide +kernel
theorem dX4_isValue_4 : decode cX4_isValue 4 = .ok (.lcmp, 1) := by decide +kernel
theorem dX4_isValue_5 : decode cX4_isValue 5 = .ok (.ifCond .lt 15, 3) := by decide +kernel
theorem dX4_isValue_8 : decode cX4_isValue 8 = .ok (.lload_n 0, 1) := by decide +kernel
theorem dX4_isValue_9 : decode cX4_isValue 9 = .ok (.ldc2_w 45, 3) := by decide +kernel
theorem dX4_isValue_12 : decode cX4_isValue 12 = .ok (.lcmp, 1) := by decide +kernel
theorem dX4_isValue_13 : decode cX4_isValue 13 = .ok (.ifCond .gt 7, 3) := by decide +kernel
theorem dX4_isValue_16 : decode cX4_isValue 16 = .ok (.iconst 1, 1) := by decide +kernel
theorem dX4_isValue_17 : decode cX4_isValue 17 = .ok (.goto 4, 3) := by decide +kernel
theorem dX4_isValue_20 : decode cX4_isValue 20 = .ok (.iconst 0, 1) := by decide +kernel
theorem dX4_isValue_21 : decode cX4_isValue 21 = .ok (.ireturn, 1) := by decide +kernel
set_option maxRecDepth 20000 in
theorem ggX4_isChange_X4_in : GoodIn wsX4_isChange wsX4_in := goodIn_r _ [4] (by decide +kernel) (by decide +kernel)
set_option maxRecDepth 20000 in
theorem gX4_isChange_X4_in : GoodIn wsX4_isChange (va_wsS RX4 47 yX4_in wsX4_in) := goodIn_app (goodIn_of _ (by decide +kernel)) ggX4_isChange_X4_in
theorem dX4_isChange_0 : decode cX4_isChange 0 = .ok (.iload_n 0, 1) := by decide +kernel
theorem dX4_isChange_1 : decode cX4_isChange 1 = .ok (.iconst 0, 1) := by decide +kernel
theorem dX4_isChange_2 : decode cX4_isChange 2 = .ok (.iconst 2, 1) := by decide +kernel
theorem dX4_isChange_3 : decode cX4_isChange 3 = .ok (.invokestatic 47, 3) := by decide +kernel
theorem dX4_isChange_6 : decode cX4_isChange 6 = .ok (.ifCond .eq 16, 3) := by decide +kernel
theorem dX4_isChange_9 : decode cX4_isChange 9 = .ok (.iload_n 1, 1) := by decide +kernel
theorem dX4_isChange_10 : decode cX4_isChange 10 = .ok (.iconst 0, 1) := by decide +kernel
theorem dX4_isChange_11 : decode cX4_isChange 11 = .ok (.iconst 2, 1) := by decide +kernel
theorem dX4_isChange_12 : decode cX4_isChange 12 = .ok (.invokestatic 47, 3) := by decide +kernel
theorem dX4_isChange_15 : decode cX4_isChange 15 = .ok (.ifCond .eq 7, 3) := by decide +kernel
theorem dX4_isChange_18 : decode cX4_isChange 18 = .ok (.iconst 1, 1) := by decide +kernel
theorem dX4_isChange_19 : decode cX4_isChange 19 = .ok (.goto 4, 3) := by decide +kernel
theorem dX4_isChange_22 : decode cX4_isChange 22 = .ok (.iconst 0, 1) := by decide +kernel
theorem dX4_isChange_23 : decode cX4_isChange 23 = .ok (.istore_n 3, 1) := by decide +kernel
theorem dX4_isChange_24 : decode cX4_isChange 24 = .ok (.iload_n 3, 1) := by decide +kernel
theorem dX4_isChange_25 : decode cX4_isChange 25 = .ok (.ifCond .eq 64, 3) := by decide +kernel
theorem dX4_isChange_28 : decode cX4_isChange 28 = .ok (.iload_n 0, 1) := by decide +kernel
theorem dX4_isChange_29 : decode cX4_isChange 29 = .ok (.ifCond .ne 19, 3) := by decide +kernel
theorem dX4_isChange_32 : decode cX4_isChange 32 = .ok (.iload_n 2, 1) := by decide +kernel
theorem dX4_isChange_33 : decode cX4_isChange 33 = .ok (.sipush (-1000), 3) := by decide +kernel
theorem dX4_isChange_36 : decode cX4_isChange 36 = .ok (.sipush 1000, 3) := by decide +kernel
theorem dX4_isChange_39 : decode cX4_isChange 39 = .ok (.invokestatic 47, 3) := by decide +kernel
theorem dX4_isChange_42 : decode cX4_isChange 42 = .ok (.ifCond .eq 47, 3) := by decide +kernel
theorem dX4_isChange_45 : decode cX4_isChange 45 = .ok (.goto 40, 3) := by decide +kernel
theorem dX4_isChange_48 : decode cX4_isChange 48 = .ok (.iload_n 0, 1) := by decide +kernel
theorem dX4_isChange_49 : decode cX4_isChange 49 = .ok (.iconst 1, 1) := by decide +kernel
theorem dX4_isChange_50 : decode cX4_isChange 50 = .ok (.if_icmp .ne 21, 3) := by decide +kernel
theorem dX4_isChange_53 : decode cX4_isChange 53 = .ok (.iload_n 2, 1) := by decide +kernel
theorem dX4_isChange_54 : decode cX4_isChange 54 = .ok (.bipush (-9), 2) := by decide +kernel
theorem dX4_isChange_56 : decode cX4_isChange 56 = .ok (.bipush 9, 2) := by decide +kernel
theorem dX4_isChange_58 : decode cX4_isChange 58 = .ok (.invokestatic 47, 3) := by decide +kernel
theorem dX4_isChange_61 : decode cX4_isChange 61 = .ok (.ifCond .eq 28, 3) := by decide +kernel
theorem dX4_isChange_64 : decode cX4_isChange 64 = .ok (.iload_n 2, 1) := by decide +kernel
theorem dX4_isChange_65 : decode cX4_isChange 65 = .ok (.ifCond .eq 24, 3) := by decide +kernel
theorem dX4_isChange_68 : decode cX4_isChange 68 = .ok (.goto 17, 3) := by decide +kernel
theorem dX4_isChange_71 : decode cX4_isChange 71 = .ok (.iload_n 2, 1) := by decide +kernel
theorem dX4_isChange_72 : decode cX4_isChange 72 = .ok (.iconst 0, 1) := by decide +kernel
theorem dX4_isChange_73 : decode cX4_isChange 73 = .ok (.iconst 2, 1) := by decide +kernel
theorem dX4_isChange_74 : decode cX4_isChange 74 = .ok (.invokestatic 47, 3) := by decide +kernel
theorem dX4_isChange_77 : decode cX4_isChange 77 = .ok (.ifCond .eq 12, 3) := by decide +kernel
theorem dX4_isChange_80 : decode cX4_isChange 80 = .ok (.iload_n 2, 1) := by decide +kernel
theorem dX4_isChange_81 : decode cX4_isChange 81 = .ok (.iload_n 1, 1) := by decide +kernel
theorem dX4_isChange_82 : decode cX4_isChange 82 = .ok (.if_icmp .eq 7, 3) := by decide +kernel
theorem dX4_isChange_85 : decode cX4_isChange 85 = .ok (.iconst 1, 1) := by decide +kernel
theorem dX4_isChange_86 : decode cX4_isChange 86 = .ok (.goto 4, 3) := by decide +kernel
theorem dX4_isChange_89 : decode cX4_isChange 89 = .ok (.iconst 0, 1) := by decide +kernel
theorem dX4_isChange_90 : decode cX4_isChange 90 = .ok (.ireturn, 1) := by decide +kernel
theorem dX4_sumOf_0 : decode cX4_sumOf 0 = .ok (.aload_n 0, 1) := by decide +kernel
theorem dX4_sumOf_1 : decode cX4_sumOf 1 = .ok (.getfield 7, 3) := by decide +kernel
theorem dX4_sumOf_4 : decode cX4_sumOf 4 = .ok (.iload_n 1, 1) := by decide +kernel
theorem dX4_sumOf_5 : decode cX4_sumOf 5 = .ok (.iaload, 1) := by decide +kernel
theorem dX4_sumOf_6 : decode cX4_sumOf 6 = .ok (.bipush 31, 2) := by decide +kernel
theorem dX4_sumOf_8 : decode cX4_sumOf 8 = .ok (.imul, 1) := by decide +kernel
theorem dX4_sumOf_9 : decode cX4_sumOf 9 = .ok (.aload_n 0, 1) := by decide +kernel
theorem dX4_sumOf_10 : decode cX4_sumOf 10 = .ok (.getfield 13, 3) := by decide +kernel
theorem dX4_sumOf_13 : decode cX4_sumOf 13 = .ok (.iload_n 1, 1) := by decide +kernel
theorem dX4_sumOf_14 : decode cX4_sumOf 14 = .ok (.iaload, 1) := by decide +kernel
theorem dX4_sumOf_15 : decode cX4_sumOf 15 = .ok (.iadd, 1) := by decide +kernel
theorem dX4_sumOf_16 : decode cX4_sumOf 16 = .ok (.sipush 2003, 3) := by decide +kernel
theorem dX4_sumOf_19 : decode cX4_sumOf 19 = .ok (.imul, 1) := by decide +kernel
theorem dX4_sumOf_20 : decode cX4_sumOf 20 = .ok (.aload_n 0, 1) := by decide +kernel
theorem dX4_sumOf_21 : decode cX4_sumOf 21 = .ok (.getfield 16, 3) := by decide +kernel
theorem dX4_sumOf_24 : decode cX4_sumOf 24 = .ok (.iload_n 1, 1) := by decide +kernel
theorem dX4_sumOf_25 : decode cX4_sumOf 25 = .ok (.iaload, 1) := by decide +kernel
theorem dX4_sumOf_26 : decode cX4_sumOf 26 = .ok (.iadd, 1) := by decide +kernel
theorem dX4_sumOf_27 : decode cX4_sumOf 27 = .ok (.sipush 1001, 3) := by decide +kernel
theorem dX4_sumOf_30 : decode cX4_sumOf 30 = .ok (.iadd, 1) := by decide +kernel
theorem dX4_sumOf_31 : decode cX4_sumOf 31 = .ok (.bipush 7, 2) := by decide +kernel
theorem dX4_sumOf_33 : decode cX4_sumOf 33 = .ok (.imul, 1) := by decide +kernel
theorem dX4_sumOf_34 : decode cX4_sumOf 34 = .ok (.iload_n 1, 1) := by decide +kernel
theorem dX4_sumOf_35 : decode cX4_sumOf 35 = .ok (.iadd, 1) := by decide +kernel
theorem dX4_sumOf_36 : decode cX4_sumOf 36 = .ok (.ldc 51, 2) := by decide +kernel
theorem dX4_sumOf_38 : decode cX4_sumOf 38 = .ok (.irem, 1) := by decide +kernel
theorem dX4_sumOf_39 : decode cX4_sumOf 39 = .ok (.ireturn, 1) := by decide +kernel
theorem dX4_put_0 : decode cX4_put 0 = .ok (.aload_n 0, 1) := by decide +kernel
theorem dX4_put_1 : decode cX4_put 1 = .ok (.getfield 7, 3) := by decide +kernel
theorem dX4_put_4 : decode cX4_put 4 = .ok (.iload_n 1, 1) := by decide +kernel
theorem dX4_put_5 : decode cX4_put 5 = .ok (.iload_n 2, 1) := by decide +kernel
theorem dX4_put_6 : decode cX4_put 6 = .ok (.iastore, 1) := by decide +kernel
theorem dX4_put_7 : decode cX4_put 7 = .ok (.aload_n 0, 1) := by decide +kernel
theorem dX4_put_8 : decode cX4_put 8 = .ok (.getfield 13, 3) := by decide +kernel
theorem dX4_put_11 : decode cX4_put 11 = .ok (.iload_n 1, 1) := by decide +kernel
theorem dX4_put_12 : decode cX4_put 12 = .ok (.iload_n 3, 1) := by decide +kernel
theorem dX4_put_13 : decode cX4_put 13 = .ok (.iastore, 1) := by decide +kernel
theorem dX4_put_14 : decode cX4_put 14 = .ok (.aload_n 0, 1) := by decide +kernel
theorem dX4_put_15 : decode cX4_put 15 = .ok (.getfield 16, 3) := by decide +kernel
theorem dX4_put_18 : decode cX4_put 18 = .ok (.iload_n 1, 1) := by decide +kernel
theorem dX4_put_19 : decode cX4_put 19 = .ok (.iload 4, 2) := by decide +kernel
theorem dX4_put_21 : decode cX4_put 21 = .ok (.iastore, 1) := by decide +kernel
theorem dX4_put_22 : decode cX4_put 22 = .ok (.return_, 1) := by decide +kernel
set_option maxRecDepth 20000 in
theorem ggX4_addChange_X4_isChange : GoodIn wsX4_addChange wsX4_isChange := goodIn_r _ [5, 6, 7, 4, 8] (by decide +kernel) (by decide +kernel)
set_option maxRecDepth 20000 in
theorem gX4_addChange_X4_isChange : GoodIn wsX4_addChange (va_wsS RX4 52 yX4_isChange wsX4_isChange) := goodIn_app (goodIn_of _ (by decide +kernel)) ggX4_addChange_X4_isChange
set_option maxRecDepth 20000 in
theorem ggX4_addChange_X4_refused : GoodIn wsX4_addChange wsX4_refused := goodIn_r _ [12, 13, 21, 22, 23, 24, 25, 26, 27, 28, 29, 30, 31, 32, 33, 34, 35, 36] (by decide +kernel) (by decide +kernel)
set_option maxRecDepth 20000 in
theorem gX4_addChange_X4_refused : GoodIn wsX4_addChange (wsV RX4 58 RX4 yX4_refused wsX4_refused) := goodIn_app (goodIn_of _ (by decide +kernel)) ggX4_addChange_X4_refused
set_option maxRecDepth 20000 in
theorem ggX4_addChange_X4_put : GoodIn wsX4_addChange wsX4_put := goodIn_r _ [17, 18, 19, 20, 21, 22, 23, 24, 25, 26, 27, 28, 29, 30, 31, 32, 33, 34, 35, 36] (by decide +kernel) (by decide +kernel)
set_option maxRecDepth 20000 in
theorem gX4_addChange_X4_put : GoodIn wsX4_addChange (wsV RX4 62 RX4 yX4_put wsX4_put) := goodIn_app (goodIn_of _ (by decide +kernel)) ggX4_addChange_X4_put
theorem dX4_addChange_0 : decode cX4_addChange 0 = .ok (.aload_n 0, 1) := by decide +kernel
theorem dX4_addChange_1 : decode cX4_addChange 1 = .ok (.iload_n 1, 1) := by decide +kernel
theorem dX4_addChange_2 : decode cX4_addChange 2 = .ok (.iload_n 2, 1) := by decide +kernel
theorem dX4_addChange_3 : decode cX4_addChange 3 = .ok (.iload_n 3, 1) := by decide +kernel
theorem dX4_addChange_4 : decode cX4_addChange 4 = .ok (.invokestatic 52, 3) := by decide +kernel
theorem dX4_addChange_7 : decode cX4_addChange 7 = .ok (.ifCond .ne 7, 3) := by decide +kernel
theorem dX4_addChange_10 : decode cX4_addChange 10 = .ok (.iconst 1, 1) := by decide +kernel
theorem dX4_addChange_11 : decode cX4_addChange 11 = .ok (.goto 17, 3) := by decide +kernel
theorem dX4_addChange_14 : decode cX4_addChange 14 = .ok (.aload_n 0, 1) := by decide +kernel
theorem dX4_addChange_15 : decode cX4_addChange 15 = .ok (.getfield 55, 3) := by decide +kernel
theorem dX4_addChange_18 : decode cX4_addChange 18 = .ok (.bipush 12, 2) := by decide +kernel
theorem dX4_addChange_20 : decode cX4_addChange 20 = .ok (.if_icmp .ne 7, 3) := by decide +kernel
theorem dX4_addChange_23 : decode cX4_addChange 23 = .ok (.iconst 2, 1) := by decide +kernel
theorem dX4_addChange_24 : decode cX4_addChange 24 = .ok (.goto 4, 3) := by decide +kernel
theorem dX4_addChange_27 : decode cX4_addChange 27 = .ok (.iconst 0, 1) := by decide +kernel
theorem dX4_addChange_28 : decode cX4_addChange 28 = .ok (.invokevirtual 58, 3) := by decide +kernel
theorem dX4_addChange_31 : decode cX4_addChange 31 = .ok (.ifCond .eq 5, 3) := by decide +kernel
theorem dX4_addChange_34 : decode cX4_addChange 34 = .ok (.iconst 0, 1) := by decide +kernel
theorem dX4_addChange_35 : decode cX4_addChange 35 = .ok (.ireturn, 1) := by decide +kernel
theorem dX4_addChange_36 : decode cX4_addChange 36 = .ok (.aload_n 0, 1) := by decide +kernel
theorem dX4_addChange_37 : decode cX4_addChange 37 = .ok (.dup, 1) := by decide +kernel
theorem dX4_addChange_38 : decode cX4_addChange 38 = .ok (.getfield 55, 3) := by decide +kernel
theorem dX4_addChange_41 : decode cX4_addChange 41 = .ok (.iconst 1, 1) := by decide +kernel
theorem dX4_addChange_42 : decode cX4_addChange 42 = .ok (.iadd, 1) := by decide +kernel
theorem dX4_addChange_43 : decode cX4_addChange 43 = .ok (.putfield 55, 3) := by decide +kernel
theorem dX4_addChange_46 : decode cX4_addChange 46 = .ok (.aload_n 0, 1) := by decide +kernel
theorem dX4_addChange_47 : decode cX4_addChange 47 = .ok (.aload_n 0, 1) := by decide +kernel
theorem dX4_addChange_48 : decode cX4_addChange 48 = .ok (.getfield 55, 3) := by decide +kernel
theorem dX4_addChange_51 : decode cX4_addChange 51 = .ok (.iload_n 1, 1) := by decide +kernel
theorem dX4_addChange_52 : decode cX4_addChange 52 = .ok (.iload_n 2, 1) := by decide +kernel
theorem dX4_addChange_53 : decode cX4_addChange 53 = .ok (.iload_n 3, 1) := by decide +kernel
theorem dX4_addChange_54 : decode cX4_addChange 54 = .ok (.invokevirtual 62, 3) := by decide +kernel
theorem dX4_addChange_57 : decode cX4_addChange 57 = .ok (.aload_n 0, 1) := by decide +kernel
theorem dX4_addChange_58 : decode cX4_addChange 58 = .ok (.getfield 55, 3) := by decide +kernel
theorem dX4_addChange_61 : decode cX4_addChange 61 = .ok (.ireturn, 1) := by decide +kernel
theorem dX4_stateOf_0 : decode cX4_stateOf 0 = .ok (.iload_n 1, 1) := by decide +kernel
theorem dX4_stateOf_1 : decode cX4_stateOf 1 = .ok (.aload_n 0, 1) := by decide +kernel
theorem dX4_stateOf_2 : decode cX4_stateOf 2 = .ok (.getfield 66, 3) := by decide +kernel
theorem dX4_stateOf_5 : decode cX4_stateOf 5 = .ok (.if_icmp .gt 7, 3) := by decide +kernel
theorem dX4_stateOf_8 : decode cX4_stateOf 8 = .ok (.iconst 2, 1) := by decide +kernel
theorem dX4_stateOf_9 : decode cX4_stateOf 9 = .ok (.goto 21, 3) := by decide +kernel
theorem dX4_stateOf_12 : decode cX4_stateOf 12 = .ok (.iload_n 1, 1) := by decide +kernel
theorem dX4_stateOf_13 : decode cX4_stateOf 13 = .ok (.aload_n 0, 1) := by decide +kernel
theorem dX4_stateOf_14 : decode cX4_stateOf 14 = .ok (.getfield 66, 3) := by decide +kernel
theorem dX4_stateOf_17 : decode cX4_stateOf 17 = .ok (.iconst 1, 1) := by decide +kernel
theorem dX4_stateOf_18 : decode cX4_stateOf 18 = .ok (.iadd, 1) := by decide +kernel
theorem dX4_stateOf_19 : decode cX4_stateOf 19 = .ok (.if_icmp .ne 10, 3) := by decide +kernel
theorem dX4_stateOf_22 : decode cX4_stateOf 22 = .ok (.aload_n 0, 1) := by decide +kernel
theorem dX4_stateOf_23 : decode cX4_stateOf 23 = .ok (.getfield 69, 3) := by decide +kernel
theorem dX4_stateOf_26 : decode cX4_stateOf 26 = .ok (.goto 4, 3) := by decide +kernel
theorem dX4_stateOf_29 : decode cX4_stateOf 29 = .ok (.iconst 0, 1) := by decide +kernel
theorem dX4_stateOf_30 : decode cX4_stateOf 30 = .ok (.ireturn, 1) := by decide +kernel
set_option maxRecDepth 20000 in
theorem ggX4_edit_X4_isChange : GoodIn wsX4_edit wsX4_isChange := goodIn_r _ [5, 6, 7, 4, 8] (by decide +kernel) (by decide +kernel)
set_option maxRecDepth 20000 in
theorem gX4_edit_X4_isChange : GoodIn wsX4_edit (va_wsS RX4 52 yX4_isChange wsX4_isChange) := goodIn_app (goodIn_of _ (by decide +kernel)) ggX4_edit_X4_isChange
set_option maxRecDepth 20000 in
theorem ggX4_edit_X4_in : GoodIn wsX4_edit wsX4_in := goodIn_r _ [8] (by decide +kernel) (by decide +kernel)
set_option maxRecDepth 20000 in
theorem gX4_edit_X4_in : GoodIn wsX4_edit (va_wsS RX4 47 yX4_in wsX4_in) := goodIn_app (goodIn_of _ (by decide +kernel)) ggX4_edit_X4_in
set_option maxRecDepth 20000 in
theorem ggX4_edit_X4_stateOf : GoodIn wsX4_edit wsX4_stateOf := goodIn_r _ [12, 13, 14, 32, 33, 34, 35, 36, 37, 38, 39, 40, 41, 42, 43, 44, 45, 46, 47] (by decide +kernel) (by decide +kernel)
set_option maxRecDepth 20000 in
theorem gX4_edit_X4_stateOf : GoodIn wsX4_edit (wsV RX4 72 RX4 yX4_stateOf wsX4_stateOf) := goodIn_app (goodIn_of _ (by decide +kernel)) ggX4_edit_X4_stateOf
set_option maxRecDepth 20000 in
theorem ggX4_edit_X4_refused : GoodIn wsX4_edit wsX4_refused := goodIn_r _ [18, 19, 32, 33, 34, 35, 36, 37, 38, 39, 40, 41, 42, 43, 44, 45, 46, 47] (by decide +kernel) (by decide +kernel)
set_option maxRecDepth 20000 in
theorem gX4_edit_X4_refused : GoodIn wsX4_edit (wsV RX4 58 RX4 yX4_refused wsX4_refused) := goodIn_app (goodIn_of _ (by decide +kernel)) ggX4_edit_X4_refused
set_option maxRecDepth 20000 in
theorem ggX4_edit_X4_put : GoodIn wsX4_edit wsX4_put := goodIn_r _ [23, 24, 25, 26, 32, 33, 34, 35, 36, 37, 38, 39, 40, 41, 42, 43, 44, 45, 46, 47] (by decide +kernel) (by decide +kernel)
set_option maxRecDepth 20000 in
theorem gX4_edit_X4_put : GoodIn wsX4_edit (wsV RX4 62 RX4 yX4_put wsX4_put) := goodIn_app (goodIn_of _ (by decide +kernel)) ggX4_edit_X4_put
set_option maxRecDepth 20000 in
theorem ggX4_edit_X4_sumOf : GoodIn wsX4_edit wsX4_sumOf := goodIn_r _ [30, 24, 25, 26, 31, 32, 33, 34, 35, 36, 37, 38, 39, 40, 41, 42, 43, 44, 45, 46, 47] (by decide +kernel) (by decide +kernel)
set_option maxRecDepth 20000 in
theorem gX4_edit_X4_sumOf : GoodIn wsX4_edit (wsV RX4 76 RX4 yX4_sumOf wsX4_sumOf) := goodIn_app (goodIn_of _ (by decide +kernel)) ggX4_edit_X4_sumOf
theorem dX4_edit_0 : decode cX4_edit 0 = .ok (.iload_n 2, 1) := by decide +kernel
theorem dX4_edit_1 : decode cX4_edit 1 = .ok (.iload_n 3, 1) := by decide +kernel
theorem dX4_edit_2 : decode cX4_edit 2 = .ok (.iload 4, 2) := by decide +kernel
theorem dX4_edit_4 : decode cX4_edit 4 = .ok (.invokestatic 52, 3) := by decide +kernel
theorem dX4_edit_7 : decode cX4_edit 7 = .ok (.istore 5, 2) := by decide +kernel
theorem dX4_edit_9 : decode cX4_edit 9 = .ok (.aload_n 0, 1) := by decide +kernel
theorem dX4_edit_10 : decode cX4_edit 10 = .ok (.iload 5, 2) := by decide +kernel
theorem dX4_edit_12 : decode cX4_edit 12 = .ok (.ifCond .ne 7, 3) := by decide +kernel
theorem dX4_edit_15 : decode cX4_edit 15 = .ok (.iconst 1, 1) := by decide +kernel
theorem dX4_edit_16 : decode cX4_edit 16 = .ok (.goto 35, 3) := by decide +kernel
theorem dX4_edit_19 : decode cX4_edit 19 = .ok (.iload_n 1, 1) := by decide +kernel
theorem dX4_edit_20 : decode cX4_edit 20 = .ok (.iconst 1, 1) := by decide +kernel
theorem dX4_edit_21 : decode cX4_edit 21 = .ok (.aload_n 0, 1) := by decide +kernel
theorem dX4_edit_22 : decode cX4_edit 22 = .ok (.getfield 55, 3) := by decide +kernel
theorem dX4_edit_25 : decode cX4_edit 25 = .ok (.invokestatic 47, 3) := by decide +kernel
theorem dX4_edit_28 : decode cX4_edit 28 = .ok (.ifCond .ne 7, 3) := by decide +kernel
theorem dX4_edit_31 : decode cX4_edit 31 = .ok (.iconst 2, 1) := by decide +kernel
theorem dX4_edit_32 : decode cX4_edit 32 = .ok (.goto 19, 3) := by decide +kernel
theorem dX4_edit_35 : decode cX4_edit 35 = .ok (.aload_n 0, 1) := by decide +kernel
theorem dX4_edit_36 : decode cX4_edit 36 = .ok (.iload_n 1, 1) := by decide +kernel
theorem dX4_edit_37 : decode cX4_edit 37 = .ok (.invokevirtual 72, 3) := by decide +kernel
theorem dX4_edit_40 : decode cX4_edit 40 = .ok (.iconst 2, 1) := by decide +kernel
theorem dX4_edit_41 : decode cX4_edit 41 = .ok (.irem, 1) := by decide +kernel
theorem dX4_edit_42 : decode cX4_edit 42 = .ok (.iconst 1, 1) := by decide +kernel
theorem dX4_edit_43 : decode cX4_edit 43 = .ok (.if_icmp .ne 7, 3) := by decide +kernel
theorem dX4_edit_46 : decode cX4_edit 46 = .ok (.iconst 3, 1) := by decide +kernel
theorem dX4_edit_47 : decode cX4_edit 47 = .ok (.goto 4, 3) := by decide +kernel
theorem dX4_edit_50 : decode cX4_edit 50 = .ok (.iconst 0, 1) := by decide +kernel
theorem dX4_edit_51 : decode cX4_edit 51 = .ok (.invokevirtual 58, 3) := by decide +kernel
theorem dX4_edit_54 : decode cX4_edit 54 = .ok (.ifCond .eq 5, 3) := by decide +kernel
theorem dX4_edit_57 : decode cX4_edit 57 = .ok (.iconst 0, 1) := by decide +kernel
theorem dX4_edit_58 : decode cX4_edit 58 = .ok (.ireturn, 1) := by decide +kernel
theorem dX4_edit_59 : decode cX4_edit 59 = .ok (.aload_n 0, 1) := by decide +kernel
theorem dX4_edit_60 : decode cX4_edit 60 = .ok (.iload_n 1, 1) := by decide +kernel
theorem dX4_edit_61 : decode cX4_edit 61 = .ok (.iload_n 2, 1) := by decide +kernel
theorem dX4_edit_62 : decode cX4_edit 62 = .ok (.iload_n 3, 1) := by decide +kernel
theorem dX4_edit_63 : decode cX4_edit 63 = .ok (.iload 4, 2) := by decide +kernel
theorem dX4_edit_65 : decode cX4_edit 65 = .ok (.invokevirtual 62, 3) := by decide +kernel
theorem dX4_edit_68 : decode cX4_edit 68 = .ok (.aload_n 0, 1) := by decide +kernel
theorem dX4_edit_69 : decode cX4_edit 69 = .ok (.iload_n 1, 1) := by decide +kernel
theorem dX4_edit_70 : decode cX4_edit 70 = .ok (.invokevirtual 76, 3) := by decide +kernel
theorem dX4_edit_73 : decode cX4_edit 73 = .ok (.ireturn, 1) := by decide +kernel
set_option maxRecDepth 20000 in
theorem ggX4_changes_X4_fine : GoodIn wsX4_changes wsX4_fine := goodIn_r _ [6, 7, 8, 9, 10, 11, 12, 13, 14, 15, 16, 17, 18, 19, 20, 21, 22, 23] (by decide +kernel) (by decide +kernel)
set_option maxRecDepth 20000 in
theorem gX4_changes_X4_fine : GoodIn wsX4_changes (wsV RX4 79 RX4 yX4_fine wsX4_fine) := goodIn_app (goodIn_of _ (by decide +kernel)) ggX4_changes_X4_fine
theorem dX4_changes_0 : decode cX4_changes 0 = .ok (.aload_n 0, 1) := by decide +kernel
theorem dX4_changes_1 : decode cX4_changes 1 = .ok (.aload_n 0, 1) := by decide +kernel
theorem dX4_changes_2 : decode cX4_changes 2 = .ok (.getfield 55, 3) := by decide +kernel
theorem dX4_changes_5 : decode cX4_changes 5 = .ok (.invokevirtual 79, 3) := by decide +kernel
theorem dX4_changes_8 : decode cX4_changes 8 = .ok (.ireturn, 1) := by decide +kernel
set_option maxRecDepth 20000 in
theorem ggX4_checksum_X4_in : GoodIn wsX4_checksum wsX4_in := goodIn_r _ [5] (by decide +kernel) (by decide +kernel)
set_option maxRecDepth 20000 in
theorem gX4_checksum_X4_in : GoodIn wsX4_checksum (va_wsS RX4 47 yX4_in wsX4_in) := goodIn_app (goodIn_of _ (by decide +kernel)) ggX4_checksum_X4_in
set_option maxRecDepth 20000 in
theorem ggX4_checksum_X4_refused : GoodIn wsX4_checksum wsX4_refused := goodIn_r _ [9, 10, 19, 20, 21, 22, 23, 24, 25, 26, 27, 28, 29, 30, 31, 32, 33, 34] (by decide +kernel) (by decide +kernel)
set_option maxRecDepth 20000 in
theorem gX4_checksum_X4_refused : GoodIn wsX4_checksum (wsV RX4 58 RX4 yX4_refused wsX4_refused) := goodIn_app (goodIn_of _ (by decide +kernel)) ggX4_checksum_X4_refused
set_option maxRecDepth 20000 in
theorem ggX4_checksum_X4_sumOf : GoodIn wsX4_checksum wsX4_sumOf := goodIn_r _ [14, 15, 16, 17, 18, 19, 20, 21, 22, 23, 24, 25, 26, 27, 28, 29, 30, 31, 32, 33, 34] (by decide +kernel) (by decide +kernel)
set_option maxRecDepth 20000 in
theorem gX4_checksum_X4_sumOf : GoodIn wsX4_checksum (wsV RX4 76 RX4 yX4_sumOf wsX4_sumOf) := goodIn_app (goodIn_of _ (by decide +kernel)) ggX4_checksum_X4_sumOf
theorem dX4_checksum_0 : decode cX4_checksum 0 = .ok (.aload_n 0, 1) := by decide +kernel
theorem dX4_checksum_1 : decode cX4_checksum 1 = .ok (.iload_n 1, 1) := by decide +kernel
theorem dX4_checksum_2 : decode cX4_checksum 2 = .ok (.iconst 1, 1) := by decide +kernel
theorem dX4_checksum_3 : decode cX4_checksum 3 = .ok (.aload_n 0, 1) := by decide +kernel
theorem dX4_checksum_4 : decode cX4_checksum 4 = .ok (.getfield 55, 3) := by decide +kernel
theorem dX4_checksum_7 : decode cX4_checksum 7 = .ok (.invokestatic 47, 3) := by decide +kernel
theorem dX4_checksum_10 : decode cX4_checksum 10 = .ok (.ifCond .eq 7, 3) := by decide +kernel
theorem dX4_checksum_13 : decode cX4_checksum 13 = .ok (.iconst 0, 1) := by decide +kernel
theorem dX4_checksum_14 : decode cX4_checksum 14 = .ok (.goto 4, 3) := by decide +kernel
theorem dX4_checksum_17 : decode cX4_checksum 17 = .ok (.iconst 1, 1) := by decide +kernel
theorem dX4_checksum_18 : decode cX4_checksum 18 = .ok (.invokevirtual 58, 3) := by decide +kernel
theorem dX4_checksum_21 : decode cX4_checksum 21 = .ok (.ifCond .eq 7, 3) := by decide +kernel
theorem dX4_checksum_24 : decode cX4_checksum 24 = .ok (.iconst 0, 1) := by decide +kernel
theorem dX4_checksum_25 : decode cX4_checksum 25 = .ok (.goto 8, 3) := by decide +kernel
theorem dX4_checksum_28 : decode cX4_checksum 28 = .ok (.aload_n 0, 1) := by decide +kernel
theorem dX4_checksum_29 : decode cX4_checksum 29 = .ok (.iload_n 1, 1) := by decide +kernel
theorem dX4_checksum_30 : decode cX4_checksum 30 = .ok (.invokevirtual 76, 3) := by decide +kernel
theorem dX4_checksum_33 : decode cX4_checksum 33 = .ok (.ireturn, 1) := by decide +kernel
set_option maxRecDepth 20000 in
theorem ggX4_state_X4_in : GoodIn wsX4_state wsX4_in := goodIn_r _ [5] (by decide +kernel) (by decide +kernel)
set_option maxRecDepth 20000 in
theorem gX4_state_X4_in : GoodIn wsX4_state (va_wsS RX4 47 yX4_in wsX4_in) := goodIn_app (goodIn_of _ (by decide +kernel)) ggX4_state_X4_in
set_option maxRecDepth 20000 in
theorem ggX4_state_X4_refused : GoodIn wsX4_state wsX4_refused := goodIn_r _ [9, 10, 17, 18, 19, 20, 21, 22, 23, 24, 25, 26, 27, 28, 29, 30, 31, 32] (by decide +kernel) (by decide +kernel)
set_option maxRecDepth 20000 in
theorem gX4_state_X4_refused : GoodIn wsX4_state (wsV RX4 58 RX4 yX4_refused wsX4_refused) := goodIn_app (goodIn_of _ (by decide +kernel)) ggX4_state_X4_refused
set_option maxRecDepth 20000 in
theorem ggX4_state_X4_stateOf : GoodIn wsX4_state wsX4_stateOf := goodIn_r _ [14, 15, 16, 17, 18, 19, 20, 21, 22, 23, 24, 25, 26, 27, 28, 29, 30, 31, 32] (by decide +kernel) (by decide +kernel)
set_option maxRecDepth 20000 in
theorem gX4_state_X4_stateOf : GoodIn wsX4_state (wsV RX4 72 RX4 yX4_stateOf wsX4_stateOf) := goodIn_app (goodIn_of _ (by decide +kernel)) ggX4_state_X4_stateOf
theorem dX4_state_0 : decode cX4_state 0 = .ok (.aload_n 0, 1) := by decide +kernel
theorem dX4_state_1 : decode cX4_state 1 = .ok (.iload_n 1, 1) := by decide +kernel
theorem dX4_state_2 : decode cX4_state 2 = .ok (.iconst 1, 1) := by decide +kernel
theorem dX4_state_3 : decode cX4_state 3 = .ok (.aload_n 0, 1) := by decide +kernel
theorem dX4_state_4 : decode cX4_state 4 = .ok (.getfield 55, 3) := by decide +kernel
theorem dX4_state_7 : decode cX4_state 7 = .ok (.invokestatic 47, 3) := by decide +kernel
theorem dX4_state_10 : decode cX4_state 10 = .ok (.ifCond .eq 7, 3) := by decide +kernel
theorem dX4_state_13 : decode cX4_state 13 = .ok (.iconst 0, 1) := by decide +kernel
theorem dX4_state_14 : decode cX4_state 14 = .ok (.goto 4, 3) := by decide +kernel
theorem dX4_state_17 : decode cX4_state 17 = .ok (.iconst 1, 1) := by decide +kernel
theorem dX4_state_18 : decode cX4_state 18 = .ok (.invokevirtual 58, 3) := by decide +kernel
theorem dX4_state_21 : decode cX4_state 21 = .ok (.ifCond .eq 7, 3) := by decide +kernel
theorem dX4_state_24 : decode cX4_state 24 = .ok (.iconst 0, 1) := by decide +kernel
theorem dX4_state_25 : decode cX4_state 25 = .ok (.goto 8, 3) := by decide +kernel
theorem dX4_state_28 : decode cX4_state 28 = .ok (.aload_n 0, 1) := by decide +kernel
theorem dX4_state_29 : decode cX4_state 29 = .ok (.iload_n 1, 1) := by decide +kernel
theorem dX4_state_30 : decode cX4_state 30 = .ok (.invokevirtual 72, 3) := by decide +kernel
theorem dX4_state_33 : decode cX4_state 33 = .ok (.ireturn, 1) := by decide +kernel
set_option maxRecDepth 20000 in
theorem ggX4_level_X4_fine : GoodIn wsX4_level wsX4_fine := goodIn_r _ [6, 7, 8, 9, 10, 11, 12, 13, 14, 15, 16, 17, 18, 19, 20, 21, 22, 23] (by decide +kernel) (by decide +kernel)
set_option maxRecDepth 20000 in
theorem gX4_level_X4_fine : GoodIn wsX4_level (wsV RX4 79 RX4 yX4_fine wsX4_fine) := goodIn_app (goodIn_of _ (by decide +kernel)) ggX4_level_X4_fine
theorem dX4_level_0 : decode cX4_level 0 = .ok (.aload_n 0, 1) := by decide +kernel
theorem dX4_level_1 : decode cX4_level 1 = .ok (.aload_n 0, 1) := by decide +kernel
theorem dX4_level_2 : decode cX4_level 2 = .ok (.getfield 66, 3) := by decide +kernel
theorem dX4_level_5 : decode cX4_level 5 = .ok (.invokevirtual 79, 3) := by decide +kernel
theorem dX4_level_8 : decode cX4_level 8 = .ok (.ireturn, 1) := by decide +kernel
set_option maxRecDepth 20000 in
theorem ggX4_firstDrift_X4_sumOf : GoodIn wsX4_firstDrift wsX4_sumOf := goodIn_r _ [7, 8, 9, 10, 11, 12, 13, 14, 15, 16, 17, 18, 19, 20, 21, 22, 23, 24, 25, 26, 27] (by decide +kernel) (by decide +kernel)
set_option maxRecDepth 20000 in
theorem gX4_firstDrift_X4_sumOf : GoodIn wsX4_firstDrift (wsV RX4 76 RX4 yX4_sumOf wsX4_sumOf) := goodIn_app (goodIn_of _ (by decide +kernel)) ggX4_firstDrift_X4_sumOf
theorem dX4_firstDrift_0 : decode cX4_firstDrift 0 = .ok (.iconst 0, 1) := by decide +kernel
theorem dX4_firstDrift_1 : decode cX4_firstDrift 1 = .ok (.istore_n 1, 1) := by decide +kernel
theorem dX4_firstDrift_2 : decode cX4_firstDrift 2 = .ok (.aload_n 0, 1) := by decide +kernel
theorem dX4_firstDrift_3 : decode cX4_firstDrift 3 = .ok (.getfield 66, 3) := by decide +kernel
theorem dX4_firstDrift_6 : decode cX4_firstDrift 6 = .ok (.istore_n 2, 1) := by decide +kernel
theorem dX4_firstDrift_7 : decode cX4_firstDrift 7 = .ok (.iload_n 2, 1) := by decide +kernel
theorem dX4_firstDrift_8 : decode cX4_firstDrift 8 = .ok (.ifCond .le 29, 3) := by decide +kernel
theorem dX4_firstDrift_11 : decode cX4_firstDrift 11 = .ok (.aload_n 0, 1) := by decide +kernel
theorem dX4_firstDrift_12 : decode cX4_firstDrift 12 = .ok (.iload_n 2, 1) := by decide +kernel
theorem dX4_firstDrift_13 : decode cX4_firstDrift 13 = .ok (.invokevirtual 76, 3) := by decide +kernel
theorem dX4_firstDrift_16 : decode cX4_firstDrift 16 = .ok (.aload_n 0, 1) := by decide +kernel
theorem dX4_firstDrift_17 : decode cX4_firstDrift 17 = .ok (.getfield 19, 3) := by decide +kernel
theorem dX4_firstDrift_20 : decode cX4_firstDrift 20 = .ok (.iload_n 2, 1) := by decide +kernel
theorem dX4_firstDrift_21 : decode cX4_firstDrift 21 = .ok (.iaload, 1) := by decide +kernel
theorem dX4_firstDrift_22 : decode cX4_firstDrift 22 = .ok (.if_icmp .ne 7, 3) := by decide +kernel
theorem dX4_firstDrift_25 : decode cX4_firstDrift 25 = .ok (.iload_n 1, 1) := by decide +kernel
theorem dX4_firstDrift_26 : decode cX4_firstDrift 26 = .ok (.goto 4, 3) := by decide +kernel
theorem dX4_firstDrift_29 : decode cX4_firstDrift 29 = .ok (.iload_n 2, 1) := by decide +kernel
theorem dX4_firstDrift_30 : decode cX4_firstDrift 30 = .ok (.istore_n 1, 1) := by decide +kernel
theorem dX4_firstDrift_31 : decode cX4_firstDrift 31 = .ok (.iinc 2 (-1), 3) := by decide +kernel
theorem dX4_firstDrift_34 : decode cX4_firstDrift 34 = .ok (.goto (-27), 3) := by decide +kernel
theorem dX4_firstDrift_37 : decode cX4_firstDrift 37 = .ok (.iload_n 1, 1) := by decide +kernel
theorem dX4_firstDrift_38 : decode cX4_firstDrift 38 = .ok (.ireturn, 1) := by decide +kernel
set_option maxRecDepth 20000 in
theorem ggX4_drifted_X4_firstDrift : GoodIn wsX4_drifted wsX4_firstDrift := goodIn_r _ [5, 6, 7, 8, 9, 10, 4, 11, 12, 13, 14, 15, 21, 22, 23, 24, 25, 26, 27, 28, 29, 30, 31, 32, 33, 34, 35, 36] (by decide +kernel) (by decide +kernel)
set_option maxRecDepth 20000 in
theorem gX4_drifted_X4_firstDrift : GoodIn wsX4_drifted (wsV RX4 82 RX4 yX4_firstDrift wsX4_firstDrift) := goodIn_app (goodIn_of _ (by decide +kernel)) ggX4_drifted_X4_firstDrift
set_option maxRecDepth 20000 in
theorem ggX4_drifted_X4_fine : GoodIn wsX4_drifted wsX4_fine := goodIn_r _ [19, 20, 21, 22, 23, 24, 25, 26, 27, 28, 29, 30, 31, 32, 33, 34, 35, 36] (by decide +kernel) (by decide +kernel)
set_option maxRecDepth 20000 in
theorem gX4_drifted_X4_fine : GoodIn wsX4_drifted (wsV RX4 79 RX4 yX4_fine wsX4_fine) := goodIn_app (goodIn_of _ (by decide +kernel)) ggX4_drifted_X4_fine
theorem dX4_drifted_0 : decode cX4_drifted 0 = .ok (.aload_n 0, 1) := by decide +kernel
theorem dX4_drifted_1 : decode cX4_drifted 1 = .ok (.aload_n 0, 1) := by decide +kernel
theorem dX4_drifted_2 : decode cX4_drifted 2 = .ok (.invokevirtual 82, 3) := by decide +kernel
theorem dX4_drifted_5 : decode cX4_drifted 5 = .ok (.invokevirtual 79, 3) := by decide +kernel
theorem dX4_drifted_8 : decode cX4_drifted 8 = .ok (.ireturn, 1) := by decide +kernel
set_option maxRecDepth 20000 in
theorem ggX4_isRow_X4_in : GoodIn wsX4_isRow wsX4_in := goodIn_r _ [4] (by decide +kernel) (by decide +kernel)
set_option maxRecDepth 20000 in
theorem gX4_isRow_X4_in : GoodIn wsX4_isRow (va_wsS RX4 47 yX4_in wsX4_in) := goodIn_app (goodIn_of _ (by decide +kernel)) ggX4_isRow_X4_in
theorem dX4_isRow_0 : decode cX4_isRow 0 = .ok (.iload_n 0, 1) := by decide +kernel
theorem dX4_isRow_1 : decode cX4_isRow 1 = .ok (.iconst 0, 1) := by decide +kernel
theorem dX4_isRow_2 : decode cX4_isRow 2 = .ok (.bipush 39, 2) := by decide +kernel
theorem dX4_isRow_4 : decode cX4_isRow 4 = .ok (.invokestatic 47, 3) := by decide +kernel
theorem dX4_isRow_7 : decode cX4_isRow 7 = .ok (.ireturn, 1) := by decide +kernel
set_option maxRecDepth 20000 in
theorem ggX4_insert_X4_isRow : GoodIn wsX4_insert wsX4_isRow := goodIn_r _ [9, 10, 11, 8, 12] (by decide +kernel) (by decide +kernel)
set_option maxRecDepth 20000 in
theorem gX4_insert_X4_isRow : GoodIn wsX4_insert (va_wsS RX4 86 yX4_isRow wsX4_isRow) := goodIn_app (goodIn_of _ (by decide +kernel)) ggX4_insert_X4_isRow
set_option maxRecDepth 20000 in
theorem ggX4_insert_X4_isValue : GoodIn wsX4_insert wsX4_isValue := goodIn_r _ [15, 16, 17] (by decide +kernel) (by decide +kernel)
set_option maxRecDepth 20000 in
theorem gX4_insert_X4_isValue : GoodIn wsX4_insert (va_wsS RX4 89 yX4_isValue wsX4_isValue) := goodIn_app (goodIn_of _ (by decide +kernel)) ggX4_insert_X4_isValue
set_option maxRecDepth 20000 in
theorem ggX4_insert_X4_refused : GoodIn wsX4_insert wsX4_refused := goodIn_r _ [21, 22, 23, 24, 25, 26, 27, 28, 29, 30, 31, 32, 33, 34, 35, 36, 37, 38] (by decide +kernel) (by decide +kernel)
set_option maxRecDepth 20000 in
theorem gX4_insert_X4_refused : GoodIn wsX4_insert (wsV RX4 58 RX4 yX4_refused wsX4_refused) := goodIn_app (goodIn_of _ (by decide +kernel)) ggX4_insert_X4_refused
theorem dX4_insert_0 : decode cX4_insert 0 = .ok (.iload_n 1, 1) := by decide +kernel
theorem dX4_insert_1 : decode cX4_insert 1 = .ok (.invokestatic 86, 3) := by decide +kernel
theorem dX4_insert_4 : decode cX4_insert 4 = .ok (.ifCond .eq 32, 3) := by decide +kernel
theorem dX4_insert_7 : decode cX4_insert 7 = .ok (.iload_n 2, 1) := by decide +kernel
theorem dX4_insert_8 : decode cX4_insert 8 = .ok (.i2l, 1) := by decide +kernel
theorem dX4_insert_9 : decode cX4_insert 9 = .ok (.invokestatic 89, 3) := by decide +kernel
theorem dX4_insert_12 : decode cX4_insert 12 = .ok (.ifCond .eq 24, 3) := by decide +kernel
theorem dX4_insert_15 : decode cX4_insert 15 = .ok (.iload_n 3, 1) := by decide +kernel
theorem dX4_insert_16 : decode cX4_insert 16 = .ok (.i2l, 1) := by decide +kernel
theorem dX4_insert_17 : decode cX4_insert 17 = .ok (.invokestatic 89, 3) := by decide +kernel
theorem dX4_insert_20 : decode cX4_insert 20 = .ok (.ifCond .eq 16, 3) := by decide +kernel
theorem dX4_insert_23 : decode cX4_insert 23 = .ok (.iload 4, 2) := by decide +kernel
theorem dX4_insert_25 : decode cX4_insert 25 = .ok (.i2l, 1) := by decide +kernel
theorem dX4_insert_26 : decode cX4_insert 26 = .ok (.invokestatic 89, 3) := by decide +kernel
theorem dX4_insert_29 : decode cX4_insert 29 = .ok (.ifCond .eq 7, 3) := by decide +kernel
theorem dX4_insert_32 : decode cX4_insert 32 = .ok (.iconst 1, 1) := by decide +kernel
theorem dX4_insert_33 : decode cX4_insert 33 = .ok (.goto 4, 3) := by decide +kernel
theorem dX4_insert_36 : decode cX4_insert 36 = .ok (.iconst 0, 1) := by decide +kernel
theorem dX4_insert_37 : decode cX4_insert 37 = .ok (.istore 5, 2) := by decide +kernel
theorem dX4_insert_39 : decode cX4_insert 39 = .ok (.aload_n 0, 1) := by decide +kernel
theorem dX4_insert_40 : decode cX4_insert 40 = .ok (.iload 5, 2) := by decide +kernel
theorem dX4_insert_42 : decode cX4_insert 42 = .ok (.ifCond .ne 7, 3) := by decide +kernel
theorem dX4_insert_45 : decode cX4_insert 45 = .ok (.iconst 1, 1) := by decide +kernel
theorem dX4_insert_46 : decode cX4_insert 46 = .ok (.goto 18, 3) := by decide +kernel
theorem dX4_insert_49 : decode cX4_insert 49 = .ok (.aload_n 0, 1) := by decide +kernel
theorem dX4_insert_50 : decode cX4_insert 50 = .ok (.getfield 22, 3) := by decide +kernel
theorem dX4_insert_53 : decode cX4_insert 53 = .ok (.iload_n 1, 1) := by decide +kernel
theorem dX4_insert_54 : decode cX4_insert 54 = .ok (.iaload, 1) := by decide +kernel
theorem dX4_insert_55 : decode cX4_insert 55 = .ok (.iconst (-1), 1) := by decide +kernel
theorem dX4_insert_56 : decode cX4_insert 56 = .ok (.if_icmp .eq 7, 3) := by decide +kernel
theorem dX4_insert_59 : decode cX4_insert 59 = .ok (.iconst 2, 1) := by decide +kernel
theorem dX4_insert_60 : decode cX4_insert 60 = .ok (.goto 4, 3) := by decide +kernel
theorem dX4_insert_63 : decode cX4_insert 63 = .ok (.iconst 0, 1) := by decide +kernel
theorem dX4_insert_64 : decode cX4_insert 64 = .ok (.invokevirtual 58, 3) := by decide +kernel
theorem dX4_insert_67 : decode cX4_insert 67 = .ok (.ifCond .eq 5, 3) := by decide +kernel
theorem dX4_insert_70 : decode cX4_insert 70 = .ok (.iconst 0, 1) := by decide +kernel
theorem dX4_insert_71 : decode cX4_insert 71 = .ok (.ireturn, 1) := by decide +kernel
theorem dX4_insert_72 : decode cX4_insert 72 = .ok (.aload_n 0, 1) := by decide +kernel
theorem dX4_insert_73 : decode cX4_insert 73 = .ok (.getfield 22, 3) := by decide +kernel
theorem dX4_insert_76 : decode cX4_insert 76 = .ok (.iload_n 1, 1) := by decide +kernel
theorem dX4_insert_77 : decode cX4_insert 77 = .ok (.aload_n 0, 1) := by decide +kernel
theorem dX4_insert_78 : decode cX4_insert 78 = .ok (.getfield 69, 3) := by decide +kernel
theorem dX4_insert_81 : decode cX4_insert 81 = .ok (.ifCond .eq 20, 3) := by decide +kernel
theorem dX4_insert_84 : decode cX4_insert 84 = .ok (.iload_n 1, 1) := by decide +kernel
theorem dX4_insert_85 : decode cX4_insert 85 = .ok (.aload_n 0, 1) := by decide +kernel
theorem dX4_insert_86 : decode cX4_insert 86 = .ok (.getfield 93, 3) := by decide +kernel
theorem dX4_insert_89 : decode cX4_insert 89 = .ok (.if_icmp .ge 12, 3) := by decide +kernel
theorem dX4_insert_92 : decode cX4_insert 92 = .ok (.aload_n 0, 1) := by decide +kernel
theorem dX4_insert_93 : decode cX4_insert 93 = .ok (.getfield 66, 3) := by decide +kernel
theorem dX4_insert_96 : decode cX4_insert 96 = .ok (.iconst 1, 1) := by decide +kernel
theorem dX4_insert_97 : decode cX4_insert 97 = .ok (.iadd, 1) := by decide +kernel
theorem dX4_insert_98 : decode cX4_insert 98 = .ok (.goto 7, 3) := by decide +kernel
theorem dX4_insert_101 : decode cX4_insert 101 = .ok (.aload_n 0, 1) := by decide +kernel
theorem dX4_insert_102 : decode cX4_insert 102 = .ok (.getfield 66, 3) := by decide +kernel
theorem dX4_insert_105 : decode cX4_insert 105 = .ok (.iastore, 1) := by decide +kernel
theorem dX4_insert_106 : decode cX4_insert 106 = .ok (.aload_n 0, 1) := by decide +kernel
theorem dX4_insert_107 : decode cX4_insert 107 = .ok (.getfield 25, 3) := by decide +kernel
theorem dX4_insert_110 : decode cX4_insert 110 = .ok (.iconst 3, 1) := by decide +kernel
theorem dX4_insert_111 : decode cX4_insert 111 = .ok (.iload_n 1, 1) := by decide +kernel
theorem dX4_insert_112 : decode cX4_insert 112 = .ok (.imul, 1) := by decide +kernel
theorem dX4_insert_113 : decode cX4_insert 113 = .ok (.iload_n 2, 1) := by decide +kernel
theorem dX4_insert_114 : decode cX4_insert 114 = .ok (.iastore, 1) := by decide +kernel
theorem dX4_insert_115 : decode cX4_insert 115 = .ok (.aload_n 0, 1) := by decide +kernel
theorem dX4_insert_116 : decode cX4_insert 116 = .ok (.getfield 25, 3) := by decide +kernel
theorem dX4_insert_119 : decode cX4_insert 119 = .ok (.iconst 3, 1) := by decide +kernel
theorem dX4_insert_120 : decode cX4_insert 120 = .ok (.iload_n 1, 1) := by decide +kernel
theorem dX4_insert_121 : decode cX4_insert 121 = .ok (.imul, 1) := by decide +kernel
theorem dX4_insert_122 : decode cX4_insert 122 = .ok (.iconst 1, 1) := by decide +kernel
theorem dX4_insert_123 : decode cX4_insert 123 = .ok (.iadd, 1) := by decide +kernel
theorem dX4_insert_124 : decode cX4_insert 124 = .ok (.iload_n 3, 1) := by decide +kernel
theorem dX4_insert_125 : decode cX4_insert 125 = .ok (.iastore, 1) := by decide +kernel
theorem dX4_insert_126 : decode cX4_insert 126 = .ok (.aload_n 0, 1) := by decide +kernel
theorem dX4_insert_127 : decode cX4_insert 127 = .ok (.getfield 25, 3) := by decide +kernel
theorem dX4_insert_130 : decode cX4_insert 130 = .ok (.iconst 3, 1) := by decide +kernel
theorem dX4_insert_131 : decode cX4_insert 131 = .ok (.iload_n 1, 1) := by decide +kernel
theorem dX4_insert_132 : decode cX4_insert 132 = .ok (.imul, 1) := by decide +kernel
theorem dX4_insert_133 : decode cX4_insert 133 = .ok (.iconst 2, 1) := by decide +kernel
theorem dX4_insert_134 : decode cX4_insert 134 = .ok (.iadd, 1) := by decide +kernel
theorem dX4_insert_135 : decode cX4_insert 135 = .ok (.iload 4, 2) := by decide +kernel
theorem dX4_insert_137 : decode cX4_insert 137 = .ok (.iastore, 1) := by decide +kernel
theorem dX4_insert_138 : decode cX4_insert 138 = .ok (.aload_n 0, 1) := by decide +kernel
theorem dX4_insert_139 : decode cX4_insert 139 = .ok (.getfield 22, 3) := by decide +kernel
theorem dX4_insert_142 : decode cX4_insert 142 = .ok (.iload_n 1, 1) := by decide +kernel
theorem dX4_insert_143 : decode cX4_insert 143 = .ok (.iaload, 1) := by decide +kernel
theorem dX4_insert_144 : decode cX4_insert 144 = .ok (.ireturn, 1) := by decide +kernel
set_option maxRecDepth 20000 in
theorem ggX4_noRow_X4_isRow : GoodIn wsX4_noRow wsX4_isRow := goodIn_r _ [5, 6, 7, 4, 8] (by decide +kernel) (by decide +kernel)
set_option maxRecDepth 20000 in
theorem gX4_noRow_X4_isRow : GoodIn wsX4_noRow (va_wsS RX4 86 yX4_isRow wsX4_isRow) := goodIn_app (goodIn_of _ (by decide +kernel)) ggX4_noRow_X4_isRow
set_option maxRecDepth 20000 in
theorem ggX4_noRow_X4_refused : GoodIn wsX4_noRow wsX4_refused := goodIn_r _ [12, 13, 14, 15, 16, 17, 18, 19, 20, 21, 22, 23, 24, 25, 26, 27, 28, 29] (by decide +kernel) (by decide +kernel)
set_option maxRecDepth 20000 in
theorem gX4_noRow_X4_refused : GoodIn wsX4_noRow (wsV RX4 58 RX4 yX4_refused wsX4_refused) := goodIn_app (goodIn_of _ (by decide +kernel)) ggX4_noRow_X4_refused
theorem dX4_noRow_0 : decode cX4_noRow 0 = .ok (.aload_n 0, 1) := by decide +kernel
theorem dX4_noRow_1 : decode cX4_noRow 1 = .ok (.iload_n 1, 1) := by decide +kernel
theorem dX4_noRow_2 : decode cX4_noRow 2 = .ok (.ifCond .eq 10, 3) := by decide +kernel
theorem dX4_noRow_5 : decode cX4_noRow 5 = .ok (.iload_n 2, 1) := by decide +kernel
theorem dX4_noRow_6 : decode cX4_noRow 6 = .ok (.invokestatic 86, 3) := by decide +kernel
theorem dX4_noRow_9 : decode cX4_noRow 9 = .ok (.ifCond .ne 7, 3) := by decide +kernel
theorem dX4_noRow_12 : decode cX4_noRow 12 = .ok (.iconst 1, 1) := by decide +kernel
theorem dX4_noRow_13 : decode cX4_noRow 13 = .ok (.goto 18, 3) := by decide +kernel
theorem dX4_noRow_16 : decode cX4_noRow 16 = .ok (.aload_n 0, 1) := by decide +kernel
theorem dX4_noRow_17 : decode cX4_noRow 17 = .ok (.getfield 22, 3) := by decide +kernel
theorem dX4_noRow_20 : decode cX4_noRow 20 = .ok (.iload_n 2, 1) := by decide +kernel
theorem dX4_noRow_21 : decode cX4_noRow 21 = .ok (.iaload, 1) := by decide +kernel
theorem dX4_noRow_22 : decode cX4_noRow 22 = .ok (.iconst (-1), 1) := by decide +kernel
theorem dX4_noRow_23 : decode cX4_noRow 23 = .ok (.if_icmp .ne 7, 3) := by decide +kernel
theorem dX4_noRow_26 : decode cX4_noRow 26 = .ok (.iconst 2, 1) := by decide +kernel
theorem dX4_noRow_27 : decode cX4_noRow 27 = .ok (.goto 4, 3) := by decide +kernel
theorem dX4_noRow_30 : decode cX4_noRow 30 = .ok (.iconst 0, 1) := by decide +kernel
theorem dX4_noRow_31 : decode cX4_noRow 31 = .ok (.invokevirtual 58, 3) := by decide +kernel
theorem dX4_noRow_34 : decode cX4_noRow 34 = .ok (.ireturn, 1) := by decide +kernel
set_option maxRecDepth 20000 in
theorem ggX4_write_X4_in : GoodIn wsX4_write wsX4_in := goodIn_r _ [5] (by decide +kernel) (by decide +kernel)
set_option maxRecDepth 20000 in
theorem gX4_write_X4_in : GoodIn wsX4_write (va_wsS RX4 47 yX4_in wsX4_in) := goodIn_app (goodIn_of _ (by decide +kernel)) ggX4_write_X4_in
set_option maxRecDepth 20000 in
theorem ggX4_write_X4_isValue : GoodIn wsX4_write wsX4_isValue := goodIn_r _ [8, 9, 10] (by decide +kernel) (by decide +kernel)
set_option maxRecDepth 20000 in
theorem gX4_write_X4_isValue : GoodIn wsX4_write (va_wsS RX4 89 yX4_isValue wsX4_isValue) := goodIn_app (goodIn_of _ (by decide +kernel)) ggX4_write_X4_isValue
set_option maxRecDepth 20000 in
theorem ggX4_write_X4_noRow : GoodIn wsX4_write wsX4_noRow := goodIn_r _ [14, 15, 16, 17, 4, 18, 2, 3, 5, 19, 20, 21, 22, 23, 24, 25, 26, 27, 28, 29, 30, 31, 32, 33, 34, 35, 36, 37, 38, 39] (by decide +kernel) (by decide +kernel)
set_option maxRecDepth 20000 in
theorem gX4_write_X4_noRow : GoodIn wsX4_write (wsV RX4 96 RX4 yX4_noRow wsX4_noRow) := goodIn_app (goodIn_of _ (by decide +kernel)) ggX4_write_X4_noRow
theorem dX4_write_0 : decode cX4_write 0 = .ok (.aload_n 0, 1) := by decide +kernel
theorem dX4_write_1 : decode cX4_write 1 = .ok (.iload_n 2, 1) := by decide +kernel
theorem dX4_write_2 : decode cX4_write 2 = .ok (.iconst 0, 1) := by decide +kernel
theorem dX4_write_3 : decode cX4_write 3 = .ok (.iconst 2, 1) := by decide +kernel
theorem dX4_write_4 : decode cX4_write 4 = .ok (.invokestatic 47, 3) := by decide +kernel
theorem dX4_write_7 : decode cX4_write 7 = .ok (.ifCond .eq 15, 3) := by decide +kernel
theorem dX4_write_10 : decode cX4_write 10 = .ok (.iload_n 3, 1) := by decide +kernel
theorem dX4_write_11 : decode cX4_write 11 = .ok (.i2l, 1) := by decide +kernel
theorem dX4_write_12 : decode cX4_write 12 = .ok (.invokestatic 89, 3) := by decide +kernel
theorem dX4_write_15 : decode cX4_write 15 = .ok (.ifCond .eq 7, 3) := by decide +kernel
theorem dX4_write_18 : decode cX4_write 18 = .ok (.iconst 1, 1) := by decide +kernel
theorem dX4_write_19 : decode cX4_write 19 = .ok (.goto 4, 3) := by decide +kernel
theorem dX4_write_22 : decode cX4_write 22 = .ok (.iconst 0, 1) := by decide +kernel
theorem dX4_write_23 : decode cX4_write 23 = .ok (.iload_n 1, 1) := by decide +kernel
theorem dX4_write_24 : decode cX4_write 24 = .ok (.invokevirtual 96, 3) := by decide +kernel
theorem dX4_write_27 : decode cX4_write 27 = .ok (.ifCond .eq 5, 3) := by decide +kernel
theorem dX4_write_30 : decode cX4_write 30 = .ok (.iconst 0, 1) := by decide +kernel
theorem dX4_write_31 : decode cX4_write 31 = .ok (.ireturn, 1) := by decide +kernel
theorem dX4_write_32 : decode cX4_write 32 = .ok (.aload_n 0, 1) := by decide +kernel
theorem dX4_write_33 : decode cX4_write 33 = .ok (.getfield 25, 3) := by decide +kernel
theorem dX4_write_36 : decode cX4_write 36 = .ok (.iconst 3, 1) := by decide +kernel
theorem dX4_write_37 : decode cX4_write 37 = .ok (.iload_n 1, 1) := by decide +kernel
theorem dX4_write_38 : decode cX4_write 38 = .ok (.imul, 1) := by decide +kernel
theorem dX4_write_39 : decode cX4_write 39 = .ok (.iload_n 2, 1) := by decide +kernel
theorem dX4_write_40 : decode cX4_write 40 = .ok (.iadd, 1) := by decide +kernel
theorem dX4_write_41 : decode cX4_write 41 = .ok (.iaload, 1) := by decide +kernel
theorem dX4_write_42 : decode cX4_write 42 = .ok (.istore 4, 2) := by decide +kernel
theorem dX4_write_44 : decode cX4_write 44 = .ok (.aload_n 0, 1) := by decide +kernel
theorem dX4_write_45 : decode cX4_write 45 = .ok (.getfield 25, 3) := by decide +kernel
theorem dX4_write_48 : decode cX4_write 48 = .ok (.iconst 3, 1) := by decide +kernel
theorem dX4_write_49 : decode cX4_write 49 = .ok (.iload_n 1, 1) := by decide +kernel
theorem dX4_write_50 : decode cX4_write 50 = .ok (.imul, 1) := by decide +kernel
theorem dX4_write_51 : decode cX4_write 51 = .ok (.iload_n 2, 1) := by decide +kernel
theorem dX4_write_52 : decode cX4_write 52 = .ok (.iadd, 1) := by decide +kernel
theorem dX4_write_53 : decode cX4_write 53 = .ok (.iload_n 3, 1) := by decide +kernel
theorem dX4_write_54 : decode cX4_write 54 = .ok (.iastore, 1) := by decide +kernel
theorem dX4_write_55 : decode cX4_write 55 = .ok (.iload 4, 2) := by decide +kernel
theorem dX4_write_57 : decode cX4_write 57 = .ok (.ireturn, 1) := by decide +kernel
set_option maxRecDepth 20000 in
theorem ggX4_delete_X4_noRow : GoodIn wsX4_delete wsX4_noRow := goodIn_r _ [6, 1, 7, 8, 5, 9, 10, 11, 12, 13, 14, 15, 16, 17, 18, 19, 20, 21, 22, 23, 24, 25, 26, 27, 28, 29, 30, 31, 32, 33] (by decide +kernel) (by decide +kernel)
set_option maxRecDepth 20000 in
theorem gX4_delete_X4_noRow : GoodIn wsX4_delete (wsV RX4 96 RX4 yX4_noRow wsX4_noRow) := goodIn_app (goodIn_of _ (by decide +kernel)) ggX4_delete_X4_noRow
theorem dX4_delete_0 : decode cX4_delete 0 = .ok (.aload_n 0, 1) := by decide +kernel
theorem dX4_delete_1 : decode cX4_delete 1 = .ok (.iconst 1, 1) := by decide +kernel
theorem dX4_delete_2 : decode cX4_delete 2 = .ok (.iload_n 1, 1) := by decide +kernel
theorem dX4_delete_3 : decode cX4_delete 3 = .ok (.invokevirtual 96, 3) := by decide +kernel
theorem dX4_delete_6 : decode cX4_delete 6 = .ok (.ifCond .eq 5, 3) := by decide +kernel
theorem dX4_delete_9 : decode cX4_delete 9 = .ok (.iconst 0, 1) := by decide +kernel
theorem dX4_delete_10 : decode cX4_delete 10 = .ok (.ireturn, 1) := by decide +kernel
theorem dX4_delete_11 : decode cX4_delete 11 = .ok (.aload_n 0, 1) := by decide +kernel
theorem dX4_delete_12 : decode cX4_delete 12 = .ok (.getfield 22, 3) := by decide +kernel
theorem dX4_delete_15 : decode cX4_delete 15 = .ok (.iload_n 1, 1) := by decide +kernel
theorem dX4_delete_16 : decode cX4_delete 16 = .ok (.iaload, 1) := by decide +kernel
theorem dX4_delete_17 : decode cX4_delete 17 = .ok (.istore_n 2, 1) := by decide +kernel
theorem dX4_delete_18 : decode cX4_delete 18 = .ok (.aload_n 0, 1) := by decide +kernel
theorem dX4_delete_19 : decode cX4_delete 19 = .ok (.getfield 22, 3) := by decide +kernel
theorem dX4_delete_22 : decode cX4_delete 22 = .ok (.iload_n 1, 1) := by decide +kernel
theorem dX4_delete_23 : decode cX4_delete 23 = .ok (.iconst (-1), 1) := by decide +kernel
theorem dX4_delete_24 : decode cX4_delete 24 = .ok (.iastore, 1) := by decide +kernel
theorem dX4_delete_25 : decode cX4_delete 25 = .ok (.iload_n 2, 1) := by decide +kernel
theorem dX4_delete_26 : decode cX4_delete 26 = .ok (.ireturn, 1) := by decide +kernel
set_option maxRecDepth 20000 in
theorem ggX4_value_X4_in : GoodIn wsX4_value wsX4_in := goodIn_r _ [5] (by decide +kernel) (by decide +kernel)
set_option maxRecDepth 20000 in
theorem gX4_value_X4_in : GoodIn wsX4_value (va_wsS RX4 47 yX4_in wsX4_in) := goodIn_app (goodIn_of _ (by decide +kernel)) ggX4_value_X4_in
set_option maxRecDepth 20000 in
theorem ggX4_value_X4_noRow : GoodIn wsX4_value wsX4_noRow := goodIn_r _ [9, 10, 11, 12, 4, 13, 2, 3, 5, 14, 15, 16, 17, 18, 19, 20, 21, 22, 23, 24, 25, 26, 27, 28, 29, 30, 31, 32, 33, 34] (by decide +kernel) (by decide +kernel)
set_option maxRecDepth 20000 in
theorem gX4_value_X4_noRow : GoodIn wsX4_value (wsV RX4 96 RX4 yX4_noRow wsX4_noRow) := goodIn_app (goodIn_of _ (by decide +kernel)) ggX4_value_X4_noRow
theorem dX4_value_0 : decode cX4_value 0 = .ok (.aload_n 0, 1) := by decide +kernel
theorem dX4_value_1 : decode cX4_value 1 = .ok (.iload_n 2, 1) := by decide +kernel
theorem dX4_value_2 : decode cX4_value 2 = .ok (.iconst 0, 1) := by decide +kernel
theorem dX4_value_3 : decode cX4_value 3 = .ok (.iconst 2, 1) := by decide +kernel
theorem dX4_value_4 : decode cX4_value 4 = .ok (.invokestatic 47, 3) := by decide +kernel
theorem dX4_value_7 : decode cX4_value 7 = .ok (.iload_n 1, 1) := by decide +kernel
theorem dX4_value_8 : decode cX4_value 8 = .ok (.invokevirtual 96, 3) := by decide +kernel
theorem dX4_value_11 : decode cX4_value 11 = .ok (.ifCond .eq 7, 3) := by decide +kernel
theorem dX4_value_14 : decode cX4_value 14 = .ok (.iconst 0, 1) := by decide +kernel
theorem dX4_value_15 : decode cX4_value 15 = .ok (.goto 13, 3) := by decide +kernel
theorem dX4_value_18 : decode cX4_value 18 = .ok (.aload_n 0, 1) := by decide +kernel
theorem dX4_value_19 : decode cX4_value 19 = .ok (.getfield 25, 3) := by decide +kernel
theorem dX4_value_22 : decode cX4_value 22 = .ok (.iconst 3, 1) := by decide +kernel
theorem dX4_value_23 : decode cX4_value 23 = .ok (.iload_n 1, 1) := by decide +kernel
theorem dX4_value_24 : decode cX4_value 24 = .ok (.imul, 1) := by decide +kernel
theorem dX4_value_25 : decode cX4_value 25 = .ok (.iload_n 2, 1) := by decide +kernel
theorem dX4_value_26 : decode cX4_value 26 = .ok (.iadd, 1) := by decide +kernel
theorem dX4_value_27 : decode cX4_value 27 = .ok (.iaload, 1) := by decide +kernel
theorem dX4_value_28 : decode cX4_value 28 = .ok (.ireturn, 1) := by decide +kernel
set_option maxRecDepth 20000 in
theorem ggX4_version_X4_isRow : GoodIn wsX4_version wsX4_isRow := goodIn_r _ [5, 6, 7, 4, 8] (by decide +kernel) (by decide +kernel)
set_option maxRecDepth 20000 in
theorem gX4_version_X4_isRow : GoodIn wsX4_version (va_wsS RX4 86 yX4_isRow wsX4_isRow) := goodIn_app (goodIn_of _ (by decide +kernel)) ggX4_version_X4_isRow
set_option maxRecDepth 20000 in
theorem ggX4_version_X4_refused : GoodIn wsX4_version wsX4_refused := goodIn_r _ [12, 13, 14, 15, 16, 17, 18, 19, 20, 21, 22, 23, 24, 25, 26, 27, 28, 29] (by decide +kernel) (by decide +kernel)
set_option maxRecDepth 20000 in
theorem gX4_version_X4_refused : GoodIn wsX4_version (wsV RX4 58 RX4 yX4_refused wsX4_refused) := goodIn_app (goodIn_of _ (by decide +kernel)) ggX4_version_X4_refused
theorem dX4_version_0 : decode cX4_version 0 = .ok (.aload_n 0, 1) := by decide +kernel
theorem dX4_version_1 : decode cX4_version 1 = .ok (.iload_n 1, 1) := by decide +kernel
theorem dX4_version_2 : decode cX4_version 2 = .ok (.invokestatic 86, 3) := by decide +kernel
theorem dX4_version_5 : decode cX4_version 5 = .ok (.ifCond .eq 7, 3) := by decide +kernel
theorem dX4_version_8 : decode cX4_version 8 = .ok (.iconst 0, 1) := by decide +kernel
theorem dX4_version_9 : decode cX4_version 9 = .ok (.goto 4, 3) := by decide +kernel
theorem dX4_version_12 : decode cX4_version 12 = .ok (.iconst 1, 1) := by decide +kernel
theorem dX4_version_13 : decode cX4_version 13 = .ok (.invokevirtual 58, 3) := by decide +kernel
theorem dX4_version_16 : decode cX4_version 16 = .ok (.ifCond .eq 7, 3) := by decide +kernel
theorem dX4_version_19 : decode cX4_version 19 = .ok (.iconst 0, 1) := by decide +kernel
theorem dX4_version_20 : decode cX4_version 20 = .ok (.goto 9, 3) := by decide +kernel
theorem dX4_version_23 : decode cX4_version 23 = .ok (.aload_n 0, 1) := by decide +kernel
theorem dX4_version_24 : decode cX4_version 24 = .ok (.getfield 22, 3) := by decide +kernel
theorem dX4_version_27 : decode cX4_version 27 = .ok (.iload_n 1, 1) := by decide +kernel
theorem dX4_version_28 : decode cX4_version 28 = .ok (.iaload, 1) := by decide +kernel
theorem dX4_version_29 : decode cX4_version 29 = .ok (.ireturn, 1) := by decide +kernel
set_option maxRecDepth 20000 in
theorem ggX4_rowsAt_X4_in : GoodIn wsX4_rowsAt wsX4_in := goodIn_r _ [5] (by decide +kernel) (by decide +kernel)
set_option maxRecDepth 20000 in
theorem gX4_rowsAt_X4_in : GoodIn wsX4_rowsAt (va_wsS RX4 47 yX4_in wsX4_in) := goodIn_app (goodIn_of _ (by decide +kernel)) ggX4_rowsAt_X4_in
set_option maxRecDepth 20000 in
theorem ggX4_rowsAt_X4_refused : GoodIn wsX4_rowsAt wsX4_refused := goodIn_r _ [9, 10, 11, 12, 13, 14, 15, 16, 17, 18, 19, 20, 21, 22, 23, 24, 25, 26] (by decide +kernel) (by decide +kernel)
set_option maxRecDepth 20000 in
theorem gX4_rowsAt_X4_refused : GoodIn wsX4_rowsAt (wsV RX4 58 RX4 yX4_refused wsX4_refused) := goodIn_app (goodIn_of _ (by decide +kernel)) ggX4_rowsAt_X4_refused
theorem dX4_rowsAt_0 : decode cX4_rowsAt 0 = .ok (.iconst 0, 1) := by decide +kernel
theorem dX4_rowsAt_1 : decode cX4_rowsAt 1 = .ok (.istore_n 2, 1) := by decide +kernel
theorem dX4_rowsAt_2 : decode cX4_rowsAt 2 = .ok (.iconst 0, 1) := by decide +kernel
theorem dX4_rowsAt_3 : decode cX4_rowsAt 3 = .ok (.istore_n 3, 1) := by decide +kernel
theorem dX4_rowsAt_4 : decode cX4_rowsAt 4 = .ok (.iload_n 3, 1) := by decide +kernel
theorem dX4_rowsAt_5 : decode cX4_rowsAt 5 = .ok (.bipush 40, 2) := by decide +kernel
theorem dX4_rowsAt_7 : decode cX4_rowsAt 7 = .ok (.if_icmp .ge 27, 3) := by decide +kernel
theorem dX4_rowsAt_10 : decode cX4_rowsAt 10 = .ok (.iload_n 2, 1) := by decide +kernel
theorem dX4_rowsAt_11 : decode cX4_rowsAt 11 = .ok (.aload_n 0, 1) := by decide +kernel
theorem dX4_rowsAt_12 : decode cX4_rowsAt 12 = .ok (.getfield 22, 3) := by decide +kernel
theorem dX4_rowsAt_15 : decode cX4_rowsAt 15 = .ok (.iload_n 3, 1) := by decide +kernel
theorem dX4_rowsAt_16 : decode cX4_rowsAt 16 = .ok (.iaload, 1) := by decide +kernel
theorem dX4_rowsAt_17 : decode cX4_rowsAt 17 = .ok (.iload_n 1, 1) := by decide +kernel
theorem dX4_rowsAt_18 : decode cX4_rowsAt 18 = .ok (.if_icmp .ne 7, 3) := by decide +kernel
theorem dX4_rowsAt_21 : decode cX4_rowsAt 21 = .ok (.iconst 1, 1) := by decide +kernel
theorem dX4_rowsAt_22 : decode cX4_rowsAt 22 = .ok (.goto 4, 3) := by decide +kernel
theorem dX4_rowsAt_25 : decode cX4_rowsAt 25 = .ok (.iconst 0, 1) := by decide +kernel
theorem dX4_rowsAt_26 : decode cX4_rowsAt 26 = .ok (.iadd, 1) := by decide +kernel
theorem dX4_rowsAt_27 : decode cX4_rowsAt 27 = .ok (.istore_n 2, 1) := by decide +kernel
theorem dX4_rowsAt_28 : decode cX4_rowsAt 28 = .ok (.iinc 3 1, 3) := by decide +kernel
theorem dX4_rowsAt_31 : decode cX4_rowsAt 31 = .ok (.goto (-27), 3) := by decide +kernel
theorem dX4_rowsAt_34 : decode cX4_rowsAt 34 = .ok (.aload_n 0, 1) := by decide +kernel
theorem dX4_rowsAt_35 : decode cX4_rowsAt 35 = .ok (.iload_n 1, 1) := by decide +kernel
theorem dX4_rowsAt_36 : decode cX4_rowsAt 36 = .ok (.iconst 0, 1) := by decide +kernel
theorem dX4_rowsAt_37 : decode cX4_rowsAt 37 = .ok (.bipush 12, 2) := by decide +kernel
theorem dX4_rowsAt_39 : decode cX4_rowsAt 39 = .ok (.invokestatic 47, 3) := by decide +kernel
theorem dX4_rowsAt_42 : decode cX4_rowsAt 42 = .ok (.ifCond .eq 7, 3) := by decide +kernel
theorem dX4_rowsAt_45 : decode cX4_rowsAt 45 = .ok (.iconst 0, 1) := by decide +kernel
theorem dX4_rowsAt_46 : decode cX4_rowsAt 46 = .ok (.goto 4, 3) := by decide +kernel
theorem dX4_rowsAt_49 : decode cX4_rowsAt 49 = .ok (.iconst 1, 1) := by decide +kernel
theorem dX4_rowsAt_50 : decode cX4_rowsAt 50 = .ok (.invokevirtual 58, 3) := by decide +kernel
theorem dX4_rowsAt_53 : decode cX4_rowsAt 53 = .ok (.ifCond .eq 7, 3) := by decide +kernel
theorem dX4_rowsAt_56 : decode cX4_rowsAt 56 = .ok (.iconst 0, 1) := by decide +kernel
theorem dX4_rowsAt_57 : decode cX4_rowsAt 57 = .ok (.goto 4, 3) := by decide +kernel
theorem dX4_rowsAt_60 : decode cX4_rowsAt 60 = .ok (.iload_n 2, 1) := by decide +kernel
theorem dX4_rowsAt_61 : decode cX4_rowsAt 61 = .ok (.ireturn, 1) := by decide +kernel
theorem dX4_takeSpare_0 : decode cX4_takeSpare 0 = .ok (.iconst 0, 1) := by decide +kernel
theorem dX4_takeSpare_1 : decode cX4_takeSpare 1 = .ok (.istore_n 2, 1) := by decide +kernel
theorem dX4_takeSpare_2 : decode cX4_takeSpare 2 = .ok (.iload_n 2, 1) := by decide +kernel
theorem dX4_takeSpare_3 : decode cX4_takeSpare 3 = .ok (.iconst 3, 1) := by decide +kernel
theorem dX4_takeSpare_4 : decode cX4_takeSpare 4 = .ok (.if_icmp .ge 26, 3) := by decide +kernel
theorem dX4_takeSpare_7 : decode cX4_takeSpare 7 = .ok (.aload_n 0, 1) := by decide +kernel
theorem dX4_takeSpare_8 : decode cX4_takeSpare 8 = .ok (.getfield 28, 3) := by decide +kernel
theorem dX4_takeSpare_11 : decode cX4_takeSpare 11 = .ok (.iload_n 2, 1) := by decide +kernel
theorem dX4_takeSpare_12 : decode cX4_takeSpare 12 = .ok (.aload_n 0, 1) := by decide +kernel
theorem dX4_takeSpare_13 : decode cX4_takeSpare 13 = .ok (.getfield 25, 3) := by decide +kernel
theorem dX4_takeSpare_16 : decode cX4_takeSpare 16 = .ok (.iconst 3, 1) := by decide +kernel
theorem dX4_takeSpare_17 : decode cX4_takeSpare 17 = .ok (.iload_n 1, 1) := by decide +kernel
theorem dX4_takeSpare_18 : decode cX4_takeSpare 18 = .ok (.imul, 1) := by decide +kernel
theorem dX4_takeSpare_19 : decode cX4_takeSpare 19 = .ok (.iload_n 2, 1) := by decide +kernel
theorem dX4_takeSpare_20 : decode cX4_takeSpare 20 = .ok (.iadd, 1) := by decide +kernel
theorem dX4_takeSpare_21 : decode cX4_takeSpare 21 = .ok (.iaload, 1) := by decide +kernel
theorem dX4_takeSpare_22 : decode cX4_takeSpare 22 = .ok (.i2l, 1) := by decide +kernel
theorem dX4_takeSpare_23 : decode cX4_takeSpare 23 = .ok (.lastore, 1) := by decide +kernel
theorem dX4_takeSpare_24 : decode cX4_takeSpare 24 = .ok (.iinc 2 1, 3) := by decide +kernel
theorem dX4_takeSpare_27 : decode cX4_takeSpare 27 = .ok (.goto (-25), 3) := by decide +kernel
theorem dX4_takeSpare_30 : decode cX4_takeSpare 30 = .ok (.return_, 1) := by decide +kernel
set_option maxRecDepth 20000 in
theorem ggX4_tries_X4_isValue : GoodIn wsX4_tries wsX4_isValue := goodIn_r _ [8, 9, 10] (by decide +kernel) (by decide +kernel)
set_option maxRecDepth 20000 in
theorem gX4_tries_X4_isValue : GoodIn wsX4_tries (va_wsS RX4 89 yX4_isValue wsX4_isValue) := goodIn_app (goodIn_of _ (by decide +kernel)) ggX4_tries_X4_isValue
theorem dX4_tries_0 : decode cX4_tries 0 = .ok (.aload_n 0, 1) := by decide +kernel
theorem dX4_tries_1 : decode cX4_tries 1 = .ok (.getfield 13, 3) := by decide +kernel
theorem dX4_tries_4 : decode cX4_tries 4 = .ok (.iload_n 1, 1) := by decide +kernel
end
section
theorem dX4_tries_5 : decode cX4_tries 5 = .ok (.iaload, 1) := by decide +kernel
theorem dX4_tries_6 : decode cX4_tries 6 = .ok (.istore_n 3, 1) := by decide +kernel
theorem dX4_tries_7 : decode cX4_tries 7 = .ok (.aload_n 0, 1) := by decide +kernel
theorem dX4_tries_8 : decode cX4_tries 8 = .ok (.getfield 16, 3) := by decide +kernel
theorem dX4_tries_11 : decode cX4_tries 11 = .ok (.iload_n 1, 1) := by decide +kernel
theorem dX4_tries_12 : decode cX4_tries 12 = .ok (.iaload, 1) := by decide +kernel
theorem dX4_tries_13 : decode cX4_tries 13 = .ok (.i2l, 1) := by decide +kernel
theorem dX4_tries_14 : decode cX4_tries 14 = .ok (.lstore 4, 2) := by decide +kernel
theorem dX4_tries_16 : decode cX4_tries 16 = .ok (.aload_n 0, 1) := by decide +kernel
theorem dX4_tries_17 : decode cX4_tries 17 = .ok (.getfield 28, 3) := by decide +kernel
theorem dX4_tries_20 : decode cX4_tries 20 = .ok (.iload_n 3, 1) := by decide +kernel
theorem dX4_tries_21 : decode cX4_tries 21 = .ok (.laload, 1) := by decide +kernel
theorem dX4_tries_22 : decode cX4_tries 22 = .ok (.lstore 6, 2) := by decide +kernel
theorem dX4_tries_24 : decode cX4_tries 24 = .ok (.iconst 1, 1) := by decide +kernel
theorem dX4_tries_25 : decode cX4_tries 25 = .ok (.istore 8, 2) := by decide +kernel
theorem dX4_tries_27 : decode cX4_tries 27 = .ok (.aload_n 0, 1) := by decide +kernel
theorem dX4_tries_28 : decode cX4_tries 28 = .ok (.getfield 7, 3) := by decide +kernel
theorem dX4_tries_31 : decode cX4_tries 31 = .ok (.iload_n 1, 1) := by decide +kernel
theorem dX4_tries_32 : decode cX4_tries 32 = .ok (.iaload, 1) := by decide +kernel
theorem dX4_tries_33 : decode cX4_tries 33 = .ok (.ifCond .ne 29, 3) := by decide +kernel
theorem dX4_tries_36 : decode cX4_tries 36 = .ok (.aload_n 0, 1) := by decide +kernel
theorem dX4_tries_37 : decode cX4_tries 37 = .ok (.getfield 28, 3) := by decide +kernel
theorem dX4_tries_40 : decode cX4_tries 40 = .ok (.iload_n 3, 1) := by decide +kernel
theorem dX4_tries_41 : decode cX4_tries 41 = .ok (.iload_n 2, 1) := by decide +kernel
theorem dX4_tries_42 : decode cX4_tries 42 = .ok (.ifCond .eq 11, 3) := by decide +kernel
theorem dX4_tries_45 : decode cX4_tries 45 = .ok (.lload 6, 2) := by decide +kernel
theorem dX4_tries_47 : decode cX4_tries 47 = .ok (.lload 4, 2) := by decide +kernel
theorem dX4_tries_49 : decode cX4_tries 49 = .ok (.lsub, 1) := by decide +kernel
theorem dX4_tries_50 : decode cX4_tries 50 = .ok (.goto 8, 3) := by decide +kernel
theorem dX4_tries_53 : decode cX4_tries 53 = .ok (.lload 6, 2) := by decide +kernel
theorem dX4_tries_55 : decode cX4_tries 55 = .ok (.lload 4, 2) := by decide +kernel
theorem dX4_tries_57 : decode cX4_tries 57 = .ok (.ladd, 1) := by decide +kernel
theorem dX4_tries_58 : decode cX4_tries 58 = .ok (.lastore, 1) := by decide +kernel
theorem dX4_tries_59 : decode cX4_tries 59 = .ok (.goto 92, 3) := by decide +kernel
theorem dX4_tries_62 : decode cX4_tries 62 = .ok (.aload_n 0, 1) := by decide +kernel
theorem dX4_tries_63 : decode cX4_tries 63 = .ok (.getfield 7, 3) := by decide +kernel
theorem dX4_tries_66 : decode cX4_tries 66 = .ok (.iload_n 1, 1) := by decide +kernel
theorem dX4_tries_67 : decode cX4_tries 67 = .ok (.iaload, 1) := by decide +kernel
theorem dX4_tries_68 : decode cX4_tries 68 = .ok (.iconst 2, 1) := by decide +kernel
theorem dX4_tries_69 : decode cX4_tries 69 = .ok (.if_icmp .ne 36, 3) := by decide +kernel
theorem dX4_tries_72 : decode cX4_tries 72 = .ok (.aload_n 0, 1) := by decide +kernel
theorem dX4_tries_73 : decode cX4_tries 73 = .ok (.getfield 28, 3) := by decide +kernel
theorem dX4_tries_76 : decode cX4_tries 76 = .ok (.iload_n 3, 1) := by decide +kernel
theorem dX4_tries_77 : decode cX4_tries 77 = .ok (.aload_n 0, 1) := by decide +kernel
theorem dX4_tries_78 : decode cX4_tries 78 = .ok (.getfield 28, 3) := by decide +kernel
theorem dX4_tries_81 : decode cX4_tries 81 = .ok (.aload_n 0, 1) := by decide +kernel
theorem dX4_tries_82 : decode cX4_tries 82 = .ok (.getfield 16, 3) := by decide +kernel
theorem dX4_tries_85 : decode cX4_tries 85 = .ok (.iload_n 1, 1) := by decide +kernel
theorem dX4_tries_86 : decode cX4_tries 86 = .ok (.iaload, 1) := by decide +kernel
theorem dX4_tries_87 : decode cX4_tries 87 = .ok (.laload, 1) := by decide +kernel
theorem dX4_tries_88 : decode cX4_tries 88 = .ok (.lastore, 1) := by decide +kernel
theorem dX4_tries_89 : decode cX4_tries 89 = .ok (.aload_n 0, 1) := by decide +kernel
theorem dX4_tries_90 : decode cX4_tries 90 = .ok (.getfield 28, 3) := by decide +kernel
theorem dX4_tries_93 : decode cX4_tries 93 = .ok (.aload_n 0, 1) := by decide +kernel
theorem dX4_tries_94 : decode cX4_tries 94 = .ok (.getfield 16, 3) := by decide +kernel
theorem dX4_tries_97 : decode cX4_tries 97 = .ok (.iload_n 1, 1) := by decide +kernel
theorem dX4_tries_98 : decode cX4_tries 98 = .ok (.iaload, 1) := by decide +kernel
theorem dX4_tries_99 : decode cX4_tries 99 = .ok (.lload 6, 2) := by decide +kernel
theorem dX4_tries_101 : decode cX4_tries 101 = .ok (.lastore, 1) := by decide +kernel
theorem dX4_tries_102 : decode cX4_tries 102 = .ok (.goto 49, 3) := by decide +kernel
theorem dX4_tries_105 : decode cX4_tries 105 = .ok (.iload_n 2, 1) := by decide +kernel
theorem dX4_tries_106 : decode cX4_tries 106 = .ok (.ifCond .eq 34, 3) := by decide +kernel
theorem dX4_tries_109 : decode cX4_tries 109 = .ok (.lload 6, 2) := by decide +kernel
theorem dX4_tries_111 : decode cX4_tries 111 = .ok (.lload 4, 2) := by decide +kernel
theorem dX4_tries_113 : decode cX4_tries 113 = .ok (.lrem, 1) := by decide +kernel
theorem dX4_tries_114 : decode cX4_tries 114 = .ok (.lconst 0, 1) := by decide +kernel
theorem dX4_tries_115 : decode cX4_tries 115 = .ok (.lcmp, 1) := by decide +kernel
theorem dX4_tries_116 : decode cX4_tries 116 = .ok (.ifCond .ne 7, 3) := by decide +kernel
theorem dX4_tries_119 : decode cX4_tries 119 = .ok (.iconst 1, 1) := by decide +kernel
theorem dX4_tries_120 : decode cX4_tries 120 = .ok (.goto 4, 3) := by decide +kernel
theorem dX4_tries_123 : decode cX4_tries 123 = .ok (.iconst 0, 1) := by decide +kernel
theorem dX4_tries_124 : decode cX4_tries 124 = .ok (.istore 8, 2) := by decide +kernel
theorem dX4_tries_126 : decode cX4_tries 126 = .ok (.aload_n 0, 1) := by decide +kernel
theorem dX4_tries_127 : decode cX4_tries 127 = .ok (.getfield 28, 3) := by decide +kernel
theorem dX4_tries_130 : decode cX4_tries 130 = .ok (.iload_n 3, 1) := by decide +kernel
theorem dX4_tries_131 : decode cX4_tries 131 = .ok (.lload 6, 2) := by decide +kernel
theorem dX4_tries_133 : decode cX4_tries 133 = .ok (.lload 4, 2) := by decide +kernel
theorem dX4_tries_135 : decode cX4_tries 135 = .ok (.ldiv, 1) := by decide +kernel
theorem dX4_tries_136 : decode cX4_tries 136 = .ok (.lastore, 1) := by decide +kernel
theorem dX4_tries_137 : decode cX4_tries 137 = .ok (.goto 14, 3) := by decide +kernel
theorem dX4_tries_140 : decode cX4_tries 140 = .ok (.aload_n 0, 1) := by decide +kernel
theorem dX4_tries_141 : decode cX4_tries 141 = .ok (.getfield 28, 3) := by decide +kernel
theorem dX4_tries_144 : decode cX4_tries 144 = .ok (.iload_n 3, 1) := by decide +kernel
theorem dX4_tries_145 : decode cX4_tries 145 = .ok (.lload 6, 2) := by decide +kernel
theorem dX4_tries_147 : decode cX4_tries 147 = .ok (.lload 4, 2) := by decide +kernel
theorem dX4_tries_149 : decode cX4_tries 149 = .ok (.lmul, 1) := by decide +kernel
theorem dX4_tries_150 : decode cX4_tries 150 = .ok (.lastore, 1) := by decide +kernel
theorem dX4_tries_151 : decode cX4_tries 151 = .ok (.iload 8, 2) := by decide +kernel
theorem dX4_tries_153 : decode cX4_tries 153 = .ok (.ifCond .eq 19, 3) := by decide +kernel
theorem dX4_tries_156 : decode cX4_tries 156 = .ok (.aload_n 0, 1) := by decide +kernel
theorem dX4_tries_157 : decode cX4_tries 157 = .ok (.getfield 28, 3) := by decide +kernel
theorem dX4_tries_160 : decode cX4_tries 160 = .ok (.iload_n 3, 1) := by decide +kernel
theorem dX4_tries_161 : decode cX4_tries 161 = .ok (.laload, 1) := by decide +kernel
theorem dX4_tries_162 : decode cX4_tries 162 = .ok (.invokestatic 89, 3) := by decide +kernel
theorem dX4_tries_165 : decode cX4_tries 165 = .ok (.ifCond .eq 7, 3) := by decide +kernel
theorem dX4_tries_168 : decode cX4_tries 168 = .ok (.iconst 1, 1) := by decide +kernel
theorem dX4_tries_169 : decode cX4_tries 169 = .ok (.goto 4, 3) := by decide +kernel
theorem dX4_tries_172 : decode cX4_tries 172 = .ok (.iconst 0, 1) := by decide +kernel
theorem dX4_tries_173 : decode cX4_tries 173 = .ok (.ireturn, 1) := by decide +kernel
set_option maxRecDepth 20000 in
theorem ggX4_valueAt_X4_in : GoodIn wsX4_valueAt wsX4_in := goodIn_r _ [7] (by decide +kernel) (by decide +kernel)
set_option maxRecDepth 20000 in
theorem gX4_valueAt_X4_in : GoodIn wsX4_valueAt (va_wsS RX4 47 yX4_in wsX4_in) := goodIn_app (goodIn_of _ (by decide +kernel)) ggX4_valueAt_X4_in
set_option maxRecDepth 20000 in
theorem ggX4_valueAt_X4_noRow : GoodIn wsX4_valueAt wsX4_noRow := goodIn_r _ [11, 2, 12, 13, 6, 14, 4, 5, 7, 15, 16, 17, 18, 19, 37, 38, 39, 40, 41, 42, 43, 44, 45, 46, 47, 48, 49, 50, 51, 52] (by decide +kernel) (by decide +kernel)
set_option maxRecDepth 20000 in
theorem gX4_valueAt_X4_noRow : GoodIn wsX4_valueAt (wsV RX4 96 RX4 yX4_noRow wsX4_noRow) := goodIn_app (goodIn_of _ (by decide +kernel)) ggX4_valueAt_X4_noRow
set_option maxRecDepth 20000 in
theorem ggX4_valueAt_X4_takeSpare : GoodIn wsX4_valueAt wsX4_takeSpare := goodIn_r _ [23, 3, 24, 37, 38, 39, 40, 41, 42, 43, 44, 45, 46, 47, 48, 49, 50, 51, 52] (by decide +kernel) (by decide +kernel)
set_option maxRecDepth 20000 in
theorem gX4_valueAt_X4_takeSpare : GoodIn wsX4_valueAt (wsV RX4 100 RX4 yX4_takeSpare wsX4_takeSpare) := goodIn_app (goodIn_of _ (by decide +kernel)) ggX4_valueAt_X4_takeSpare
set_option maxRecDepth 20000 in
theorem ggX4_valueAt_X4_tries : GoodIn wsX4_valueAt wsX4_tries := goodIn_r _ [28, 29, 30, 3, 31, 32, 33, 6, 34, 35, 36, 37, 38, 39, 40, 41, 42, 43, 44, 45, 46, 47, 48, 49, 50, 51, 52] (by decide +kernel) (by decide +kernel)
set_option maxRecDepth 20000 in
theorem gX4_valueAt_X4_tries : GoodIn wsX4_valueAt (wsV RX4 104 RX4 yX4_tries wsX4_tries) := goodIn_app (goodIn_of _ (by decide +kernel)) ggX4_valueAt_X4_tries
set_option maxRecDepth 20000 in
theorem ggX4_valueAt_X4_refused : GoodIn wsX4_valueAt wsX4_refused := goodIn_r _ [18, 19, 37, 38, 39, 40, 41, 42, 43, 44, 45, 46, 47, 48, 49, 50, 51, 52] (by decide +kernel) (by decide +kernel)
set_option maxRecDepth 20000 in
theorem gX4_valueAt_X4_refused : GoodIn wsX4_valueAt (wsV RX4 58 RX4 yX4_refused wsX4_refused) := goodIn_app (goodIn_of _ (by decide +kernel)) ggX4_valueAt_X4_refused
theorem dX4_valueAt_0 : decode cX4_valueAt 0 = .ok (.aload_n 0, 1) := by decide +kernel
theorem dX4_valueAt_1 : decode cX4_valueAt 1 = .ok (.iload_n 2, 1) := by decide +kernel
theorem dX4_valueAt_2 : decode cX4_valueAt 2 = .ok (.iconst 0, 1) := by decide +kernel
theorem dX4_valueAt_3 : decode cX4_valueAt 3 = .ok (.iconst 2, 1) := by decide +kernel
theorem dX4_valueAt_4 : decode cX4_valueAt 4 = .ok (.invokestatic 47, 3) := by decide +kernel
theorem dX4_valueAt_7 : decode cX4_valueAt 7 = .ok (.ifCond .eq 19, 3) := by decide +kernel
theorem dX4_valueAt_10 : decode cX4_valueAt 10 = .ok (.iload_n 3, 1) := by decide +kernel
theorem dX4_valueAt_11 : decode cX4_valueAt 11 = .ok (.iconst 0, 1) := by decide +kernel
theorem dX4_valueAt_12 : decode cX4_valueAt 12 = .ok (.aload_n 0, 1) := by decide +kernel
theorem dX4_valueAt_13 : decode cX4_valueAt 13 = .ok (.getfield 55, 3) := by decide +kernel
theorem dX4_valueAt_16 : decode cX4_valueAt 16 = .ok (.invokestatic 47, 3) := by decide +kernel
theorem dX4_valueAt_19 : decode cX4_valueAt 19 = .ok (.ifCond .eq 7, 3) := by decide +kernel
theorem dX4_valueAt_22 : decode cX4_valueAt 22 = .ok (.iconst 1, 1) := by decide +kernel
theorem dX4_valueAt_23 : decode cX4_valueAt 23 = .ok (.goto 4, 3) := by decide +kernel
theorem dX4_valueAt_26 : decode cX4_valueAt 26 = .ok (.iconst 0, 1) := by decide +kernel
theorem dX4_valueAt_27 : decode cX4_valueAt 27 = .ok (.iload_n 1, 1) := by decide +kernel
theorem dX4_valueAt_28 : decode cX4_valueAt 28 = .ok (.invokevirtual 96, 3) := by decide +kernel
theorem dX4_valueAt_31 : decode cX4_valueAt 31 = .ok (.ifCond .eq 5, 3) := by decide +kernel
theorem dX4_valueAt_34 : decode cX4_valueAt 34 = .ok (.iconst 0, 1) := by decide +kernel
theorem dX4_valueAt_35 : decode cX4_valueAt 35 = .ok (.ireturn, 1) := by decide +kernel
theorem dX4_valueAt_36 : decode cX4_valueAt 36 = .ok (.aload_n 0, 1) := by decide +kernel
theorem dX4_valueAt_37 : decode cX4_valueAt 37 = .ok (.iload_n 1, 1) := by decide +kernel
theorem dX4_valueAt_38 : decode cX4_valueAt 38 = .ok (.invokevirtual 100, 3) := by decide +kernel
theorem dX4_valueAt_41 : decode cX4_valueAt 41 = .ok (.iconst 1, 1) := by decide +kernel
theorem dX4_valueAt_42 : decode cX4_valueAt 42 = .ok (.istore 4, 2) := by decide +kernel
theorem dX4_valueAt_44 : decode cX4_valueAt 44 = .ok (.aload_n 0, 1) := by decide +kernel
theorem dX4_valueAt_45 : decode cX4_valueAt 45 = .ok (.getfield 22, 3) := by decide +kernel
theorem dX4_valueAt_48 : decode cX4_valueAt 48 = .ok (.iload_n 1, 1) := by decide +kernel
theorem dX4_valueAt_49 : decode cX4_valueAt 49 = .ok (.iaload, 1) := by decide +kernel
theorem dX4_valueAt_50 : decode cX4_valueAt 50 = .ok (.iconst 1, 1) := by decide +kernel
theorem dX4_valueAt_51 : decode cX4_valueAt 51 = .ok (.iadd, 1) := by decide +kernel
theorem dX4_valueAt_52 : decode cX4_valueAt 52 = .ok (.istore 5, 2) := by decide +kernel
theorem dX4_valueAt_54 : decode cX4_valueAt 54 = .ok (.iload 5, 2) := by decide +kernel
theorem dX4_valueAt_56 : decode cX4_valueAt 56 = .ok (.iload_n 3, 1) := by decide +kernel
theorem dX4_valueAt_57 : decode cX4_valueAt 57 = .ok (.if_icmp .gt 31, 3) := by decide +kernel
theorem dX4_valueAt_60 : decode cX4_valueAt 60 = .ok (.iload 4, 2) := by decide +kernel
theorem dX4_valueAt_62 : decode cX4_valueAt 62 = .ok (.ifCond .eq 17, 3) := by decide +kernel
theorem dX4_valueAt_65 : decode cX4_valueAt 65 = .ok (.aload_n 0, 1) := by decide +kernel
theorem dX4_valueAt_66 : decode cX4_valueAt 66 = .ok (.iload 5, 2) := by decide +kernel
theorem dX4_valueAt_68 : decode cX4_valueAt 68 = .ok (.iconst 0, 1) := by decide +kernel
theorem dX4_valueAt_69 : decode cX4_valueAt 69 = .ok (.invokevirtual 104, 3) := by decide +kernel
theorem dX4_valueAt_72 : decode cX4_valueAt 72 = .ok (.ifCond .eq 7, 3) := by decide +kernel
theorem dX4_valueAt_75 : decode cX4_valueAt 75 = .ok (.iconst 1, 1) := by decide +kernel
theorem dX4_valueAt_76 : decode cX4_valueAt 76 = .ok (.goto 4, 3) := by decide +kernel
theorem dX4_valueAt_79 : decode cX4_valueAt 79 = .ok (.iconst 0, 1) := by decide +kernel
theorem dX4_valueAt_80 : decode cX4_valueAt 80 = .ok (.istore 4, 2) := by decide +kernel
theorem dX4_valueAt_82 : decode cX4_valueAt 82 = .ok (.iinc 5 1, 3) := by decide +kernel
theorem dX4_valueAt_85 : decode cX4_valueAt 85 = .ok (.goto (-31), 3) := by decide +kernel
theorem dX4_valueAt_88 : decode cX4_valueAt 88 = .ok (.aload_n 0, 1) := by decide +kernel
theorem dX4_valueAt_89 : decode cX4_valueAt 89 = .ok (.getfield 22, 3) := by decide +kernel
theorem dX4_valueAt_92 : decode cX4_valueAt 92 = .ok (.iload_n 1, 1) := by decide +kernel
theorem dX4_valueAt_93 : decode cX4_valueAt 93 = .ok (.iaload, 1) := by decide +kernel
theorem dX4_valueAt_94 : decode cX4_valueAt 94 = .ok (.istore 5, 2) := by decide +kernel
theorem dX4_valueAt_96 : decode cX4_valueAt 96 = .ok (.iload 5, 2) := by decide +kernel
theorem dX4_valueAt_98 : decode cX4_valueAt 98 = .ok (.iload_n 3, 1) := by decide +kernel
theorem dX4_valueAt_99 : decode cX4_valueAt 99 = .ok (.if_icmp .le 31, 3) := by decide +kernel
theorem dX4_valueAt_102 : decode cX4_valueAt 102 = .ok (.iload 4, 2) := by decide +kernel
theorem dX4_valueAt_104 : decode cX4_valueAt 104 = .ok (.ifCond .eq 17, 3) := by decide +kernel
theorem dX4_valueAt_107 : decode cX4_valueAt 107 = .ok (.aload_n 0, 1) := by decide +kernel
theorem dX4_valueAt_108 : decode cX4_valueAt 108 = .ok (.iload 5, 2) := by decide +kernel
theorem dX4_valueAt_110 : decode cX4_valueAt 110 = .ok (.iconst 1, 1) := by decide +kernel
theorem dX4_valueAt_111 : decode cX4_valueAt 111 = .ok (.invokevirtual 104, 3) := by decide +kernel
theorem dX4_valueAt_114 : decode cX4_valueAt 114 = .ok (.ifCond .eq 7, 3) := by decide +kernel
theorem dX4_valueAt_117 : decode cX4_valueAt 117 = .ok (.iconst 1, 1) := by decide +kernel
theorem dX4_valueAt_118 : decode cX4_valueAt 118 = .ok (.goto 4, 3) := by decide +kernel
theorem dX4_valueAt_121 : decode cX4_valueAt 121 = .ok (.iconst 0, 1) := by decide +kernel
theorem dX4_valueAt_122 : decode cX4_valueAt 122 = .ok (.istore 4, 2) := by decide +kernel
theorem dX4_valueAt_124 : decode cX4_valueAt 124 = .ok (.iinc 5 (-1), 3) := by decide +kernel
theorem dX4_valueAt_127 : decode cX4_valueAt 127 = .ok (.goto (-31), 3) := by decide +kernel
theorem dX4_valueAt_130 : decode cX4_valueAt 130 = .ok (.aload_n 0, 1) := by decide +kernel
theorem dX4_valueAt_131 : decode cX4_valueAt 131 = .ok (.iload 4, 2) := by decide +kernel
theorem dX4_valueAt_133 : decode cX4_valueAt 133 = .ok (.ifCond .eq 7, 3) := by decide +kernel
theorem dX4_valueAt_136 : decode cX4_valueAt 136 = .ok (.iconst 0, 1) := by decide +kernel
theorem dX4_valueAt_137 : decode cX4_valueAt 137 = .ok (.goto 4, 3) := by decide +kernel
theorem dX4_valueAt_140 : decode cX4_valueAt 140 = .ok (.iconst 3, 1) := by decide +kernel
theorem dX4_valueAt_141 : decode cX4_valueAt 141 = .ok (.invokevirtual 58, 3) := by decide +kernel
theorem dX4_valueAt_144 : decode cX4_valueAt 144 = .ok (.ifCond .eq 7, 3) := by decide +kernel
theorem dX4_valueAt_147 : decode cX4_valueAt 147 = .ok (.iconst 0, 1) := by decide +kernel
theorem dX4_valueAt_148 : decode cX4_valueAt 148 = .ok (.goto 10, 3) := by decide +kernel
theorem dX4_valueAt_151 : decode cX4_valueAt 151 = .ok (.aload_n 0, 1) := by decide +kernel
theorem dX4_valueAt_152 : decode cX4_valueAt 152 = .ok (.getfield 28, 3) := by decide +kernel
theorem dX4_valueAt_155 : decode cX4_valueAt 155 = .ok (.iload_n 2, 1) := by decide +kernel
theorem dX4_valueAt_156 : decode cX4_valueAt 156 = .ok (.laload, 1) := by decide +kernel
theorem dX4_valueAt_157 : decode cX4_valueAt 157 = .ok (.l2i, 1) := by decide +kernel
theorem dX4_valueAt_158 : decode cX4_valueAt 158 = .ok (.ireturn, 1) := by decide +kernel
theorem dX4_isHeld_0 : decode cX4_isHeld 0 = .ok (.aload_n 0, 1) := by decide +kernel
theorem dX4_isHeld_1 : decode cX4_isHeld 1 = .ok (.getfield 32, 3) := by decide +kernel
theorem dX4_isHeld_4 : decode cX4_isHeld 4 = .ok (.iconst (-1), 1) := by decide +kernel
theorem dX4_isHeld_5 : decode cX4_isHeld 5 = .ok (.if_icmp .eq 18, 3) := by decide +kernel
theorem dX4_isHeld_8 : decode cX4_isHeld 8 = .ok (.aload_n 0, 1) := by decide +kernel
theorem dX4_isHeld_9 : decode cX4_isHeld 9 = .ok (.getfield 108, 3) := by decide +kernel
theorem dX4_isHeld_12 : decode cX4_isHeld 12 = .ok (.aload_n 0, 1) := by decide +kernel
theorem dX4_isHeld_13 : decode cX4_isHeld 13 = .ok (.getfield 111, 3) := by decide +kernel
theorem dX4_isHeld_16 : decode cX4_isHeld 16 = .ok (.if_icmp .ge 7, 3) := by decide +kernel
theorem dX4_isHeld_19 : decode cX4_isHeld 19 = .ok (.iconst 1, 1) := by decide +kernel
theorem dX4_isHeld_20 : decode cX4_isHeld 20 = .ok (.goto 4, 3) := by decide +kernel
theorem dX4_isHeld_23 : decode cX4_isHeld 23 = .ok (.iconst 0, 1) := by decide +kernel
theorem dX4_isHeld_24 : decode cX4_isHeld 24 = .ok (.ireturn, 1) := by decide +kernel
set_option maxRecDepth 20000 in
theorem ggX4_has_X4_isHeld : GoodIn wsX4_has wsX4_isHeld := goodIn_r _ [6, 1, 7, 8, 9, 10, 11, 12, 13, 14, 15, 16, 17, 18, 19, 20, 21, 22, 23, 24] (by decide +kernel) (by decide +kernel)
set_option maxRecDepth 20000 in
theorem gX4_has_X4_isHeld : GoodIn wsX4_has (wsV RX4 114 RX4 yX4_isHeld wsX4_isHeld) := goodIn_app (goodIn_of _ (by decide +kernel)) ggX4_has_X4_isHeld
theorem dX4_has_0 : decode cX4_has 0 = .ok (.aload_n 0, 1) := by decide +kernel
theorem dX4_has_1 : decode cX4_has 1 = .ok (.invokevirtual 114, 3) := by decide +kernel
theorem dX4_has_4 : decode cX4_has 4 = .ok (.ifCond .eq 15, 3) := by decide +kernel
theorem dX4_has_7 : decode cX4_has 7 = .ok (.aload_n 0, 1) := by decide +kernel
theorem dX4_has_8 : decode cX4_has 8 = .ok (.getfield 32, 3) := by decide +kernel
theorem dX4_has_11 : decode cX4_has 11 = .ok (.iload_n 1, 1) := by decide +kernel
theorem dX4_has_12 : decode cX4_has 12 = .ok (.if_icmp .ne 7, 3) := by decide +kernel
theorem dX4_has_15 : decode cX4_has 15 = .ok (.iconst 1, 1) := by decide +kernel
theorem dX4_has_16 : decode cX4_has 16 = .ok (.goto 4, 3) := by decide +kernel
theorem dX4_has_19 : decode cX4_has 19 = .ok (.iconst 0, 1) := by decide +kernel
theorem dX4_has_20 : decode cX4_has 20 = .ok (.ireturn, 1) := by decide +kernel
set_option maxRecDepth 20000 in
theorem ggX4_isWorker_X4_in : GoodIn wsX4_isWorker wsX4_in := goodIn_r _ [4] (by decide +kernel) (by decide +kernel)
set_option maxRecDepth 20000 in
theorem gX4_isWorker_X4_in : GoodIn wsX4_isWorker (va_wsS RX4 47 yX4_in wsX4_in) := goodIn_app (goodIn_of _ (by decide +kernel)) ggX4_isWorker_X4_in
theorem dX4_isWorker_0 : decode cX4_isWorker 0 = .ok (.iload_n 0, 1) := by decide +kernel
theorem dX4_isWorker_1 : decode cX4_isWorker 1 = .ok (.iconst 0, 1) := by decide +kernel
theorem dX4_isWorker_2 : decode cX4_isWorker 2 = .ok (.iconst 3, 1) := by decide +kernel
theorem dX4_isWorker_3 : decode cX4_isWorker 3 = .ok (.invokestatic 47, 3) := by decide +kernel
theorem dX4_isWorker_6 : decode cX4_isWorker 6 = .ok (.ireturn, 1) := by decide +kernel
set_option maxRecDepth 20000 in
theorem ggX4_cannot_X4_has : GoodIn wsX4_cannot wsX4_has := goodIn_r _ [6, 7, 8, 9, 10, 5, 11, 12, 13, 14, 15, 16, 17, 18, 19, 20, 21, 22, 23, 24, 25, 26, 27, 28, 29] (by decide +kernel) (by decide +kernel)
set_option maxRecDepth 20000 in
theorem gX4_cannot_X4_has : GoodIn wsX4_cannot (wsV RX4 118 RX4 yX4_has wsX4_has) := goodIn_app (goodIn_of _ (by decide +kernel)) ggX4_cannot_X4_has
theorem dX4_cannot_0 : decode cX4_cannot 0 = .ok (.aload_n 0, 1) := by decide +kernel
theorem dX4_cannot_1 : decode cX4_cannot 1 = .ok (.getfield 36, 3) := by decide +kernel
theorem dX4_cannot_4 : decode cX4_cannot 4 = .ok (.iload_n 1, 1) := by decide +kernel
theorem dX4_cannot_5 : decode cX4_cannot 5 = .ok (.baload, 1) := by decide +kernel
theorem dX4_cannot_6 : decode cX4_cannot 6 = .ok (.ifCond .ne 11, 3) := by decide +kernel
theorem dX4_cannot_9 : decode cX4_cannot 9 = .ok (.aload_n 0, 1) := by decide +kernel
theorem dX4_cannot_10 : decode cX4_cannot 10 = .ok (.iload_n 1, 1) := by decide +kernel
theorem dX4_cannot_11 : decode cX4_cannot 11 = .ok (.invokevirtual 118, 3) := by decide +kernel
theorem dX4_cannot_14 : decode cX4_cannot 14 = .ok (.ifCond .ne 7, 3) := by decide +kernel
theorem dX4_cannot_17 : decode cX4_cannot 17 = .ok (.iconst 1, 1) := by decide +kernel
theorem dX4_cannot_18 : decode cX4_cannot 18 = .ok (.goto 4, 3) := by decide +kernel
theorem dX4_cannot_21 : decode cX4_cannot 21 = .ok (.iconst 0, 1) := by decide +kernel
theorem dX4_cannot_22 : decode cX4_cannot 22 = .ok (.ireturn, 1) := by decide +kernel
set_option maxRecDepth 20000 in
theorem ggX4_take_X4_isWorker : GoodIn wsX4_take wsX4_isWorker := goodIn_r _ [8, 9, 10, 7, 11] (by decide +kernel) (by decide +kernel)
set_option maxRecDepth 20000 in
theorem gX4_take_X4_isWorker : GoodIn wsX4_take (va_wsS RX4 121 yX4_isWorker wsX4_isWorker) := goodIn_app (goodIn_of _ (by decide +kernel)) ggX4_take_X4_isWorker
set_option maxRecDepth 20000 in
theorem ggX4_take_X4_in : GoodIn wsX4_take wsX4_in := goodIn_r _ [11] (by decide +kernel) (by decide +kernel)
set_option maxRecDepth 20000 in
theorem gX4_take_X4_in : GoodIn wsX4_take (va_wsS RX4 47 yX4_in wsX4_in) := goodIn_app (goodIn_of _ (by decide +kernel)) ggX4_take_X4_in
set_option maxRecDepth 20000 in
theorem ggX4_take_X4_isHeld : GoodIn wsX4_take wsX4_isHeld := goodIn_r _ [15, 2, 3, 4, 21, 22, 23, 24, 25, 26, 27, 28, 29, 30, 31, 32, 33, 34, 35, 36] (by decide +kernel) (by decide +kernel)
set_option maxRecDepth 20000 in
theorem gX4_take_X4_isHeld : GoodIn wsX4_take (wsV RX4 114 RX4 yX4_isHeld wsX4_isHeld) := goodIn_app (goodIn_of _ (by decide +kernel)) ggX4_take_X4_isHeld
set_option maxRecDepth 20000 in
theorem ggX4_take_X4_refused : GoodIn wsX4_take wsX4_refused := goodIn_r _ [19, 20, 21, 22, 23, 24, 25, 26, 27, 28, 29, 30, 31, 32, 33, 34, 35, 36] (by decide +kernel) (by decide +kernel)
set_option maxRecDepth 20000 in
theorem gX4_take_X4_refused : GoodIn wsX4_take (wsV RX4 58 RX4 yX4_refused wsX4_refused) := goodIn_app (goodIn_of _ (by decide +kernel)) ggX4_take_X4_refused
theorem dX4_take_0 : decode cX4_take 0 = .ok (.iload_n 1, 1) := by decide +kernel
theorem dX4_take_1 : decode cX4_take 1 = .ok (.invokestatic 121, 3) := by decide +kernel
theorem dX4_take_4 : decode cX4_take 4 = .ok (.ifCond .eq 17, 3) := by decide +kernel
theorem dX4_take_7 : decode cX4_take 7 = .ok (.iload_n 2, 1) := by decide +kernel
theorem dX4_take_8 : decode cX4_take 8 = .ok (.iconst 1, 1) := by decide +kernel
theorem dX4_take_9 : decode cX4_take 9 = .ok (.bipush 100, 2) := by decide +kernel
theorem dX4_take_11 : decode cX4_take 11 = .ok (.invokestatic 47, 3) := by decide +kernel
theorem dX4_take_14 : decode cX4_take 14 = .ok (.ifCond .eq 7, 3) := by decide +kernel
theorem dX4_take_17 : decode cX4_take 17 = .ok (.iconst 1, 1) := by decide +kernel
theorem dX4_take_18 : decode cX4_take 18 = .ok (.goto 4, 3) := by decide +kernel
theorem dX4_take_21 : decode cX4_take 21 = .ok (.iconst 0, 1) := by decide +kernel
theorem dX4_take_22 : decode cX4_take 22 = .ok (.istore_n 3, 1) := by decide +kernel
theorem dX4_take_23 : decode cX4_take 23 = .ok (.aload_n 0, 1) := by decide +kernel
theorem dX4_take_24 : decode cX4_take 24 = .ok (.iload_n 3, 1) := by decide +kernel
theorem dX4_take_25 : decode cX4_take 25 = .ok (.ifCond .ne 7, 3) := by decide +kernel
theorem dX4_take_28 : decode cX4_take 28 = .ok (.iconst 1, 1) := by decide +kernel
theorem dX4_take_29 : decode cX4_take 29 = .ok (.goto 32, 3) := by decide +kernel
theorem dX4_take_32 : decode cX4_take 32 = .ok (.aload_n 0, 1) := by decide +kernel
theorem dX4_take_33 : decode cX4_take 33 = .ok (.getfield 36, 3) := by decide +kernel
theorem dX4_take_36 : decode cX4_take 36 = .ok (.iload_n 1, 1) := by decide +kernel
theorem dX4_take_37 : decode cX4_take 37 = .ok (.baload, 1) := by decide +kernel
theorem dX4_take_38 : decode cX4_take 38 = .ok (.ifCond .ne 18, 3) := by decide +kernel
theorem dX4_take_41 : decode cX4_take 41 = .ok (.aload_n 0, 1) := by decide +kernel
theorem dX4_take_42 : decode cX4_take 42 = .ok (.invokevirtual 114, 3) := by decide +kernel
theorem dX4_take_45 : decode cX4_take 45 = .ok (.ifCond .eq 15, 3) := by decide +kernel
theorem dX4_take_48 : decode cX4_take 48 = .ok (.aload_n 0, 1) := by decide +kernel
theorem dX4_take_49 : decode cX4_take 49 = .ok (.getfield 32, 3) := by decide +kernel
theorem dX4_take_52 : decode cX4_take 52 = .ok (.iload_n 1, 1) := by decide +kernel
theorem dX4_take_53 : decode cX4_take 53 = .ok (.if_icmp .eq 7, 3) := by decide +kernel
theorem dX4_take_56 : decode cX4_take 56 = .ok (.iconst 2, 1) := by decide +kernel
theorem dX4_take_57 : decode cX4_take 57 = .ok (.goto 4, 3) := by decide +kernel
theorem dX4_take_60 : decode cX4_take 60 = .ok (.iconst 0, 1) := by decide +kernel
theorem dX4_take_61 : decode cX4_take 61 = .ok (.invokevirtual 58, 3) := by decide +kernel
theorem dX4_take_64 : decode cX4_take 64 = .ok (.ifCond .eq 5, 3) := by decide +kernel
theorem dX4_take_67 : decode cX4_take 67 = .ok (.iconst 0, 1) := by decide +kernel
theorem dX4_take_68 : decode cX4_take 68 = .ok (.ireturn, 1) := by decide +kernel
theorem dX4_take_69 : decode cX4_take 69 = .ok (.aload_n 0, 1) := by decide +kernel
theorem dX4_take_70 : decode cX4_take 70 = .ok (.iload_n 1, 1) := by decide +kernel
theorem dX4_take_71 : decode cX4_take 71 = .ok (.putfield 32, 3) := by decide +kernel
theorem dX4_take_74 : decode cX4_take 74 = .ok (.aload_n 0, 1) := by decide +kernel
theorem dX4_take_75 : decode cX4_take 75 = .ok (.aload_n 0, 1) := by decide +kernel
theorem dX4_take_76 : decode cX4_take 76 = .ok (.getfield 108, 3) := by decide +kernel
theorem dX4_take_79 : decode cX4_take 79 = .ok (.iload_n 2, 1) := by decide +kernel
theorem dX4_take_80 : decode cX4_take 80 = .ok (.iadd, 1) := by decide +kernel
theorem dX4_take_81 : decode cX4_take 81 = .ok (.putfield 111, 3) := by decide +kernel
theorem dX4_take_84 : decode cX4_take 84 = .ok (.aload_n 0, 1) := by decide +kernel
theorem dX4_take_85 : decode cX4_take 85 = .ok (.getfield 111, 3) := by decide +kernel
theorem dX4_take_88 : decode cX4_take 88 = .ok (.ireturn, 1) := by decide +kernel
set_option maxRecDepth 20000 in
theorem ggX4_giveBack_X4_isWorker : GoodIn wsX4_giveBack wsX4_isWorker := goodIn_r _ [5, 6, 7, 4, 8] (by decide +kernel) (by decide +kernel)
set_option maxRecDepth 20000 in
theorem gX4_giveBack_X4_isWorker : GoodIn wsX4_giveBack (va_wsS RX4 121 yX4_isWorker wsX4_isWorker) := goodIn_app (goodIn_of _ (by decide +kernel)) ggX4_giveBack_X4_isWorker
set_option maxRecDepth 20000 in
theorem ggX4_giveBack_X4_cannot : GoodIn wsX4_giveBack wsX4_cannot := goodIn_r _ [12, 13, 14, 15, 16, 4, 17, 1, 18, 19, 20, 21, 22, 23, 29, 30, 31, 32, 33, 34, 35, 36, 37, 38, 39, 40, 41, 42, 43, 44] (by decide +kernel) (by decide +kernel)
set_option maxRecDepth 20000 in
theorem gX4_giveBack_X4_cannot : GoodIn wsX4_giveBack (wsV RX4 124 RX4 yX4_cannot wsX4_cannot) := goodIn_app (goodIn_of _ (by decide +kernel)) ggX4_giveBack_X4_cannot
set_option maxRecDepth 20000 in
theorem ggX4_giveBack_X4_refused : GoodIn wsX4_giveBack wsX4_refused := goodIn_r _ [27, 28, 29, 30, 31, 32, 33, 34, 35, 36, 37, 38, 39, 40, 41, 42, 43, 44] (by decide +kernel) (by decide +kernel)
set_option maxRecDepth 20000 in
theorem gX4_giveBack_X4_refused : GoodIn wsX4_giveBack (wsV RX4 58 RX4 yX4_refused wsX4_refused) := goodIn_app (goodIn_of _ (by decide +kernel)) ggX4_giveBack_X4_refused
theorem dX4_giveBack_0 : decode cX4_giveBack 0 = .ok (.aload_n 0, 1) := by decide +kernel
theorem dX4_giveBack_1 : decode cX4_giveBack 1 = .ok (.iload_n 1, 1) := by decide +kernel
theorem dX4_giveBack_2 : decode cX4_giveBack 2 = .ok (.invokestatic 121, 3) := by decide +kernel
theorem dX4_giveBack_5 : decode cX4_giveBack 5 = .ok (.ifCond .ne 7, 3) := by decide +kernel
theorem dX4_giveBack_8 : decode cX4_giveBack 8 = .ok (.iconst 1, 1) := by decide +kernel
theorem dX4_giveBack_9 : decode cX4_giveBack 9 = .ok (.goto 16, 3) := by decide +kernel
theorem dX4_giveBack_12 : decode cX4_giveBack 12 = .ok (.aload_n 0, 1) := by decide +kernel
theorem dX4_giveBack_13 : decode cX4_giveBack 13 = .ok (.iload_n 1, 1) := by decide +kernel
theorem dX4_giveBack_14 : decode cX4_giveBack 14 = .ok (.invokevirtual 124, 3) := by decide +kernel
theorem dX4_giveBack_17 : decode cX4_giveBack 17 = .ok (.ifCond .eq 7, 3) := by decide +kernel
theorem dX4_giveBack_20 : decode cX4_giveBack 20 = .ok (.iconst 2, 1) := by decide +kernel
theorem dX4_giveBack_21 : decode cX4_giveBack 21 = .ok (.goto 4, 3) := by decide +kernel
theorem dX4_giveBack_24 : decode cX4_giveBack 24 = .ok (.iconst 0, 1) := by decide +kernel
theorem dX4_giveBack_25 : decode cX4_giveBack 25 = .ok (.invokevirtual 58, 3) := by decide +kernel
theorem dX4_giveBack_28 : decode cX4_giveBack 28 = .ok (.ifCond .ne 8, 3) := by decide +kernel
theorem dX4_giveBack_31 : decode cX4_giveBack 31 = .ok (.aload_n 0, 1) := by decide +kernel
theorem dX4_giveBack_32 : decode cX4_giveBack 32 = .ok (.iconst (-1), 1) := by decide +kernel
theorem dX4_giveBack_33 : decode cX4_giveBack 33 = .ok (.putfield 32, 3) := by decide +kernel
theorem dX4_giveBack_36 : decode cX4_giveBack 36 = .ok (.return_, 1) := by decide +kernel
set_option maxRecDepth 20000 in
theorem ggX4_holder_X4_isHeld : GoodIn wsX4_holder wsX4_isHeld := goodIn_r _ [6, 1, 7, 8, 14, 15, 16, 17, 18, 19, 20, 21, 22, 23, 24, 25, 26, 27, 28, 29] (by decide +kernel) (by decide +kernel)
set_option maxRecDepth 20000 in
theorem gX4_holder_X4_isHeld : GoodIn wsX4_holder (wsV RX4 114 RX4 yX4_isHeld wsX4_isHeld) := goodIn_app (goodIn_of _ (by decide +kernel)) ggX4_holder_X4_isHeld
set_option maxRecDepth 20000 in
theorem ggX4_holder_X4_fine : GoodIn wsX4_holder wsX4_fine := goodIn_r _ [12, 13, 14, 15, 16, 17, 18, 19, 20, 21, 22, 23, 24, 25, 26, 27, 28, 29] (by decide +kernel) (by decide +kernel)
set_option maxRecDepth 20000 in
theorem gX4_holder_X4_fine : GoodIn wsX4_holder (wsV RX4 79 RX4 yX4_fine wsX4_fine) := goodIn_app (goodIn_of _ (by decide +kernel)) ggX4_holder_X4_fine
theorem dX4_holder_0 : decode cX4_holder 0 = .ok (.aload_n 0, 1) := by decide +kernel
theorem dX4_holder_1 : decode cX4_holder 1 = .ok (.aload_n 0, 1) := by decide +kernel
theorem dX4_holder_2 : decode cX4_holder 2 = .ok (.invokevirtual 114, 3) := by decide +kernel
theorem dX4_holder_5 : decode cX4_holder 5 = .ok (.ifCond .eq 10, 3) := by decide +kernel
theorem dX4_holder_8 : decode cX4_holder 8 = .ok (.aload_n 0, 1) := by decide +kernel
theorem dX4_holder_9 : decode cX4_holder 9 = .ok (.getfield 32, 3) := by decide +kernel
theorem dX4_holder_12 : decode cX4_holder 12 = .ok (.goto 4, 3) := by decide +kernel
theorem dX4_holder_15 : decode cX4_holder 15 = .ok (.iconst (-1), 1) := by decide +kernel
theorem dX4_holder_16 : decode cX4_holder 16 = .ok (.invokevirtual 79, 3) := by decide +kernel
theorem dX4_holder_19 : decode cX4_holder 19 = .ok (.ireturn, 1) := by decide +kernel
set_option maxRecDepth 20000 in
theorem ggX4_restart_X4_isWorker : GoodIn wsX4_restart wsX4_isWorker := goodIn_r _ [5, 6, 7, 4, 8] (by decide +kernel) (by decide +kernel)
set_option maxRecDepth 20000 in
theorem gX4_restart_X4_isWorker : GoodIn wsX4_restart (va_wsS RX4 121 yX4_isWorker wsX4_isWorker) := goodIn_app (goodIn_of _ (by decide +kernel)) ggX4_restart_X4_isWorker
set_option maxRecDepth 20000 in
theorem ggX4_restart_X4_refused : GoodIn wsX4_restart wsX4_refused := goodIn_r _ [12, 13, 25, 26, 27, 28, 29, 30, 31, 32, 33, 34, 35, 36, 37, 38, 39, 40] (by decide +kernel) (by decide +kernel)
set_option maxRecDepth 20000 in
theorem gX4_restart_X4_refused : GoodIn wsX4_restart (wsV RX4 58 RX4 yX4_refused wsX4_refused) := goodIn_app (goodIn_of _ (by decide +kernel)) ggX4_restart_X4_refused
set_option maxRecDepth 20000 in
theorem ggX4_restart_X4_has : GoodIn wsX4_restart wsX4_has := goodIn_r _ [17, 18, 19, 20, 21, 4, 22, 23, 24, 25, 26, 27, 28, 29, 30, 31, 32, 33, 34, 35, 36, 37, 38, 39, 40] (by decide +kernel) (by decide +kernel)
set_option maxRecDepth 20000 in
theorem gX4_restart_X4_has : GoodIn wsX4_restart (wsV RX4 118 RX4 yX4_has wsX4_has) := goodIn_app (goodIn_of _ (by decide +kernel)) ggX4_restart_X4_has
theorem dX4_restart_0 : decode cX4_restart 0 = .ok (.aload_n 0, 1) := by decide +kernel
theorem dX4_restart_1 : decode cX4_restart 1 = .ok (.iload_n 1, 1) := by decide +kernel
theorem dX4_restart_2 : decode cX4_restart 2 = .ok (.invokestatic 121, 3) := by decide +kernel
theorem dX4_restart_5 : decode cX4_restart 5 = .ok (.ifCond .ne 7, 3) := by decide +kernel
theorem dX4_restart_8 : decode cX4_restart 8 = .ok (.iconst 1, 1) := by decide +kernel
theorem dX4_restart_9 : decode cX4_restart 9 = .ok (.goto 17, 3) := by decide +kernel
theorem dX4_restart_12 : decode cX4_restart 12 = .ok (.aload_n 0, 1) := by decide +kernel
theorem dX4_restart_13 : decode cX4_restart 13 = .ok (.getfield 36, 3) := by decide +kernel
theorem dX4_restart_16 : decode cX4_restart 16 = .ok (.iload_n 1, 1) := by decide +kernel
theorem dX4_restart_17 : decode cX4_restart 17 = .ok (.baload, 1) := by decide +kernel
theorem dX4_restart_18 : decode cX4_restart 18 = .ok (.ifCond .eq 7, 3) := by decide +kernel
theorem dX4_restart_21 : decode cX4_restart 21 = .ok (.iconst 0, 1) := by decide +kernel
theorem dX4_restart_22 : decode cX4_restart 22 = .ok (.goto 4, 3) := by decide +kernel
theorem dX4_restart_25 : decode cX4_restart 25 = .ok (.iconst 2, 1) := by decide +kernel
theorem dX4_restart_26 : decode cX4_restart 26 = .ok (.invokevirtual 58, 3) := by decide +kernel
theorem dX4_restart_29 : decode cX4_restart 29 = .ok (.ifCond .eq 5, 3) := by decide +kernel
theorem dX4_restart_32 : decode cX4_restart 32 = .ok (.iconst 0, 1) := by decide +kernel
theorem dX4_restart_33 : decode cX4_restart 33 = .ok (.ireturn, 1) := by decide +kernel
theorem dX4_restart_34 : decode cX4_restart 34 = .ok (.aload_n 0, 1) := by decide +kernel
theorem dX4_restart_35 : decode cX4_restart 35 = .ok (.getfield 36, 3) := by decide +kernel
theorem dX4_restart_38 : decode cX4_restart 38 = .ok (.iload_n 1, 1) := by decide +kernel
theorem dX4_restart_39 : decode cX4_restart 39 = .ok (.iconst 0, 1) := by decide +kernel
theorem dX4_restart_40 : decode cX4_restart 40 = .ok (.bastore, 1) := by decide +kernel
theorem dX4_restart_41 : decode cX4_restart 41 = .ok (.aload_n 0, 1) := by decide +kernel
theorem dX4_restart_42 : decode cX4_restart 42 = .ok (.iload_n 1, 1) := by decide +kernel
theorem dX4_restart_43 : decode cX4_restart 43 = .ok (.invokevirtual 118, 3) := by decide +kernel
theorem dX4_restart_46 : decode cX4_restart 46 = .ok (.ireturn, 1) := by decide +kernel
set_option maxRecDepth 20000 in
theorem ggX4_pass_X4_in : GoodIn wsX4_pass wsX4_in := goodIn_r _ [5] (by decide +kernel) (by decide +kernel)
set_option maxRecDepth 20000 in
theorem gX4_pass_X4_in : GoodIn wsX4_pass (va_wsS RX4 47 yX4_in wsX4_in) := goodIn_app (goodIn_of _ (by decide +kernel)) ggX4_pass_X4_in
set_option maxRecDepth 20000 in
theorem ggX4_pass_X4_refused : GoodIn wsX4_pass wsX4_refused := goodIn_r _ [9, 10, 11, 12, 13, 14, 15, 16, 17, 18, 19, 20, 21, 22, 23, 24, 25, 26] (by decide +kernel) (by decide +kernel)
set_option maxRecDepth 20000 in
theorem gX4_pass_X4_refused : GoodIn wsX4_pass (wsV RX4 58 RX4 yX4_refused wsX4_refused) := goodIn_app (goodIn_of _ (by decide +kernel)) ggX4_pass_X4_refused
theorem dX4_pass_0 : decode cX4_pass 0 = .ok (.aload_n 0, 1) := by decide +kernel
theorem dX4_pass_1 : decode cX4_pass 1 = .ok (.iload_n 1, 1) := by decide +kernel
theorem dX4_pass_2 : decode cX4_pass 2 = .ok (.iconst 1, 1) := by decide +kernel
theorem dX4_pass_3 : decode cX4_pass 3 = .ok (.sipush 1000, 3) := by decide +kernel
theorem dX4_pass_6 : decode cX4_pass 6 = .ok (.invokestatic 47, 3) := by decide +kernel
theorem dX4_pass_9 : decode cX4_pass 9 = .ok (.ifCond .eq 7, 3) := by decide +kernel
theorem dX4_pass_12 : decode cX4_pass 12 = .ok (.iconst 0, 1) := by decide +kernel
theorem dX4_pass_13 : decode cX4_pass 13 = .ok (.goto 4, 3) := by decide +kernel
theorem dX4_pass_16 : decode cX4_pass 16 = .ok (.iconst 1, 1) := by decide +kernel
theorem dX4_pass_17 : decode cX4_pass 17 = .ok (.invokevirtual 58, 3) := by decide +kernel
theorem dX4_pass_20 : decode cX4_pass 20 = .ok (.ifCond .eq 5, 3) := by decide +kernel
theorem dX4_pass_23 : decode cX4_pass 23 = .ok (.iconst 0, 1) := by decide +kernel
theorem dX4_pass_24 : decode cX4_pass 24 = .ok (.ireturn, 1) := by decide +kernel
theorem dX4_pass_25 : decode cX4_pass 25 = .ok (.aload_n 0, 1) := by decide +kernel
theorem dX4_pass_26 : decode cX4_pass 26 = .ok (.dup, 1) := by decide +kernel
theorem dX4_pass_27 : decode cX4_pass 27 = .ok (.getfield 108, 3) := by decide +kernel
theorem dX4_pass_30 : decode cX4_pass 30 = .ok (.iload_n 1, 1) := by decide +kernel
theorem dX4_pass_31 : decode cX4_pass 31 = .ok (.iadd, 1) := by decide +kernel
theorem dX4_pass_32 : decode cX4_pass 32 = .ok (.putfield 108, 3) := by decide +kernel
theorem dX4_pass_35 : decode cX4_pass 35 = .ok (.aload_n 0, 1) := by decide +kernel
theorem dX4_pass_36 : decode cX4_pass 36 = .ok (.getfield 108, 3) := by decide +kernel
theorem dX4_pass_39 : decode cX4_pass 39 = .ok (.ireturn, 1) := by decide +kernel
set_option maxRecDepth 20000 in
theorem ggX4_begin_X4_isWorker : GoodIn wsX4_begin wsX4_isWorker := goodIn_r _ [9, 10, 11, 8, 12] (by decide +kernel) (by decide +kernel)
set_option maxRecDepth 20000 in
theorem gX4_begin_X4_isWorker : GoodIn wsX4_begin (va_wsS RX4 121 yX4_isWorker wsX4_isWorker) := goodIn_app (goodIn_of _ (by decide +kernel)) ggX4_begin_X4_isWorker
set_option maxRecDepth 20000 in
theorem ggX4_begin_X4_cannot : GoodIn wsX4_begin wsX4_cannot := goodIn_r _ [16, 17, 18, 19, 20, 8, 21, 22, 23, 24, 25, 26, 27, 28, 46, 47, 48, 49, 50, 51, 52, 53, 54, 55, 56, 57, 58, 59, 60, 61] (by decide +kernel) (by decide +kernel)
set_option maxRecDepth 20000 in
theorem gX4_begin_X4_cannot : GoodIn wsX4_begin (wsV RX4 124 RX4 yX4_cannot wsX4_cannot) := goodIn_app (goodIn_of _ (by decide +kernel)) ggX4_begin_X4_cannot
set_option maxRecDepth 20000 in
theorem ggX4_begin_X4_firstDrift : GoodIn wsX4_begin wsX4_firstDrift := goodIn_r _ [32, 2, 5, 33, 34, 35, 8, 36, 37, 38, 39, 40, 46, 47, 48, 49, 50, 51, 52, 53, 54, 55, 56, 57, 58, 59, 60, 61] (by decide +kernel) (by decide +kernel)
set_option maxRecDepth 20000 in
theorem gX4_begin_X4_firstDrift : GoodIn wsX4_begin (wsV RX4 82 RX4 yX4_firstDrift wsX4_firstDrift) := goodIn_app (goodIn_of _ (by decide +kernel)) ggX4_begin_X4_firstDrift
set_option maxRecDepth 20000 in
theorem ggX4_begin_X4_refused : GoodIn wsX4_begin wsX4_refused := goodIn_r _ [44, 45, 46, 47, 48, 49, 50, 51, 52, 53, 54, 55, 56, 57, 58, 59, 60, 61] (by decide +kernel) (by decide +kernel)
set_option maxRecDepth 20000 in
theorem gX4_begin_X4_refused : GoodIn wsX4_begin (wsV RX4 58 RX4 yX4_refused wsX4_refused) := goodIn_app (goodIn_of _ (by decide +kernel)) ggX4_begin_X4_refused
set_option maxRecDepth 20000 in
theorem ggX4_begin_X4_sumOf : GoodIn wsX4_begin wsX4_sumOf := goodIn_r _ [36, 37, 38, 39, 40, 46, 47, 48, 49, 50, 51, 52, 53, 54, 55, 56, 57, 58, 59, 60, 61] (by decide +kernel) (by decide +kernel)
set_option maxRecDepth 20000 in
theorem gX4_begin_X4_sumOf : GoodIn wsX4_begin (wsV RX4 76 RX4 yX4_sumOf wsX4_sumOf) := goodIn_app (goodIn_of _ (by decide +kernel)) ggX4_begin_X4_sumOf
theorem dX4_begin_0 : decode cX4_begin 0 = .ok (.aload_n 0, 1) := by decide +kernel
theorem dX4_begin_1 : decode cX4_begin 1 = .ok (.iload_n 1, 1) := by decide +kernel
theorem dX4_begin_2 : decode cX4_begin 2 = .ok (.invokestatic 121, 3) := by decide +kernel
theorem dX4_begin_5 : decode cX4_begin 5 = .ok (.ifCond .ne 7, 3) := by decide +kernel
theorem dX4_begin_8 : decode cX4_begin 8 = .ok (.iconst 1, 1) := by decide +kernel
theorem dX4_begin_9 : decode cX4_begin 9 = .ok (.goto 41, 3) := by decide +kernel
theorem dX4_begin_12 : decode cX4_begin 12 = .ok (.aload_n 0, 1) := by decide +kernel
theorem dX4_begin_13 : decode cX4_begin 13 = .ok (.iload_n 1, 1) := by decide +kernel
theorem dX4_begin_14 : decode cX4_begin 14 = .ok (.invokevirtual 124, 3) := by decide +kernel
theorem dX4_begin_17 : decode cX4_begin 17 = .ok (.ifCond .ne 28, 3) := by decide +kernel
theorem dX4_begin_20 : decode cX4_begin 20 = .ok (.aload_n 0, 1) := by decide +kernel
theorem dX4_begin_21 : decode cX4_begin 21 = .ok (.getfield 69, 3) := by decide +kernel
theorem dX4_begin_24 : decode cX4_begin 24 = .ok (.ifCond .ne 21, 3) := by decide +kernel
theorem dX4_begin_27 : decode cX4_begin 27 = .ok (.aload_n 0, 1) := by decide +kernel
theorem dX4_begin_28 : decode cX4_begin 28 = .ok (.invokevirtual 82, 3) := by decide +kernel
theorem dX4_begin_31 : decode cX4_begin 31 = .ok (.ifCond .ne 14, 3) := by decide +kernel
theorem dX4_begin_34 : decode cX4_begin 34 = .ok (.aload_n 0, 1) := by decide +kernel
theorem dX4_begin_35 : decode cX4_begin 35 = .ok (.getfield 66, 3) := by decide +kernel
theorem dX4_begin_38 : decode cX4_begin 38 = .ok (.aload_n 0, 1) := by decide +kernel
theorem dX4_begin_39 : decode cX4_begin 39 = .ok (.getfield 55, 3) := by decide +kernel
theorem dX4_begin_42 : decode cX4_begin 42 = .ok (.if_icmp .ne 7, 3) := by decide +kernel
theorem dX4_begin_45 : decode cX4_begin 45 = .ok (.iconst 2, 1) := by decide +kernel
theorem dX4_begin_46 : decode cX4_begin 46 = .ok (.goto 4, 3) := by decide +kernel
theorem dX4_begin_49 : decode cX4_begin 49 = .ok (.iconst 0, 1) := by decide +kernel
theorem dX4_begin_50 : decode cX4_begin 50 = .ok (.invokevirtual 58, 3) := by decide +kernel
theorem dX4_begin_53 : decode cX4_begin 53 = .ok (.ifCond .eq 5, 3) := by decide +kernel
theorem dX4_begin_56 : decode cX4_begin 56 = .ok (.iconst 0, 1) := by decide +kernel
theorem dX4_begin_57 : decode cX4_begin 57 = .ok (.ireturn, 1) := by decide +kernel
theorem dX4_begin_58 : decode cX4_begin 58 = .ok (.aload_n 0, 1) := by decide +kernel
theorem dX4_begin_59 : decode cX4_begin 59 = .ok (.iconst 1, 1) := by decide +kernel
theorem dX4_begin_60 : decode cX4_begin 60 = .ok (.putfield 69, 3) := by decide +kernel
theorem dX4_begin_63 : decode cX4_begin 63 = .ok (.aload_n 0, 1) := by decide +kernel
theorem dX4_begin_64 : decode cX4_begin 64 = .ok (.iconst 0, 1) := by decide +kernel
theorem dX4_begin_65 : decode cX4_begin 65 = .ok (.putfield 93, 3) := by decide +kernel
theorem dX4_begin_68 : decode cX4_begin 68 = .ok (.aload_n 0, 1) := by decide +kernel
theorem dX4_begin_69 : decode cX4_begin 69 = .ok (.getfield 19, 3) := by decide +kernel
theorem dX4_begin_72 : decode cX4_begin 72 = .ok (.aload_n 0, 1) := by decide +kernel
theorem dX4_begin_73 : decode cX4_begin 73 = .ok (.getfield 66, 3) := by decide +kernel
theorem dX4_begin_76 : decode cX4_begin 76 = .ok (.iconst 1, 1) := by decide +kernel
theorem dX4_begin_77 : decode cX4_begin 77 = .ok (.iadd, 1) := by decide +kernel
theorem dX4_begin_78 : decode cX4_begin 78 = .ok (.aload_n 0, 1) := by decide +kernel
theorem dX4_begin_79 : decode cX4_begin 79 = .ok (.aload_n 0, 1) := by decide +kernel
theorem dX4_begin_80 : decode cX4_begin 80 = .ok (.getfield 66, 3) := by decide +kernel
theorem dX4_begin_83 : decode cX4_begin 83 = .ok (.iconst 1, 1) := by decide +kernel
theorem dX4_begin_84 : decode cX4_begin 84 = .ok (.iadd, 1) := by decide +kernel
theorem dX4_begin_85 : decode cX4_begin 85 = .ok (.invokevirtual 76, 3) := by decide +kernel
theorem dX4_begin_88 : decode cX4_begin 88 = .ok (.iastore, 1) := by decide +kernel
theorem dX4_begin_89 : decode cX4_begin 89 = .ok (.aload_n 0, 1) := by decide +kernel
theorem dX4_begin_90 : decode cX4_begin 90 = .ok (.getfield 66, 3) := by decide +kernel
theorem dX4_begin_93 : decode cX4_begin 93 = .ok (.iconst 1, 1) := by decide +kernel
theorem dX4_begin_94 : decode cX4_begin 94 = .ok (.iadd, 1) := by decide +kernel
theorem dX4_begin_95 : decode cX4_begin 95 = .ok (.ireturn, 1) := by decide +kernel
set_option maxRecDepth 20000 in
theorem ggX4_undo_X4_sumOf : GoodIn wsX4_undo wsX4_sumOf := goodIn_r _ [9, 10, 11, 12, 13, 41, 42, 43, 44, 45, 46, 47, 48, 49, 50, 51, 52, 53, 54, 55, 56] (by decide +kernel) (by decide +kernel)
set_option maxRecDepth 20000 in
theorem gX4_undo_X4_sumOf : GoodIn wsX4_undo (wsV RX4 76 RX4 yX4_sumOf wsX4_sumOf) := goodIn_app (goodIn_of _ (by decide +kernel)) ggX4_undo_X4_sumOf
set_option maxRecDepth 20000 in
theorem ggX4_undo_X4_isWorker : GoodIn wsX4_undo wsX4_isWorker := goodIn_r _ [16, 17, 18, 8, 19] (by decide +kernel) (by decide +kernel)
set_option maxRecDepth 20000 in
theorem gX4_undo_X4_isWorker : GoodIn wsX4_undo (va_wsS RX4 121 yX4_isWorker wsX4_isWorker) := goodIn_app (goodIn_of _ (by decide +kernel)) ggX4_undo_X4_isWorker
set_option maxRecDepth 20000 in
theorem ggX4_undo_X4_cannot : GoodIn wsX4_undo wsX4_cannot := goodIn_r _ [23, 24, 25, 26, 27, 8, 28, 29, 30, 31, 32, 33, 34, 35, 41, 42, 43, 44, 45, 46, 47, 48, 49, 50, 51, 52, 53, 54, 55, 56] (by decide +kernel) (by decide +kernel)
set_option maxRecDepth 20000 in
theorem gX4_undo_X4_cannot : GoodIn wsX4_undo (wsV RX4 124 RX4 yX4_cannot wsX4_cannot) := goodIn_app (goodIn_of _ (by decide +kernel)) ggX4_undo_X4_cannot
set_option maxRecDepth 20000 in
theorem ggX4_undo_X4_refused : GoodIn wsX4_undo wsX4_refused := goodIn_r _ [39, 40, 41, 42, 43, 44, 45, 46, 47, 48, 49, 50, 51, 52, 53, 54, 55, 56] (by decide +kernel) (by decide +kernel)
set_option maxRecDepth 20000 in
theorem gX4_undo_X4_refused : GoodIn wsX4_undo (wsV RX4 58 RX4 yX4_refused wsX4_refused) := goodIn_app (goodIn_of _ (by decide +kernel)) ggX4_undo_X4_refused
theorem dX4_undo_0 : decode cX4_undo 0 = .ok (.aload_n 0, 1) := by decide +kernel
theorem dX4_undo_1 : decode cX4_undo 1 = .ok (.getfield 69, 3) := by decide +kernel
theorem dX4_undo_4 : decode cX4_undo 4 = .ok (.iconst 3, 1) := by decide +kernel
theorem dX4_undo_5 : decode cX4_undo 5 = .ok (.if_icmp .eq 37, 3) := by decide +kernel
theorem dX4_undo_8 : decode cX4_undo 8 = .ok (.aload_n 0, 1) := by decide +kernel
theorem dX4_undo_9 : decode cX4_undo 9 = .ok (.getfield 69, 3) := by decide +kernel
theorem dX4_undo_12 : decode cX4_undo 12 = .ok (.ifCond .ne 34, 3) := by decide +kernel
theorem dX4_undo_15 : decode cX4_undo 15 = .ok (.aload_n 0, 1) := by decide +kernel
theorem dX4_undo_16 : decode cX4_undo 16 = .ok (.getfield 66, 3) := by decide +kernel
theorem dX4_undo_19 : decode cX4_undo 19 = .ok (.ifCond .eq 23, 3) := by decide +kernel
theorem dX4_undo_22 : decode cX4_undo 22 = .ok (.aload_n 0, 1) := by decide +kernel
theorem dX4_undo_23 : decode cX4_undo 23 = .ok (.aload_n 0, 1) := by decide +kernel
theorem dX4_undo_24 : decode cX4_undo 24 = .ok (.getfield 66, 3) := by decide +kernel
theorem dX4_undo_27 : decode cX4_undo 27 = .ok (.invokevirtual 76, 3) := by decide +kernel
theorem dX4_undo_30 : decode cX4_undo 30 = .ok (.aload_n 0, 1) := by decide +kernel
theorem dX4_undo_31 : decode cX4_undo 31 = .ok (.getfield 19, 3) := by decide +kernel
theorem dX4_undo_34 : decode cX4_undo 34 = .ok (.aload_n 0, 1) := by decide +kernel
theorem dX4_undo_35 : decode cX4_undo 35 = .ok (.getfield 66, 3) := by decide +kernel
theorem dX4_undo_38 : decode cX4_undo 38 = .ok (.iaload, 1) := by decide +kernel
theorem dX4_undo_39 : decode cX4_undo 39 = .ok (.if_icmp .eq 7, 3) := by decide +kernel
theorem dX4_undo_42 : decode cX4_undo 42 = .ok (.iconst 1, 1) := by decide +kernel
theorem dX4_undo_43 : decode cX4_undo 43 = .ok (.goto 4, 3) := by decide +kernel
theorem dX4_undo_46 : decode cX4_undo 46 = .ok (.iconst 0, 1) := by decide +kernel
theorem dX4_undo_47 : decode cX4_undo 47 = .ok (.istore_n 2, 1) := by decide +kernel
theorem dX4_undo_48 : decode cX4_undo 48 = .ok (.aload_n 0, 1) := by decide +kernel
theorem dX4_undo_49 : decode cX4_undo 49 = .ok (.iload_n 1, 1) := by decide +kernel
theorem dX4_undo_50 : decode cX4_undo 50 = .ok (.invokestatic 121, 3) := by decide +kernel
theorem dX4_undo_53 : decode cX4_undo 53 = .ok (.ifCond .ne 7, 3) := by decide +kernel
theorem dX4_undo_56 : decode cX4_undo 56 = .ok (.iconst 1, 1) := by decide +kernel
theorem dX4_undo_57 : decode cX4_undo 57 = .ok (.goto 20, 3) := by decide +kernel
theorem dX4_undo_60 : decode cX4_undo 60 = .ok (.aload_n 0, 1) := by decide +kernel
theorem dX4_undo_61 : decode cX4_undo 61 = .ok (.iload_n 1, 1) := by decide +kernel
theorem dX4_undo_62 : decode cX4_undo 62 = .ok (.invokevirtual 124, 3) := by decide +kernel
theorem dX4_undo_65 : decode cX4_undo 65 = .ok (.ifCond .ne 7, 3) := by decide +kernel
theorem dX4_undo_68 : decode cX4_undo 68 = .ok (.iload_n 2, 1) := by decide +kernel
theorem dX4_undo_69 : decode cX4_undo 69 = .ok (.ifCond .eq 7, 3) := by decide +kernel
theorem dX4_undo_72 : decode cX4_undo 72 = .ok (.iconst 2, 1) := by decide +kernel
theorem dX4_undo_73 : decode cX4_undo 73 = .ok (.goto 4, 3) := by decide +kernel
theorem dX4_undo_76 : decode cX4_undo 76 = .ok (.iconst 0, 1) := by decide +kernel
theorem dX4_undo_77 : decode cX4_undo 77 = .ok (.invokevirtual 58, 3) := by decide +kernel
theorem dX4_undo_80 : decode cX4_undo 80 = .ok (.ifCond .eq 5, 3) := by decide +kernel
theorem dX4_undo_83 : decode cX4_undo 83 = .ok (.iconst 0, 1) := by decide +kernel
theorem dX4_undo_84 : decode cX4_undo 84 = .ok (.ireturn, 1) := by decide +kernel
theorem dX4_undo_85 : decode cX4_undo 85 = .ok (.aload_n 0, 1) := by decide +kernel
theorem dX4_undo_86 : decode cX4_undo 86 = .ok (.dup, 1) := by decide +kernel
theorem dX4_undo_87 : decode cX4_undo 87 = .ok (.getfield 66, 3) := by decide +kernel
theorem dX4_undo_90 : decode cX4_undo 90 = .ok (.aload_n 0, 1) := by decide +kernel
theorem dX4_undo_91 : decode cX4_undo 91 = .ok (.getfield 69, 3) := by decide +kernel
theorem dX4_undo_94 : decode cX4_undo 94 = .ok (.ifCond .ne 7, 3) := by decide +kernel
theorem dX4_undo_97 : decode cX4_undo 97 = .ok (.iconst 1, 1) := by decide +kernel
theorem dX4_undo_98 : decode cX4_undo 98 = .ok (.goto 4, 3) := by decide +kernel
theorem dX4_undo_101 : decode cX4_undo 101 = .ok (.iconst 0, 1) := by decide +kernel
theorem dX4_undo_102 : decode cX4_undo 102 = .ok (.isub, 1) := by decide +kernel
theorem dX4_undo_103 : decode cX4_undo 103 = .ok (.putfield 66, 3) := by decide +kernel
theorem dX4_undo_106 : decode cX4_undo 106 = .ok (.aload_n 0, 1) := by decide +kernel
theorem dX4_undo_107 : decode cX4_undo 107 = .ok (.iconst 3, 1) := by decide +kernel
theorem dX4_undo_108 : decode cX4_undo 108 = .ok (.putfield 69, 3) := by decide +kernel
theorem dX4_undo_111 : decode cX4_undo 111 = .ok (.aload_n 0, 1) := by decide +kernel
theorem dX4_undo_112 : decode cX4_undo 112 = .ok (.bipush 40, 2) := by decide +kernel
theorem dX4_undo_114 : decode cX4_undo 114 = .ok (.putfield 93, 3) := by decide +kernel
theorem dX4_undo_117 : decode cX4_undo 117 = .ok (.aload_n 0, 1) := by decide +kernel
theorem dX4_undo_118 : decode cX4_undo 118 = .ok (.getfield 66, 3) := by decide +kernel
theorem dX4_undo_121 : decode cX4_undo 121 = .ok (.iconst 1, 1) := by decide +kernel
theorem dX4_undo_122 : decode cX4_undo 122 = .ok (.iadd, 1) := by decide +kernel
theorem dX4_undo_123 : decode cX4_undo 123 = .ok (.ireturn, 1) := by decide +kernel
set_option maxRecDepth 20000 in
theorem ggX4_step_X4_isWorker : GoodIn wsX4_step wsX4_isWorker := goodIn_r _ [11, 12, 13, 10, 14] (by decide +kernel) (by decide +kernel)
set_option maxRecDepth 20000 in
theorem gX4_step_X4_isWorker : GoodIn wsX4_step (va_wsS RX4 121 yX4_isWorker wsX4_isWorker) := goodIn_app (goodIn_of _ (by decide +kernel)) ggX4_step_X4_isWorker
set_option maxRecDepth 20000 in
theorem ggX4_step_X4_in : GoodIn wsX4_step wsX4_in := goodIn_r _ [14] (by decide +kernel) (by decide +kernel)
set_option maxRecDepth 20000 in
theorem gX4_step_X4_in : GoodIn wsX4_step (va_wsS RX4 47 yX4_in wsX4_in) := goodIn_app (goodIn_of _ (by decide +kernel)) ggX4_step_X4_in
set_option maxRecDepth 20000 in
theorem ggX4_step_X4_cannot : GoodIn wsX4_step wsX4_cannot := goodIn_r _ [18, 7, 19, 20, 21, 10, 22, 23, 24, 25, 26, 27, 28, 29, 51, 52, 53, 54, 55, 56, 57, 58, 59, 60, 61, 62, 63, 64, 65, 66] (by decide +kernel) (by decide +kernel)
set_option maxRecDepth 20000 in
theorem gX4_step_X4_cannot : GoodIn wsX4_step (wsV RX4 124 RX4 yX4_cannot wsX4_cannot) := goodIn_app (goodIn_of _ (by decide +kernel)) ggX4_step_X4_cannot
set_option maxRecDepth 20000 in
theorem ggX4_step_X4_refused : GoodIn wsX4_step wsX4_refused := goodIn_r _ [33, 34, 51, 52, 53, 54, 55, 56, 57, 58, 59, 60, 61, 62, 63, 64, 65, 66] (by decide +kernel) (by decide +kernel)
set_option maxRecDepth 20000 in
theorem gX4_step_X4_refused : GoodIn wsX4_step (wsV RX4 58 RX4 yX4_refused wsX4_refused) := goodIn_app (goodIn_of _ (by decide +kernel)) ggX4_step_X4_refused
set_option maxRecDepth 20000 in
theorem ggX4_step_X4_takeSpare : GoodIn wsX4_step wsX4_takeSpare := goodIn_r _ [38, 6, 5, 51, 52, 53, 54, 55, 56, 57, 58, 59, 60, 61, 62, 63, 64, 65, 66] (by decide +kernel) (by decide +kernel)
set_option maxRecDepth 20000 in
theorem gX4_step_X4_takeSpare : GoodIn wsX4_step (wsV RX4 100 RX4 yX4_takeSpare wsX4_takeSpare) := goodIn_app (goodIn_of _ (by decide +kernel)) ggX4_step_X4_takeSpare
set_option maxRecDepth 20000 in
theorem ggX4_step_X4_tries : GoodIn wsX4_step wsX4_tries := goodIn_r _ [42, 43, 44, 6, 45, 46, 47, 10, 48, 49, 50, 51, 52, 53, 54, 55, 56, 57, 58, 59, 60, 61, 62, 63, 64, 65, 66] (by decide +kernel) (by decide +kernel)
set_option maxRecDepth 20000 in
theorem gX4_step_X4_tries : GoodIn wsX4_step (wsV RX4 104 RX4 yX4_tries wsX4_tries) := goodIn_app (goodIn_of _ (by decide +kernel)) ggX4_step_X4_tries
theorem dX4_step_0 : decode cX4_step 0 = .ok (.iload_n 1, 1) := by decide +kernel
theorem dX4_step_1 : decode cX4_step 1 = .ok (.invokestatic 121, 3) := by decide +kernel
theorem dX4_step_4 : decode cX4_step 4 = .ok (.ifCond .eq 27, 3) := by decide +kernel
theorem dX4_step_7 : decode cX4_step 7 = .ok (.iload_n 2, 1) := by decide +kernel
theorem dX4_step_8 : decode cX4_step 8 = .ok (.iconst 1, 1) := by decide +kernel
theorem dX4_step_9 : decode cX4_step 9 = .ok (.bipush 40, 2) := by decide +kernel
theorem dX4_step_11 : decode cX4_step 11 = .ok (.invokestatic 47, 3) := by decide +kernel
theorem dX4_step_14 : decode cX4_step 14 = .ok (.ifCond .eq 17, 3) := by decide +kernel
theorem dX4_step_17 : decode cX4_step 17 = .ok (.iload_n 3, 1) := by decide +kernel
theorem dX4_step_18 : decode cX4_step 18 = .ok (.iconst 0, 1) := by decide +kernel
theorem dX4_step_19 : decode cX4_step 19 = .ok (.bipush 40, 2) := by decide +kernel
theorem dX4_step_21 : decode cX4_step 21 = .ok (.invokestatic 47, 3) := by decide +kernel
theorem dX4_step_24 : decode cX4_step 24 = .ok (.ifCond .eq 7, 3) := by decide +kernel
theorem dX4_step_27 : decode cX4_step 27 = .ok (.iconst 1, 1) := by decide +kernel
theorem dX4_step_28 : decode cX4_step 28 = .ok (.goto 4, 3) := by decide +kernel
theorem dX4_step_31 : decode cX4_step 31 = .ok (.iconst 0, 1) := by decide +kernel
theorem dX4_step_32 : decode cX4_step 32 = .ok (.istore 4, 2) := by decide +kernel
theorem dX4_step_34 : decode cX4_step 34 = .ok (.aload_n 0, 1) := by decide +kernel
theorem dX4_step_35 : decode cX4_step 35 = .ok (.iload 4, 2) := by decide +kernel
theorem dX4_step_37 : decode cX4_step 37 = .ok (.ifCond .ne 7, 3) := by decide +kernel
theorem dX4_step_40 : decode cX4_step 40 = .ok (.iconst 1, 1) := by decide +kernel
theorem dX4_step_41 : decode cX4_step 41 = .ok (.goto 23, 3) := by decide +kernel
theorem dX4_step_44 : decode cX4_step 44 = .ok (.aload_n 0, 1) := by decide +kernel
theorem dX4_step_45 : decode cX4_step 45 = .ok (.iload_n 1, 1) := by decide +kernel
theorem dX4_step_46 : decode cX4_step 46 = .ok (.invokevirtual 124, 3) := by decide +kernel
theorem dX4_step_49 : decode cX4_step 49 = .ok (.ifCond .ne 10, 3) := by decide +kernel
theorem dX4_step_52 : decode cX4_step 52 = .ok (.aload_n 0, 1) := by decide +kernel
theorem dX4_step_53 : decode cX4_step 53 = .ok (.getfield 69, 3) := by decide +kernel
theorem dX4_step_56 : decode cX4_step 56 = .ok (.ifCond .ne 7, 3) := by decide +kernel
theorem dX4_step_59 : decode cX4_step 59 = .ok (.iconst 2, 1) := by decide +kernel
theorem dX4_step_60 : decode cX4_step 60 = .ok (.goto 4, 3) := by decide +kernel
theorem dX4_step_63 : decode cX4_step 63 = .ok (.iconst 0, 1) := by decide +kernel
theorem dX4_step_64 : decode cX4_step 64 = .ok (.invokevirtual 58, 3) := by decide +kernel
theorem dX4_step_67 : decode cX4_step 67 = .ok (.ifCond .eq 5, 3) := by decide +kernel
theorem dX4_step_70 : decode cX4_step 70 = .ok (.iconst 0, 1) := by decide +kernel
theorem dX4_step_71 : decode cX4_step 71 = .ok (.ireturn, 1) := by decide +kernel
theorem dX4_step_72 : decode cX4_step 72 = .ok (.aload_n 0, 1) := by decide +kernel
theorem dX4_step_73 : decode cX4_step 73 = .ok (.getfield 69, 3) := by decide +kernel
theorem dX4_step_76 : decode cX4_step 76 = .ok (.iconst 3, 1) := by decide +kernel
theorem dX4_step_77 : decode cX4_step 77 = .ok (.if_icmp .ne 7, 3) := by decide +kernel
theorem dX4_step_80 : decode cX4_step 80 = .ok (.iconst 1, 1) := by decide +kernel
theorem dX4_step_81 : decode cX4_step 81 = .ok (.goto 4, 3) := by decide +kernel
theorem dX4_step_84 : decode cX4_step 84 = .ok (.iconst 0, 1) := by decide +kernel
theorem dX4_step_85 : decode cX4_step 85 = .ok (.istore 5, 2) := by decide +kernel
theorem dX4_step_87 : decode cX4_step 87 = .ok (.aload_n 0, 1) := by decide +kernel
theorem dX4_step_88 : decode cX4_step 88 = .ok (.getfield 66, 3) := by decide +kernel
theorem dX4_step_91 : decode cX4_step 91 = .ok (.iconst 1, 1) := by decide +kernel
theorem dX4_step_92 : decode cX4_step 92 = .ok (.iadd, 1) := by decide +kernel
theorem dX4_step_93 : decode cX4_step 93 = .ok (.istore 6, 2) := by decide +kernel
theorem dX4_step_95 : decode cX4_step 95 = .ok (.iconst 0, 1) := by decide +kernel
theorem dX4_step_96 : decode cX4_step 96 = .ok (.istore 7, 2) := by decide +kernel
theorem dX4_step_98 : decode cX4_step 98 = .ok (.iconst 1, 1) := by decide +kernel
theorem dX4_step_99 : decode cX4_step 99 = .ok (.istore 8, 2) := by decide +kernel
theorem dX4_step_101 : decode cX4_step 101 = .ok (.iconst 0, 1) := by decide +kernel
theorem dX4_step_102 : decode cX4_step 102 = .ok (.istore 9, 2) := by decide +kernel
theorem dX4_step_104 : decode cX4_step 104 = .ok (.aload_n 0, 1) := by decide +kernel
theorem dX4_step_105 : decode cX4_step 105 = .ok (.getfield 93, 3) := by decide +kernel
theorem dX4_step_108 : decode cX4_step 108 = .ok (.istore 10, 2) := by decide +kernel
theorem dX4_step_110 : decode cX4_step 110 = .ok (.iconst 0, 1) := by decide +kernel
theorem dX4_step_111 : decode cX4_step 111 = .ok (.istore 11, 2) := by decide +kernel
theorem dX4_step_113 : decode cX4_step 113 = .ok (.iload 11, 2) := by decide +kernel
theorem dX4_step_115 : decode cX4_step 115 = .ok (.iload_n 2, 1) := by decide +kernel
theorem dX4_step_116 : decode cX4_step 116 = .ok (.if_icmp .ge 253, 3) := by decide +kernel
theorem dX4_step_119 : decode cX4_step 119 = .ok (.iload 8, 2) := by decide +kernel
theorem dX4_step_121 : decode cX4_step 121 = .ok (.ifCond .eq 248, 3) := by decide +kernel
theorem dX4_step_124 : decode cX4_step 124 = .ok (.iload 5, 2) := by decide +kernel
theorem dX4_step_126 : decode cX4_step 126 = .ok (.ifCond .eq 11, 3) := by decide +kernel
theorem dX4_step_129 : decode cX4_step 129 = .ok (.iload 10, 2) := by decide +kernel
theorem dX4_step_131 : decode cX4_step 131 = .ok (.ifCond .le 238, 3) := by decide +kernel
theorem dX4_step_134 : decode cX4_step 134 = .ok (.goto 10, 3) := by decide +kernel
theorem dX4_step_137 : decode cX4_step 137 = .ok (.iload 10, 2) := by decide +kernel
theorem dX4_step_139 : decode cX4_step 139 = .ok (.bipush 40, 2) := by decide +kernel
theorem dX4_step_141 : decode cX4_step 141 = .ok (.if_icmp .ge 228, 3) := by decide +kernel
theorem dX4_step_144 : decode cX4_step 144 = .ok (.iload 5, 2) := by decide +kernel
theorem dX4_step_146 : decode cX4_step 146 = .ok (.ifCond .eq 10, 3) := by decide +kernel
theorem dX4_step_149 : decode cX4_step 149 = .ok (.iload 10, 2) := by decide +kernel
theorem dX4_step_151 : decode cX4_step 151 = .ok (.iconst 1, 1) := by decide +kernel
theorem dX4_step_152 : decode cX4_step 152 = .ok (.isub, 1) := by decide +kernel
theorem dX4_step_153 : decode cX4_step 153 = .ok (.goto 5, 3) := by decide +kernel
theorem dX4_step_156 : decode cX4_step 156 = .ok (.iload 10, 2) := by decide +kernel
theorem dX4_step_158 : decode cX4_step 158 = .ok (.istore 12, 2) := by decide +kernel
theorem dX4_step_160 : decode cX4_step 160 = .ok (.aload_n 0, 1) := by decide +kernel
theorem dX4_step_161 : decode cX4_step 161 = .ok (.getfield 22, 3) := by decide +kernel
theorem dX4_step_164 : decode cX4_step 164 = .ok (.iload 12, 2) := by decide +kernel
theorem dX4_step_166 : decode cX4_step 166 = .ok (.iaload, 1) := by decide +kernel
theorem dX4_step_167 : decode cX4_step 167 = .ok (.iconst (-1), 1) := by decide +kernel
theorem dX4_step_168 : decode cX4_step 168 = .ok (.if_icmp .eq 29, 3) := by decide +kernel
theorem dX4_step_171 : decode cX4_step 171 = .ok (.aload_n 0, 1) := by decide +kernel
theorem dX4_step_172 : decode cX4_step 172 = .ok (.getfield 22, 3) := by decide +kernel
theorem dX4_step_175 : decode cX4_step 175 = .ok (.iload 12, 2) := by decide +kernel
theorem dX4_step_177 : decode cX4_step 177 = .ok (.iaload, 1) := by decide +kernel
theorem dX4_step_178 : decode cX4_step 178 = .ok (.iload 6, 2) := by decide +kernel
theorem dX4_step_180 : decode cX4_step 180 = .ok (.if_icmp .lt 7, 3) := by decide +kernel
theorem dX4_step_183 : decode cX4_step 183 = .ok (.iconst 1, 1) := by decide +kernel
theorem dX4_step_184 : decode cX4_step 184 = .ok (.goto 4, 3) := by decide +kernel
theorem dX4_step_187 : decode cX4_step 187 = .ok (.iconst 0, 1) := by decide +kernel
theorem dX4_step_188 : decode cX4_step 188 = .ok (.iload 5, 2) := by decide +kernel
theorem dX4_step_190 : decode cX4_step 190 = .ok (.if_icmp .ne 7, 3) := by decide +kernel
theorem dX4_step_193 : decode cX4_step 193 = .ok (.iconst 1, 1) := by decide +kernel
theorem dX4_step_194 : decode cX4_step 194 = .ok (.goto 4, 3) := by decide +kernel
theorem dX4_step_197 : decode cX4_step 197 = .ok (.iconst 0, 1) := by decide +kernel
theorem dX4_step_198 : decode cX4_step 198 = .ok (.istore 13, 2) := by decide +kernel
theorem dX4_step_200 : decode cX4_step 200 = .ok (.iload 13, 2) := by decide +kernel
theorem dX4_step_202 : decode cX4_step 202 = .ok (.ifCond .eq 39, 3) := by decide +kernel
theorem dX4_step_205 : decode cX4_step 205 = .ok (.aload_n 0, 1) := by decide +kernel
theorem dX4_step_206 : decode cX4_step 206 = .ok (.iload 12, 2) := by decide +kernel
theorem dX4_step_208 : decode cX4_step 208 = .ok (.invokevirtual 100, 3) := by decide +kernel
theorem dX4_step_211 : decode cX4_step 211 = .ok (.aload_n 0, 1) := by decide +kernel
theorem dX4_step_212 : decode cX4_step 212 = .ok (.iload 6, 2) := by decide +kernel
theorem dX4_step_214 : decode cX4_step 214 = .ok (.iload 5, 2) := by decide +kernel
theorem dX4_step_216 : decode cX4_step 216 = .ok (.invokevirtual 104, 3) := by decide +kernel
theorem dX4_step_219 : decode cX4_step 219 = .ok (.ifCond .ne 7, 3) := by decide +kernel
theorem dX4_step_222 : decode cX4_step 222 = .ok (.iconst 1, 1) := by decide +kernel
theorem dX4_step_223 : decode cX4_step 223 = .ok (.goto 4, 3) := by decide +kernel
theorem dX4_step_226 : decode cX4_step 226 = .ok (.iconst 0, 1) := by decide +kernel
theorem dX4_step_227 : decode cX4_step 227 = .ok (.istore 9, 2) := by decide +kernel
theorem dX4_step_229 : decode cX4_step 229 = .ok (.iload 9, 2) := by decide +kernel
theorem dX4_step_231 : decode cX4_step 231 = .ok (.ifCond .ne 7, 3) := by decide +kernel
theorem dX4_step_234 : decode cX4_step 234 = .ok (.iconst 1, 1) := by decide +kernel
theorem dX4_step_235 : decode cX4_step 235 = .ok (.goto 4, 3) := by decide +kernel
theorem dX4_step_238 : decode cX4_step 238 = .ok (.iconst 0, 1) := by decide +kernel
theorem dX4_step_239 : decode cX4_step 239 = .ok (.istore 8, 2) := by decide +kernel
theorem dX4_step_241 : decode cX4_step 241 = .ok (.iload 13, 2) := by decide +kernel
theorem dX4_step_243 : decode cX4_step 243 = .ok (.ifCond .eq 96, 3) := by decide +kernel
theorem dX4_step_246 : decode cX4_step 246 = .ok (.iload 8, 2) := by decide +kernel
theorem dX4_step_248 : decode cX4_step 248 = .ok (.ifCond .eq 91, 3) := by decide +kernel
theorem dX4_step_251 : decode cX4_step 251 = .ok (.iconst 0, 1) := by decide +kernel
theorem dX4_step_252 : decode cX4_step 252 = .ok (.istore 14, 2) := by decide +kernel
theorem dX4_step_254 : decode cX4_step 254 = .ok (.iload 14, 2) := by decide +kernel
theorem dX4_step_256 : decode cX4_step 256 = .ok (.iconst 3, 1) := by decide +kernel
theorem dX4_step_257 : decode cX4_step 257 = .ok (.if_icmp .ge 29, 3) := by decide +kernel
theorem dX4_step_260 : decode cX4_step 260 = .ok (.aload_n 0, 1) := by decide +kernel
theorem dX4_step_261 : decode cX4_step 261 = .ok (.getfield 25, 3) := by decide +kernel
theorem dX4_step_264 : decode cX4_step 264 = .ok (.iconst 3, 1) := by decide +kernel
theorem dX4_step_265 : decode cX4_step 265 = .ok (.iload 12, 2) := by decide +kernel
theorem dX4_step_267 : decode cX4_step 267 = .ok (.imul, 1) := by decide +kernel
theorem dX4_step_268 : decode cX4_step 268 = .ok (.iload 14, 2) := by decide +kernel
theorem dX4_step_270 : decode cX4_step 270 = .ok (.iadd, 1) := by decide +kernel
theorem dX4_step_271 : decode cX4_step 271 = .ok (.aload_n 0, 1) := by decide +kernel
theorem dX4_step_272 : decode cX4_step 272 = .ok (.getfield 28, 3) := by decide +kernel
theorem dX4_step_275 : decode cX4_step 275 = .ok (.iload 14, 2) := by decide +kernel
theorem dX4_step_277 : decode cX4_step 277 = .ok (.laload, 1) := by decide +kernel
theorem dX4_step_278 : decode cX4_step 278 = .ok (.l2i, 1) := by decide +kernel
theorem dX4_step_279 : decode cX4_step 279 = .ok (.iastore, 1) := by decide +kernel
theorem dX4_step_280 : decode cX4_step 280 = .ok (.iinc 14 1, 3) := by decide +kernel
theorem dX4_step_283 : decode cX4_step 283 = .ok (.goto (-29), 3) := by decide +kernel
theorem dX4_step_286 : decode cX4_step 286 = .ok (.aload_n 0, 1) := by decide +kernel
theorem dX4_step_287 : decode cX4_step 287 = .ok (.getfield 22, 3) := by decide +kernel
theorem dX4_step_290 : decode cX4_step 290 = .ok (.iload 12, 2) := by decide +kernel
theorem dX4_step_292 : decode cX4_step 292 = .ok (.dup2, 1) := by decide +kernel
theorem dX4_step_293 : decode cX4_step 293 = .ok (.iaload, 1) := by decide +kernel
theorem dX4_step_294 : decode cX4_step 294 = .ok (.iload 5, 2) := by decide +kernel
theorem dX4_step_296 : decode cX4_step 296 = .ok (.ifCond .eq 7, 3) := by decide +kernel
theorem dX4_step_299 : decode cX4_step 299 = .ok (.iconst (-1), 1) := by decide +kernel
theorem dX4_step_300 : decode cX4_step 300 = .ok (.goto 4, 3) := by decide +kernel
theorem dX4_step_303 : decode cX4_step 303 = .ok (.iconst 1, 1) := by decide +kernel
theorem dX4_step_304 : decode cX4_step 304 = .ok (.iadd, 1) := by decide +kernel
theorem dX4_step_305 : decode cX4_step 305 = .ok (.iastore, 1) := by decide +kernel
theorem dX4_step_306 : decode cX4_step 306 = .ok (.iinc 7 1, 3) := by decide +kernel
theorem dX4_step_309 : decode cX4_step 309 = .ok (.aload_n 0, 1) := by decide +kernel
theorem dX4_step_310 : decode cX4_step 310 = .ok (.getfield 36, 3) := by decide +kernel
theorem dX4_step_313 : decode cX4_step 313 = .ok (.iload_n 1, 1) := by decide +kernel
theorem dX4_step_314 : decode cX4_step 314 = .ok (.iload 7, 2) := by decide +kernel
theorem dX4_step_316 : decode cX4_step 316 = .ok (.iload_n 3, 1) := by decide +kernel
theorem dX4_step_317 : decode cX4_step 317 = .ok (.if_icmp .ne 7, 3) := by decide +kernel
theorem dX4_step_320 : decode cX4_step 320 = .ok (.iconst 1, 1) := by decide +kernel
theorem dX4_step_321 : decode cX4_step 321 = .ok (.goto 4, 3) := by decide +kernel
theorem dX4_step_324 : decode cX4_step 324 = .ok (.iconst 0, 1) := by decide +kernel
theorem dX4_step_325 : decode cX4_step 325 = .ok (.bastore, 1) := by decide +kernel
theorem dX4_step_326 : decode cX4_step 326 = .ok (.iload 7, 2) := by decide +kernel
theorem dX4_step_328 : decode cX4_step 328 = .ok (.iload_n 3, 1) := by decide +kernel
theorem dX4_step_329 : decode cX4_step 329 = .ok (.if_icmp .eq 7, 3) := by decide +kernel
theorem dX4_step_332 : decode cX4_step 332 = .ok (.iconst 1, 1) := by decide +kernel
theorem dX4_step_333 : decode cX4_step 333 = .ok (.goto 4, 3) := by decide +kernel
theorem dX4_step_336 : decode cX4_step 336 = .ok (.iconst 0, 1) := by decide +kernel
theorem dX4_step_337 : decode cX4_step 337 = .ok (.istore 8, 2) := by decide +kernel
theorem dX4_step_339 : decode cX4_step 339 = .ok (.iload 10, 2) := by decide +kernel
theorem dX4_step_341 : decode cX4_step 341 = .ok (.iload 8, 2) := by decide +kernel
theorem dX4_step_343 : decode cX4_step 343 = .ok (.ifCond .ne 7, 3) := by decide +kernel
theorem dX4_step_346 : decode cX4_step 346 = .ok (.iconst 0, 1) := by decide +kernel
theorem dX4_step_347 : decode cX4_step 347 = .ok (.goto 13, 3) := by decide +kernel
theorem dX4_step_350 : decode cX4_step 350 = .ok (.iload 5, 2) := by decide +kernel
theorem dX4_step_352 : decode cX4_step 352 = .ok (.ifCond .eq 7, 3) := by decide +kernel
theorem dX4_step_355 : decode cX4_step 355 = .ok (.iconst (-1), 1) := by decide +kernel
theorem dX4_step_356 : decode cX4_step 356 = .ok (.goto 4, 3) := by decide +kernel
theorem dX4_step_359 : decode cX4_step 359 = .ok (.iconst 1, 1) := by decide +kernel
theorem dX4_step_360 : decode cX4_step 360 = .ok (.iadd, 1) := by decide +kernel
theorem dX4_step_361 : decode cX4_step 361 = .ok (.istore 10, 2) := by decide +kernel
theorem dX4_step_363 : decode cX4_step 363 = .ok (.iinc 11 1, 3) := by decide +kernel
theorem dX4_step_366 : decode cX4_step 366 = .ok (.goto (-253), 3) := by decide +kernel
theorem dX4_step_369 : decode cX4_step 369 = .ok (.aload_n 0, 1) := by decide +kernel
theorem dX4_step_370 : decode cX4_step 370 = .ok (.getfield 36, 3) := by decide +kernel
theorem dX4_step_373 : decode cX4_step 373 = .ok (.iload_n 1, 1) := by decide +kernel
theorem dX4_step_374 : decode cX4_step 374 = .ok (.baload, 1) := by decide +kernel
theorem dX4_step_375 : decode cX4_step 375 = .ok (.ifCond .ne 58, 3) := by decide +kernel
theorem dX4_step_378 : decode cX4_step 378 = .ok (.aload_n 0, 1) := by decide +kernel
theorem dX4_step_379 : decode cX4_step 379 = .ok (.iload 10, 2) := by decide +kernel
theorem dX4_step_381 : decode cX4_step 381 = .ok (.putfield 93, 3) := by decide +kernel
theorem dX4_step_384 : decode cX4_step 384 = .ok (.iload 5, 2) := by decide +kernel
theorem dX4_step_386 : decode cX4_step 386 = .ok (.ifCond .ne 30, 3) := by decide +kernel
theorem dX4_step_389 : decode cX4_step 389 = .ok (.aload_n 0, 1) := by decide +kernel
theorem dX4_step_390 : decode cX4_step 390 = .ok (.getfield 93, 3) := by decide +kernel
theorem dX4_step_393 : decode cX4_step 393 = .ok (.bipush 40, 2) := by decide +kernel
theorem dX4_step_395 : decode cX4_step 395 = .ok (.if_icmp .ne 21, 3) := by decide +kernel
theorem dX4_step_398 : decode cX4_step 398 = .ok (.aload_n 0, 1) := by decide +kernel
theorem dX4_step_399 : decode cX4_step 399 = .ok (.dup, 1) := by decide +kernel
theorem dX4_step_400 : decode cX4_step 400 = .ok (.getfield 66, 3) := by decide +kernel
theorem dX4_step_403 : decode cX4_step 403 = .ok (.iconst 1, 1) := by decide +kernel
theorem dX4_step_404 : decode cX4_step 404 = .ok (.iadd, 1) := by decide +kernel
theorem dX4_step_405 : decode cX4_step 405 = .ok (.putfield 66, 3) := by decide +kernel
theorem dX4_step_408 : decode cX4_step 408 = .ok (.aload_n 0, 1) := by decide +kernel
theorem dX4_step_409 : decode cX4_step 409 = .ok (.iconst 0, 1) := by decide +kernel
theorem dX4_step_410 : decode cX4_step 410 = .ok (.putfield 69, 3) := by decide +kernel
theorem dX4_step_413 : decode cX4_step 413 = .ok (.goto 20, 3) := by decide +kernel
theorem dX4_step_416 : decode cX4_step 416 = .ok (.iload 5, 2) := by decide +kernel
theorem dX4_step_418 : decode cX4_step 418 = .ok (.ifCond .eq 15, 3) := by decide +kernel
theorem dX4_step_421 : decode cX4_step 421 = .ok (.aload_n 0, 1) := by decide +kernel
theorem dX4_step_422 : decode cX4_step 422 = .ok (.getfield 93, 3) := by decide +kernel
theorem dX4_step_425 : decode cX4_step 425 = .ok (.ifCond .ne 8, 3) := by decide +kernel
theorem dX4_step_428 : decode cX4_step 428 = .ok (.aload_n 0, 1) := by decide +kernel
theorem dX4_step_429 : decode cX4_step 429 = .ok (.iconst 0, 1) := by decide +kernel
theorem dX4_step_430 : decode cX4_step 430 = .ok (.putfield 69, 3) := by decide +kernel
theorem dX4_step_433 : decode cX4_step 433 = .ok (.iload 7, 2) := by decide +kernel
theorem dX4_step_435 : decode cX4_step 435 = .ok (.iload 9, 2) := by decide +kernel
theorem dX4_step_437 : decode cX4_step 437 = .ok (.ifCond .eq 8, 3) := by decide +kernel
theorem dX4_step_440 : decode cX4_step 440 = .ok (.bipush 100, 2) := by decide +kernel
theorem dX4_step_442 : decode cX4_step 442 = .ok (.goto 4, 3) := by decide +kernel
theorem dX4_step_445 : decode cX4_step 445 = .ok (.iconst 0, 1) := by decide +kernel
theorem dX4_step_446 : decode cX4_step 446 = .ok (.isub, 1) := by decide +kernel
theorem dX4_step_447 : decode cX4_step 447 = .ok (.ireturn, 1) := by decide +kernel
set_option maxRecDepth 20000 in
theorem ggX4_cursor_X4_refused : GoodIn wsX4_cursor wsX4_refused := goodIn_r _ [7, 8, 9, 10, 11, 12, 13, 14, 15, 16, 17, 18, 19, 20, 21, 22, 23, 24] (by decide +kernel) (by decide +kernel)
set_option maxRecDepth 20000 in
theorem gX4_cursor_X4_refused : GoodIn wsX4_cursor (wsV RX4 58 RX4 yX4_refused wsX4_refused) := goodIn_app (goodIn_of _ (by decide +kernel)) ggX4_cursor_X4_refused
theorem dX4_cursor_0 : decode cX4_cursor 0 = .ok (.aload_n 0, 1) := by decide +kernel
theorem dX4_cursor_1 : decode cX4_cursor 1 = .ok (.aload_n 0, 1) := by decide +kernel
theorem dX4_cursor_2 : decode cX4_cursor 2 = .ok (.getfield 69, 3) := by decide +kernel
theorem dX4_cursor_5 : decode cX4_cursor 5 = .ok (.ifCond .ne 7, 3) := by decide +kernel
theorem dX4_cursor_8 : decode cX4_cursor 8 = .ok (.iconst 1, 1) := by decide +kernel
theorem dX4_cursor_9 : decode cX4_cursor 9 = .ok (.goto 4, 3) := by decide +kernel
theorem dX4_cursor_12 : decode cX4_cursor 12 = .ok (.iconst 0, 1) := by decide +kernel
theorem dX4_cursor_13 : decode cX4_cursor 13 = .ok (.invokevirtual 58, 3) := by decide +kernel
theorem dX4_cursor_16 : decode cX4_cursor 16 = .ok (.ifCond .eq 7, 3) := by decide +kernel
theorem dX4_cursor_19 : decode cX4_cursor 19 = .ok (.iconst 0, 1) := by decide +kernel
theorem dX4_cursor_20 : decode cX4_cursor 20 = .ok (.goto 7, 3) := by decide +kernel
theorem dX4_cursor_23 : decode cX4_cursor 23 = .ok (.aload_n 0, 1) := by decide +kernel
theorem dX4_cursor_24 : decode cX4_cursor 24 = .ok (.getfield 93, 3) := by decide +kernel
theorem dX4_cursor_27 : decode cX4_cursor 27 = .ok (.ireturn, 1) := by decide +kernel
set_option maxRecDepth 20000 in
theorem ggX4_share_X4_refused : GoodIn wsX4_share wsX4_refused := goodIn_r _ [8, 9, 10, 11, 12, 13, 14, 15, 16, 17, 18, 19, 20, 21, 22, 23, 24, 25] (by decide +kernel) (by decide +kernel)
set_option maxRecDepth 20000 in
theorem gX4_share_X4_refused : GoodIn wsX4_share (wsV RX4 58 RX4 yX4_refused wsX4_refused) := goodIn_app (goodIn_of _ (by decide +kernel)) ggX4_share_X4_refused
theorem dX4_share_0 : decode cX4_share 0 = .ok (.iconst 0, 1) := by decide +kernel
theorem dX4_share_1 : decode cX4_share 1 = .ok (.istore_n 1, 1) := by decide +kernel
theorem dX4_share_2 : decode cX4_share 2 = .ok (.iconst 0, 1) := by decide +kernel
theorem dX4_share_3 : decode cX4_share 3 = .ok (.istore_n 2, 1) := by decide +kernel
theorem dX4_share_4 : decode cX4_share 4 = .ok (.iconst 0, 1) := by decide +kernel
theorem dX4_share_5 : decode cX4_share 5 = .ok (.istore_n 3, 1) := by decide +kernel
theorem dX4_share_6 : decode cX4_share 6 = .ok (.iload_n 3, 1) := by decide +kernel
theorem dX4_share_7 : decode cX4_share 7 = .ok (.bipush 40, 2) := by decide +kernel
theorem dX4_share_9 : decode cX4_share 9 = .ok (.if_icmp .ge 48, 3) := by decide +kernel
theorem dX4_share_12 : decode cX4_share 12 = .ok (.iload_n 1, 1) := by decide +kernel
theorem dX4_share_13 : decode cX4_share 13 = .ok (.aload_n 0, 1) := by decide +kernel
theorem dX4_share_14 : decode cX4_share 14 = .ok (.getfield 22, 3) := by decide +kernel
theorem dX4_share_17 : decode cX4_share 17 = .ok (.iload_n 3, 1) := by decide +kernel
theorem dX4_share_18 : decode cX4_share 18 = .ok (.iaload, 1) := by decide +kernel
theorem dX4_share_19 : decode cX4_share 19 = .ok (.iconst (-1), 1) := by decide +kernel
theorem dX4_share_20 : decode cX4_share 20 = .ok (.if_icmp .ne 7, 3) := by decide +kernel
theorem dX4_share_23 : decode cX4_share 23 = .ok (.iconst 0, 1) := by decide +kernel
theorem dX4_share_24 : decode cX4_share 24 = .ok (.goto 4, 3) := by decide +kernel
theorem dX4_share_27 : decode cX4_share 27 = .ok (.iconst 1, 1) := by decide +kernel
theorem dX4_share_28 : decode cX4_share 28 = .ok (.iadd, 1) := by decide +kernel
theorem dX4_share_29 : decode cX4_share 29 = .ok (.istore_n 1, 1) := by decide +kernel
theorem dX4_share_30 : decode cX4_share 30 = .ok (.iload_n 2, 1) := by decide +kernel
theorem dX4_share_31 : decode cX4_share 31 = .ok (.aload_n 0, 1) := by decide +kernel
theorem dX4_share_32 : decode cX4_share 32 = .ok (.getfield 22, 3) := by decide +kernel
theorem dX4_share_35 : decode cX4_share 35 = .ok (.iload_n 3, 1) := by decide +kernel
theorem dX4_share_36 : decode cX4_share 36 = .ok (.iaload, 1) := by decide +kernel
theorem dX4_share_37 : decode cX4_share 37 = .ok (.aload_n 0, 1) := by decide +kernel
theorem dX4_share_38 : decode cX4_share 38 = .ok (.getfield 66, 3) := by decide +kernel
theorem dX4_share_41 : decode cX4_share 41 = .ok (.if_icmp .le 7, 3) := by decide +kernel
theorem dX4_share_44 : decode cX4_share 44 = .ok (.iconst 1, 1) := by decide +kernel
theorem dX4_share_45 : decode cX4_share 45 = .ok (.goto 4, 3) := by decide +kernel
end
section
theorem dX4_share_48 : decode cX4_share 48 = .ok (.iconst 0, 1) := by decide +kernel
theorem dX4_share_49 : decode cX4_share 49 = .ok (.iadd, 1) := by decide +kernel
theorem dX4_share_50 : decode cX4_share 50 = .ok (.istore_n 2, 1) := by decide +kernel
theorem dX4_share_51 : decode cX4_share 51 = .ok (.iinc 3 1, 3) := by decide +kernel
theorem dX4_share_54 : decode cX4_share 54 = .ok (.goto (-48), 3) := by decide +kernel
theorem dX4_share_57 : decode cX4_share 57 = .ok (.aload_n 0, 1) := by decide +kernel
theorem dX4_share_58 : decode cX4_share 58 = .ok (.aload_n 0, 1) := by decide +kernel
theorem dX4_share_59 : decode cX4_share 59 = .ok (.getfield 69, 3) := by decide +kernel
theorem dX4_share_62 : decode cX4_share 62 = .ok (.ifCond .eq 7, 3) := by decide +kernel
theorem dX4_share_65 : decode cX4_share 65 = .ok (.iload_n 1, 1) := by decide +kernel
theorem dX4_share_66 : decode cX4_share 66 = .ok (.ifCond .ne 7, 3) := by decide +kernel
theorem dX4_share_69 : decode cX4_share 69 = .ok (.iconst 1, 1) := by decide +kernel
theorem dX4_share_70 : decode cX4_share 70 = .ok (.goto 4, 3) := by decide +kernel
theorem dX4_share_73 : decode cX4_share 73 = .ok (.iconst 0, 1) := by decide +kernel
theorem dX4_share_74 : decode cX4_share 74 = .ok (.invokevirtual 58, 3) := by decide +kernel
theorem dX4_share_77 : decode cX4_share 77 = .ok (.ifCond .eq 7, 3) := by decide +kernel
theorem dX4_share_80 : decode cX4_share 80 = .ok (.fconst 0, 1) := by decide +kernel
theorem dX4_share_81 : decode cX4_share 81 = .ok (.goto 8, 3) := by decide +kernel
theorem dX4_share_84 : decode cX4_share 84 = .ok (.iload_n 2, 1) := by decide +kernel
theorem dX4_share_85 : decode cX4_share 85 = .ok (.i2f, 1) := by decide +kernel
theorem dX4_share_86 : decode cX4_share 86 = .ok (.iload_n 1, 1) := by decide +kernel
theorem dX4_share_87 : decode cX4_share 87 = .ok (.i2f, 1) := by decide +kernel
theorem dX4_share_88 : decode cX4_share 88 = .ok (.fdiv, 1) := by decide +kernel
theorem dX4_share_89 : decode cX4_share 89 = .ok (.freturn, 1) := by decide +kernel
theorem dJ9_min_7cf53_0 : decode cJ9_min_7cf53 0 = .ok (.iload_n 0, 1) := by decide +kernel
theorem dJ9_min_7cf53_1 : decode cJ9_min_7cf53 1 = .ok (.iload_n 1, 1) := by decide +kernel
theorem dJ9_min_7cf53_2 : decode cJ9_min_7cf53 2 = .ok (.if_icmp .gt 7, 3) := by decide +kernel
theorem dJ9_min_7cf53_5 : decode cJ9_min_7cf53 5 = .ok (.iload_n 0, 1) := by decide +kernel
theorem dJ9_min_7cf53_6 : decode cJ9_min_7cf53 6 = .ok (.goto 4, 3) := by decide +kernel
theorem dJ9_min_7cf53_9 : decode cJ9_min_7cf53 9 = .ok (.iload_n 1, 1) := by decide +kernel
theorem dJ9_min_7cf53_10 : decode cJ9_min_7cf53 10 = .ok (.ireturn, 1) := by decide +kernel
set_option maxRecDepth 20000 in
theorem ggL_addChange_X3_addChange : GoodIn wsL_addChange wsX3_addChange := goodIn_ca (goodIn_ca (goodIn_r _ [7, 8, 9, 10, 11, 12, 6, 13, 14, 15, 16, 17, 18, 19, 20, 21, 22, 23, 24, 25, 26, 27, 28, 29, 30, 31, 32, 33, 34, 35, 36, 37, 38, 39, 40, 41, 42, 43, 44, 45, 46, 47, 48, 49, 50, 51, 52, 53] (by decide +kernel) (by decide +kernel)) (goodIn_sub (fun _ h => List.mem_cons_of_mem _ (List.mem_append_left _ (List.mem_append_right _ h))) (by decide +kernel))) (goodIn_sub (fun _ h => List.mem_cons_of_mem _ (List.mem_append_right _ h)) (by decide +kernel))
set_option maxRecDepth 20000 in
theorem gL_addChange_X3_addChange : GoodIn wsL_addChange (wsV RL 7 RX3 yX3_addChange wsX3_addChange) := goodIn_app (goodIn_of _ (by decide +kernel)) ggL_addChange_X3_addChange
theorem dL_addChange_0 : decode cL_addChange 0 = .ok (.aload 4, 2) := by decide +kernel
theorem dL_addChange_2 : decode cL_addChange 2 = .ok (.iconst 0, 1) := by decide +kernel
theorem dL_addChange_3 : decode cL_addChange 3 = .ok (.aload_n 0, 1) := by decide +kernel
theorem dL_addChange_4 : decode cL_addChange 4 = .ok (.iload_n 1, 1) := by decide +kernel
theorem dL_addChange_5 : decode cL_addChange 5 = .ok (.iload_n 2, 1) := by decide +kernel
theorem dL_addChange_6 : decode cL_addChange 6 = .ok (.iload_n 3, 1) := by decide +kernel
theorem dL_addChange_7 : decode cL_addChange 7 = .ok (.invokevirtual 7, 3) := by decide +kernel
theorem dL_addChange_10 : decode cL_addChange 10 = .ok (.i2l, 1) := by decide +kernel
theorem dL_addChange_11 : decode cL_addChange 11 = .ok (.lastore, 1) := by decide +kernel
theorem dL_addChange_12 : decode cL_addChange 12 = .ok (.goto 11, 3) := by decide +kernel
theorem dL_addChange_15 : decode cL_addChange 15 = .ok (.astore 5, 2) := by decide +kernel
theorem dL_addChange_17 : decode cL_addChange 17 = .ok (.iconst 1, 1) := by decide +kernel
theorem dL_addChange_18 : decode cL_addChange 18 = .ok (.ireturn, 1) := by decide +kernel
theorem dL_addChange_19 : decode cL_addChange 19 = .ok (.astore 5, 2) := by decide +kernel
theorem dL_addChange_21 : decode cL_addChange 21 = .ok (.iconst 2, 1) := by decide +kernel
theorem dL_addChange_22 : decode cL_addChange 22 = .ok (.ireturn, 1) := by decide +kernel
theorem dL_addChange_23 : decode cL_addChange 23 = .ok (.iconst 0, 1) := by decide +kernel
theorem dL_addChange_24 : decode cL_addChange 24 = .ok (.ireturn, 1) := by decide +kernel
set_option maxRecDepth 20000 in
theorem ggL_edit_X3_edit : GoodIn wsL_edit wsX3_edit := goodIn_ca (goodIn_ca (goodIn_ca (goodIn_r _ [8, 9, 10, 11, 12, 13, 7, 14, 15, 16, 17, 18, 19, 20, 21, 22, 23, 24, 25, 26, 27, 28, 29, 30, 31, 32, 33, 34, 35, 36, 37, 38, 39, 40, 41, 42, 43, 44, 45, 46, 47, 48, 49, 50, 51, 52, 53, 54, 55, 56, 57, 58, 59, 60, 61, 62, 63, 64, 65, 66, 67, 68, 69, 70, 71] (by decide +kernel) (by decide +kernel)) (goodIn_sub (fun _ h => List.mem_cons_of_mem _ (List.mem_append_left _ (List.mem_append_left _ (List.mem_append_right _ h)))) (by decide +kernel))) (goodIn_sub (fun _ h => List.mem_cons_of_mem _ (List.mem_append_left _ (List.mem_append_right _ h))) (by decide +kernel))) (goodIn_sub (fun _ h => List.mem_cons_of_mem _ (List.mem_append_right _ h)) (by decide +kernel))
set_option maxRecDepth 20000 in
theorem gL_edit_X3_edit : GoodIn wsL_edit (wsV RL 17 RX3 yX3_edit wsX3_edit) := goodIn_app (goodIn_of _ (by decide +kernel)) ggL_edit_X3_edit
theorem dL_edit_0 : decode cL_edit 0 = .ok (.aload 5, 2) := by decide +kernel
theorem dL_edit_2 : decode cL_edit 2 = .ok (.iconst 0, 1) := by decide +kernel
theorem dL_edit_3 : decode cL_edit 3 = .ok (.aload_n 0, 1) := by decide +kernel
theorem dL_edit_4 : decode cL_edit 4 = .ok (.iload_n 1, 1) := by decide +kernel
theorem dL_edit_5 : decode cL_edit 5 = .ok (.iload_n 2, 1) := by decide +kernel
theorem dL_edit_6 : decode cL_edit 6 = .ok (.iload_n 3, 1) := by decide +kernel
theorem dL_edit_7 : decode cL_edit 7 = .ok (.iload 4, 2) := by decide +kernel
theorem dL_edit_9 : decode cL_edit 9 = .ok (.invokevirtual 17, 3) := by decide +kernel
theorem dL_edit_12 : decode cL_edit 12 = .ok (.i2l, 1) := by decide +kernel
theorem dL_edit_13 : decode cL_edit 13 = .ok (.lastore, 1) := by decide +kernel
theorem dL_edit_14 : decode cL_edit 14 = .ok (.goto 15, 3) := by decide +kernel
theorem dL_edit_17 : decode cL_edit 17 = .ok (.astore 6, 2) := by decide +kernel
theorem dL_edit_19 : decode cL_edit 19 = .ok (.iconst 1, 1) := by decide +kernel
theorem dL_edit_20 : decode cL_edit 20 = .ok (.ireturn, 1) := by decide +kernel
theorem dL_edit_21 : decode cL_edit 21 = .ok (.astore 6, 2) := by decide +kernel
theorem dL_edit_23 : decode cL_edit 23 = .ok (.iconst 2, 1) := by decide +kernel
theorem dL_edit_24 : decode cL_edit 24 = .ok (.ireturn, 1) := by decide +kernel
theorem dL_edit_25 : decode cL_edit 25 = .ok (.astore 6, 2) := by decide +kernel
theorem dL_edit_27 : decode cL_edit 27 = .ok (.iconst 3, 1) := by decide +kernel
theorem dL_edit_28 : decode cL_edit 28 = .ok (.ireturn, 1) := by decide +kernel
theorem dL_edit_29 : decode cL_edit 29 = .ok (.iconst 0, 1) := by decide +kernel
theorem dL_edit_30 : decode cL_edit 30 = .ok (.ireturn, 1) := by decide +kernel
set_option maxRecDepth 20000 in
theorem ggL_checksum_X3_checksum : GoodIn wsL_checksum wsX3_checksum := goodIn_ca (goodIn_r _ [6, 7, 8, 9, 10, 5, 11, 12, 13, 14, 15, 16, 17, 18, 19, 20, 21, 22, 23, 24, 25, 26, 27, 28, 29, 30, 31, 32, 33, 34, 35, 36, 37, 38, 39] (by decide +kernel) (by decide +kernel)) (goodIn_sub (fun _ h => List.mem_cons_of_mem _ (List.mem_append_right _ h)) (by decide +kernel))
set_option maxRecDepth 20000 in
theorem gL_checksum_X3_checksum : GoodIn wsL_checksum (wsV RL 23 RX3 yX3_checksum wsX3_checksum) := goodIn_app (goodIn_of _ (by decide +kernel)) ggL_checksum_X3_checksum
theorem dL_checksum_0 : decode cL_checksum 0 = .ok (.aload_n 2, 1) := by decide +kernel
theorem dL_checksum_1 : decode cL_checksum 1 = .ok (.iconst 0, 1) := by decide +kernel
theorem dL_checksum_2 : decode cL_checksum 2 = .ok (.aload_n 0, 1) := by decide +kernel
theorem dL_checksum_3 : decode cL_checksum 3 = .ok (.iload_n 1, 1) := by decide +kernel
theorem dL_checksum_4 : decode cL_checksum 4 = .ok (.invokevirtual 23, 3) := by decide +kernel
theorem dL_checksum_7 : decode cL_checksum 7 = .ok (.i2l, 1) := by decide +kernel
theorem dL_checksum_8 : decode cL_checksum 8 = .ok (.lastore, 1) := by decide +kernel
theorem dL_checksum_9 : decode cL_checksum 9 = .ok (.goto 6, 3) := by decide +kernel
theorem dL_checksum_12 : decode cL_checksum 12 = .ok (.astore_n 3, 1) := by decide +kernel
theorem dL_checksum_13 : decode cL_checksum 13 = .ok (.iconst 1, 1) := by decide +kernel
theorem dL_checksum_14 : decode cL_checksum 14 = .ok (.ireturn, 1) := by decide +kernel
theorem dL_checksum_15 : decode cL_checksum 15 = .ok (.iconst 0, 1) := by decide +kernel
theorem dL_checksum_16 : decode cL_checksum 16 = .ok (.ireturn, 1) := by decide +kernel
set_option maxRecDepth 20000 in
theorem ggL_state_X3_state : GoodIn wsL_state wsX3_state := goodIn_ca (goodIn_r _ [6, 7, 8, 9, 10, 11, 5, 12, 13, 14, 15, 16, 17, 18, 19, 20, 21, 22, 23, 24, 25, 26, 27, 28, 29, 30, 31, 32, 33, 34, 35, 36, 37] (by decide +kernel) (by decide +kernel)) (goodIn_sub (fun _ h => List.mem_cons_of_mem _ (List.mem_append_right _ h)) (by decide +kernel))
set_option maxRecDepth 20000 in
theorem gL_state_X3_state : GoodIn wsL_state (wsV RL 27 RX3 yX3_state wsX3_state) := goodIn_app (goodIn_of _ (by decide +kernel)) ggL_state_X3_state
theorem dL_state_0 : decode cL_state 0 = .ok (.aload_n 2, 1) := by decide +kernel
theorem dL_state_1 : decode cL_state 1 = .ok (.iconst 0, 1) := by decide +kernel
theorem dL_state_2 : decode cL_state 2 = .ok (.aload_n 0, 1) := by decide +kernel
theorem dL_state_3 : decode cL_state 3 = .ok (.iload_n 1, 1) := by decide +kernel
theorem dL_state_4 : decode cL_state 4 = .ok (.invokevirtual 27, 3) := by decide +kernel
theorem dL_state_7 : decode cL_state 7 = .ok (.i2l, 1) := by decide +kernel
theorem dL_state_8 : decode cL_state 8 = .ok (.lastore, 1) := by decide +kernel
theorem dL_state_9 : decode cL_state 9 = .ok (.goto 6, 3) := by decide +kernel
theorem dL_state_12 : decode cL_state 12 = .ok (.astore_n 3, 1) := by decide +kernel
theorem dL_state_13 : decode cL_state 13 = .ok (.iconst 1, 1) := by decide +kernel
theorem dL_state_14 : decode cL_state 14 = .ok (.ireturn, 1) := by decide +kernel
theorem dL_state_15 : decode cL_state 15 = .ok (.iconst 0, 1) := by decide +kernel
theorem dL_state_16 : decode cL_state 16 = .ok (.ireturn, 1) := by decide +kernel
set_option maxRecDepth 20000 in
theorem ggL_insert_X3_insert : GoodIn wsL_insert wsX3_insert := goodIn_ca (goodIn_ca (goodIn_r _ [7, 8, 9, 10, 11, 12, 6, 13, 14, 15, 16, 17, 18, 19, 20, 21, 22, 23, 24, 25, 26, 27, 28, 29, 30, 31, 32, 33, 34, 35, 36, 37, 38, 39, 40, 41, 42, 43, 44, 45, 46, 47, 48, 49, 50, 51, 52, 53, 54, 55, 56, 57, 58, 59, 60, 61, 62] (by decide +kernel) (by decide +kernel)) (goodIn_sub (fun _ h => List.mem_cons_of_mem _ (List.mem_append_left _ (List.mem_append_right _ h))) (by decide +kernel))) (goodIn_sub (fun _ h => List.mem_cons_of_mem _ (List.mem_append_right _ h)) (by decide +kernel))
set_option maxRecDepth 20000 in
theorem gL_insert_X3_insert : GoodIn wsL_insert (wsV RL 30 RX3 yX3_insert wsX3_insert) := goodIn_app (goodIn_of _ (by decide +kernel)) ggL_insert_X3_insert
theorem dL_insert_0 : decode cL_insert 0 = .ok (.aload 5, 2) := by decide +kernel
theorem dL_insert_2 : decode cL_insert 2 = .ok (.iconst 0, 1) := by decide +kernel
theorem dL_insert_3 : decode cL_insert 3 = .ok (.aload_n 0, 1) := by decide +kernel
theorem dL_insert_4 : decode cL_insert 4 = .ok (.iload_n 1, 1) := by decide +kernel
theorem dL_insert_5 : decode cL_insert 5 = .ok (.iload_n 2, 1) := by decide +kernel
theorem dL_insert_6 : decode cL_insert 6 = .ok (.iload_n 3, 1) := by decide +kernel
theorem dL_insert_7 : decode cL_insert 7 = .ok (.iload 4, 2) := by decide +kernel
theorem dL_insert_9 : decode cL_insert 9 = .ok (.invokevirtual 30, 3) := by decide +kernel
theorem dL_insert_12 : decode cL_insert 12 = .ok (.i2l, 1) := by decide +kernel
theorem dL_insert_13 : decode cL_insert 13 = .ok (.lastore, 1) := by decide +kernel
theorem dL_insert_14 : decode cL_insert 14 = .ok (.goto 11, 3) := by decide +kernel
theorem dL_insert_17 : decode cL_insert 17 = .ok (.astore 6, 2) := by decide +kernel
theorem dL_insert_19 : decode cL_insert 19 = .ok (.iconst 1, 1) := by decide +kernel
theorem dL_insert_20 : decode cL_insert 20 = .ok (.ireturn, 1) := by decide +kernel
theorem dL_insert_21 : decode cL_insert 21 = .ok (.astore 6, 2) := by decide +kernel
theorem dL_insert_23 : decode cL_insert 23 = .ok (.iconst 2, 1) := by decide +kernel
theorem dL_insert_24 : decode cL_insert 24 = .ok (.ireturn, 1) := by decide +kernel
theorem dL_insert_25 : decode cL_insert 25 = .ok (.iconst 0, 1) := by decide +kernel
theorem dL_insert_26 : decode cL_insert 26 = .ok (.ireturn, 1) := by decide +kernel
set_option maxRecDepth 20000 in
theorem ggL_write_X3_write : GoodIn wsL_write wsX3_write := goodIn_ca (goodIn_ca (goodIn_r _ [7, 8, 9, 10, 6, 11, 12, 13, 14, 15, 16, 17, 18, 19, 20, 21, 22, 23, 24, 25, 26, 27, 28, 29, 30, 31, 32, 33, 34, 35, 36, 37, 38, 39, 40, 41, 42, 43, 44, 45, 46, 47, 48, 49, 50, 51, 52, 53, 54, 55, 56, 57] (by decide +kernel) (by decide +kernel)) (goodIn_sub (fun _ h => List.mem_cons_of_mem _ (List.mem_append_left _ (List.mem_append_right _ h))) (by decide +kernel))) (goodIn_sub (fun _ h => List.mem_cons_of_mem _ (List.mem_append_right _ h)) (by decide +kernel))
set_option maxRecDepth 20000 in
theorem gL_write_X3_write : GoodIn wsL_write (wsV RL 33 RX3 yX3_write wsX3_write) := goodIn_app (goodIn_of _ (by decide +kernel)) ggL_write_X3_write
theorem dL_write_0 : decode cL_write 0 = .ok (.aload 4, 2) := by decide +kernel
theorem dL_write_2 : decode cL_write 2 = .ok (.iconst 0, 1) := by decide +kernel
theorem dL_write_3 : decode cL_write 3 = .ok (.aload_n 0, 1) := by decide +kernel
theorem dL_write_4 : decode cL_write 4 = .ok (.iload_n 1, 1) := by decide +kernel
theorem dL_write_5 : decode cL_write 5 = .ok (.iload_n 2, 1) := by decide +kernel
theorem dL_write_6 : decode cL_write 6 = .ok (.iload_n 3, 1) := by decide +kernel
theorem dL_write_7 : decode cL_write 7 = .ok (.invokevirtual 33, 3) := by decide +kernel
theorem dL_write_10 : decode cL_write 10 = .ok (.i2l, 1) := by decide +kernel
theorem dL_write_11 : decode cL_write 11 = .ok (.lastore, 1) := by decide +kernel
theorem dL_write_12 : decode cL_write 12 = .ok (.goto 11, 3) := by decide +kernel
theorem dL_write_15 : decode cL_write 15 = .ok (.astore 5, 2) := by decide +kernel
theorem dL_write_17 : decode cL_write 17 = .ok (.iconst 1, 1) := by decide +kernel
theorem dL_write_18 : decode cL_write 18 = .ok (.ireturn, 1) := by decide +kernel
theorem dL_write_19 : decode cL_write 19 = .ok (.astore 5, 2) := by decide +kernel
theorem dL_write_21 : decode cL_write 21 = .ok (.iconst 2, 1) := by decide +kernel
theorem dL_write_22 : decode cL_write 22 = .ok (.ireturn, 1) := by decide +kernel
theorem dL_write_23 : decode cL_write 23 = .ok (.iconst 0, 1) := by decide +kernel
theorem dL_write_24 : decode cL_write 24 = .ok (.ireturn, 1) := by decide +kernel
set_option maxRecDepth 20000 in
theorem ggL_delete_X3_delete : GoodIn wsL_delete wsX3_delete := goodIn_ca (goodIn_ca (goodIn_r _ [7, 8, 9, 10, 6, 11, 12, 13, 14, 15, 16, 17, 18, 19, 20, 21, 22, 23, 24, 25, 26, 27, 28, 29, 30, 31, 32, 33, 34, 35, 36, 37, 38, 39, 40, 41, 42] (by decide +kernel) (by decide +kernel)) (goodIn_sub (fun _ h => List.mem_cons_of_mem _ (List.mem_append_left _ (List.mem_append_right _ h))) (by decide +kernel))) (goodIn_sub (fun _ h => List.mem_cons_of_mem _ (List.mem_append_right _ h)) (by decide +kernel))
set_option maxRecDepth 20000 in
theorem gL_delete_X3_delete : GoodIn wsL_delete (wsV RL 36 RX3 yX3_delete wsX3_delete) := goodIn_app (goodIn_of _ (by decide +kernel)) ggL_delete_X3_delete
theorem dL_delete_0 : decode cL_delete 0 = .ok (.aload_n 2, 1) := by decide +kernel
theorem dL_delete_1 : decode cL_delete 1 = .ok (.iconst 0, 1) := by decide +kernel
theorem dL_delete_2 : decode cL_delete 2 = .ok (.aload_n 0, 1) := by decide +kernel
theorem dL_delete_3 : decode cL_delete 3 = .ok (.iload_n 1, 1) := by decide +kernel
theorem dL_delete_4 : decode cL_delete 4 = .ok (.invokevirtual 36, 3) := by decide +kernel
theorem dL_delete_7 : decode cL_delete 7 = .ok (.i2l, 1) := by decide +kernel
theorem dL_delete_8 : decode cL_delete 8 = .ok (.lastore, 1) := by decide +kernel
theorem dL_delete_9 : decode cL_delete 9 = .ok (.goto 9, 3) := by decide +kernel
theorem dL_delete_12 : decode cL_delete 12 = .ok (.astore_n 3, 1) := by decide +kernel
theorem dL_delete_13 : decode cL_delete 13 = .ok (.iconst 1, 1) := by decide +kernel
theorem dL_delete_14 : decode cL_delete 14 = .ok (.ireturn, 1) := by decide +kernel
theorem dL_delete_15 : decode cL_delete 15 = .ok (.astore_n 3, 1) := by decide +kernel
theorem dL_delete_16 : decode cL_delete 16 = .ok (.iconst 2, 1) := by decide +kernel
theorem dL_delete_17 : decode cL_delete 17 = .ok (.ireturn, 1) := by decide +kernel
theorem dL_delete_18 : decode cL_delete 18 = .ok (.iconst 0, 1) := by decide +kernel
theorem dL_delete_19 : decode cL_delete 19 = .ok (.ireturn, 1) := by decide +kernel
set_option maxRecDepth 20000 in
theorem ggL_value_X3_value : GoodIn wsL_value wsX3_value := goodIn_ca (goodIn_ca (goodIn_r _ [7, 8, 9, 10, 6, 11, 12, 13, 14, 15, 16, 17, 18, 19, 20, 21, 22, 23, 24, 25, 26, 27, 28, 29, 30, 31, 32, 33, 34, 35, 36, 37, 38, 39, 40, 41, 42, 43, 44, 45] (by decide +kernel) (by decide +kernel)) (goodIn_sub (fun _ h => List.mem_cons_of_mem _ (List.mem_append_left _ (List.mem_append_right _ h))) (by decide +kernel))) (goodIn_sub (fun _ h => List.mem_cons_of_mem _ (List.mem_append_right _ h)) (by decide +kernel))
set_option maxRecDepth 20000 in
theorem gL_value_X3_value : GoodIn wsL_value (wsV RL 39 RX3 yX3_value wsX3_value) := goodIn_app (goodIn_of _ (by decide +kernel)) ggL_value_X3_value
theorem dL_value_0 : decode cL_value 0 = .ok (.aload_n 3, 1) := by decide +kernel
theorem dL_value_1 : decode cL_value 1 = .ok (.iconst 0, 1) := by decide +kernel
theorem dL_value_2 : decode cL_value 2 = .ok (.aload_n 0, 1) := by decide +kernel
theorem dL_value_3 : decode cL_value 3 = .ok (.iload_n 1, 1) := by decide +kernel
theorem dL_value_4 : decode cL_value 4 = .ok (.iload_n 2, 1) := by decide +kernel
theorem dL_value_5 : decode cL_value 5 = .ok (.invokevirtual 39, 3) := by decide +kernel
theorem dL_value_8 : decode cL_value 8 = .ok (.i2l, 1) := by decide +kernel
theorem dL_value_9 : decode cL_value 9 = .ok (.lastore, 1) := by decide +kernel
theorem dL_value_10 : decode cL_value 10 = .ok (.goto 11, 3) := by decide +kernel
theorem dL_value_13 : decode cL_value 13 = .ok (.astore 4, 2) := by decide +kernel
theorem dL_value_15 : decode cL_value 15 = .ok (.iconst 1, 1) := by decide +kernel
theorem dL_value_16 : decode cL_value 16 = .ok (.ireturn, 1) := by decide +kernel
theorem dL_value_17 : decode cL_value 17 = .ok (.astore 4, 2) := by decide +kernel
theorem dL_value_19 : decode cL_value 19 = .ok (.iconst 2, 1) := by decide +kernel
theorem dL_value_20 : decode cL_value 20 = .ok (.ireturn, 1) := by decide +kernel
theorem dL_value_21 : decode cL_value 21 = .ok (.iconst 0, 1) := by decide +kernel
theorem dL_value_22 : decode cL_value 22 = .ok (.ireturn, 1) := by decide +kernel
set_option maxRecDepth 20000 in
theorem ggL_version_X3_version : GoodIn wsL_version wsX3_version := goodIn_ca (goodIn_r _ [6, 7, 8, 9, 5, 10, 11, 12, 13, 14, 15, 16, 17, 18, 19, 20, 21, 22, 23, 24, 25, 26, 27] (by decide +kernel) (by decide +kernel)) (goodIn_sub (fun _ h => List.mem_cons_of_mem _ (List.mem_append_right _ h)) (by decide +kernel))
set_option maxRecDepth 20000 in
theorem gL_version_X3_version : GoodIn wsL_version (wsV RL 43 RX3 yX3_version wsX3_version) := goodIn_app (goodIn_of _ (by decide +kernel)) ggL_version_X3_version
theorem dL_version_0 : decode cL_version 0 = .ok (.aload_n 2, 1) := by decide +kernel
theorem dL_version_1 : decode cL_version 1 = .ok (.iconst 0, 1) := by decide +kernel
theorem dL_version_2 : decode cL_version 2 = .ok (.aload_n 0, 1) := by decide +kernel
theorem dL_version_3 : decode cL_version 3 = .ok (.iload_n 1, 1) := by decide +kernel
theorem dL_version_4 : decode cL_version 4 = .ok (.invokevirtual 43, 3) := by decide +kernel
theorem dL_version_7 : decode cL_version 7 = .ok (.i2l, 1) := by decide +kernel
theorem dL_version_8 : decode cL_version 8 = .ok (.lastore, 1) := by decide +kernel
theorem dL_version_9 : decode cL_version 9 = .ok (.goto 6, 3) := by decide +kernel
theorem dL_version_12 : decode cL_version 12 = .ok (.astore_n 3, 1) := by decide +kernel
theorem dL_version_13 : decode cL_version 13 = .ok (.iconst 1, 1) := by decide +kernel
theorem dL_version_14 : decode cL_version 14 = .ok (.ireturn, 1) := by decide +kernel
theorem dL_version_15 : decode cL_version 15 = .ok (.iconst 0, 1) := by decide +kernel
theorem dL_version_16 : decode cL_version 16 = .ok (.ireturn, 1) := by decide +kernel
set_option maxRecDepth 20000 in
theorem ggL_rowsAt_X3_rowsAt : GoodIn wsL_rowsAt wsX3_rowsAt := goodIn_ca (goodIn_r _ [6, 7, 8, 9, 10, 11, 12, 13, 14, 15, 16, 17, 18, 19, 20, 21, 22, 23, 24] (by decide +kernel) (by decide +kernel)) (goodIn_sub (fun _ h => List.mem_cons_of_mem _ (List.mem_append_right _ h)) (by decide +kernel))
set_option maxRecDepth 20000 in
theorem gL_rowsAt_X3_rowsAt : GoodIn wsL_rowsAt (wsV RL 46 RX3 yX3_rowsAt wsX3_rowsAt) := goodIn_app (goodIn_of _ (by decide +kernel)) ggL_rowsAt_X3_rowsAt
theorem dL_rowsAt_0 : decode cL_rowsAt 0 = .ok (.aload_n 2, 1) := by decide +kernel
theorem dL_rowsAt_1 : decode cL_rowsAt 1 = .ok (.iconst 0, 1) := by decide +kernel
theorem dL_rowsAt_2 : decode cL_rowsAt 2 = .ok (.aload_n 0, 1) := by decide +kernel
theorem dL_rowsAt_3 : decode cL_rowsAt 3 = .ok (.iload_n 1, 1) := by decide +kernel
theorem dL_rowsAt_4 : decode cL_rowsAt 4 = .ok (.invokevirtual 46, 3) := by decide +kernel
theorem dL_rowsAt_7 : decode cL_rowsAt 7 = .ok (.i2l, 1) := by decide +kernel
theorem dL_rowsAt_8 : decode cL_rowsAt 8 = .ok (.lastore, 1) := by decide +kernel
theorem dL_rowsAt_9 : decode cL_rowsAt 9 = .ok (.goto 6, 3) := by decide +kernel
theorem dL_rowsAt_12 : decode cL_rowsAt 12 = .ok (.astore_n 3, 1) := by decide +kernel
theorem dL_rowsAt_13 : decode cL_rowsAt 13 = .ok (.iconst 1, 1) := by decide +kernel
theorem dL_rowsAt_14 : decode cL_rowsAt 14 = .ok (.ireturn, 1) := by decide +kernel
theorem dL_rowsAt_15 : decode cL_rowsAt 15 = .ok (.iconst 0, 1) := by decide +kernel
theorem dL_rowsAt_16 : decode cL_rowsAt 16 = .ok (.ireturn, 1) := by decide +kernel
set_option maxRecDepth 20000 in
theorem ggL_valueAt_X3_valueAt : GoodIn wsL_valueAt wsX3_valueAt := goodIn_ca (goodIn_ca (goodIn_ca (goodIn_r _ [8, 9, 10, 11, 12, 13, 14, 15, 16, 17, 7, 18, 19, 20, 21, 22, 23, 24, 25, 26, 27, 28, 29, 30, 31, 32, 33, 34, 35, 36, 37, 38, 39, 40, 41, 42, 43, 44, 45, 46, 47, 48, 49, 50, 51, 52, 53, 54, 55, 56, 57, 58, 59, 60, 61, 62, 63, 64, 65, 66, 67, 68, 69, 70, 71, 72, 73, 74, 75, 76, 77, 78, 79, 80, 81, 82, 83, 84, 85, 86, 87, 88, 89, 90, 91, 92, 93, 94] (by decide +kernel) (by decide +kernel)) (goodIn_sub (fun _ h => List.mem_cons_of_mem _ (List.mem_append_left _ (List.mem_append_left _ (List.mem_append_right _ h)))) (by decide +kernel))) (goodIn_sub (fun _ h => List.mem_cons_of_mem _ (List.mem_append_left _ (List.mem_append_right _ h))) (by decide +kernel))) (goodIn_sub (fun _ h => List.mem_cons_of_mem _ (List.mem_append_right _ h)) (by decide +kernel))
set_option maxRecDepth 20000 in
theorem gL_valueAt_X3_valueAt : GoodIn wsL_valueAt (wsV RL 49 RX3 yX3_valueAt wsX3_valueAt) := goodIn_app (goodIn_of _ (by decide +kernel)) ggL_valueAt_X3_valueAt
theorem dL_valueAt_0 : decode cL_valueAt 0 = .ok (.aload 4, 2) := by decide +kernel
theorem dL_valueAt_2 : decode cL_valueAt 2 = .ok (.iconst 0, 1) := by decide +kernel
theorem dL_valueAt_3 : decode cL_valueAt 3 = .ok (.aload_n 0, 1) := by decide +kernel
theorem dL_valueAt_4 : decode cL_valueAt 4 = .ok (.iload_n 1, 1) := by decide +kernel
theorem dL_valueAt_5 : decode cL_valueAt 5 = .ok (.iload_n 2, 1) := by decide +kernel
theorem dL_valueAt_6 : decode cL_valueAt 6 = .ok (.iload_n 3, 1) := by decide +kernel
theorem dL_valueAt_7 : decode cL_valueAt 7 = .ok (.invokevirtual 49, 3) := by decide +kernel
theorem dL_valueAt_10 : decode cL_valueAt 10 = .ok (.i2l, 1) := by decide +kernel
theorem dL_valueAt_11 : decode cL_valueAt 11 = .ok (.lastore, 1) := by decide +kernel
theorem dL_valueAt_12 : decode cL_valueAt 12 = .ok (.goto 15, 3) := by decide +kernel
theorem dL_valueAt_15 : decode cL_valueAt 15 = .ok (.astore 5, 2) := by decide +kernel
theorem dL_valueAt_17 : decode cL_valueAt 17 = .ok (.iconst 1, 1) := by decide +kernel
theorem dL_valueAt_18 : decode cL_valueAt 18 = .ok (.ireturn, 1) := by decide +kernel
theorem dL_valueAt_19 : decode cL_valueAt 19 = .ok (.astore 5, 2) := by decide +kernel
theorem dL_valueAt_21 : decode cL_valueAt 21 = .ok (.iconst 2, 1) := by decide +kernel
theorem dL_valueAt_22 : decode cL_valueAt 22 = .ok (.ireturn, 1) := by decide +kernel
theorem dL_valueAt_23 : decode cL_valueAt 23 = .ok (.astore 5, 2) := by decide +kernel
theorem dL_valueAt_25 : decode cL_valueAt 25 = .ok (.iconst 3, 1) := by decide +kernel
theorem dL_valueAt_26 : decode cL_valueAt 26 = .ok (.ireturn, 1) := by decide +kernel
theorem dL_valueAt_27 : decode cL_valueAt 27 = .ok (.iconst 0, 1) := by decide +kernel
theorem dL_valueAt_28 : decode cL_valueAt 28 = .ok (.ireturn, 1) := by decide +kernel
set_option maxRecDepth 20000 in
theorem ggL_take_X3_take : GoodIn wsL_take wsX3_take := goodIn_ca (goodIn_ca (goodIn_r _ [7, 8, 9, 10, 11, 12, 13, 14, 6, 15, 16, 17, 18, 19, 20, 21, 22, 23, 24, 25, 26, 27, 28, 29, 30, 31, 32, 33, 34, 35, 36, 37, 38, 39, 40, 41, 42, 43, 44, 45, 46, 47] (by decide +kernel) (by decide +kernel)) (goodIn_sub (fun _ h => List.mem_cons_of_mem _ (List.mem_append_left _ (List.mem_append_right _ h))) (by decide +kernel))) (goodIn_sub (fun _ h => List.mem_cons_of_mem _ (List.mem_append_right _ h)) (by decide +kernel))
set_option maxRecDepth 20000 in
theorem gL_take_X3_take : GoodIn wsL_take (wsV RL 52 RX3 yX3_take wsX3_take) := goodIn_app (goodIn_of _ (by decide +kernel)) ggL_take_X3_take
theorem dL_take_0 : decode cL_take 0 = .ok (.aload_n 3, 1) := by decide +kernel
theorem dL_take_1 : decode cL_take 1 = .ok (.iconst 0, 1) := by decide +kernel
theorem dL_take_2 : decode cL_take 2 = .ok (.aload_n 0, 1) := by decide +kernel
theorem dL_take_3 : decode cL_take 3 = .ok (.iload_n 1, 1) := by decide +kernel
theorem dL_take_4 : decode cL_take 4 = .ok (.iload_n 2, 1) := by decide +kernel
theorem dL_take_5 : decode cL_take 5 = .ok (.invokevirtual 52, 3) := by decide +kernel
theorem dL_take_8 : decode cL_take 8 = .ok (.i2l, 1) := by decide +kernel
theorem dL_take_9 : decode cL_take 9 = .ok (.lastore, 1) := by decide +kernel
theorem dL_take_10 : decode cL_take 10 = .ok (.goto 11, 3) := by decide +kernel
theorem dL_take_13 : decode cL_take 13 = .ok (.astore 4, 2) := by decide +kernel
theorem dL_take_15 : decode cL_take 15 = .ok (.iconst 1, 1) := by decide +kernel
theorem dL_take_16 : decode cL_take 16 = .ok (.ireturn, 1) := by decide +kernel
theorem dL_take_17 : decode cL_take 17 = .ok (.astore 4, 2) := by decide +kernel
theorem dL_take_19 : decode cL_take 19 = .ok (.iconst 2, 1) := by decide +kernel
theorem dL_take_20 : decode cL_take 20 = .ok (.ireturn, 1) := by decide +kernel
theorem dL_take_21 : decode cL_take 21 = .ok (.iconst 0, 1) := by decide +kernel
theorem dL_take_22 : decode cL_take 22 = .ok (.ireturn, 1) := by decide +kernel
set_option maxRecDepth 20000 in
theorem ggL_giveBack_X3_giveBack : GoodIn wsL_giveBack wsX3_giveBack := goodIn_ca (goodIn_ca (goodIn_r _ [7, 8, 9, 10, 6, 11, 12, 13, 14, 15, 16, 17, 18, 19, 20, 21, 22, 23, 24, 25, 26, 27, 28, 29, 30, 31, 32, 33, 34, 35, 36, 37, 38, 39, 40, 41, 42, 43, 44, 45, 46, 47, 48, 49, 50, 51] (by decide +kernel) (by decide +kernel)) (goodIn_sub (fun _ h => List.mem_cons_of_mem _ (List.mem_append_left _ (List.mem_append_right _ h))) (by decide +kernel))) (goodIn_sub (fun _ h => List.mem_cons_of_mem _ (List.mem_append_right _ h)) (by decide +kernel))
set_option maxRecDepth 20000 in
theorem gL_giveBack_X3_giveBack : GoodIn wsL_giveBack (wsV RL 55 RX3 yX3_giveBack wsX3_giveBack) := goodIn_app (goodIn_of _ (by decide +kernel)) ggL_giveBack_X3_giveBack
theorem dL_giveBack_0 : decode cL_giveBack 0 = .ok (.aload_n 0, 1) := by decide +kernel
theorem dL_giveBack_1 : decode cL_giveBack 1 = .ok (.iload_n 1, 1) := by decide +kernel
theorem dL_giveBack_2 : decode cL_giveBack 2 = .ok (.invokevirtual 55, 3) := by decide +kernel
theorem dL_giveBack_5 : decode cL_giveBack 5 = .ok (.goto 9, 3) := by decide +kernel
theorem dL_giveBack_8 : decode cL_giveBack 8 = .ok (.astore_n 2, 1) := by decide +kernel
theorem dL_giveBack_9 : decode cL_giveBack 9 = .ok (.iconst 1, 1) := by decide +kernel
theorem dL_giveBack_10 : decode cL_giveBack 10 = .ok (.ireturn, 1) := by decide +kernel
theorem dL_giveBack_11 : decode cL_giveBack 11 = .ok (.astore_n 2, 1) := by decide +kernel
theorem dL_giveBack_12 : decode cL_giveBack 12 = .ok (.iconst 2, 1) := by decide +kernel
theorem dL_giveBack_13 : decode cL_giveBack 13 = .ok (.ireturn, 1) := by decide +kernel
theorem dL_giveBack_14 : decode cL_giveBack 14 = .ok (.iconst 0, 1) := by decide +kernel
theorem dL_giveBack_15 : decode cL_giveBack 15 = .ok (.ireturn, 1) := by decide +kernel
set_option maxRecDepth 20000 in
theorem ggL_restart_X3_restart : GoodIn wsL_restart wsX3_restart := goodIn_ca (goodIn_ca (goodIn_r _ [7, 8, 9, 10, 11, 12, 6, 13, 14, 15, 16, 17, 18, 19, 20, 21, 22, 23, 24, 25, 26, 27, 28, 29, 30, 31, 32, 33, 34, 35, 36, 37, 38, 39, 40, 41, 42, 43] (by decide +kernel) (by decide +kernel)) (goodIn_sub (fun _ h => List.mem_cons_of_mem _ (List.mem_append_left _ (List.mem_append_right _ h))) (by decide +kernel))) (goodIn_sub (fun _ h => List.mem_cons_of_mem _ (List.mem_append_right _ h)) (by decide +kernel))
set_option maxRecDepth 20000 in
theorem gL_restart_X3_restart : GoodIn wsL_restart (wsV RL 59 RX3 yX3_restart wsX3_restart) := goodIn_app (goodIn_of _ (by decide +kernel)) ggL_restart_X3_restart
theorem dL_restart_0 : decode cL_restart 0 = .ok (.aload_n 2, 1) := by decide +kernel
theorem dL_restart_1 : decode cL_restart 1 = .ok (.iconst 0, 1) := by decide +kernel
theorem dL_restart_2 : decode cL_restart 2 = .ok (.aload_n 0, 1) := by decide +kernel
theorem dL_restart_3 : decode cL_restart 3 = .ok (.iload_n 1, 1) := by decide +kernel
theorem dL_restart_4 : decode cL_restart 4 = .ok (.invokevirtual 59, 3) := by decide +kernel
theorem dL_restart_7 : decode cL_restart 7 = .ok (.ifCond .eq 7, 3) := by decide +kernel
theorem dL_restart_10 : decode cL_restart 10 = .ok (.lconst 1, 1) := by decide +kernel
theorem dL_restart_11 : decode cL_restart 11 = .ok (.goto 4, 3) := by decide +kernel
theorem dL_restart_14 : decode cL_restart 14 = .ok (.lconst 0, 1) := by decide +kernel
theorem dL_restart_15 : decode cL_restart 15 = .ok (.lastore, 1) := by decide +kernel
theorem dL_restart_16 : decode cL_restart 16 = .ok (.goto 9, 3) := by decide +kernel
theorem dL_restart_19 : decode cL_restart 19 = .ok (.astore_n 3, 1) := by decide +kernel
theorem dL_restart_20 : decode cL_restart 20 = .ok (.iconst 1, 1) := by decide +kernel
theorem dL_restart_21 : decode cL_restart 21 = .ok (.ireturn, 1) := by decide +kernel
theorem dL_restart_22 : decode cL_restart 22 = .ok (.astore_n 3, 1) := by decide +kernel
theorem dL_restart_23 : decode cL_restart 23 = .ok (.iconst 2, 1) := by decide +kernel
theorem dL_restart_24 : decode cL_restart 24 = .ok (.ireturn, 1) := by decide +kernel
theorem dL_restart_25 : decode cL_restart 25 = .ok (.iconst 0, 1) := by decide +kernel
theorem dL_restart_26 : decode cL_restart 26 = .ok (.ireturn, 1) := by decide +kernel
set_option maxRecDepth 20000 in
theorem ggL_pass_X3_pass : GoodIn wsL_pass wsX3_pass := goodIn_ca (goodIn_r _ [6, 7, 8, 9, 10, 11, 12, 13, 14, 15, 16, 17, 18, 19, 20, 21, 22, 23, 24, 25, 26] (by decide +kernel) (by decide +kernel)) (goodIn_sub (fun _ h => List.mem_cons_of_mem _ (List.mem_append_right _ h)) (by decide +kernel))
set_option maxRecDepth 20000 in
theorem gL_pass_X3_pass : GoodIn wsL_pass (wsV RL 63 RX3 yX3_pass wsX3_pass) := goodIn_app (goodIn_of _ (by decide +kernel)) ggL_pass_X3_pass
theorem dL_pass_0 : decode cL_pass 0 = .ok (.aload_n 2, 1) := by decide +kernel
theorem dL_pass_1 : decode cL_pass 1 = .ok (.iconst 0, 1) := by decide +kernel
theorem dL_pass_2 : decode cL_pass 2 = .ok (.aload_n 0, 1) := by decide +kernel
theorem dL_pass_3 : decode cL_pass 3 = .ok (.iload_n 1, 1) := by decide +kernel
theorem dL_pass_4 : decode cL_pass 4 = .ok (.invokevirtual 63, 3) := by decide +kernel
theorem dL_pass_7 : decode cL_pass 7 = .ok (.i2l, 1) := by decide +kernel
theorem dL_pass_8 : decode cL_pass 8 = .ok (.lastore, 1) := by decide +kernel
theorem dL_pass_9 : decode cL_pass 9 = .ok (.goto 6, 3) := by decide +kernel
theorem dL_pass_12 : decode cL_pass 12 = .ok (.astore_n 3, 1) := by decide +kernel
theorem dL_pass_13 : decode cL_pass 13 = .ok (.iconst 1, 1) := by decide +kernel
theorem dL_pass_14 : decode cL_pass 14 = .ok (.ireturn, 1) := by decide +kernel
theorem dL_pass_15 : decode cL_pass 15 = .ok (.iconst 0, 1) := by decide +kernel
theorem dL_pass_16 : decode cL_pass 16 = .ok (.ireturn, 1) := by decide +kernel
set_option maxRecDepth 20000 in
theorem ggL_begin_X3_begin : GoodIn wsL_begin wsX3_begin := goodIn_ca (goodIn_ca (goodIn_r _ [7, 8, 9, 10, 11, 12, 13, 14, 15, 6, 16, 17, 18, 19, 20, 21, 22, 23, 24, 25, 26, 27, 28, 29, 30, 31, 32, 33, 34, 35, 36, 37, 38, 39, 40, 41, 42, 43, 44, 45, 46, 47, 48, 49, 50, 51, 52, 53, 54, 55, 56, 57, 58, 59, 60, 61, 62, 63, 64, 65, 66, 67, 68, 69, 70, 71, 72, 73, 74, 75, 76, 77, 78, 79, 80, 81, 82, 83, 84, 85, 86, 87, 88, 89, 90, 91] (by decide +kernel) (by decide +kernel)) (goodIn_sub (fun _ h => List.mem_cons_of_mem _ (List.mem_append_left _ (List.mem_append_right _ h))) (by decide +kernel))) (goodIn_sub (fun _ h => List.mem_cons_of_mem _ (List.mem_append_right _ h)) (by decide +kernel))
set_option maxRecDepth 20000 in
theorem gL_begin_X3_begin : GoodIn wsL_begin (wsV RL 66 RX3 yX3_begin wsX3_begin) := goodIn_app (goodIn_of _ (by decide +kernel)) ggL_begin_X3_begin
theorem dL_begin_0 : decode cL_begin 0 = .ok (.aload_n 2, 1) := by decide +kernel
theorem dL_begin_1 : decode cL_begin 1 = .ok (.iconst 0, 1) := by decide +kernel
theorem dL_begin_2 : decode cL_begin 2 = .ok (.aload_n 0, 1) := by decide +kernel
theorem dL_begin_3 : decode cL_begin 3 = .ok (.iload_n 1, 1) := by decide +kernel
theorem dL_begin_4 : decode cL_begin 4 = .ok (.invokevirtual 66, 3) := by decide +kernel
theorem dL_begin_7 : decode cL_begin 7 = .ok (.i2l, 1) := by decide +kernel
theorem dL_begin_8 : decode cL_begin 8 = .ok (.lastore, 1) := by decide +kernel
theorem dL_begin_9 : decode cL_begin 9 = .ok (.goto 9, 3) := by decide +kernel
theorem dL_begin_12 : decode cL_begin 12 = .ok (.astore_n 3, 1) := by decide +kernel
theorem dL_begin_13 : decode cL_begin 13 = .ok (.iconst 1, 1) := by decide +kernel
theorem dL_begin_14 : decode cL_begin 14 = .ok (.ireturn, 1) := by decide +kernel
theorem dL_begin_15 : decode cL_begin 15 = .ok (.astore_n 3, 1) := by decide +kernel
theorem dL_begin_16 : decode cL_begin 16 = .ok (.iconst 2, 1) := by decide +kernel
theorem dL_begin_17 : decode cL_begin 17 = .ok (.ireturn, 1) := by decide +kernel
theorem dL_begin_18 : decode cL_begin 18 = .ok (.iconst 0, 1) := by decide +kernel
theorem dL_begin_19 : decode cL_begin 19 = .ok (.ireturn, 1) := by decide +kernel
set_option maxRecDepth 20000 in
theorem ggL_undo_X3_undo : GoodIn wsL_undo wsX3_undo := goodIn_ca (goodIn_ca (goodIn_r _ [7, 8, 9, 10, 11, 12, 13, 14, 6, 15, 16, 17, 18, 19, 20, 21, 22, 23, 24, 25, 26, 27, 28, 29, 30, 31, 32, 33, 34, 35, 36, 37, 38, 39, 40, 41, 42, 43, 44, 45, 46, 47, 48, 49, 50, 51, 52, 53, 54, 55, 56, 57, 58, 59, 60, 61, 62, 63, 64, 65, 66, 67, 68, 69, 70, 71, 72, 73, 74, 75, 76, 77, 78] (by decide +kernel) (by decide +kernel)) (goodIn_sub (fun _ h => List.mem_cons_of_mem _ (List.mem_append_left _ (List.mem_append_right _ h))) (by decide +kernel))) (goodIn_sub (fun _ h => List.mem_cons_of_mem _ (List.mem_append_right _ h)) (by decide +kernel))
set_option maxRecDepth 20000 in
theorem gL_undo_X3_undo : GoodIn wsL_undo (wsV RL 69 RX3 yX3_undo wsX3_undo) := goodIn_app (goodIn_of _ (by decide +kernel)) ggL_undo_X3_undo
theorem dL_undo_0 : decode cL_undo 0 = .ok (.aload_n 2, 1) := by decide +kernel
theorem dL_undo_1 : decode cL_undo 1 = .ok (.iconst 0, 1) := by decide +kernel
theorem dL_undo_2 : decode cL_undo 2 = .ok (.aload_n 0, 1) := by decide +kernel
theorem dL_undo_3 : decode cL_undo 3 = .ok (.iload_n 1, 1) := by decide +kernel
theorem dL_undo_4 : decode cL_undo 4 = .ok (.invokevirtual 69, 3) := by decide +kernel
theorem dL_undo_7 : decode cL_undo 7 = .ok (.i2l, 1) := by decide +kernel
theorem dL_undo_8 : decode cL_undo 8 = .ok (.lastore, 1) := by decide +kernel
theorem dL_undo_9 : decode cL_undo 9 = .ok (.goto 9, 3) := by decide +kernel
theorem dL_undo_12 : decode cL_undo 12 = .ok (.astore_n 3, 1) := by decide +kernel
theorem dL_undo_13 : decode cL_undo 13 = .ok (.iconst 1, 1) := by decide +kernel
theorem dL_undo_14 : decode cL_undo 14 = .ok (.ireturn, 1) := by decide +kernel
theorem dL_undo_15 : decode cL_undo 15 = .ok (.astore_n 3, 1) := by decide +kernel
theorem dL_undo_16 : decode cL_undo 16 = .ok (.iconst 2, 1) := by decide +kernel
theorem dL_undo_17 : decode cL_undo 17 = .ok (.ireturn, 1) := by decide +kernel
theorem dL_undo_18 : decode cL_undo 18 = .ok (.iconst 0, 1) := by decide +kernel
theorem dL_undo_19 : decode cL_undo 19 = .ok (.ireturn, 1) := by decide +kernel
set_option maxRecDepth 20000 in
theorem ggL_step_X3_step : GoodIn wsL_step wsX3_step := goodIn_ca (goodIn_ca (goodIn_r _ [7, 8, 9, 10, 11, 12, 13, 14, 15, 6, 16, 17, 18, 19, 20, 21, 22, 23, 24, 25, 26, 27, 28, 29, 30, 31, 32, 33, 34, 35, 36, 37, 38, 39, 40, 41, 42, 43, 44, 45, 46, 47, 48, 49, 50, 51, 52, 53, 54, 55, 56, 57, 58, 59, 60, 61, 62, 63, 64, 65, 66, 67, 68, 69, 70, 71, 72, 73, 74, 75, 76, 77, 78, 79, 80, 81, 82, 83, 84, 85, 86, 87, 88, 89, 90, 91, 92, 93, 94, 95, 96, 97, 98, 99, 100, 101, 102, 103, 104, 105, 106, 107, 108, 109, 110, 111, 112, 113, 114, 115, 116, 117, 118, 119, 120, 121, 122, 123, 124, 125, 126, 127, 128, 129, 130, 131, 132, 133, 134, 135, 136, 137, 138, 139, 140, 141, 142, 143, 144, 145, 146, 147, 148, 149, 150, 151, 152, 153, 154, 155, 156, 157, 158, 159, 160, 161, 162, 163, 164, 165] (by decide +kernel) (by decide +kernel)) (goodIn_sub (fun _ h => List.mem_cons_of_mem _ (List.mem_append_left _ (List.mem_append_right _ h))) (by decide +kernel))) (goodIn_sub (fun _ h => List.mem_cons_of_mem _ (List.mem_append_right _ h)) (by decide +kernel))
set_option maxRecDepth 20000 in
theorem gL_step_X3_step : GoodIn wsL_step (wsV RL 72 RX3 yX3_step wsX3_step) := goodIn_app (goodIn_of _ (by decide +kernel)) ggL_step_X3_step
theorem dL_step_0 : decode cL_step 0 = .ok (.aload 4, 2) := by decide +kernel
theorem dL_step_2 : decode cL_step 2 = .ok (.iconst 0, 1) := by decide +kernel
theorem dL_step_3 : decode cL_step 3 = .ok (.aload_n 0, 1) := by decide +kernel
theorem dL_step_4 : decode cL_step 4 = .ok (.iload_n 1, 1) := by decide +kernel
theorem dL_step_5 : decode cL_step 5 = .ok (.iload_n 2, 1) := by decide +kernel
theorem dL_step_6 : decode cL_step 6 = .ok (.iload_n 3, 1) := by decide +kernel
theorem dL_step_7 : decode cL_step 7 = .ok (.invokevirtual 72, 3) := by decide +kernel
theorem dL_step_10 : decode cL_step 10 = .ok (.i2l, 1) := by decide +kernel
theorem dL_step_11 : decode cL_step 11 = .ok (.lastore, 1) := by decide +kernel
theorem dL_step_12 : decode cL_step 12 = .ok (.goto 11, 3) := by decide +kernel
theorem dL_step_15 : decode cL_step 15 = .ok (.astore 5, 2) := by decide +kernel
theorem dL_step_17 : decode cL_step 17 = .ok (.iconst 1, 1) := by decide +kernel
theorem dL_step_18 : decode cL_step 18 = .ok (.ireturn, 1) := by decide +kernel
theorem dL_step_19 : decode cL_step 19 = .ok (.astore 5, 2) := by decide +kernel
theorem dL_step_21 : decode cL_step 21 = .ok (.iconst 2, 1) := by decide +kernel
theorem dL_step_22 : decode cL_step 22 = .ok (.ireturn, 1) := by decide +kernel
theorem dL_step_23 : decode cL_step 23 = .ok (.iconst 0, 1) := by decide +kernel
theorem dL_step_24 : decode cL_step 24 = .ok (.ireturn, 1) := by decide +kernel
set_option maxRecDepth 20000 in
theorem ggL_cursor_X3_cursor : GoodIn wsL_cursor wsX3_cursor := goodIn_ca (goodIn_r _ [6, 7, 8, 9, 10, 5, 11, 12, 13, 14, 15, 16, 17, 18, 19, 20, 21, 22, 23, 24, 25] (by decide +kernel) (by decide +kernel)) (goodIn_sub (fun _ h => List.mem_cons_of_mem _ (List.mem_append_right _ h)) (by decide +kernel))
set_option maxRecDepth 20000 in
theorem gL_cursor_X3_cursor : GoodIn wsL_cursor (wsV RL 75 RX3 yX3_cursor wsX3_cursor) := goodIn_app (goodIn_of _ (by decide +kernel)) ggL_cursor_X3_cursor
theorem dL_cursor_0 : decode cL_cursor 0 = .ok (.aload_n 1, 1) := by decide +kernel
theorem dL_cursor_1 : decode cL_cursor 1 = .ok (.iconst 0, 1) := by decide +kernel
theorem dL_cursor_2 : decode cL_cursor 2 = .ok (.aload_n 0, 1) := by decide +kernel
theorem dL_cursor_3 : decode cL_cursor 3 = .ok (.invokevirtual 75, 3) := by decide +kernel
theorem dL_cursor_6 : decode cL_cursor 6 = .ok (.i2l, 1) := by decide +kernel
theorem dL_cursor_7 : decode cL_cursor 7 = .ok (.lastore, 1) := by decide +kernel
theorem dL_cursor_8 : decode cL_cursor 8 = .ok (.goto 6, 3) := by decide +kernel
theorem dL_cursor_11 : decode cL_cursor 11 = .ok (.astore_n 2, 1) := by decide +kernel
theorem dL_cursor_12 : decode cL_cursor 12 = .ok (.iconst 1, 1) := by decide +kernel
theorem dL_cursor_13 : decode cL_cursor 13 = .ok (.ireturn, 1) := by decide +kernel
theorem dL_cursor_14 : decode cL_cursor 14 = .ok (.iconst 0, 1) := by decide +kernel
theorem dL_cursor_15 : decode cL_cursor 15 = .ok (.ireturn, 1) := by decide +kernel
set_option maxRecDepth 20000 in
theorem ggL_share_X3_share : GoodIn wsL_share wsX3_share := goodIn_ca (goodIn_r _ [6, 7, 8, 9, 10, 11, 12, 5, 13, 14, 15, 16, 17, 18, 19, 20, 21, 22, 23, 24, 25, 26, 27, 28, 29, 30, 31, 32, 33, 34, 35, 36, 37, 38, 39, 40, 41, 42, 43] (by decide +kernel) (by decide +kernel)) (goodIn_sub (fun _ h => List.mem_cons_of_mem _ (List.mem_append_right _ h)) (by decide +kernel))
set_option maxRecDepth 20000 in
theorem gL_share_X3_share : GoodIn wsL_share (wsV RL 79 RX3 yX3_share wsX3_share) := goodIn_app (goodIn_of _ (by decide +kernel)) ggL_share_X3_share
theorem dL_share_0 : decode cL_share 0 = .ok (.aload_n 1, 1) := by decide +kernel
theorem dL_share_1 : decode cL_share 1 = .ok (.iconst 0, 1) := by decide +kernel
theorem dL_share_2 : decode cL_share 2 = .ok (.aload_n 0, 1) := by decide +kernel
theorem dL_share_3 : decode cL_share 3 = .ok (.invokevirtual 79, 3) := by decide +kernel
theorem dL_share_6 : decode cL_share 6 = .ok (.f2d, 1) := by decide +kernel
theorem dL_share_7 : decode cL_share 7 = .ok (.dastore, 1) := by decide +kernel
theorem dL_share_8 : decode cL_share 8 = .ok (.goto 6, 3) := by decide +kernel
theorem dL_share_11 : decode cL_share 11 = .ok (.astore_n 2, 1) := by decide +kernel
theorem dL_share_12 : decode cL_share 12 = .ok (.iconst 1, 1) := by decide +kernel
theorem dL_share_13 : decode cL_share 13 = .ok (.ireturn, 1) := by decide +kernel
theorem dL_share_14 : decode cL_share 14 = .ok (.iconst 0, 1) := by decide +kernel
theorem dL_share_15 : decode cL_share 15 = .ok (.ireturn, 1) := by decide +kernel
set_option maxRecDepth 20000 in
theorem ggL_law_X3_init : GoodIn wsL_law wsX3_init := goodIn_r _ [10, 11, 12, 13, 14, 15, 16, 17, 18, 19, 20, 21, 22, 23, 24, 25, 26, 27, 28, 29, 30, 31, 32, 33, 34, 35, 36, 37, 38, 39, 40, 41, 42, 43, 44, 45, 46, 47, 647, 648, 649, 650, 651, 624, 625, 626, 627, 628, 629, 630, 652, 653, 654, 655, 656, 657] (by decide +kernel) (by decide +kernel)
set_option maxRecDepth 20000 in
theorem gL_law_X3_init : GoodIn wsL_law (wsX3_init) := ggL_law_X3_init
set_option maxRecDepth 20000 in
theorem ggL_law_X4_init : GoodIn wsL_law wsX4_init := goodIn_r _ [50, 51, 12, 13, 26, 52, 53, 54, 55, 56, 57, 6, 58, 59, 45, 60, 631, 632, 633, 634, 635, 636, 637, 638, 639, 640, 641, 642, 643, 644, 645, 646] (by decide +kernel) (by decide +kernel)
set_option maxRecDepth 20000 in
theorem gL_law_X4_init : GoodIn wsL_law (wsX4_init) := ggL_law_X4_init
set_option maxRecDepth 20000 in
theorem ggL_law_L_addChange : GoodIn wsL_law wsL_addChange := goodIn_ca (goodIn_ca (goodIn_r _ [64, 65, 66, 67, 68, 69, 2, 70, 71, 72, 17, 73, 74, 75, 76, 77, 78, 79, 80, 81, 82, 83, 84, 85, 86, 87, 88, 89, 16, 90, 91, 92, 93, 94, 95, 96, 97, 98, 99, 32, 33, 34, 624, 625, 626, 627, 628, 629, 630, 647, 648, 649, 650, 651] (by decide +kernel) (by decide +kernel)) (goodIn_sub (fun _ h => List.mem_append_left _ (List.mem_append_left _ (List.mem_append_right _ h))) (by decide +kernel))) (goodIn_sub (fun _ h => List.mem_append_left _ (List.mem_append_right _ h)) (by decide +kernel))
set_option maxRecDepth 20000 in
theorem gL_law_L_addChange : GoodIn wsL_law (va_wsS RL 87 yL_addChange wsL_addChange) := goodIn_app (goodIn_of _ (by decide +kernel)) ggL_law_L_addChange
set_option maxRecDepth 20000 in
theorem ggL_law_X4_addChange : GoodIn wsL_law wsX4_addChange := goodIn_r _ [103, 104, 105, 106, 5, 107, 108, 109, 110, 111, 112, 113, 114, 115, 116, 117, 118, 119, 52, 53, 54, 631, 632, 633, 634, 635, 636, 637, 638, 639, 640, 641, 642, 643, 644, 645, 646] (by decide +kernel) (by decide +kernel)
set_option maxRecDepth 20000 in
theorem gL_law_X4_addChange : GoodIn wsL_law (wsV RL 92 RX4 yX4_addChange wsX4_addChange) := goodIn_app (goodIn_of _ (by decide +kernel)) ggL_law_X4_addChange
set_option maxRecDepth 20000 in
theorem ggL_law_X4_thrown : GoodIn wsL_law wsX4_thrown := goodIn_r _ [123, 115, 631, 632, 633, 634, 635, 636, 637, 638, 639, 640, 641, 642, 643, 644, 645, 646] (by decide +kernel) (by decide +kernel)
set_option maxRecDepth 20000 in
theorem gL_law_X4_thrown : GoodIn wsL_law (wsV RL 93 RX4 yX4_thrown wsX4_thrown) := goodIn_app (goodIn_of _ (by decide +kernel)) ggL_law_X4_thrown
set_option maxRecDepth 20000 in
theorem ggL_law_L_edit : GoodIn wsL_law wsL_edit := goodIn_ca (goodIn_ca (goodIn_ca (goodIn_r _ [126, 65, 127, 66, 128, 129, 130, 2, 131, 71, 72, 17, 73, 74, 75, 76, 77, 78, 79, 80, 81, 82, 83, 84, 85, 86, 132, 133, 134, 135, 136, 137, 138, 139, 140, 16, 141, 91, 142, 143, 144, 145, 28, 146, 147, 148, 149, 150, 151, 97, 98, 99, 32, 33, 34, 152, 153, 154, 155, 156, 624, 625, 626, 627, 628, 629, 630, 647, 648, 649, 650, 651] (by decide +kernel) (by decide +kernel)) (goodIn_sub (fun _ h => List.mem_append_left _ (List.mem_append_left _ (List.mem_append_right _ h))) (by decide +kernel))) (goodIn_sub (fun _ h => List.mem_append_left _ (List.mem_append_right _ h)) (by decide +kernel))) (goodIn_sub (fun _ h => List.mem_append_right _ h) (by decide +kernel))
set_option maxRecDepth 20000 in
theorem gL_law_L_edit : GoodIn wsL_law (va_wsS RL 96 yL_edit wsL_edit) := goodIn_app (goodIn_of _ (by decide +kernel)) ggL_law_L_edit
set_option maxRecDepth 20000 in
theorem ggL_law_X4_edit : GoodIn wsL_law wsX4_edit := goodIn_r _ [160, 104, 105, 106, 5, 107, 108, 109, 110, 161, 162, 163, 164, 165, 166, 111, 112, 113, 114, 115, 116, 117, 118, 119, 52, 53, 54, 167, 168, 169, 170, 171, 631, 632, 633, 634, 635, 636, 637, 638, 639, 640, 641, 642, 643, 644, 645, 646] (by decide +kernel) (by decide +kernel)
set_option maxRecDepth 20000 in
theorem gL_law_X4_edit : GoodIn wsL_law (wsV RL 99 RX4 yX4_edit wsX4_edit) := goodIn_app (goodIn_of _ (by decide +kernel)) ggL_law_X4_edit
set_option maxRecDepth 20000 in
theorem ggL_law_X3_changes : GoodIn wsL_law wsX3_changes := goodIn_r _ [175, 17, 176, 177, 178, 16, 179, 91, 624, 625, 626, 627, 628, 629, 630, 647, 648, 649, 650, 651] (by decide +kernel) (by decide +kernel)
set_option maxRecDepth 20000 in
theorem gL_law_X3_changes : GoodIn wsL_law (wsV RL 100 RX3 yX3_changes wsX3_changes) := goodIn_app (goodIn_of _ (by decide +kernel)) ggL_law_X3_changes
set_option maxRecDepth 20000 in
theorem ggL_law_X4_changes : GoodIn wsL_law wsX4_changes := goodIn_r _ [183, 104, 184, 185, 186, 5, 187, 115, 631, 632, 633, 634, 635, 636, 637, 638, 639, 640, 641, 642, 643, 644, 645, 646] (by decide +kernel) (by decide +kernel)
set_option maxRecDepth 20000 in
theorem gL_law_X4_changes : GoodIn wsL_law (wsV RL 103 RX4 yX4_changes wsX4_changes) := goodIn_app (goodIn_of _ (by decide +kernel)) ggL_law_X4_changes
set_option maxRecDepth 20000 in
theorem ggL_law_L_checksum : GoodIn wsL_law wsL_checksum := goodIn_ca (goodIn_r _ [190, 127, 191, 192, 193, 2, 194, 17, 132, 133, 134, 135, 136, 137, 138, 139, 140, 16, 141, 91, 152, 153, 154, 155, 32, 33, 34, 156, 624, 625, 626, 627, 628, 629, 630, 647, 648, 649, 650, 651] (by decide +kernel) (by decide +kernel)) (goodIn_sub (fun _ h => List.mem_append_right _ h) (by decide +kernel))
set_option maxRecDepth 20000 in
theorem gL_law_L_checksum : GoodIn wsL_law (va_wsS RL 104 yL_checksum wsL_checksum) := goodIn_app (goodIn_of _ (by decide +kernel)) ggL_law_L_checksum
set_option maxRecDepth 20000 in
theorem ggL_law_X4_checksum : GoodIn wsL_law wsX4_checksum := goodIn_r _ [198, 104, 108, 109, 5, 110, 111, 112, 113, 114, 115, 167, 168, 169, 170, 52, 53, 54, 171, 631, 632, 633, 634, 635, 636, 637, 638, 639, 640, 641, 642, 643, 644, 645, 646] (by decide +kernel) (by decide +kernel)
set_option maxRecDepth 20000 in
theorem gL_law_X4_checksum : GoodIn wsL_law (wsV RL 107 RX4 yX4_checksum wsX4_checksum) := goodIn_app (goodIn_of _ (by decide +kernel)) ggL_law_X4_checksum
set_option maxRecDepth 20000 in
theorem ggL_law_L_state : GoodIn wsL_law wsL_state := goodIn_ca (goodIn_r _ [201, 127, 202, 203, 204, 2, 205, 150, 28, 132, 133, 134, 135, 136, 137, 17, 138, 139, 140, 16, 141, 91, 146, 147, 148, 149, 624, 625, 626, 627, 628, 629, 630, 647, 648, 649, 650, 651] (by decide +kernel) (by decide +kernel)) (goodIn_sub (fun _ h => List.mem_append_right _ h) (by decide +kernel))
set_option maxRecDepth 20000 in
theorem gL_law_L_state : GoodIn wsL_law (va_wsS RL 108 yL_state wsL_state) := goodIn_app (goodIn_of _ (by decide +kernel)) ggL_law_L_state
set_option maxRecDepth 20000 in
theorem ggL_law_X4_state : GoodIn wsL_law wsX4_state := goodIn_r _ [209, 104, 108, 109, 5, 110, 111, 112, 113, 114, 115, 161, 162, 163, 164, 165, 166, 631, 632, 633, 634, 635, 636, 637, 638, 639, 640, 641, 642, 643, 644, 645, 646] (by decide +kernel) (by decide +kernel)
set_option maxRecDepth 20000 in
theorem gL_law_X4_state : GoodIn wsL_law (wsV RL 110 RX4 yX4_state wsX4_state) := goodIn_app (goodIn_of _ (by decide +kernel)) ggL_law_X4_state
set_option maxRecDepth 20000 in
theorem ggL_law_X3_level : GoodIn wsL_law wsX3_level := goodIn_r _ [213, 150, 624, 625, 626, 627, 628, 629, 630] (by decide +kernel) (by decide +kernel)
set_option maxRecDepth 20000 in
theorem gL_law_X3_level : GoodIn wsL_law (wsV RL 111 RX3 yX3_level wsX3_level) := goodIn_app (goodIn_of _ (by decide +kernel)) ggL_law_X3_level
set_option maxRecDepth 20000 in
theorem ggL_law_X4_level : GoodIn wsL_law wsX4_level := goodIn_r _ [217, 165, 184, 185, 186, 5, 187, 115, 631, 632, 633, 634, 635, 636, 637, 638, 639, 640, 641, 642, 643, 644, 645, 646] (by decide +kernel) (by decide +kernel)
set_option maxRecDepth 20000 in
theorem gL_law_X4_level : GoodIn wsL_law (wsV RL 114 RX4 yX4_level wsX4_level) := goodIn_app (goodIn_of _ (by decide +kernel)) ggL_law_X4_level
set_option maxRecDepth 20000 in
theorem ggL_law_X3_drifted : GoodIn wsL_law wsX3_drifted := goodIn_r _ [221, 17, 150, 222, 223, 224, 16, 225, 226, 227, 228, 229, 35, 230, 153, 154, 155, 32, 33, 34, 156, 624, 625, 626, 627, 628, 629, 630, 647, 648, 649, 650, 651] (by decide +kernel) (by decide +kernel)
set_option maxRecDepth 20000 in
theorem gL_law_X3_drifted : GoodIn wsL_law (wsV RL 115 RX3 yX3_drifted wsX3_drifted) := goodIn_app (goodIn_of _ (by decide +kernel)) ggL_law_X3_drifted
set_option maxRecDepth 20000 in
theorem ggL_law_X4_drifted : GoodIn wsL_law wsX4_drifted := goodIn_r _ [234, 235, 236, 237, 5, 238, 165, 55, 167, 168, 169, 170, 52, 53, 54, 171, 184, 185, 186, 187, 115, 631, 632, 633, 634, 635, 636, 637, 638, 639, 640, 641, 642, 643, 644, 645, 646] (by decide +kernel) (by decide +kernel)
set_option maxRecDepth 20000 in
theorem gL_law_X4_drifted : GoodIn wsL_law (wsV RL 118 RX4 yX4_drifted wsX4_drifted) := goodIn_app (goodIn_of _ (by decide +kernel)) ggL_law_X4_drifted
set_option maxRecDepth 20000 in
theorem ggL_law_L_insert : GoodIn wsL_law wsL_insert := goodIn_ca (goodIn_ca (goodIn_r _ [241, 65, 66, 242, 243, 244, 2, 245, 71, 72, 21, 246, 247, 248, 76, 77, 249, 250, 251, 252, 253, 254, 255, 256, 257, 258, 259, 20, 260, 41, 261, 262, 263, 264, 265, 150, 142, 143, 144, 145, 28, 146, 147, 148, 149, 266, 267, 268, 269, 40, 270, 271, 272, 273, 624, 625, 626, 627, 628, 629, 630, 652, 653] (by decide +kernel) (by decide +kernel)) (goodIn_sub (fun _ h => List.mem_append_left _ (List.mem_append_left _ (List.mem_append_right _ h))) (by decide +kernel))) (goodIn_sub (fun _ h => List.mem_append_left _ (List.mem_append_right _ h)) (by decide +kernel))
set_option maxRecDepth 20000 in
theorem gL_law_L_insert : GoodIn wsL_law (va_wsS RL 119 yL_insert wsL_insert) := goodIn_app (goodIn_of _ (by decide +kernel)) ggL_law_L_insert
set_option maxRecDepth 20000 in
theorem ggL_law_X4_insert : GoodIn wsL_law wsX4_insert := goodIn_r _ [277, 56, 166, 278, 165, 57, 279, 280, 5, 281, 108, 109, 110, 282, 283, 284, 285, 286, 111, 112, 113, 114, 115, 631, 632, 633, 634, 635, 636, 637, 638, 639, 640, 641, 642, 643, 644, 645, 646] (by decide +kernel) (by decide +kernel)
set_option maxRecDepth 20000 in
theorem gL_law_X4_insert : GoodIn wsL_law (wsV RL 121 RX4 yX4_insert wsX4_insert) := goodIn_app (goodIn_of _ (by decide +kernel)) ggL_law_X4_insert
set_option maxRecDepth 20000 in
theorem ggL_law_L_write : GoodIn wsL_law wsL_write := goodIn_ca (goodIn_ca (goodIn_r _ [289, 65, 127, 290, 291, 292, 2, 293, 21, 246, 247, 248, 76, 77, 78, 79, 80, 81, 82, 83, 249, 250, 251, 252, 253, 254, 255, 256, 294, 295, 296, 297, 136, 137, 257, 258, 259, 20, 260, 41, 298, 299, 300, 301, 40, 266, 267, 268, 269, 624, 625, 626, 627, 628, 629, 630, 652, 653] (by decide +kernel) (by decide +kernel)) (goodIn_sub (fun _ h => List.mem_append_left _ (List.mem_append_right _ h)) (by decide +kernel))) (goodIn_sub (fun _ h => List.mem_append_right _ h) (by decide +kernel))
set_option maxRecDepth 20000 in
theorem gL_law_L_write : GoodIn wsL_law (va_wsS RL 122 yL_write wsL_write) := goodIn_app (goodIn_of _ (by decide +kernel)) ggL_law_L_write
set_option maxRecDepth 20000 in
theorem ggL_law_X4_write : GoodIn wsL_law wsX4_write := goodIn_r _ [305, 57, 108, 109, 5, 110, 282, 283, 284, 285, 286, 306, 307, 308, 309, 56, 279, 280, 281, 111, 112, 113, 114, 115, 631, 632, 633, 634, 635, 636, 637, 638, 639, 640, 641, 642, 643, 644, 645, 646] (by decide +kernel) (by decide +kernel)
set_option maxRecDepth 20000 in
theorem gL_law_X4_write : GoodIn wsL_law (wsV RL 124 RX4 yX4_write wsX4_write) := goodIn_app (goodIn_of _ (by decide +kernel)) ggL_law_X4_write
set_option maxRecDepth 20000 in
theorem ggL_law_L_delete : GoodIn wsL_law wsL_delete := goodIn_ca (goodIn_ca (goodIn_r _ [312, 65, 127, 313, 314, 315, 2, 316, 21, 246, 247, 248, 76, 77, 294, 295, 296, 297, 136, 137, 257, 258, 259, 20, 260, 41, 317, 318, 319, 320, 270, 271, 272, 273, 624, 625, 626, 627, 628, 629, 630, 652, 653] (by decide +kernel) (by decide +kernel)) (goodIn_sub (fun _ h => List.mem_append_left _ (List.mem_append_right _ h)) (by decide +kernel))) (goodIn_sub (fun _ h => List.mem_append_right _ h) (by decide +kernel))
set_option maxRecDepth 20000 in
theorem gL_law_L_delete : GoodIn wsL_law (va_wsS RL 125 yL_delete wsL_delete) := goodIn_app (goodIn_of _ (by decide +kernel)) ggL_law_L_delete
set_option maxRecDepth 20000 in
theorem ggL_law_X4_delete : GoodIn wsL_law wsX4_delete := goodIn_r _ [324, 56, 306, 307, 308, 5, 309, 279, 280, 281, 108, 109, 110, 111, 112, 113, 114, 115, 631, 632, 633, 634, 635, 636, 637, 638, 639, 640, 641, 642, 643, 644, 645, 646] (by decide +kernel) (by decide +kernel)
set_option maxRecDepth 20000 in
theorem gL_law_X4_delete : GoodIn wsL_law (wsV RL 127 RX4 yX4_delete wsX4_delete) := goodIn_app (goodIn_of _ (by decide +kernel)) ggL_law_X4_delete
set_option maxRecDepth 20000 in
theorem ggL_law_L_value : GoodIn wsL_law wsL_value := goodIn_ca (goodIn_ca (goodIn_r _ [327, 65, 127, 328, 329, 330, 2, 331, 21, 246, 247, 248, 76, 77, 78, 79, 80, 81, 82, 83, 294, 295, 296, 297, 136, 137, 257, 258, 259, 20, 260, 41, 298, 299, 300, 301, 40, 624, 625, 626, 627, 628, 629, 630, 652, 653] (by decide +kernel) (by decide +kernel)) (goodIn_sub (fun _ h => List.mem_append_left _ (List.mem_append_right _ h)) (by decide +kernel))) (goodIn_sub (fun _ h => List.mem_append_right _ h) (by decide +kernel))
set_option maxRecDepth 20000 in
theorem gL_law_L_value : GoodIn wsL_law (va_wsS RL 128 yL_value wsL_value) := goodIn_app (goodIn_of _ (by decide +kernel)) ggL_law_L_value
set_option maxRecDepth 20000 in
theorem ggL_law_X4_value : GoodIn wsL_law wsX4_value := goodIn_r _ [335, 57, 108, 109, 5, 110, 306, 307, 308, 309, 56, 279, 280, 281, 111, 112, 113, 114, 115, 631, 632, 633, 634, 635, 636, 637, 638, 639, 640, 641, 642, 643, 644, 645, 646] (by decide +kernel) (by decide +kernel)
set_option maxRecDepth 20000 in
theorem gL_law_X4_value : GoodIn wsL_law (wsV RL 131 RX4 yX4_value wsX4_value) := goodIn_app (goodIn_of _ (by decide +kernel)) ggL_law_X4_value
set_option maxRecDepth 20000 in
theorem ggL_law_L_version : GoodIn wsL_law wsL_version := goodIn_ca (goodIn_r _ [338, 65, 339, 340, 341, 2, 342, 21, 246, 247, 248, 76, 77, 317, 318, 319, 20, 320, 41, 624, 625, 626, 627, 628, 629, 630, 652, 653] (by decide +kernel) (by decide +kernel)) (goodIn_sub (fun _ h => List.mem_append_left _ (List.mem_append_right _ h)) (by decide +kernel))
set_option maxRecDepth 20000 in
theorem gL_law_L_version : GoodIn wsL_law (va_wsS RL 132 yL_version wsL_version) := goodIn_app (goodIn_of _ (by decide +kernel)) ggL_law_L_version
set_option maxRecDepth 20000 in
theorem ggL_law_X4_version : GoodIn wsL_law wsX4_version := goodIn_r _ [346, 56, 279, 280, 5, 281, 108, 109, 110, 111, 112, 113, 114, 115, 631, 632, 633, 634, 635, 636, 637, 638, 639, 640, 641, 642, 643, 644, 645, 646] (by decide +kernel) (by decide +kernel)
set_option maxRecDepth 20000 in
theorem gL_law_X4_version : GoodIn wsL_law (wsV RL 134 RX4 yX4_version wsX4_version) := goodIn_app (goodIn_of _ (by decide +kernel)) ggL_law_X4_version
set_option maxRecDepth 20000 in
theorem ggL_law_L_rowsAt : GoodIn wsL_law wsL_rowsAt := goodIn_ca (goodIn_r _ [349, 65, 350, 351, 352, 2, 353, 76, 77, 21, 354, 355, 356, 20, 357, 41, 624, 625, 626, 627, 628, 629, 630, 652, 653] (by decide +kernel) (by decide +kernel)) (goodIn_sub (fun _ h => List.mem_append_left _ (List.mem_append_right _ h)) (by decide +kernel))
set_option maxRecDepth 20000 in
theorem gL_law_L_rowsAt : GoodIn wsL_law (va_wsS RL 135 yL_rowsAt wsL_rowsAt) := goodIn_app (goodIn_of _ (by decide +kernel)) ggL_law_L_rowsAt
set_option maxRecDepth 20000 in
theorem ggL_law_X4_rowsAt : GoodIn wsL_law wsX4_rowsAt := goodIn_r _ [361, 56, 108, 109, 5, 110, 111, 112, 113, 114, 115, 631, 632, 633, 634, 635, 636, 637, 638, 639, 640, 641, 642, 643, 644, 645, 646] (by decide +kernel) (by decide +kernel)
set_option maxRecDepth 20000 in
theorem gL_law_X4_rowsAt : GoodIn wsL_law (wsV RL 137 RX4 yX4_rowsAt wsX4_rowsAt) := goodIn_app (goodIn_of _ (by decide +kernel)) ggL_law_X4_rowsAt
set_option maxRecDepth 20000 in
theorem ggL_law_L_valueAt : GoodIn wsL_law wsL_valueAt := goodIn_ca (goodIn_ca (goodIn_ca (goodIn_r _ [364, 65, 127, 66, 365, 366, 367, 2, 368, 76, 77, 71, 72, 17, 21, 27, 246, 247, 248, 78, 79, 80, 81, 82, 83, 176, 177, 178, 16, 179, 91, 294, 295, 296, 297, 136, 137, 257, 258, 259, 20, 260, 41, 369, 370, 371, 372, 373, 299, 300, 301, 40, 317, 318, 319, 320, 374, 375, 376, 377, 378, 379, 380, 381, 33, 34, 32, 382, 383, 384, 253, 254, 255, 256, 385, 386, 387, 388, 389, 390, 391, 624, 625, 626, 627, 628, 629, 630, 647, 648, 649, 650, 651, 652, 653] (by decide +kernel) (by decide +kernel)) (goodIn_sub (fun _ h => List.mem_append_left _ (List.mem_append_right _ h)) (by decide +kernel))) (goodIn_sub (fun _ h => List.mem_append_left _ (List.mem_append_left _ (List.mem_append_right _ h))) (by decide +kernel))) (goodIn_sub (fun _ h => List.mem_append_right _ h) (by decide +kernel))
set_option maxRecDepth 20000 in
theorem gL_law_L_valueAt : GoodIn wsL_law (va_wsS RL 138 yL_valueAt wsL_valueAt) := goodIn_app (goodIn_of _ (by decide +kernel)) ggL_law_L_valueAt
set_option maxRecDepth 20000 in
theorem ggL_law_X4_valueAt : GoodIn wsL_law wsX4_valueAt := goodIn_r _ [395, 104, 56, 58, 108, 109, 5, 110, 306, 307, 308, 309, 279, 280, 281, 111, 112, 113, 114, 115, 396, 397, 398, 399, 57, 400, 401, 402, 403, 53, 54, 52, 282, 283, 284, 285, 286, 631, 632, 633, 634, 635, 636, 637, 638, 639, 640, 641, 642, 643, 644, 645, 646] (by decide +kernel) (by decide +kernel)
set_option maxRecDepth 20000 in
theorem gL_law_X4_valueAt : GoodIn wsL_law (wsV RL 140 RX4 yX4_valueAt wsX4_valueAt) := goodIn_app (goodIn_of _ (by decide +kernel)) ggL_law_X4_valueAt
set_option maxRecDepth 20000 in
theorem ggL_law_L_take : GoodIn wsL_law wsL_take := goodIn_ca (goodIn_ca (goodIn_r _ [406, 65, 66, 407, 408, 409, 2, 410, 76, 77, 71, 72, 25, 411, 412, 413, 414, 415, 416, 417, 418, 419, 420, 24, 421, 46, 422, 423, 424, 425, 426, 427, 47, 428, 429, 430, 431, 624, 625, 626, 627, 628, 629, 630, 654, 655, 656, 657] (by decide +kernel) (by decide +kernel)) (goodIn_sub (fun _ h => List.mem_append_left _ (List.mem_append_right _ h)) (by decide +kernel))) (goodIn_sub (fun _ h => List.mem_append_left _ (List.mem_append_left _ (List.mem_append_right _ h))) (by decide +kernel))
set_option maxRecDepth 20000 in
theorem gL_law_L_take : GoodIn wsL_law (va_wsS RL 141 yL_take wsL_take) := goodIn_app (goodIn_of _ (by decide +kernel)) ggL_law_L_take
set_option maxRecDepth 20000 in
theorem ggL_law_X4_take : GoodIn wsL_law wsX4_take := goodIn_r _ [435, 60, 59, 436, 437, 438, 439, 5, 440, 108, 109, 110, 441, 442, 443, 444, 111, 112, 113, 114, 115, 631, 632, 633, 634, 635, 636, 637, 638, 639, 640, 641, 642, 643, 644, 645, 646] (by decide +kernel) (by decide +kernel)
set_option maxRecDepth 20000 in
theorem gL_law_X4_take : GoodIn wsL_law (wsV RL 143 RX4 yX4_take wsX4_take) := goodIn_app (goodIn_of _ (by decide +kernel)) ggL_law_X4_take
set_option maxRecDepth 20000 in
theorem ggL_law_L_giveBack : GoodIn wsL_law wsL_giveBack := goodIn_ca (goodIn_ca (goodIn_r _ [447, 65, 66, 448, 449, 450, 2, 451, 25, 411, 412, 413, 76, 77, 452, 453, 454, 455, 71, 72, 414, 415, 416, 417, 418, 419, 420, 24, 421, 46, 422, 423, 424, 425, 426, 427, 47, 456, 457, 458, 459, 624, 625, 626, 627, 628, 629, 630, 654, 655, 656, 657] (by decide +kernel) (by decide +kernel)) (goodIn_sub (fun _ h => List.mem_append_left _ (List.mem_append_right _ h)) (by decide +kernel))) (goodIn_sub (fun _ h => List.mem_append_left _ (List.mem_append_left _ (List.mem_append_right _ h))) (by decide +kernel))
set_option maxRecDepth 20000 in
theorem gL_law_L_giveBack : GoodIn wsL_law (va_wsS RL 144 yL_giveBack wsL_giveBack) := goodIn_app (goodIn_of _ (by decide +kernel)) ggL_law_L_giveBack
set_option maxRecDepth 20000 in
theorem ggL_law_X4_giveBack : GoodIn wsL_law wsX4_giveBack := goodIn_r _ [463, 59, 438, 439, 5, 440, 108, 109, 110, 464, 465, 466, 467, 60, 468, 469, 470, 471, 441, 442, 443, 444, 436, 437, 111, 112, 113, 114, 115, 631, 632, 633, 634, 635, 636, 637, 638, 639, 640, 641, 642, 643, 644, 645, 646] (by decide +kernel) (by decide +kernel)
set_option maxRecDepth 20000 in
theorem gL_law_X4_giveBack : GoodIn wsL_law (wsV RL 147 RX4 yX4_giveBack wsX4_giveBack) := goodIn_app (goodIn_of _ (by decide +kernel)) ggL_law_X4_giveBack
set_option maxRecDepth 20000 in
theorem ggL_law_X3_holder : GoodIn wsL_law wsX3_holder := goodIn_r _ [475, 25, 422, 423, 424, 24, 425, 426, 427, 47, 624, 625, 626, 627, 628, 629, 630, 654, 655, 656, 657] (by decide +kernel) (by decide +kernel)
set_option maxRecDepth 20000 in
theorem gL_law_X3_holder : GoodIn wsL_law (wsV RL 148 RX3 yX3_holder wsX3_holder) := goodIn_app (goodIn_of _ (by decide +kernel)) ggL_law_X3_holder
set_option maxRecDepth 20000 in
theorem ggL_law_X4_holder : GoodIn wsL_law wsX4_holder := goodIn_r _ [479, 59, 441, 442, 443, 5, 444, 436, 437, 184, 185, 186, 187, 115, 631, 632, 633, 634, 635, 636, 637, 638, 639, 640, 641, 642, 643, 644, 645, 646] (by decide +kernel) (by decide +kernel)
set_option maxRecDepth 20000 in
theorem gL_law_X4_holder : GoodIn wsL_law (wsV RL 151 RX4 yX4_holder wsX4_holder) := goodIn_app (goodIn_of _ (by decide +kernel)) ggL_law_X4_holder
set_option maxRecDepth 20000 in
theorem ggL_law_L_restart : GoodIn wsL_law wsL_restart := goodIn_ca (goodIn_ca (goodIn_r _ [482, 65, 66, 483, 484, 485, 2, 486, 71, 72, 25, 411, 412, 413, 76, 77, 418, 419, 420, 24, 421, 46, 487, 488, 489, 490, 422, 423, 424, 425, 426, 427, 47, 624, 625, 626, 627, 628, 629, 630, 654, 655, 656, 657] (by decide +kernel) (by decide +kernel)) (goodIn_sub (fun _ h => List.mem_append_left _ (List.mem_append_left _ (List.mem_append_right _ h))) (by decide +kernel))) (goodIn_sub (fun _ h => List.mem_append_left _ (List.mem_append_right _ h)) (by decide +kernel))
set_option maxRecDepth 20000 in
theorem gL_law_L_restart : GoodIn wsL_law (va_wsS RL 152 yL_restart wsL_restart) := goodIn_app (goodIn_of _ (by decide +kernel)) ggL_law_L_restart
set_option maxRecDepth 20000 in
theorem ggL_law_X4_restart : GoodIn wsL_law wsX4_restart := goodIn_r _ [494, 60, 438, 439, 5, 440, 108, 109, 110, 111, 112, 113, 114, 115, 468, 469, 470, 471, 59, 441, 442, 443, 444, 436, 437, 631, 632, 633, 634, 635, 636, 637, 638, 639, 640, 641, 642, 643, 644, 645, 646] (by decide +kernel) (by decide +kernel)
set_option maxRecDepth 20000 in
theorem gL_law_X4_restart : GoodIn wsL_law (wsV RL 154 RX4 yX4_restart wsX4_restart) := goodIn_app (goodIn_of _ (by decide +kernel)) ggL_law_X4_restart
set_option maxRecDepth 20000 in
theorem ggL_law_L_pass : GoodIn wsL_law wsL_pass := goodIn_ca (goodIn_r _ [497, 65, 498, 499, 500, 2, 501, 76, 77, 25, 502, 503, 504, 24, 505, 426, 624, 625, 626, 627, 628, 629, 630, 654, 655, 656, 657] (by decide +kernel) (by decide +kernel)) (goodIn_sub (fun _ h => List.mem_append_left _ (List.mem_append_right _ h)) (by decide +kernel))
set_option maxRecDepth 20000 in
theorem gL_law_L_pass : GoodIn wsL_law (va_wsS RL 155 yL_pass wsL_pass) := goodIn_app (goodIn_of _ (by decide +kernel)) ggL_law_L_pass
set_option maxRecDepth 20000 in
theorem ggL_law_X4_pass : GoodIn wsL_law wsX4_pass := goodIn_r _ [509, 436, 108, 109, 5, 110, 111, 112, 113, 114, 115, 631, 632, 633, 634, 635, 636, 637, 638, 639, 640, 641, 642, 643, 644, 645, 646] (by decide +kernel) (by decide +kernel)
set_option maxRecDepth 20000 in
theorem gL_law_X4_pass : GoodIn wsL_law (wsV RL 157 RX4 yX4_pass wsX4_pass) := goodIn_app (goodIn_of _ (by decide +kernel)) ggL_law_X4_pass
set_option maxRecDepth 20000 in
theorem ggL_law_L_begin : GoodIn wsL_law wsL_begin := goodIn_ca (goodIn_ca (goodIn_r _ [512, 65, 66, 513, 514, 515, 2, 516, 71, 72, 17, 150, 28, 265, 411, 412, 413, 76, 77, 452, 453, 454, 455, 25, 414, 415, 416, 417, 418, 419, 420, 24, 421, 46, 422, 423, 424, 425, 426, 427, 47, 142, 143, 144, 145, 222, 223, 224, 16, 225, 226, 227, 228, 229, 35, 230, 153, 154, 155, 32, 33, 34, 156, 176, 177, 178, 179, 91, 146, 147, 148, 149, 517, 518, 519, 520, 624, 625, 626, 627, 628, 629, 630, 654, 655, 656, 657, 647, 648, 649, 650, 651] (by decide +kernel) (by decide +kernel)) (goodIn_sub (fun _ h => List.mem_append_left _ (List.mem_append_left _ (List.mem_append_right _ h))) (by decide +kernel))) (goodIn_sub (fun _ h => List.mem_append_left _ (List.mem_append_right _ h)) (by decide +kernel))
set_option maxRecDepth 20000 in
theorem gL_law_L_begin : GoodIn wsL_law (va_wsS RL 158 yL_begin wsL_begin) := goodIn_app (goodIn_of _ (by decide +kernel)) ggL_law_L_begin
set_option maxRecDepth 20000 in
theorem ggL_law_X4_begin : GoodIn wsL_law wsX4_begin := goodIn_r _ [524, 166, 165, 104, 278, 55, 438, 439, 5, 440, 108, 109, 110, 464, 465, 466, 467, 60, 468, 469, 470, 471, 59, 441, 442, 443, 444, 436, 437, 235, 236, 237, 238, 167, 168, 169, 170, 52, 53, 54, 171, 111, 112, 113, 114, 115, 631, 632, 633, 634, 635, 636, 637, 638, 639, 640, 641, 642, 643, 644, 645, 646] (by decide +kernel) (by decide +kernel)
set_option maxRecDepth 20000 in
theorem gL_law_X4_begin : GoodIn wsL_law (wsV RL 160 RX4 yX4_begin wsX4_begin) := goodIn_app (goodIn_of _ (by decide +kernel)) ggL_law_X4_begin
set_option maxRecDepth 20000 in
theorem ggL_law_L_undo : GoodIn wsL_law wsL_undo := goodIn_ca (goodIn_ca (goodIn_r _ [527, 65, 66, 528, 529, 530, 2, 531, 71, 72, 28, 150, 265, 411, 412, 413, 76, 77, 452, 453, 454, 455, 25, 414, 415, 416, 417, 418, 419, 420, 24, 421, 46, 422, 423, 424, 425, 426, 427, 47, 532, 533, 534, 535, 17, 536, 227, 228, 16, 229, 35, 230, 153, 154, 155, 32, 33, 34, 156, 146, 147, 148, 149, 624, 625, 626, 627, 628, 629, 630, 654, 655, 656, 657, 647, 648, 649, 650, 651] (by decide +kernel) (by decide +kernel)) (goodIn_sub (fun _ h => List.mem_append_left _ (List.mem_append_left _ (List.mem_append_right _ h))) (by decide +kernel))) (goodIn_sub (fun _ h => List.mem_append_left _ (List.mem_append_right _ h)) (by decide +kernel))
set_option maxRecDepth 20000 in
theorem gL_law_L_undo : GoodIn wsL_law (va_wsS RL 161 yL_undo wsL_undo) := goodIn_app (goodIn_of _ (by decide +kernel)) ggL_law_L_undo
set_option maxRecDepth 20000 in
theorem ggL_law_X4_undo : GoodIn wsL_law wsX4_undo := goodIn_r _ [540, 166, 165, 55, 278, 167, 168, 169, 5, 170, 52, 53, 54, 171, 438, 439, 440, 108, 109, 110, 464, 465, 466, 467, 60, 468, 469, 470, 471, 59, 441, 442, 443, 444, 436, 437, 111, 112, 113, 114, 115, 631, 632, 633, 634, 635, 636, 637, 638, 639, 640, 641, 642, 643, 644, 645, 646] (by decide +kernel) (by decide +kernel)
set_option maxRecDepth 20000 in
theorem gL_law_X4_undo : GoodIn wsL_law (wsV RL 163 RX4 yX4_undo wsX4_undo) := goodIn_app (goodIn_of _ (by decide +kernel)) ggL_law_X4_undo
set_option maxRecDepth 20000 in
theorem ggL_law_L_step : GoodIn wsL_law wsL_step := goodIn_ca (goodIn_ca (goodIn_r _ [543, 65, 66, 544, 545, 546, 2, 547, 76, 77, 548, 549, 550, 551, 411, 412, 413, 452, 453, 454, 455, 71, 72, 25, 414, 415, 416, 417, 418, 419, 420, 24, 421, 46, 422, 423, 424, 425, 426, 427, 47, 552, 553, 554, 555, 142, 143, 144, 145, 28, 556, 557, 558, 559, 265, 560, 561, 562, 563, 564, 565, 566, 567, 568, 569, 570, 571, 21, 257, 258, 259, 20, 260, 41, 317, 318, 319, 320, 146, 147, 148, 149, 150, 572, 573, 574, 575, 27, 369, 370, 371, 372, 373, 299, 300, 301, 40, 374, 375, 376, 377, 17, 378, 379, 380, 16, 381, 33, 34, 32, 382, 383, 384, 253, 254, 255, 256, 385, 386, 387, 388, 389, 390, 391, 576, 577, 578, 579, 580, 267, 268, 269, 270, 271, 272, 273, 581, 582, 583, 584, 487, 488, 489, 490, 585, 586, 587, 588, 624, 625, 626, 627, 628, 629, 630, 654, 655, 656, 657, 652, 653, 647, 648, 649, 650, 651] (by decide +kernel) (by decide +kernel)) (goodIn_sub (fun _ h => List.mem_append_left _ (List.mem_append_right _ h)) (by decide +kernel))) (goodIn_sub (fun _ h => List.mem_append_left _ (List.mem_append_left _ (List.mem_append_right _ h))) (by decide +kernel))
set_option maxRecDepth 20000 in
theorem gL_law_L_step : GoodIn wsL_law (va_wsS RL 164 yL_step wsL_step) := goodIn_app (goodIn_of _ (by decide +kernel)) ggL_law_L_step
set_option maxRecDepth 20000 in
theorem ggL_law_X4_step : GoodIn wsL_law wsX4_step := goodIn_r _ [592, 166, 165, 278, 56, 57, 58, 60, 438, 439, 5, 440, 108, 109, 110, 464, 465, 466, 467, 468, 469, 470, 471, 59, 441, 442, 443, 444, 436, 437, 111, 112, 113, 114, 115, 396, 397, 398, 399, 400, 401, 402, 403, 53, 54, 52, 282, 283, 284, 285, 286, 631, 632, 633, 634, 635, 636, 637, 638, 639, 640, 641, 642, 643, 644, 645, 646] (by decide +kernel) (by decide +kernel)
set_option maxRecDepth 20000 in
theorem gL_law_X4_step : GoodIn wsL_law (wsV RL 166 RX4 yX4_step wsX4_step) := goodIn_app (goodIn_of _ (by decide +kernel)) ggL_law_X4_step
set_option maxRecDepth 20000 in
theorem ggL_law_L_cursor : GoodIn wsL_law wsL_cursor := goodIn_ca (goodIn_r _ [595, 66, 596, 597, 598, 2, 599, 265, 552, 553, 554, 555, 71, 72, 142, 143, 144, 145, 28, 624, 625, 626, 627, 628, 629, 630] (by decide +kernel) (by decide +kernel)) (goodIn_sub (fun _ h => List.mem_append_left _ (List.mem_append_left _ (List.mem_append_right _ h))) (by decide +kernel))
set_option maxRecDepth 20000 in
theorem gL_law_L_cursor : GoodIn wsL_law (va_wsS RL 167 yL_cursor wsL_cursor) := goodIn_app (goodIn_of _ (by decide +kernel)) ggL_law_L_cursor
set_option maxRecDepth 20000 in
theorem ggL_law_X4_cursor : GoodIn wsL_law wsX4_cursor := goodIn_r _ [603, 166, 278, 111, 112, 113, 5, 114, 115, 631, 632, 633, 634, 635, 636, 637, 638, 639, 640, 641, 642, 643, 644, 645, 646] (by decide +kernel) (by decide +kernel)
set_option maxRecDepth 20000 in
theorem gL_law_X4_cursor : GoodIn wsL_law (wsV RL 170 RX4 yX4_cursor wsX4_cursor) := goodIn_app (goodIn_of _ (by decide +kernel)) ggL_law_X4_cursor
set_option maxRecDepth 20000 in
theorem ggL_law_L_share : GoodIn wsL_law wsL_share := goodIn_ca (goodIn_r _ [606, 66, 607, 608, 609, 2, 610, 71, 72, 21, 552, 553, 554, 555, 142, 143, 144, 145, 28, 611, 612, 613, 20, 614, 615, 616, 617, 618, 41, 146, 147, 148, 149, 150, 619, 624, 625, 626, 627, 628, 629, 630, 652, 653] (by decide +kernel) (by decide +kernel)) (goodIn_sub (fun _ h => List.mem_append_left _ (List.mem_append_left _ (List.mem_append_right _ h))) (by decide +kernel))
set_option maxRecDepth 20000 in
theorem gL_law_L_share : GoodIn wsL_law (va_wsS RL 171 yL_share wsL_share) := goodIn_app (goodIn_of _ (by decide +kernel)) ggL_law_L_share
set_option maxRecDepth 20000 in
theorem ggL_law_X4_share : GoodIn wsL_law wsX4_share := goodIn_r _ [623, 56, 165, 166, 111, 112, 113, 5, 114, 115, 631, 632, 633, 634, 635, 636, 637, 638, 639, 640, 641, 642, 643, 644, 645, 646] (by decide +kernel) (by decide +kernel)
set_option maxRecDepth 20000 in
theorem gL_law_X4_share : GoodIn wsL_law (wsV RL 174 RX4 yX4_share wsX4_share) := goodIn_app (goodIn_of _ (by decide +kernel)) ggL_law_X4_share
theorem dL_law_0 : decode cL_law 0 = .ok (.new 8, 3) := by decide +kernel
theorem dL_law_3 : decode cL_law 3 = .ok (.dup, 1) := by decide +kernel
theorem dL_law_4 : decode cL_law 4 = .ok (.invokespecial 83, 3) := by decide +kernel
theorem dL_law_7 : decode cL_law 7 = .ok (.astore_n 1, 1) := by decide +kernel
theorem dL_law_8 : decode cL_law 8 = .ok (.new 84, 3) := by decide +kernel
theorem dL_law_11 : decode cL_law 11 = .ok (.dup, 1) := by decide +kernel
theorem dL_law_12 : decode cL_law 12 = .ok (.invokespecial 86, 3) := by decide +kernel
theorem dL_law_15 : decode cL_law 15 = .ok (.astore_n 2, 1) := by decide +kernel
theorem dL_law_16 : decode cL_law 16 = .ok (.iconst 1, 1) := by decide +kernel
theorem dL_law_17 : decode cL_law 17 = .ok (.newarray .long, 2) := by decide +kernel
theorem dL_law_19 : decode cL_law 19 = .ok (.astore_n 3, 1) := by decide +kernel
theorem dL_law_20 : decode cL_law 20 = .ok (.iconst 1, 1) := by decide +kernel
theorem dL_law_21 : decode cL_law 21 = .ok (.newarray .double, 2) := by decide +kernel
theorem dL_law_23 : decode cL_law 23 = .ok (.astore 4, 2) := by decide +kernel
theorem dL_law_25 : decode cL_law 25 = .ok (.iconst 0, 1) := by decide +kernel
theorem dL_law_26 : decode cL_law 26 = .ok (.istore 5, 2) := by decide +kernel
theorem dL_law_28 : decode cL_law 28 = .ok (.iload 5, 2) := by decide +kernel
theorem dL_law_30 : decode cL_law 30 = .ok (.aload_n 0, 1) := by decide +kernel
theorem dL_law_31 : decode cL_law 31 = .ok (.arraylength, 1) := by decide +kernel
theorem dL_law_32 : decode cL_law 32 = .ok (.iconst 5, 1) := by decide +kernel
theorem dL_law_33 : decode cL_law 33 = .ok (.isub, 1) := by decide +kernel
theorem dL_law_34 : decode cL_law 34 = .ok (.if_icmp .gt 1477, 3) := by decide +kernel
theorem dL_law_37 : decode cL_law 37 = .ok (.aload_n 0, 1) := by decide +kernel
theorem dL_law_38 : decode cL_law 38 = .ok (.iload 5, 2) := by decide +kernel
theorem dL_law_40 : decode cL_law 40 = .ok (.iaload, 1) := by decide +kernel
theorem dL_law_41 : decode cL_law 41 = .ok (.bipush 31, 2) := by decide +kernel
theorem dL_law_43 : decode cL_law 43 = .ok (.iand, 1) := by decide +kernel
theorem dL_law_44 : decode cL_law 44 = .ok (.tableswitch 1461 0 23 #[112, 192, 284, 297, 353, 409, 422, 435, 527, 607, 663, 731, 787, 843, 923, 991, 1027, 1040, 1103, 1159, 1215, 1271, 1351, 1395], 112) := by decide +kernel
theorem dL_law_156 : decode cL_law 156 = .ok (.aload_n 1, 1) := by decide +kernel
theorem dL_law_157 : decode cL_law 157 = .ok (.aload_n 0, 1) := by decide +kernel
theorem dL_law_158 : decode cL_law 158 = .ok (.iload 5, 2) := by decide +kernel
theorem dL_law_160 : decode cL_law 160 = .ok (.iconst 1, 1) := by decide +kernel
theorem dL_law_161 : decode cL_law 161 = .ok (.iadd, 1) := by decide +kernel
theorem dL_law_162 : decode cL_law 162 = .ok (.iaload, 1) := by decide +kernel
theorem dL_law_163 : decode cL_law 163 = .ok (.aload_n 0, 1) := by decide +kernel
theorem dL_law_164 : decode cL_law 164 = .ok (.iload 5, 2) := by decide +kernel
theorem dL_law_166 : decode cL_law 166 = .ok (.iconst 2, 1) := by decide +kernel
theorem dL_law_167 : decode cL_law 167 = .ok (.iadd, 1) := by decide +kernel
theorem dL_law_168 : decode cL_law 168 = .ok (.iaload, 1) := by decide +kernel
theorem dL_law_169 : decode cL_law 169 = .ok (.aload_n 0, 1) := by decide +kernel
theorem dL_law_170 : decode cL_law 170 = .ok (.iload 5, 2) := by decide +kernel
theorem dL_law_172 : decode cL_law 172 = .ok (.iconst 3, 1) := by decide +kernel
theorem dL_law_173 : decode cL_law 173 = .ok (.iadd, 1) := by decide +kernel
theorem dL_law_174 : decode cL_law 174 = .ok (.iaload, 1) := by decide +kernel
theorem dL_law_175 : decode cL_law 175 = .ok (.aload_n 3, 1) := by decide +kernel
theorem dL_law_176 : decode cL_law 176 = .ok (.invokestatic 87, 3) := by decide +kernel
theorem dL_law_179 : decode cL_law 179 = .ok (.istore 6, 2) := by decide +kernel
theorem dL_law_181 : decode cL_law 181 = .ok (.aload_n 2, 1) := by decide +kernel
theorem dL_law_182 : decode cL_law 182 = .ok (.aload_n 0, 1) := by decide +kernel
theorem dL_law_183 : decode cL_law 183 = .ok (.iload 5, 2) := by decide +kernel
theorem dL_law_185 : decode cL_law 185 = .ok (.iconst 1, 1) := by decide +kernel
theorem dL_law_186 : decode cL_law 186 = .ok (.iadd, 1) := by decide +kernel
theorem dL_law_187 : decode cL_law 187 = .ok (.iaload, 1) := by decide +kernel
theorem dL_law_188 : decode cL_law 188 = .ok (.aload_n 0, 1) := by decide +kernel
theorem dL_law_189 : decode cL_law 189 = .ok (.iload 5, 2) := by decide +kernel
theorem dL_law_191 : decode cL_law 191 = .ok (.iconst 2, 1) := by decide +kernel
theorem dL_law_192 : decode cL_law 192 = .ok (.iadd, 1) := by decide +kernel
theorem dL_law_193 : decode cL_law 193 = .ok (.iaload, 1) := by decide +kernel
theorem dL_law_194 : decode cL_law 194 = .ok (.aload_n 0, 1) := by decide +kernel
theorem dL_law_195 : decode cL_law 195 = .ok (.iload 5, 2) := by decide +kernel
theorem dL_law_197 : decode cL_law 197 = .ok (.iconst 3, 1) := by decide +kernel
theorem dL_law_198 : decode cL_law 198 = .ok (.iadd, 1) := by decide +kernel
theorem dL_law_199 : decode cL_law 199 = .ok (.iaload, 1) := by decide +kernel
theorem dL_law_200 : decode cL_law 200 = .ok (.invokevirtual 92, 3) := by decide +kernel
theorem dL_law_203 : decode cL_law 203 = .ok (.istore 7, 2) := by decide +kernel
theorem dL_law_205 : decode cL_law 205 = .ok (.aload_n 2, 1) := by decide +kernel
theorem dL_law_206 : decode cL_law 206 = .ok (.invokevirtual 93, 3) := by decide +kernel
theorem dL_law_209 : decode cL_law 209 = .ok (.iload 6, 2) := by decide +kernel
theorem dL_law_211 : decode cL_law 211 = .ok (.if_icmp .eq 5, 3) := by decide +kernel
theorem dL_law_214 : decode cL_law 214 = .ok (.iconst 0, 1) := by decide +kernel
theorem dL_law_215 : decode cL_law 215 = .ok (.ireturn, 1) := by decide +kernel
theorem dL_law_216 : decode cL_law 216 = .ok (.iload 6, 2) := by decide +kernel
theorem dL_law_218 : decode cL_law 218 = .ok (.ifCond .ne 15, 3) := by decide +kernel
theorem dL_law_221 : decode cL_law 221 = .ok (.aload_n 3, 1) := by decide +kernel
theorem dL_law_222 : decode cL_law 222 = .ok (.iconst 0, 1) := by decide +kernel
theorem dL_law_223 : decode cL_law 223 = .ok (.laload, 1) := by decide +kernel
theorem dL_law_224 : decode cL_law 224 = .ok (.iload 7, 2) := by decide +kernel
theorem dL_law_226 : decode cL_law 226 = .ok (.i2l, 1) := by decide +kernel
theorem dL_law_227 : decode cL_law 227 = .ok (.lcmp, 1) := by decide +kernel
theorem dL_law_228 : decode cL_law 228 = .ok (.ifCond .eq 5, 3) := by decide +kernel
theorem dL_law_231 : decode cL_law 231 = .ok (.iconst 0, 1) := by decide +kernel
theorem dL_law_232 : decode cL_law 232 = .ok (.ireturn, 1) := by decide +kernel
theorem dL_law_233 : decode cL_law 233 = .ok (.goto 1272, 3) := by decide +kernel
theorem dL_law_236 : decode cL_law 236 = .ok (.aload_n 1, 1) := by decide +kernel
theorem dL_law_237 : decode cL_law 237 = .ok (.aload_n 0, 1) := by decide +kernel
theorem dL_law_238 : decode cL_law 238 = .ok (.iload 5, 2) := by decide +kernel
theorem dL_law_240 : decode cL_law 240 = .ok (.iconst 1, 1) := by decide +kernel
theorem dL_law_241 : decode cL_law 241 = .ok (.iadd, 1) := by decide +kernel
theorem dL_law_242 : decode cL_law 242 = .ok (.iaload, 1) := by decide +kernel
theorem dL_law_243 : decode cL_law 243 = .ok (.aload_n 0, 1) := by decide +kernel
theorem dL_law_244 : decode cL_law 244 = .ok (.iload 5, 2) := by decide +kernel
theorem dL_law_246 : decode cL_law 246 = .ok (.iconst 2, 1) := by decide +kernel
theorem dL_law_247 : decode cL_law 247 = .ok (.iadd, 1) := by decide +kernel
theorem dL_law_248 : decode cL_law 248 = .ok (.iaload, 1) := by decide +kernel
theorem dL_law_249 : decode cL_law 249 = .ok (.aload_n 0, 1) := by decide +kernel
theorem dL_law_250 : decode cL_law 250 = .ok (.iload 5, 2) := by decide +kernel
theorem dL_law_252 : decode cL_law 252 = .ok (.iconst 3, 1) := by decide +kernel
theorem dL_law_253 : decode cL_law 253 = .ok (.iadd, 1) := by decide +kernel
theorem dL_law_254 : decode cL_law 254 = .ok (.iaload, 1) := by decide +kernel
theorem dL_law_255 : decode cL_law 255 = .ok (.aload_n 0, 1) := by decide +kernel
theorem dL_law_256 : decode cL_law 256 = .ok (.iload 5, 2) := by decide +kernel
theorem dL_law_258 : decode cL_law 258 = .ok (.iconst 4, 1) := by decide +kernel
theorem dL_law_259 : decode cL_law 259 = .ok (.iadd, 1) := by decide +kernel
theorem dL_law_260 : decode cL_law 260 = .ok (.iaload, 1) := by decide +kernel
theorem dL_law_261 : decode cL_law 261 = .ok (.aload_n 3, 1) := by decide +kernel
theorem dL_law_262 : decode cL_law 262 = .ok (.invokestatic 96, 3) := by decide +kernel
theorem dL_law_265 : decode cL_law 265 = .ok (.istore 6, 2) := by decide +kernel
theorem dL_law_267 : decode cL_law 267 = .ok (.aload_n 2, 1) := by decide +kernel
theorem dL_law_268 : decode cL_law 268 = .ok (.aload_n 0, 1) := by decide +kernel
theorem dL_law_269 : decode cL_law 269 = .ok (.iload 5, 2) := by decide +kernel
theorem dL_law_271 : decode cL_law 271 = .ok (.iconst 1, 1) := by decide +kernel
theorem dL_law_272 : decode cL_law 272 = .ok (.iadd, 1) := by decide +kernel
theorem dL_law_273 : decode cL_law 273 = .ok (.iaload, 1) := by decide +kernel
theorem dL_law_274 : decode cL_law 274 = .ok (.aload_n 0, 1) := by decide +kernel
theorem dL_law_275 : decode cL_law 275 = .ok (.iload 5, 2) := by decide +kernel
theorem dL_law_277 : decode cL_law 277 = .ok (.iconst 2, 1) := by decide +kernel
theorem dL_law_278 : decode cL_law 278 = .ok (.iadd, 1) := by decide +kernel
theorem dL_law_279 : decode cL_law 279 = .ok (.iaload, 1) := by decide +kernel
theorem dL_law_280 : decode cL_law 280 = .ok (.aload_n 0, 1) := by decide +kernel
theorem dL_law_281 : decode cL_law 281 = .ok (.iload 5, 2) := by decide +kernel
theorem dL_law_283 : decode cL_law 283 = .ok (.iconst 3, 1) := by decide +kernel
theorem dL_law_284 : decode cL_law 284 = .ok (.iadd, 1) := by decide +kernel
theorem dL_law_285 : decode cL_law 285 = .ok (.iaload, 1) := by decide +kernel
theorem dL_law_286 : decode cL_law 286 = .ok (.aload_n 0, 1) := by decide +kernel
theorem dL_law_287 : decode cL_law 287 = .ok (.iload 5, 2) := by decide +kernel
theorem dL_law_289 : decode cL_law 289 = .ok (.iconst 4, 1) := by decide +kernel
theorem dL_law_290 : decode cL_law 290 = .ok (.iadd, 1) := by decide +kernel
theorem dL_law_291 : decode cL_law 291 = .ok (.iaload, 1) := by decide +kernel
theorem dL_law_292 : decode cL_law 292 = .ok (.invokevirtual 99, 3) := by decide +kernel
theorem dL_law_295 : decode cL_law 295 = .ok (.istore 7, 2) := by decide +kernel
theorem dL_law_297 : decode cL_law 297 = .ok (.aload_n 2, 1) := by decide +kernel
theorem dL_law_298 : decode cL_law 298 = .ok (.invokevirtual 93, 3) := by decide +kernel
theorem dL_law_301 : decode cL_law 301 = .ok (.iload 6, 2) := by decide +kernel
theorem dL_law_303 : decode cL_law 303 = .ok (.if_icmp .eq 5, 3) := by decide +kernel
theorem dL_law_306 : decode cL_law 306 = .ok (.iconst 0, 1) := by decide +kernel
theorem dL_law_307 : decode cL_law 307 = .ok (.ireturn, 1) := by decide +kernel
theorem dL_law_308 : decode cL_law 308 = .ok (.iload 6, 2) := by decide +kernel
theorem dL_law_310 : decode cL_law 310 = .ok (.ifCond .ne 15, 3) := by decide +kernel
theorem dL_law_313 : decode cL_law 313 = .ok (.aload_n 3, 1) := by decide +kernel
theorem dL_law_314 : decode cL_law 314 = .ok (.iconst 0, 1) := by decide +kernel
theorem dL_law_315 : decode cL_law 315 = .ok (.laload, 1) := by decide +kernel
theorem dL_law_316 : decode cL_law 316 = .ok (.iload 7, 2) := by decide +kernel
theorem dL_law_318 : decode cL_law 318 = .ok (.i2l, 1) := by decide +kernel
theorem dL_law_319 : decode cL_law 319 = .ok (.lcmp, 1) := by decide +kernel
theorem dL_law_320 : decode cL_law 320 = .ok (.ifCond .eq 5, 3) := by decide +kernel
theorem dL_law_323 : decode cL_law 323 = .ok (.iconst 0, 1) := by decide +kernel
theorem dL_law_324 : decode cL_law 324 = .ok (.ireturn, 1) := by decide +kernel
theorem dL_law_325 : decode cL_law 325 = .ok (.goto 1180, 3) := by decide +kernel
theorem dL_law_328 : decode cL_law 328 = .ok (.aload_n 1, 1) := by decide +kernel
theorem dL_law_329 : decode cL_law 329 = .ok (.invokevirtual 100, 3) := by decide +kernel
theorem dL_law_332 : decode cL_law 332 = .ok (.aload_n 2, 1) := by decide +kernel
theorem dL_law_333 : decode cL_law 333 = .ok (.invokevirtual 103, 3) := by decide +kernel
theorem dL_law_336 : decode cL_law 336 = .ok (.if_icmp .eq 1169, 3) := by decide +kernel
theorem dL_law_339 : decode cL_law 339 = .ok (.iconst 0, 1) := by decide +kernel
theorem dL_law_340 : decode cL_law 340 = .ok (.ireturn, 1) := by decide +kernel
theorem dL_law_341 : decode cL_law 341 = .ok (.aload_n 1, 1) := by decide +kernel
theorem dL_law_342 : decode cL_law 342 = .ok (.aload_n 0, 1) := by decide +kernel
theorem dL_law_343 : decode cL_law 343 = .ok (.iload 5, 2) := by decide +kernel
theorem dL_law_345 : decode cL_law 345 = .ok (.iconst 1, 1) := by decide +kernel
theorem dL_law_346 : decode cL_law 346 = .ok (.iadd, 1) := by decide +kernel
theorem dL_law_347 : decode cL_law 347 = .ok (.iaload, 1) := by decide +kernel
theorem dL_law_348 : decode cL_law 348 = .ok (.aload_n 3, 1) := by decide +kernel
theorem dL_law_349 : decode cL_law 349 = .ok (.invokestatic 104, 3) := by decide +kernel
theorem dL_law_352 : decode cL_law 352 = .ok (.istore 6, 2) := by decide +kernel
theorem dL_law_354 : decode cL_law 354 = .ok (.aload_n 2, 1) := by decide +kernel
theorem dL_law_355 : decode cL_law 355 = .ok (.aload_n 0, 1) := by decide +kernel
theorem dL_law_356 : decode cL_law 356 = .ok (.iload 5, 2) := by decide +kernel
theorem dL_law_358 : decode cL_law 358 = .ok (.iconst 1, 1) := by decide +kernel
theorem dL_law_359 : decode cL_law 359 = .ok (.iadd, 1) := by decide +kernel
theorem dL_law_360 : decode cL_law 360 = .ok (.iaload, 1) := by decide +kernel
theorem dL_law_361 : decode cL_law 361 = .ok (.invokevirtual 107, 3) := by decide +kernel
theorem dL_law_364 : decode cL_law 364 = .ok (.istore 7, 2) := by decide +kernel
theorem dL_law_366 : decode cL_law 366 = .ok (.aload_n 2, 1) := by decide +kernel
theorem dL_law_367 : decode cL_law 367 = .ok (.invokevirtual 93, 3) := by decide +kernel
theorem dL_law_370 : decode cL_law 370 = .ok (.iload 6, 2) := by decide +kernel
theorem dL_law_372 : decode cL_law 372 = .ok (.if_icmp .eq 5, 3) := by decide +kernel
theorem dL_law_375 : decode cL_law 375 = .ok (.iconst 0, 1) := by decide +kernel
theorem dL_law_376 : decode cL_law 376 = .ok (.ireturn, 1) := by decide +kernel
theorem dL_law_377 : decode cL_law 377 = .ok (.iload 6, 2) := by decide +kernel
theorem dL_law_379 : decode cL_law 379 = .ok (.ifCond .ne 15, 3) := by decide +kernel
theorem dL_law_382 : decode cL_law 382 = .ok (.aload_n 3, 1) := by decide +kernel
theorem dL_law_383 : decode cL_law 383 = .ok (.iconst 0, 1) := by decide +kernel
theorem dL_law_384 : decode cL_law 384 = .ok (.laload, 1) := by decide +kernel
theorem dL_law_385 : decode cL_law 385 = .ok (.iload 7, 2) := by decide +kernel
theorem dL_law_387 : decode cL_law 387 = .ok (.i2l, 1) := by decide +kernel
theorem dL_law_388 : decode cL_law 388 = .ok (.lcmp, 1) := by decide +kernel
theorem dL_law_389 : decode cL_law 389 = .ok (.ifCond .eq 5, 3) := by decide +kernel
theorem dL_law_392 : decode cL_law 392 = .ok (.iconst 0, 1) := by decide +kernel
theorem dL_law_393 : decode cL_law 393 = .ok (.ireturn, 1) := by decide +kernel
theorem dL_law_394 : decode cL_law 394 = .ok (.goto 1111, 3) := by decide +kernel
theorem dL_law_397 : decode cL_law 397 = .ok (.aload_n 1, 1) := by decide +kernel
theorem dL_law_398 : decode cL_law 398 = .ok (.aload_n 0, 1) := by decide +kernel
theorem dL_law_399 : decode cL_law 399 = .ok (.iload 5, 2) := by decide +kernel
theorem dL_law_401 : decode cL_law 401 = .ok (.iconst 1, 1) := by decide +kernel
theorem dL_law_402 : decode cL_law 402 = .ok (.iadd, 1) := by decide +kernel
theorem dL_law_403 : decode cL_law 403 = .ok (.iaload, 1) := by decide +kernel
theorem dL_law_404 : decode cL_law 404 = .ok (.aload_n 3, 1) := by decide +kernel
theorem dL_law_405 : decode cL_law 405 = .ok (.invokestatic 108, 3) := by decide +kernel
theorem dL_law_408 : decode cL_law 408 = .ok (.istore 6, 2) := by decide +kernel
theorem dL_law_410 : decode cL_law 410 = .ok (.aload_n 2, 1) := by decide +kernel
theorem dL_law_411 : decode cL_law 411 = .ok (.aload_n 0, 1) := by decide +kernel
theorem dL_law_412 : decode cL_law 412 = .ok (.iload 5, 2) := by decide +kernel
theorem dL_law_414 : decode cL_law 414 = .ok (.iconst 1, 1) := by decide +kernel
theorem dL_law_415 : decode cL_law 415 = .ok (.iadd, 1) := by decide +kernel
theorem dL_law_416 : decode cL_law 416 = .ok (.iaload, 1) := by decide +kernel
theorem dL_law_417 : decode cL_law 417 = .ok (.invokevirtual 110, 3) := by decide +kernel
theorem dL_law_420 : decode cL_law 420 = .ok (.istore 7, 2) := by decide +kernel
theorem dL_law_422 : decode cL_law 422 = .ok (.aload_n 2, 1) := by decide +kernel
theorem dL_law_423 : decode cL_law 423 = .ok (.invokevirtual 93, 3) := by decide +kernel
theorem dL_law_426 : decode cL_law 426 = .ok (.iload 6, 2) := by decide +kernel
theorem dL_law_428 : decode cL_law 428 = .ok (.if_icmp .eq 5, 3) := by decide +kernel
theorem dL_law_431 : decode cL_law 431 = .ok (.iconst 0, 1) := by decide +kernel
theorem dL_law_432 : decode cL_law 432 = .ok (.ireturn, 1) := by decide +kernel
theorem dL_law_433 : decode cL_law 433 = .ok (.iload 6, 2) := by decide +kernel
theorem dL_law_435 : decode cL_law 435 = .ok (.ifCond .ne 15, 3) := by decide +kernel
theorem dL_law_438 : decode cL_law 438 = .ok (.aload_n 3, 1) := by decide +kernel
theorem dL_law_439 : decode cL_law 439 = .ok (.iconst 0, 1) := by decide +kernel
theorem dL_law_440 : decode cL_law 440 = .ok (.laload, 1) := by decide +kernel
theorem dL_law_441 : decode cL_law 441 = .ok (.iload 7, 2) := by decide +kernel
theorem dL_law_443 : decode cL_law 443 = .ok (.i2l, 1) := by decide +kernel
theorem dL_law_444 : decode cL_law 444 = .ok (.lcmp, 1) := by decide +kernel
theorem dL_law_445 : decode cL_law 445 = .ok (.ifCond .eq 5, 3) := by decide +kernel
theorem dL_law_448 : decode cL_law 448 = .ok (.iconst 0, 1) := by decide +kernel
theorem dL_law_449 : decode cL_law 449 = .ok (.ireturn, 1) := by decide +kernel
theorem dL_law_450 : decode cL_law 450 = .ok (.goto 1055, 3) := by decide +kernel
theorem dL_law_453 : decode cL_law 453 = .ok (.aload_n 1, 1) := by decide +kernel
theorem dL_law_454 : decode cL_law 454 = .ok (.invokevirtual 111, 3) := by decide +kernel
theorem dL_law_457 : decode cL_law 457 = .ok (.aload_n 2, 1) := by decide +kernel
theorem dL_law_458 : decode cL_law 458 = .ok (.invokevirtual 114, 3) := by decide +kernel
theorem dL_law_461 : decode cL_law 461 = .ok (.if_icmp .eq 1044, 3) := by decide +kernel
theorem dL_law_464 : decode cL_law 464 = .ok (.iconst 0, 1) := by decide +kernel
theorem dL_law_465 : decode cL_law 465 = .ok (.ireturn, 1) := by decide +kernel
theorem dL_law_466 : decode cL_law 466 = .ok (.aload_n 1, 1) := by decide +kernel
theorem dL_law_467 : decode cL_law 467 = .ok (.invokevirtual 115, 3) := by decide +kernel
theorem dL_law_470 : decode cL_law 470 = .ok (.aload_n 2, 1) := by decide +kernel
theorem dL_law_471 : decode cL_law 471 = .ok (.invokevirtual 118, 3) := by decide +kernel
theorem dL_law_474 : decode cL_law 474 = .ok (.if_icmp .eq 1031, 3) := by decide +kernel
theorem dL_law_477 : decode cL_law 477 = .ok (.iconst 0, 1) := by decide +kernel
theorem dL_law_478 : decode cL_law 478 = .ok (.ireturn, 1) := by decide +kernel
theorem dL_law_479 : decode cL_law 479 = .ok (.aload_n 1, 1) := by decide +kernel
theorem dL_law_480 : decode cL_law 480 = .ok (.aload_n 0, 1) := by decide +kernel
theorem dL_law_481 : decode cL_law 481 = .ok (.iload 5, 2) := by decide +kernel
theorem dL_law_483 : decode cL_law 483 = .ok (.iconst 1, 1) := by decide +kernel
theorem dL_law_484 : decode cL_law 484 = .ok (.iadd, 1) := by decide +kernel
theorem dL_law_485 : decode cL_law 485 = .ok (.iaload, 1) := by decide +kernel
theorem dL_law_486 : decode cL_law 486 = .ok (.aload_n 0, 1) := by decide +kernel
theorem dL_law_487 : decode cL_law 487 = .ok (.iload 5, 2) := by decide +kernel
theorem dL_law_489 : decode cL_law 489 = .ok (.iconst 2, 1) := by decide +kernel
theorem dL_law_490 : decode cL_law 490 = .ok (.iadd, 1) := by decide +kernel
theorem dL_law_491 : decode cL_law 491 = .ok (.iaload, 1) := by decide +kernel
theorem dL_law_492 : decode cL_law 492 = .ok (.aload_n 0, 1) := by decide +kernel
theorem dL_law_493 : decode cL_law 493 = .ok (.iload 5, 2) := by decide +kernel
theorem dL_law_495 : decode cL_law 495 = .ok (.iconst 3, 1) := by decide +kernel
theorem dL_law_496 : decode cL_law 496 = .ok (.iadd, 1) := by decide +kernel
theorem dL_law_497 : decode cL_law 497 = .ok (.iaload, 1) := by decide +kernel
theorem dL_law_498 : decode cL_law 498 = .ok (.aload_n 0, 1) := by decide +kernel
theorem dL_law_499 : decode cL_law 499 = .ok (.iload 5, 2) := by decide +kernel
theorem dL_law_501 : decode cL_law 501 = .ok (.iconst 4, 1) := by decide +kernel
theorem dL_law_502 : decode cL_law 502 = .ok (.iadd, 1) := by decide +kernel
theorem dL_law_503 : decode cL_law 503 = .ok (.iaload, 1) := by decide +kernel
theorem dL_law_504 : decode cL_law 504 = .ok (.aload_n 3, 1) := by decide +kernel
theorem dL_law_505 : decode cL_law 505 = .ok (.invokestatic 119, 3) := by decide +kernel
theorem dL_law_508 : decode cL_law 508 = .ok (.istore 6, 2) := by decide +kernel
theorem dL_law_510 : decode cL_law 510 = .ok (.aload_n 2, 1) := by decide +kernel
theorem dL_law_511 : decode cL_law 511 = .ok (.aload_n 0, 1) := by decide +kernel
theorem dL_law_512 : decode cL_law 512 = .ok (.iload 5, 2) := by decide +kernel
theorem dL_law_514 : decode cL_law 514 = .ok (.iconst 1, 1) := by decide +kernel
end
section
theorem dL_law_515 : decode cL_law 515 = .ok (.iadd, 1) := by decide +kernel
theorem dL_law_516 : decode cL_law 516 = .ok (.iaload, 1) := by decide +kernel
theorem dL_law_517 : decode cL_law 517 = .ok (.aload_n 0, 1) := by decide +kernel
theorem dL_law_518 : decode cL_law 518 = .ok (.iload 5, 2) := by decide +kernel
theorem dL_law_520 : decode cL_law 520 = .ok (.iconst 2, 1) := by decide +kernel
theorem dL_law_521 : decode cL_law 521 = .ok (.iadd, 1) := by decide +kernel
theorem dL_law_522 : decode cL_law 522 = .ok (.iaload, 1) := by decide +kernel
theorem dL_law_523 : decode cL_law 523 = .ok (.aload_n 0, 1) := by decide +kernel
theorem dL_law_524 : decode cL_law 524 = .ok (.iload 5, 2) := by decide +kernel
theorem dL_law_526 : decode cL_law 526 = .ok (.iconst 3, 1) := by decide +kernel
theorem dL_law_527 : decode cL_law 527 = .ok (.iadd, 1) := by decide +kernel
theorem dL_law_528 : decode cL_law 528 = .ok (.iaload, 1) := by decide +kernel
theorem dL_law_529 : decode cL_law 529 = .ok (.aload_n 0, 1) := by decide +kernel
theorem dL_law_530 : decode cL_law 530 = .ok (.iload 5, 2) := by decide +kernel
theorem dL_law_532 : decode cL_law 532 = .ok (.iconst 4, 1) := by decide +kernel
theorem dL_law_533 : decode cL_law 533 = .ok (.iadd, 1) := by decide +kernel
theorem dL_law_534 : decode cL_law 534 = .ok (.iaload, 1) := by decide +kernel
theorem dL_law_535 : decode cL_law 535 = .ok (.invokevirtual 121, 3) := by decide +kernel
theorem dL_law_538 : decode cL_law 538 = .ok (.istore 7, 2) := by decide +kernel
theorem dL_law_540 : decode cL_law 540 = .ok (.aload_n 2, 1) := by decide +kernel
theorem dL_law_541 : decode cL_law 541 = .ok (.invokevirtual 93, 3) := by decide +kernel
theorem dL_law_544 : decode cL_law 544 = .ok (.iload 6, 2) := by decide +kernel
theorem dL_law_546 : decode cL_law 546 = .ok (.if_icmp .eq 5, 3) := by decide +kernel
theorem dL_law_549 : decode cL_law 549 = .ok (.iconst 0, 1) := by decide +kernel
theorem dL_law_550 : decode cL_law 550 = .ok (.ireturn, 1) := by decide +kernel
theorem dL_law_551 : decode cL_law 551 = .ok (.iload 6, 2) := by decide +kernel
theorem dL_law_553 : decode cL_law 553 = .ok (.ifCond .ne 15, 3) := by decide +kernel
theorem dL_law_556 : decode cL_law 556 = .ok (.aload_n 3, 1) := by decide +kernel
theorem dL_law_557 : decode cL_law 557 = .ok (.iconst 0, 1) := by decide +kernel
theorem dL_law_558 : decode cL_law 558 = .ok (.laload, 1) := by decide +kernel
theorem dL_law_559 : decode cL_law 559 = .ok (.iload 7, 2) := by decide +kernel
theorem dL_law_561 : decode cL_law 561 = .ok (.i2l, 1) := by decide +kernel
theorem dL_law_562 : decode cL_law 562 = .ok (.lcmp, 1) := by decide +kernel
theorem dL_law_563 : decode cL_law 563 = .ok (.ifCond .eq 5, 3) := by decide +kernel
theorem dL_law_566 : decode cL_law 566 = .ok (.iconst 0, 1) := by decide +kernel
theorem dL_law_567 : decode cL_law 567 = .ok (.ireturn, 1) := by decide +kernel
theorem dL_law_568 : decode cL_law 568 = .ok (.goto 937, 3) := by decide +kernel
theorem dL_law_571 : decode cL_law 571 = .ok (.aload_n 1, 1) := by decide +kernel
theorem dL_law_572 : decode cL_law 572 = .ok (.aload_n 0, 1) := by decide +kernel
theorem dL_law_573 : decode cL_law 573 = .ok (.iload 5, 2) := by decide +kernel
theorem dL_law_575 : decode cL_law 575 = .ok (.iconst 1, 1) := by decide +kernel
theorem dL_law_576 : decode cL_law 576 = .ok (.iadd, 1) := by decide +kernel
theorem dL_law_577 : decode cL_law 577 = .ok (.iaload, 1) := by decide +kernel
theorem dL_law_578 : decode cL_law 578 = .ok (.aload_n 0, 1) := by decide +kernel
theorem dL_law_579 : decode cL_law 579 = .ok (.iload 5, 2) := by decide +kernel
theorem dL_law_581 : decode cL_law 581 = .ok (.iconst 2, 1) := by decide +kernel
theorem dL_law_582 : decode cL_law 582 = .ok (.iadd, 1) := by decide +kernel
theorem dL_law_583 : decode cL_law 583 = .ok (.iaload, 1) := by decide +kernel
theorem dL_law_584 : decode cL_law 584 = .ok (.aload_n 0, 1) := by decide +kernel
theorem dL_law_585 : decode cL_law 585 = .ok (.iload 5, 2) := by decide +kernel
theorem dL_law_587 : decode cL_law 587 = .ok (.iconst 3, 1) := by decide +kernel
theorem dL_law_588 : decode cL_law 588 = .ok (.iadd, 1) := by decide +kernel
theorem dL_law_589 : decode cL_law 589 = .ok (.iaload, 1) := by decide +kernel
theorem dL_law_590 : decode cL_law 590 = .ok (.aload_n 3, 1) := by decide +kernel
theorem dL_law_591 : decode cL_law 591 = .ok (.invokestatic 122, 3) := by decide +kernel
theorem dL_law_594 : decode cL_law 594 = .ok (.istore 6, 2) := by decide +kernel
theorem dL_law_596 : decode cL_law 596 = .ok (.aload_n 2, 1) := by decide +kernel
theorem dL_law_597 : decode cL_law 597 = .ok (.aload_n 0, 1) := by decide +kernel
theorem dL_law_598 : decode cL_law 598 = .ok (.iload 5, 2) := by decide +kernel
theorem dL_law_600 : decode cL_law 600 = .ok (.iconst 1, 1) := by decide +kernel
theorem dL_law_601 : decode cL_law 601 = .ok (.iadd, 1) := by decide +kernel
theorem dL_law_602 : decode cL_law 602 = .ok (.iaload, 1) := by decide +kernel
theorem dL_law_603 : decode cL_law 603 = .ok (.aload_n 0, 1) := by decide +kernel
theorem dL_law_604 : decode cL_law 604 = .ok (.iload 5, 2) := by decide +kernel
theorem dL_law_606 : decode cL_law 606 = .ok (.iconst 2, 1) := by decide +kernel
theorem dL_law_607 : decode cL_law 607 = .ok (.iadd, 1) := by decide +kernel
theorem dL_law_608 : decode cL_law 608 = .ok (.iaload, 1) := by decide +kernel
theorem dL_law_609 : decode cL_law 609 = .ok (.aload_n 0, 1) := by decide +kernel
theorem dL_law_610 : decode cL_law 610 = .ok (.iload 5, 2) := by decide +kernel
theorem dL_law_612 : decode cL_law 612 = .ok (.iconst 3, 1) := by decide +kernel
theorem dL_law_613 : decode cL_law 613 = .ok (.iadd, 1) := by decide +kernel
theorem dL_law_614 : decode cL_law 614 = .ok (.iaload, 1) := by decide +kernel
theorem dL_law_615 : decode cL_law 615 = .ok (.invokevirtual 124, 3) := by decide +kernel
theorem dL_law_618 : decode cL_law 618 = .ok (.istore 7, 2) := by decide +kernel
theorem dL_law_620 : decode cL_law 620 = .ok (.aload_n 2, 1) := by decide +kernel
theorem dL_law_621 : decode cL_law 621 = .ok (.invokevirtual 93, 3) := by decide +kernel
theorem dL_law_624 : decode cL_law 624 = .ok (.iload 6, 2) := by decide +kernel
theorem dL_law_626 : decode cL_law 626 = .ok (.if_icmp .eq 5, 3) := by decide +kernel
theorem dL_law_629 : decode cL_law 629 = .ok (.iconst 0, 1) := by decide +kernel
theorem dL_law_630 : decode cL_law 630 = .ok (.ireturn, 1) := by decide +kernel
theorem dL_law_631 : decode cL_law 631 = .ok (.iload 6, 2) := by decide +kernel
theorem dL_law_633 : decode cL_law 633 = .ok (.ifCond .ne 15, 3) := by decide +kernel
theorem dL_law_636 : decode cL_law 636 = .ok (.aload_n 3, 1) := by decide +kernel
theorem dL_law_637 : decode cL_law 637 = .ok (.iconst 0, 1) := by decide +kernel
theorem dL_law_638 : decode cL_law 638 = .ok (.laload, 1) := by decide +kernel
theorem dL_law_639 : decode cL_law 639 = .ok (.iload 7, 2) := by decide +kernel
theorem dL_law_641 : decode cL_law 641 = .ok (.i2l, 1) := by decide +kernel
theorem dL_law_642 : decode cL_law 642 = .ok (.lcmp, 1) := by decide +kernel
theorem dL_law_643 : decode cL_law 643 = .ok (.ifCond .eq 5, 3) := by decide +kernel
theorem dL_law_646 : decode cL_law 646 = .ok (.iconst 0, 1) := by decide +kernel
theorem dL_law_647 : decode cL_law 647 = .ok (.ireturn, 1) := by decide +kernel
theorem dL_law_648 : decode cL_law 648 = .ok (.goto 857, 3) := by decide +kernel
theorem dL_law_651 : decode cL_law 651 = .ok (.aload_n 1, 1) := by decide +kernel
theorem dL_law_652 : decode cL_law 652 = .ok (.aload_n 0, 1) := by decide +kernel
theorem dL_law_653 : decode cL_law 653 = .ok (.iload 5, 2) := by decide +kernel
theorem dL_law_655 : decode cL_law 655 = .ok (.iconst 1, 1) := by decide +kernel
theorem dL_law_656 : decode cL_law 656 = .ok (.iadd, 1) := by decide +kernel
theorem dL_law_657 : decode cL_law 657 = .ok (.iaload, 1) := by decide +kernel
theorem dL_law_658 : decode cL_law 658 = .ok (.aload_n 3, 1) := by decide +kernel
theorem dL_law_659 : decode cL_law 659 = .ok (.invokestatic 125, 3) := by decide +kernel
theorem dL_law_662 : decode cL_law 662 = .ok (.istore 6, 2) := by decide +kernel
theorem dL_law_664 : decode cL_law 664 = .ok (.aload_n 2, 1) := by decide +kernel
theorem dL_law_665 : decode cL_law 665 = .ok (.aload_n 0, 1) := by decide +kernel
theorem dL_law_666 : decode cL_law 666 = .ok (.iload 5, 2) := by decide +kernel
theorem dL_law_668 : decode cL_law 668 = .ok (.iconst 1, 1) := by decide +kernel
theorem dL_law_669 : decode cL_law 669 = .ok (.iadd, 1) := by decide +kernel
theorem dL_law_670 : decode cL_law 670 = .ok (.iaload, 1) := by decide +kernel
theorem dL_law_671 : decode cL_law 671 = .ok (.invokevirtual 127, 3) := by decide +kernel
theorem dL_law_674 : decode cL_law 674 = .ok (.istore 7, 2) := by decide +kernel
theorem dL_law_676 : decode cL_law 676 = .ok (.aload_n 2, 1) := by decide +kernel
theorem dL_law_677 : decode cL_law 677 = .ok (.invokevirtual 93, 3) := by decide +kernel
theorem dL_law_680 : decode cL_law 680 = .ok (.iload 6, 2) := by decide +kernel
theorem dL_law_682 : decode cL_law 682 = .ok (.if_icmp .eq 5, 3) := by decide +kernel
theorem dL_law_685 : decode cL_law 685 = .ok (.iconst 0, 1) := by decide +kernel
theorem dL_law_686 : decode cL_law 686 = .ok (.ireturn, 1) := by decide +kernel
theorem dL_law_687 : decode cL_law 687 = .ok (.iload 6, 2) := by decide +kernel
theorem dL_law_689 : decode cL_law 689 = .ok (.ifCond .ne 15, 3) := by decide +kernel
theorem dL_law_692 : decode cL_law 692 = .ok (.aload_n 3, 1) := by decide +kernel
theorem dL_law_693 : decode cL_law 693 = .ok (.iconst 0, 1) := by decide +kernel
theorem dL_law_694 : decode cL_law 694 = .ok (.laload, 1) := by decide +kernel
theorem dL_law_695 : decode cL_law 695 = .ok (.iload 7, 2) := by decide +kernel
theorem dL_law_697 : decode cL_law 697 = .ok (.i2l, 1) := by decide +kernel
theorem dL_law_698 : decode cL_law 698 = .ok (.lcmp, 1) := by decide +kernel
theorem dL_law_699 : decode cL_law 699 = .ok (.ifCond .eq 5, 3) := by decide +kernel
theorem dL_law_702 : decode cL_law 702 = .ok (.iconst 0, 1) := by decide +kernel
theorem dL_law_703 : decode cL_law 703 = .ok (.ireturn, 1) := by decide +kernel
theorem dL_law_704 : decode cL_law 704 = .ok (.goto 801, 3) := by decide +kernel
theorem dL_law_707 : decode cL_law 707 = .ok (.aload_n 1, 1) := by decide +kernel
theorem dL_law_708 : decode cL_law 708 = .ok (.aload_n 0, 1) := by decide +kernel
theorem dL_law_709 : decode cL_law 709 = .ok (.iload 5, 2) := by decide +kernel
theorem dL_law_711 : decode cL_law 711 = .ok (.iconst 1, 1) := by decide +kernel
theorem dL_law_712 : decode cL_law 712 = .ok (.iadd, 1) := by decide +kernel
theorem dL_law_713 : decode cL_law 713 = .ok (.iaload, 1) := by decide +kernel
theorem dL_law_714 : decode cL_law 714 = .ok (.aload_n 0, 1) := by decide +kernel
theorem dL_law_715 : decode cL_law 715 = .ok (.iload 5, 2) := by decide +kernel
theorem dL_law_717 : decode cL_law 717 = .ok (.iconst 2, 1) := by decide +kernel
theorem dL_law_718 : decode cL_law 718 = .ok (.iadd, 1) := by decide +kernel
theorem dL_law_719 : decode cL_law 719 = .ok (.iaload, 1) := by decide +kernel
theorem dL_law_720 : decode cL_law 720 = .ok (.aload_n 3, 1) := by decide +kernel
theorem dL_law_721 : decode cL_law 721 = .ok (.invokestatic 128, 3) := by decide +kernel
theorem dL_law_724 : decode cL_law 724 = .ok (.istore 6, 2) := by decide +kernel
theorem dL_law_726 : decode cL_law 726 = .ok (.aload_n 2, 1) := by decide +kernel
theorem dL_law_727 : decode cL_law 727 = .ok (.aload_n 0, 1) := by decide +kernel
theorem dL_law_728 : decode cL_law 728 = .ok (.iload 5, 2) := by decide +kernel
theorem dL_law_730 : decode cL_law 730 = .ok (.iconst 1, 1) := by decide +kernel
theorem dL_law_731 : decode cL_law 731 = .ok (.iadd, 1) := by decide +kernel
theorem dL_law_732 : decode cL_law 732 = .ok (.iaload, 1) := by decide +kernel
theorem dL_law_733 : decode cL_law 733 = .ok (.aload_n 0, 1) := by decide +kernel
theorem dL_law_734 : decode cL_law 734 = .ok (.iload 5, 2) := by decide +kernel
theorem dL_law_736 : decode cL_law 736 = .ok (.iconst 2, 1) := by decide +kernel
theorem dL_law_737 : decode cL_law 737 = .ok (.iadd, 1) := by decide +kernel
theorem dL_law_738 : decode cL_law 738 = .ok (.iaload, 1) := by decide +kernel
theorem dL_law_739 : decode cL_law 739 = .ok (.invokevirtual 131, 3) := by decide +kernel
theorem dL_law_742 : decode cL_law 742 = .ok (.istore 7, 2) := by decide +kernel
theorem dL_law_744 : decode cL_law 744 = .ok (.aload_n 2, 1) := by decide +kernel
theorem dL_law_745 : decode cL_law 745 = .ok (.invokevirtual 93, 3) := by decide +kernel
theorem dL_law_748 : decode cL_law 748 = .ok (.iload 6, 2) := by decide +kernel
theorem dL_law_750 : decode cL_law 750 = .ok (.if_icmp .eq 5, 3) := by decide +kernel
theorem dL_law_753 : decode cL_law 753 = .ok (.iconst 0, 1) := by decide +kernel
theorem dL_law_754 : decode cL_law 754 = .ok (.ireturn, 1) := by decide +kernel
theorem dL_law_755 : decode cL_law 755 = .ok (.iload 6, 2) := by decide +kernel
theorem dL_law_757 : decode cL_law 757 = .ok (.ifCond .ne 15, 3) := by decide +kernel
theorem dL_law_760 : decode cL_law 760 = .ok (.aload_n 3, 1) := by decide +kernel
theorem dL_law_761 : decode cL_law 761 = .ok (.iconst 0, 1) := by decide +kernel
theorem dL_law_762 : decode cL_law 762 = .ok (.laload, 1) := by decide +kernel
theorem dL_law_763 : decode cL_law 763 = .ok (.iload 7, 2) := by decide +kernel
theorem dL_law_765 : decode cL_law 765 = .ok (.i2l, 1) := by decide +kernel
theorem dL_law_766 : decode cL_law 766 = .ok (.lcmp, 1) := by decide +kernel
theorem dL_law_767 : decode cL_law 767 = .ok (.ifCond .eq 5, 3) := by decide +kernel
theorem dL_law_770 : decode cL_law 770 = .ok (.iconst 0, 1) := by decide +kernel
theorem dL_law_771 : decode cL_law 771 = .ok (.ireturn, 1) := by decide +kernel
theorem dL_law_772 : decode cL_law 772 = .ok (.goto 733, 3) := by decide +kernel
theorem dL_law_775 : decode cL_law 775 = .ok (.aload_n 1, 1) := by decide +kernel
theorem dL_law_776 : decode cL_law 776 = .ok (.aload_n 0, 1) := by decide +kernel
theorem dL_law_777 : decode cL_law 777 = .ok (.iload 5, 2) := by decide +kernel
theorem dL_law_779 : decode cL_law 779 = .ok (.iconst 1, 1) := by decide +kernel
theorem dL_law_780 : decode cL_law 780 = .ok (.iadd, 1) := by decide +kernel
theorem dL_law_781 : decode cL_law 781 = .ok (.iaload, 1) := by decide +kernel
theorem dL_law_782 : decode cL_law 782 = .ok (.aload_n 3, 1) := by decide +kernel
theorem dL_law_783 : decode cL_law 783 = .ok (.invokestatic 132, 3) := by decide +kernel
theorem dL_law_786 : decode cL_law 786 = .ok (.istore 6, 2) := by decide +kernel
theorem dL_law_788 : decode cL_law 788 = .ok (.aload_n 2, 1) := by decide +kernel
theorem dL_law_789 : decode cL_law 789 = .ok (.aload_n 0, 1) := by decide +kernel
theorem dL_law_790 : decode cL_law 790 = .ok (.iload 5, 2) := by decide +kernel
theorem dL_law_792 : decode cL_law 792 = .ok (.iconst 1, 1) := by decide +kernel
theorem dL_law_793 : decode cL_law 793 = .ok (.iadd, 1) := by decide +kernel
theorem dL_law_794 : decode cL_law 794 = .ok (.iaload, 1) := by decide +kernel
theorem dL_law_795 : decode cL_law 795 = .ok (.invokevirtual 134, 3) := by decide +kernel
theorem dL_law_798 : decode cL_law 798 = .ok (.istore 7, 2) := by decide +kernel
theorem dL_law_800 : decode cL_law 800 = .ok (.aload_n 2, 1) := by decide +kernel
theorem dL_law_801 : decode cL_law 801 = .ok (.invokevirtual 93, 3) := by decide +kernel
theorem dL_law_804 : decode cL_law 804 = .ok (.iload 6, 2) := by decide +kernel
theorem dL_law_806 : decode cL_law 806 = .ok (.if_icmp .eq 5, 3) := by decide +kernel
theorem dL_law_809 : decode cL_law 809 = .ok (.iconst 0, 1) := by decide +kernel
theorem dL_law_810 : decode cL_law 810 = .ok (.ireturn, 1) := by decide +kernel
theorem dL_law_811 : decode cL_law 811 = .ok (.iload 6, 2) := by decide +kernel
theorem dL_law_813 : decode cL_law 813 = .ok (.ifCond .ne 15, 3) := by decide +kernel
theorem dL_law_816 : decode cL_law 816 = .ok (.aload_n 3, 1) := by decide +kernel
theorem dL_law_817 : decode cL_law 817 = .ok (.iconst 0, 1) := by decide +kernel
theorem dL_law_818 : decode cL_law 818 = .ok (.laload, 1) := by decide +kernel
theorem dL_law_819 : decode cL_law 819 = .ok (.iload 7, 2) := by decide +kernel
theorem dL_law_821 : decode cL_law 821 = .ok (.i2l, 1) := by decide +kernel
theorem dL_law_822 : decode cL_law 822 = .ok (.lcmp, 1) := by decide +kernel
theorem dL_law_823 : decode cL_law 823 = .ok (.ifCond .eq 5, 3) := by decide +kernel
theorem dL_law_826 : decode cL_law 826 = .ok (.iconst 0, 1) := by decide +kernel
theorem dL_law_827 : decode cL_law 827 = .ok (.ireturn, 1) := by decide +kernel
theorem dL_law_828 : decode cL_law 828 = .ok (.goto 677, 3) := by decide +kernel
theorem dL_law_831 : decode cL_law 831 = .ok (.aload_n 1, 1) := by decide +kernel
theorem dL_law_832 : decode cL_law 832 = .ok (.aload_n 0, 1) := by decide +kernel
theorem dL_law_833 : decode cL_law 833 = .ok (.iload 5, 2) := by decide +kernel
theorem dL_law_835 : decode cL_law 835 = .ok (.iconst 1, 1) := by decide +kernel
theorem dL_law_836 : decode cL_law 836 = .ok (.iadd, 1) := by decide +kernel
theorem dL_law_837 : decode cL_law 837 = .ok (.iaload, 1) := by decide +kernel
theorem dL_law_838 : decode cL_law 838 = .ok (.aload_n 3, 1) := by decide +kernel
theorem dL_law_839 : decode cL_law 839 = .ok (.invokestatic 135, 3) := by decide +kernel
theorem dL_law_842 : decode cL_law 842 = .ok (.istore 6, 2) := by decide +kernel
theorem dL_law_844 : decode cL_law 844 = .ok (.aload_n 2, 1) := by decide +kernel
theorem dL_law_845 : decode cL_law 845 = .ok (.aload_n 0, 1) := by decide +kernel
theorem dL_law_846 : decode cL_law 846 = .ok (.iload 5, 2) := by decide +kernel
theorem dL_law_848 : decode cL_law 848 = .ok (.iconst 1, 1) := by decide +kernel
theorem dL_law_849 : decode cL_law 849 = .ok (.iadd, 1) := by decide +kernel
theorem dL_law_850 : decode cL_law 850 = .ok (.iaload, 1) := by decide +kernel
theorem dL_law_851 : decode cL_law 851 = .ok (.invokevirtual 137, 3) := by decide +kernel
theorem dL_law_854 : decode cL_law 854 = .ok (.istore 7, 2) := by decide +kernel
theorem dL_law_856 : decode cL_law 856 = .ok (.aload_n 2, 1) := by decide +kernel
theorem dL_law_857 : decode cL_law 857 = .ok (.invokevirtual 93, 3) := by decide +kernel
theorem dL_law_860 : decode cL_law 860 = .ok (.iload 6, 2) := by decide +kernel
theorem dL_law_862 : decode cL_law 862 = .ok (.if_icmp .eq 5, 3) := by decide +kernel
theorem dL_law_865 : decode cL_law 865 = .ok (.iconst 0, 1) := by decide +kernel
theorem dL_law_866 : decode cL_law 866 = .ok (.ireturn, 1) := by decide +kernel
theorem dL_law_867 : decode cL_law 867 = .ok (.iload 6, 2) := by decide +kernel
theorem dL_law_869 : decode cL_law 869 = .ok (.ifCond .ne 15, 3) := by decide +kernel
theorem dL_law_872 : decode cL_law 872 = .ok (.aload_n 3, 1) := by decide +kernel
theorem dL_law_873 : decode cL_law 873 = .ok (.iconst 0, 1) := by decide +kernel
theorem dL_law_874 : decode cL_law 874 = .ok (.laload, 1) := by decide +kernel
theorem dL_law_875 : decode cL_law 875 = .ok (.iload 7, 2) := by decide +kernel
theorem dL_law_877 : decode cL_law 877 = .ok (.i2l, 1) := by decide +kernel
theorem dL_law_878 : decode cL_law 878 = .ok (.lcmp, 1) := by decide +kernel
theorem dL_law_879 : decode cL_law 879 = .ok (.ifCond .eq 5, 3) := by decide +kernel
theorem dL_law_882 : decode cL_law 882 = .ok (.iconst 0, 1) := by decide +kernel
theorem dL_law_883 : decode cL_law 883 = .ok (.ireturn, 1) := by decide +kernel
theorem dL_law_884 : decode cL_law 884 = .ok (.goto 621, 3) := by decide +kernel
theorem dL_law_887 : decode cL_law 887 = .ok (.aload_n 1, 1) := by decide +kernel
theorem dL_law_888 : decode cL_law 888 = .ok (.aload_n 0, 1) := by decide +kernel
theorem dL_law_889 : decode cL_law 889 = .ok (.iload 5, 2) := by decide +kernel
theorem dL_law_891 : decode cL_law 891 = .ok (.iconst 1, 1) := by decide +kernel
theorem dL_law_892 : decode cL_law 892 = .ok (.iadd, 1) := by decide +kernel
theorem dL_law_893 : decode cL_law 893 = .ok (.iaload, 1) := by decide +kernel
theorem dL_law_894 : decode cL_law 894 = .ok (.aload_n 0, 1) := by decide +kernel
theorem dL_law_895 : decode cL_law 895 = .ok (.iload 5, 2) := by decide +kernel
theorem dL_law_897 : decode cL_law 897 = .ok (.iconst 2, 1) := by decide +kernel
theorem dL_law_898 : decode cL_law 898 = .ok (.iadd, 1) := by decide +kernel
theorem dL_law_899 : decode cL_law 899 = .ok (.iaload, 1) := by decide +kernel
theorem dL_law_900 : decode cL_law 900 = .ok (.aload_n 0, 1) := by decide +kernel
theorem dL_law_901 : decode cL_law 901 = .ok (.iload 5, 2) := by decide +kernel
theorem dL_law_903 : decode cL_law 903 = .ok (.iconst 3, 1) := by decide +kernel
theorem dL_law_904 : decode cL_law 904 = .ok (.iadd, 1) := by decide +kernel
theorem dL_law_905 : decode cL_law 905 = .ok (.iaload, 1) := by decide +kernel
theorem dL_law_906 : decode cL_law 906 = .ok (.aload_n 3, 1) := by decide +kernel
theorem dL_law_907 : decode cL_law 907 = .ok (.invokestatic 138, 3) := by decide +kernel
theorem dL_law_910 : decode cL_law 910 = .ok (.istore 6, 2) := by decide +kernel
theorem dL_law_912 : decode cL_law 912 = .ok (.aload_n 2, 1) := by decide +kernel
theorem dL_law_913 : decode cL_law 913 = .ok (.aload_n 0, 1) := by decide +kernel
theorem dL_law_914 : decode cL_law 914 = .ok (.iload 5, 2) := by decide +kernel
theorem dL_law_916 : decode cL_law 916 = .ok (.iconst 1, 1) := by decide +kernel
theorem dL_law_917 : decode cL_law 917 = .ok (.iadd, 1) := by decide +kernel
theorem dL_law_918 : decode cL_law 918 = .ok (.iaload, 1) := by decide +kernel
theorem dL_law_919 : decode cL_law 919 = .ok (.aload_n 0, 1) := by decide +kernel
theorem dL_law_920 : decode cL_law 920 = .ok (.iload 5, 2) := by decide +kernel
theorem dL_law_922 : decode cL_law 922 = .ok (.iconst 2, 1) := by decide +kernel
theorem dL_law_923 : decode cL_law 923 = .ok (.iadd, 1) := by decide +kernel
theorem dL_law_924 : decode cL_law 924 = .ok (.iaload, 1) := by decide +kernel
theorem dL_law_925 : decode cL_law 925 = .ok (.aload_n 0, 1) := by decide +kernel
theorem dL_law_926 : decode cL_law 926 = .ok (.iload 5, 2) := by decide +kernel
theorem dL_law_928 : decode cL_law 928 = .ok (.iconst 3, 1) := by decide +kernel
theorem dL_law_929 : decode cL_law 929 = .ok (.iadd, 1) := by decide +kernel
theorem dL_law_930 : decode cL_law 930 = .ok (.iaload, 1) := by decide +kernel
theorem dL_law_931 : decode cL_law 931 = .ok (.invokevirtual 140, 3) := by decide +kernel
theorem dL_law_934 : decode cL_law 934 = .ok (.istore 7, 2) := by decide +kernel
theorem dL_law_936 : decode cL_law 936 = .ok (.aload_n 2, 1) := by decide +kernel
theorem dL_law_937 : decode cL_law 937 = .ok (.invokevirtual 93, 3) := by decide +kernel
theorem dL_law_940 : decode cL_law 940 = .ok (.iload 6, 2) := by decide +kernel
theorem dL_law_942 : decode cL_law 942 = .ok (.if_icmp .eq 5, 3) := by decide +kernel
theorem dL_law_945 : decode cL_law 945 = .ok (.iconst 0, 1) := by decide +kernel
theorem dL_law_946 : decode cL_law 946 = .ok (.ireturn, 1) := by decide +kernel
theorem dL_law_947 : decode cL_law 947 = .ok (.iload 6, 2) := by decide +kernel
theorem dL_law_949 : decode cL_law 949 = .ok (.ifCond .ne 15, 3) := by decide +kernel
theorem dL_law_952 : decode cL_law 952 = .ok (.aload_n 3, 1) := by decide +kernel
theorem dL_law_953 : decode cL_law 953 = .ok (.iconst 0, 1) := by decide +kernel
theorem dL_law_954 : decode cL_law 954 = .ok (.laload, 1) := by decide +kernel
theorem dL_law_955 : decode cL_law 955 = .ok (.iload 7, 2) := by decide +kernel
theorem dL_law_957 : decode cL_law 957 = .ok (.i2l, 1) := by decide +kernel
theorem dL_law_958 : decode cL_law 958 = .ok (.lcmp, 1) := by decide +kernel
theorem dL_law_959 : decode cL_law 959 = .ok (.ifCond .eq 5, 3) := by decide +kernel
theorem dL_law_962 : decode cL_law 962 = .ok (.iconst 0, 1) := by decide +kernel
theorem dL_law_963 : decode cL_law 963 = .ok (.ireturn, 1) := by decide +kernel
theorem dL_law_964 : decode cL_law 964 = .ok (.goto 541, 3) := by decide +kernel
theorem dL_law_967 : decode cL_law 967 = .ok (.aload_n 1, 1) := by decide +kernel
theorem dL_law_968 : decode cL_law 968 = .ok (.aload_n 0, 1) := by decide +kernel
theorem dL_law_969 : decode cL_law 969 = .ok (.iload 5, 2) := by decide +kernel
theorem dL_law_971 : decode cL_law 971 = .ok (.iconst 1, 1) := by decide +kernel
theorem dL_law_972 : decode cL_law 972 = .ok (.iadd, 1) := by decide +kernel
theorem dL_law_973 : decode cL_law 973 = .ok (.iaload, 1) := by decide +kernel
theorem dL_law_974 : decode cL_law 974 = .ok (.aload_n 0, 1) := by decide +kernel
theorem dL_law_975 : decode cL_law 975 = .ok (.iload 5, 2) := by decide +kernel
theorem dL_law_977 : decode cL_law 977 = .ok (.iconst 2, 1) := by decide +kernel
theorem dL_law_978 : decode cL_law 978 = .ok (.iadd, 1) := by decide +kernel
theorem dL_law_979 : decode cL_law 979 = .ok (.iaload, 1) := by decide +kernel
theorem dL_law_980 : decode cL_law 980 = .ok (.aload_n 3, 1) := by decide +kernel
theorem dL_law_981 : decode cL_law 981 = .ok (.invokestatic 141, 3) := by decide +kernel
theorem dL_law_984 : decode cL_law 984 = .ok (.istore 6, 2) := by decide +kernel
theorem dL_law_986 : decode cL_law 986 = .ok (.aload_n 2, 1) := by decide +kernel
theorem dL_law_987 : decode cL_law 987 = .ok (.aload_n 0, 1) := by decide +kernel
theorem dL_law_988 : decode cL_law 988 = .ok (.iload 5, 2) := by decide +kernel
theorem dL_law_990 : decode cL_law 990 = .ok (.iconst 1, 1) := by decide +kernel
theorem dL_law_991 : decode cL_law 991 = .ok (.iadd, 1) := by decide +kernel
theorem dL_law_992 : decode cL_law 992 = .ok (.iaload, 1) := by decide +kernel
theorem dL_law_993 : decode cL_law 993 = .ok (.aload_n 0, 1) := by decide +kernel
theorem dL_law_994 : decode cL_law 994 = .ok (.iload 5, 2) := by decide +kernel
theorem dL_law_996 : decode cL_law 996 = .ok (.iconst 2, 1) := by decide +kernel
theorem dL_law_997 : decode cL_law 997 = .ok (.iadd, 1) := by decide +kernel
theorem dL_law_998 : decode cL_law 998 = .ok (.iaload, 1) := by decide +kernel
theorem dL_law_999 : decode cL_law 999 = .ok (.invokevirtual 143, 3) := by decide +kernel
theorem dL_law_1002 : decode cL_law 1002 = .ok (.istore 7, 2) := by decide +kernel
theorem dL_law_1004 : decode cL_law 1004 = .ok (.aload_n 2, 1) := by decide +kernel
theorem dL_law_1005 : decode cL_law 1005 = .ok (.invokevirtual 93, 3) := by decide +kernel
theorem dL_law_1008 : decode cL_law 1008 = .ok (.iload 6, 2) := by decide +kernel
theorem dL_law_1010 : decode cL_law 1010 = .ok (.if_icmp .eq 5, 3) := by decide +kernel
theorem dL_law_1013 : decode cL_law 1013 = .ok (.iconst 0, 1) := by decide +kernel
theorem dL_law_1014 : decode cL_law 1014 = .ok (.ireturn, 1) := by decide +kernel
theorem dL_law_1015 : decode cL_law 1015 = .ok (.iload 6, 2) := by decide +kernel
theorem dL_law_1017 : decode cL_law 1017 = .ok (.ifCond .ne 15, 3) := by decide +kernel
theorem dL_law_1020 : decode cL_law 1020 = .ok (.aload_n 3, 1) := by decide +kernel
theorem dL_law_1021 : decode cL_law 1021 = .ok (.iconst 0, 1) := by decide +kernel
theorem dL_law_1022 : decode cL_law 1022 = .ok (.laload, 1) := by decide +kernel
theorem dL_law_1023 : decode cL_law 1023 = .ok (.iload 7, 2) := by decide +kernel
theorem dL_law_1025 : decode cL_law 1025 = .ok (.i2l, 1) := by decide +kernel
theorem dL_law_1026 : decode cL_law 1026 = .ok (.lcmp, 1) := by decide +kernel
theorem dL_law_1027 : decode cL_law 1027 = .ok (.ifCond .eq 5, 3) := by decide +kernel
theorem dL_law_1030 : decode cL_law 1030 = .ok (.iconst 0, 1) := by decide +kernel
theorem dL_law_1031 : decode cL_law 1031 = .ok (.ireturn, 1) := by decide +kernel
theorem dL_law_1032 : decode cL_law 1032 = .ok (.goto 473, 3) := by decide +kernel
theorem dL_law_1035 : decode cL_law 1035 = .ok (.aload_n 1, 1) := by decide +kernel
theorem dL_law_1036 : decode cL_law 1036 = .ok (.aload_n 0, 1) := by decide +kernel
theorem dL_law_1037 : decode cL_law 1037 = .ok (.iload 5, 2) := by decide +kernel
theorem dL_law_1039 : decode cL_law 1039 = .ok (.iconst 1, 1) := by decide +kernel
theorem dL_law_1040 : decode cL_law 1040 = .ok (.iadd, 1) := by decide +kernel
theorem dL_law_1041 : decode cL_law 1041 = .ok (.iaload, 1) := by decide +kernel
theorem dL_law_1042 : decode cL_law 1042 = .ok (.invokestatic 144, 3) := by decide +kernel
theorem dL_law_1045 : decode cL_law 1045 = .ok (.istore 6, 2) := by decide +kernel
theorem dL_law_1047 : decode cL_law 1047 = .ok (.aload_n 2, 1) := by decide +kernel
theorem dL_law_1048 : decode cL_law 1048 = .ok (.aload_n 0, 1) := by decide +kernel
theorem dL_law_1049 : decode cL_law 1049 = .ok (.iload 5, 2) := by decide +kernel
theorem dL_law_1051 : decode cL_law 1051 = .ok (.iconst 1, 1) := by decide +kernel
theorem dL_law_1052 : decode cL_law 1052 = .ok (.iadd, 1) := by decide +kernel
theorem dL_law_1053 : decode cL_law 1053 = .ok (.iaload, 1) := by decide +kernel
theorem dL_law_1054 : decode cL_law 1054 = .ok (.invokevirtual 147, 3) := by decide +kernel
theorem dL_law_1057 : decode cL_law 1057 = .ok (.aload_n 2, 1) := by decide +kernel
theorem dL_law_1058 : decode cL_law 1058 = .ok (.invokevirtual 93, 3) := by decide +kernel
theorem dL_law_1061 : decode cL_law 1061 = .ok (.iload 6, 2) := by decide +kernel
theorem dL_law_1063 : decode cL_law 1063 = .ok (.if_icmp .eq 5, 3) := by decide +kernel
theorem dL_law_1066 : decode cL_law 1066 = .ok (.iconst 0, 1) := by decide +kernel
theorem dL_law_1067 : decode cL_law 1067 = .ok (.ireturn, 1) := by decide +kernel
theorem dL_law_1068 : decode cL_law 1068 = .ok (.goto 437, 3) := by decide +kernel
theorem dL_law_1071 : decode cL_law 1071 = .ok (.aload_n 1, 1) := by decide +kernel
theorem dL_law_1072 : decode cL_law 1072 = .ok (.invokevirtual 148, 3) := by decide +kernel
theorem dL_law_1075 : decode cL_law 1075 = .ok (.aload_n 2, 1) := by decide +kernel
theorem dL_law_1076 : decode cL_law 1076 = .ok (.invokevirtual 151, 3) := by decide +kernel
theorem dL_law_1079 : decode cL_law 1079 = .ok (.if_icmp .eq 426, 3) := by decide +kernel
theorem dL_law_1082 : decode cL_law 1082 = .ok (.iconst 0, 1) := by decide +kernel
theorem dL_law_1083 : decode cL_law 1083 = .ok (.ireturn, 1) := by decide +kernel
theorem dL_law_1084 : decode cL_law 1084 = .ok (.aload_n 1, 1) := by decide +kernel
theorem dL_law_1085 : decode cL_law 1085 = .ok (.aload_n 0, 1) := by decide +kernel
theorem dL_law_1086 : decode cL_law 1086 = .ok (.iload 5, 2) := by decide +kernel
theorem dL_law_1088 : decode cL_law 1088 = .ok (.iconst 1, 1) := by decide +kernel
theorem dL_law_1089 : decode cL_law 1089 = .ok (.iadd, 1) := by decide +kernel
theorem dL_law_1090 : decode cL_law 1090 = .ok (.iaload, 1) := by decide +kernel
theorem dL_law_1091 : decode cL_law 1091 = .ok (.aload_n 3, 1) := by decide +kernel
theorem dL_law_1092 : decode cL_law 1092 = .ok (.invokestatic 152, 3) := by decide +kernel
theorem dL_law_1095 : decode cL_law 1095 = .ok (.istore 6, 2) := by decide +kernel
theorem dL_law_1097 : decode cL_law 1097 = .ok (.aload_n 2, 1) := by decide +kernel
theorem dL_law_1098 : decode cL_law 1098 = .ok (.aload_n 0, 1) := by decide +kernel
theorem dL_law_1099 : decode cL_law 1099 = .ok (.iload 5, 2) := by decide +kernel
theorem dL_law_1101 : decode cL_law 1101 = .ok (.iconst 1, 1) := by decide +kernel
theorem dL_law_1102 : decode cL_law 1102 = .ok (.iadd, 1) := by decide +kernel
theorem dL_law_1103 : decode cL_law 1103 = .ok (.iaload, 1) := by decide +kernel
theorem dL_law_1104 : decode cL_law 1104 = .ok (.invokevirtual 154, 3) := by decide +kernel
theorem dL_law_1107 : decode cL_law 1107 = .ok (.istore 7, 2) := by decide +kernel
theorem dL_law_1109 : decode cL_law 1109 = .ok (.aload_n 2, 1) := by decide +kernel
theorem dL_law_1110 : decode cL_law 1110 = .ok (.invokevirtual 93, 3) := by decide +kernel
theorem dL_law_1113 : decode cL_law 1113 = .ok (.iload 6, 2) := by decide +kernel
theorem dL_law_1115 : decode cL_law 1115 = .ok (.if_icmp .eq 5, 3) := by decide +kernel
theorem dL_law_1118 : decode cL_law 1118 = .ok (.iconst 0, 1) := by decide +kernel
theorem dL_law_1119 : decode cL_law 1119 = .ok (.ireturn, 1) := by decide +kernel
theorem dL_law_1120 : decode cL_law 1120 = .ok (.iload 6, 2) := by decide +kernel
theorem dL_law_1122 : decode cL_law 1122 = .ok (.ifCond .ne 22, 3) := by decide +kernel
theorem dL_law_1125 : decode cL_law 1125 = .ok (.aload_n 3, 1) := by decide +kernel
theorem dL_law_1126 : decode cL_law 1126 = .ok (.iconst 0, 1) := by decide +kernel
theorem dL_law_1127 : decode cL_law 1127 = .ok (.laload, 1) := by decide +kernel
theorem dL_law_1128 : decode cL_law 1128 = .ok (.iload 7, 2) := by decide +kernel
theorem dL_law_1130 : decode cL_law 1130 = .ok (.ifCond .eq 7, 3) := by decide +kernel
theorem dL_law_1133 : decode cL_law 1133 = .ok (.lconst 1, 1) := by decide +kernel
theorem dL_law_1134 : decode cL_law 1134 = .ok (.goto 4, 3) := by decide +kernel
theorem dL_law_1137 : decode cL_law 1137 = .ok (.lconst 0, 1) := by decide +kernel
theorem dL_law_1138 : decode cL_law 1138 = .ok (.lcmp, 1) := by decide +kernel
theorem dL_law_1139 : decode cL_law 1139 = .ok (.ifCond .eq 5, 3) := by decide +kernel
theorem dL_law_1142 : decode cL_law 1142 = .ok (.iconst 0, 1) := by decide +kernel
theorem dL_law_1143 : decode cL_law 1143 = .ok (.ireturn, 1) := by decide +kernel
theorem dL_law_1144 : decode cL_law 1144 = .ok (.goto 361, 3) := by decide +kernel
theorem dL_law_1147 : decode cL_law 1147 = .ok (.aload_n 1, 1) := by decide +kernel
theorem dL_law_1148 : decode cL_law 1148 = .ok (.aload_n 0, 1) := by decide +kernel
theorem dL_law_1149 : decode cL_law 1149 = .ok (.iload 5, 2) := by decide +kernel
theorem dL_law_1151 : decode cL_law 1151 = .ok (.iconst 1, 1) := by decide +kernel
theorem dL_law_1152 : decode cL_law 1152 = .ok (.iadd, 1) := by decide +kernel
theorem dL_law_1153 : decode cL_law 1153 = .ok (.iaload, 1) := by decide +kernel
theorem dL_law_1154 : decode cL_law 1154 = .ok (.aload_n 3, 1) := by decide +kernel
theorem dL_law_1155 : decode cL_law 1155 = .ok (.invokestatic 155, 3) := by decide +kernel
theorem dL_law_1158 : decode cL_law 1158 = .ok (.istore 6, 2) := by decide +kernel
theorem dL_law_1160 : decode cL_law 1160 = .ok (.aload_n 2, 1) := by decide +kernel
theorem dL_law_1161 : decode cL_law 1161 = .ok (.aload_n 0, 1) := by decide +kernel
theorem dL_law_1162 : decode cL_law 1162 = .ok (.iload 5, 2) := by decide +kernel
theorem dL_law_1164 : decode cL_law 1164 = .ok (.iconst 1, 1) := by decide +kernel
theorem dL_law_1165 : decode cL_law 1165 = .ok (.iadd, 1) := by decide +kernel
theorem dL_law_1166 : decode cL_law 1166 = .ok (.iaload, 1) := by decide +kernel
theorem dL_law_1167 : decode cL_law 1167 = .ok (.invokevirtual 157, 3) := by decide +kernel
theorem dL_law_1170 : decode cL_law 1170 = .ok (.istore 7, 2) := by decide +kernel
theorem dL_law_1172 : decode cL_law 1172 = .ok (.aload_n 2, 1) := by decide +kernel
theorem dL_law_1173 : decode cL_law 1173 = .ok (.invokevirtual 93, 3) := by decide +kernel
theorem dL_law_1176 : decode cL_law 1176 = .ok (.iload 6, 2) := by decide +kernel
theorem dL_law_1178 : decode cL_law 1178 = .ok (.if_icmp .eq 5, 3) := by decide +kernel
theorem dL_law_1181 : decode cL_law 1181 = .ok (.iconst 0, 1) := by decide +kernel
theorem dL_law_1182 : decode cL_law 1182 = .ok (.ireturn, 1) := by decide +kernel
theorem dL_law_1183 : decode cL_law 1183 = .ok (.iload 6, 2) := by decide +kernel
theorem dL_law_1185 : decode cL_law 1185 = .ok (.ifCond .ne 15, 3) := by decide +kernel
theorem dL_law_1188 : decode cL_law 1188 = .ok (.aload_n 3, 1) := by decide +kernel
theorem dL_law_1189 : decode cL_law 1189 = .ok (.iconst 0, 1) := by decide +kernel
theorem dL_law_1190 : decode cL_law 1190 = .ok (.laload, 1) := by decide +kernel
theorem dL_law_1191 : decode cL_law 1191 = .ok (.iload 7, 2) := by decide +kernel
theorem dL_law_1193 : decode cL_law 1193 = .ok (.i2l, 1) := by decide +kernel
theorem dL_law_1194 : decode cL_law 1194 = .ok (.lcmp, 1) := by decide +kernel
theorem dL_law_1195 : decode cL_law 1195 = .ok (.ifCond .eq 5, 3) := by decide +kernel
theorem dL_law_1198 : decode cL_law 1198 = .ok (.iconst 0, 1) := by decide +kernel
theorem dL_law_1199 : decode cL_law 1199 = .ok (.ireturn, 1) := by decide +kernel
theorem dL_law_1200 : decode cL_law 1200 = .ok (.goto 305, 3) := by decide +kernel
theorem dL_law_1203 : decode cL_law 1203 = .ok (.aload_n 1, 1) := by decide +kernel
theorem dL_law_1204 : decode cL_law 1204 = .ok (.aload_n 0, 1) := by decide +kernel
theorem dL_law_1205 : decode cL_law 1205 = .ok (.iload 5, 2) := by decide +kernel
theorem dL_law_1207 : decode cL_law 1207 = .ok (.iconst 1, 1) := by decide +kernel
theorem dL_law_1208 : decode cL_law 1208 = .ok (.iadd, 1) := by decide +kernel
theorem dL_law_1209 : decode cL_law 1209 = .ok (.iaload, 1) := by decide +kernel
theorem dL_law_1210 : decode cL_law 1210 = .ok (.aload_n 3, 1) := by decide +kernel
theorem dL_law_1211 : decode cL_law 1211 = .ok (.invokestatic 158, 3) := by decide +kernel
theorem dL_law_1214 : decode cL_law 1214 = .ok (.istore 6, 2) := by decide +kernel
theorem dL_law_1216 : decode cL_law 1216 = .ok (.aload_n 2, 1) := by decide +kernel
theorem dL_law_1217 : decode cL_law 1217 = .ok (.aload_n 0, 1) := by decide +kernel
theorem dL_law_1218 : decode cL_law 1218 = .ok (.iload 5, 2) := by decide +kernel
theorem dL_law_1220 : decode cL_law 1220 = .ok (.iconst 1, 1) := by decide +kernel
theorem dL_law_1221 : decode cL_law 1221 = .ok (.iadd, 1) := by decide +kernel
theorem dL_law_1222 : decode cL_law 1222 = .ok (.iaload, 1) := by decide +kernel
theorem dL_law_1223 : decode cL_law 1223 = .ok (.invokevirtual 160, 3) := by decide +kernel
theorem dL_law_1226 : decode cL_law 1226 = .ok (.istore 7, 2) := by decide +kernel
theorem dL_law_1228 : decode cL_law 1228 = .ok (.aload_n 2, 1) := by decide +kernel
theorem dL_law_1229 : decode cL_law 1229 = .ok (.invokevirtual 93, 3) := by decide +kernel
theorem dL_law_1232 : decode cL_law 1232 = .ok (.iload 6, 2) := by decide +kernel
theorem dL_law_1234 : decode cL_law 1234 = .ok (.if_icmp .eq 5, 3) := by decide +kernel
theorem dL_law_1237 : decode cL_law 1237 = .ok (.iconst 0, 1) := by decide +kernel
theorem dL_law_1238 : decode cL_law 1238 = .ok (.ireturn, 1) := by decide +kernel
theorem dL_law_1239 : decode cL_law 1239 = .ok (.iload 6, 2) := by decide +kernel
theorem dL_law_1241 : decode cL_law 1241 = .ok (.ifCond .ne 15, 3) := by decide +kernel
theorem dL_law_1244 : decode cL_law 1244 = .ok (.aload_n 3, 1) := by decide +kernel
theorem dL_law_1245 : decode cL_law 1245 = .ok (.iconst 0, 1) := by decide +kernel
theorem dL_law_1246 : decode cL_law 1246 = .ok (.laload, 1) := by decide +kernel
theorem dL_law_1247 : decode cL_law 1247 = .ok (.iload 7, 2) := by decide +kernel
theorem dL_law_1249 : decode cL_law 1249 = .ok (.i2l, 1) := by decide +kernel
theorem dL_law_1250 : decode cL_law 1250 = .ok (.lcmp, 1) := by decide +kernel
theorem dL_law_1251 : decode cL_law 1251 = .ok (.ifCond .eq 5, 3) := by decide +kernel
theorem dL_law_1254 : decode cL_law 1254 = .ok (.iconst 0, 1) := by decide +kernel
theorem dL_law_1255 : decode cL_law 1255 = .ok (.ireturn, 1) := by decide +kernel
theorem dL_law_1256 : decode cL_law 1256 = .ok (.goto 249, 3) := by decide +kernel
theorem dL_law_1259 : decode cL_law 1259 = .ok (.aload_n 1, 1) := by decide +kernel
theorem dL_law_1260 : decode cL_law 1260 = .ok (.aload_n 0, 1) := by decide +kernel
theorem dL_law_1261 : decode cL_law 1261 = .ok (.iload 5, 2) := by decide +kernel
theorem dL_law_1263 : decode cL_law 1263 = .ok (.iconst 1, 1) := by decide +kernel
theorem dL_law_1264 : decode cL_law 1264 = .ok (.iadd, 1) := by decide +kernel
theorem dL_law_1265 : decode cL_law 1265 = .ok (.iaload, 1) := by decide +kernel
theorem dL_law_1266 : decode cL_law 1266 = .ok (.aload_n 3, 1) := by decide +kernel
theorem dL_law_1267 : decode cL_law 1267 = .ok (.invokestatic 161, 3) := by decide +kernel
theorem dL_law_1270 : decode cL_law 1270 = .ok (.istore 6, 2) := by decide +kernel
theorem dL_law_1272 : decode cL_law 1272 = .ok (.aload_n 2, 1) := by decide +kernel
theorem dL_law_1273 : decode cL_law 1273 = .ok (.aload_n 0, 1) := by decide +kernel
theorem dL_law_1274 : decode cL_law 1274 = .ok (.iload 5, 2) := by decide +kernel
theorem dL_law_1276 : decode cL_law 1276 = .ok (.iconst 1, 1) := by decide +kernel
theorem dL_law_1277 : decode cL_law 1277 = .ok (.iadd, 1) := by decide +kernel
theorem dL_law_1278 : decode cL_law 1278 = .ok (.iaload, 1) := by decide +kernel
theorem dL_law_1279 : decode cL_law 1279 = .ok (.invokevirtual 163, 3) := by decide +kernel
theorem dL_law_1282 : decode cL_law 1282 = .ok (.istore 7, 2) := by decide +kernel
theorem dL_law_1284 : decode cL_law 1284 = .ok (.aload_n 2, 1) := by decide +kernel
theorem dL_law_1285 : decode cL_law 1285 = .ok (.invokevirtual 93, 3) := by decide +kernel
theorem dL_law_1288 : decode cL_law 1288 = .ok (.iload 6, 2) := by decide +kernel
theorem dL_law_1290 : decode cL_law 1290 = .ok (.if_icmp .eq 5, 3) := by decide +kernel
theorem dL_law_1293 : decode cL_law 1293 = .ok (.iconst 0, 1) := by decide +kernel
theorem dL_law_1294 : decode cL_law 1294 = .ok (.ireturn, 1) := by decide +kernel
theorem dL_law_1295 : decode cL_law 1295 = .ok (.iload 6, 2) := by decide +kernel
theorem dL_law_1297 : decode cL_law 1297 = .ok (.ifCond .ne 15, 3) := by decide +kernel
theorem dL_law_1300 : decode cL_law 1300 = .ok (.aload_n 3, 1) := by decide +kernel
theorem dL_law_1301 : decode cL_law 1301 = .ok (.iconst 0, 1) := by decide +kernel
theorem dL_law_1302 : decode cL_law 1302 = .ok (.laload, 1) := by decide +kernel
theorem dL_law_1303 : decode cL_law 1303 = .ok (.iload 7, 2) := by decide +kernel
theorem dL_law_1305 : decode cL_law 1305 = .ok (.i2l, 1) := by decide +kernel
theorem dL_law_1306 : decode cL_law 1306 = .ok (.lcmp, 1) := by decide +kernel
theorem dL_law_1307 : decode cL_law 1307 = .ok (.ifCond .eq 5, 3) := by decide +kernel
theorem dL_law_1310 : decode cL_law 1310 = .ok (.iconst 0, 1) := by decide +kernel
theorem dL_law_1311 : decode cL_law 1311 = .ok (.ireturn, 1) := by decide +kernel
theorem dL_law_1312 : decode cL_law 1312 = .ok (.goto 193, 3) := by decide +kernel
theorem dL_law_1315 : decode cL_law 1315 = .ok (.aload_n 1, 1) := by decide +kernel
theorem dL_law_1316 : decode cL_law 1316 = .ok (.aload_n 0, 1) := by decide +kernel
theorem dL_law_1317 : decode cL_law 1317 = .ok (.iload 5, 2) := by decide +kernel
theorem dL_law_1319 : decode cL_law 1319 = .ok (.iconst 1, 1) := by decide +kernel
theorem dL_law_1320 : decode cL_law 1320 = .ok (.iadd, 1) := by decide +kernel
theorem dL_law_1321 : decode cL_law 1321 = .ok (.iaload, 1) := by decide +kernel
theorem dL_law_1322 : decode cL_law 1322 = .ok (.aload_n 0, 1) := by decide +kernel
theorem dL_law_1323 : decode cL_law 1323 = .ok (.iload 5, 2) := by decide +kernel
theorem dL_law_1325 : decode cL_law 1325 = .ok (.iconst 2, 1) := by decide +kernel
theorem dL_law_1326 : decode cL_law 1326 = .ok (.iadd, 1) := by decide +kernel
theorem dL_law_1327 : decode cL_law 1327 = .ok (.iaload, 1) := by decide +kernel
theorem dL_law_1328 : decode cL_law 1328 = .ok (.aload_n 0, 1) := by decide +kernel
theorem dL_law_1329 : decode cL_law 1329 = .ok (.iload 5, 2) := by decide +kernel
theorem dL_law_1331 : decode cL_law 1331 = .ok (.iconst 3, 1) := by decide +kernel
theorem dL_law_1332 : decode cL_law 1332 = .ok (.iadd, 1) := by decide +kernel
theorem dL_law_1333 : decode cL_law 1333 = .ok (.iaload, 1) := by decide +kernel
theorem dL_law_1334 : decode cL_law 1334 = .ok (.aload_n 3, 1) := by decide +kernel
theorem dL_law_1335 : decode cL_law 1335 = .ok (.invokestatic 164, 3) := by decide +kernel
theorem dL_law_1338 : decode cL_law 1338 = .ok (.istore 6, 2) := by decide +kernel
theorem dL_law_1340 : decode cL_law 1340 = .ok (.aload_n 2, 1) := by decide +kernel
theorem dL_law_1341 : decode cL_law 1341 = .ok (.aload_n 0, 1) := by decide +kernel
theorem dL_law_1342 : decode cL_law 1342 = .ok (.iload 5, 2) := by decide +kernel
theorem dL_law_1344 : decode cL_law 1344 = .ok (.iconst 1, 1) := by decide +kernel
theorem dL_law_1345 : decode cL_law 1345 = .ok (.iadd, 1) := by decide +kernel
theorem dL_law_1346 : decode cL_law 1346 = .ok (.iaload, 1) := by decide +kernel
theorem dL_law_1347 : decode cL_law 1347 = .ok (.aload_n 0, 1) := by decide +kernel
theorem dL_law_1348 : decode cL_law 1348 = .ok (.iload 5, 2) := by decide +kernel
theorem dL_law_1350 : decode cL_law 1350 = .ok (.iconst 2, 1) := by decide +kernel
theorem dL_law_1351 : decode cL_law 1351 = .ok (.iadd, 1) := by decide +kernel
theorem dL_law_1352 : decode cL_law 1352 = .ok (.iaload, 1) := by decide +kernel
theorem dL_law_1353 : decode cL_law 1353 = .ok (.aload_n 0, 1) := by decide +kernel
theorem dL_law_1354 : decode cL_law 1354 = .ok (.iload 5, 2) := by decide +kernel
theorem dL_law_1356 : decode cL_law 1356 = .ok (.iconst 3, 1) := by decide +kernel
theorem dL_law_1357 : decode cL_law 1357 = .ok (.iadd, 1) := by decide +kernel
theorem dL_law_1358 : decode cL_law 1358 = .ok (.iaload, 1) := by decide +kernel
theorem dL_law_1359 : decode cL_law 1359 = .ok (.invokevirtual 166, 3) := by decide +kernel
theorem dL_law_1362 : decode cL_law 1362 = .ok (.istore 7, 2) := by decide +kernel
theorem dL_law_1364 : decode cL_law 1364 = .ok (.aload_n 2, 1) := by decide +kernel
theorem dL_law_1365 : decode cL_law 1365 = .ok (.invokevirtual 93, 3) := by decide +kernel
theorem dL_law_1368 : decode cL_law 1368 = .ok (.iload 6, 2) := by decide +kernel
theorem dL_law_1370 : decode cL_law 1370 = .ok (.if_icmp .eq 5, 3) := by decide +kernel
theorem dL_law_1373 : decode cL_law 1373 = .ok (.iconst 0, 1) := by decide +kernel
theorem dL_law_1374 : decode cL_law 1374 = .ok (.ireturn, 1) := by decide +kernel
theorem dL_law_1375 : decode cL_law 1375 = .ok (.iload 6, 2) := by decide +kernel
theorem dL_law_1377 : decode cL_law 1377 = .ok (.ifCond .ne 15, 3) := by decide +kernel
theorem dL_law_1380 : decode cL_law 1380 = .ok (.aload_n 3, 1) := by decide +kernel
theorem dL_law_1381 : decode cL_law 1381 = .ok (.iconst 0, 1) := by decide +kernel
theorem dL_law_1382 : decode cL_law 1382 = .ok (.laload, 1) := by decide +kernel
theorem dL_law_1383 : decode cL_law 1383 = .ok (.iload 7, 2) := by decide +kernel
theorem dL_law_1385 : decode cL_law 1385 = .ok (.i2l, 1) := by decide +kernel
theorem dL_law_1386 : decode cL_law 1386 = .ok (.lcmp, 1) := by decide +kernel
theorem dL_law_1387 : decode cL_law 1387 = .ok (.ifCond .eq 5, 3) := by decide +kernel
theorem dL_law_1390 : decode cL_law 1390 = .ok (.iconst 0, 1) := by decide +kernel
theorem dL_law_1391 : decode cL_law 1391 = .ok (.ireturn, 1) := by decide +kernel
theorem dL_law_1392 : decode cL_law 1392 = .ok (.goto 113, 3) := by decide +kernel
theorem dL_law_1395 : decode cL_law 1395 = .ok (.aload_n 1, 1) := by decide +kernel
theorem dL_law_1396 : decode cL_law 1396 = .ok (.aload_n 3, 1) := by decide +kernel
theorem dL_law_1397 : decode cL_law 1397 = .ok (.invokestatic 167, 3) := by decide +kernel
theorem dL_law_1400 : decode cL_law 1400 = .ok (.istore 6, 2) := by decide +kernel
theorem dL_law_1402 : decode cL_law 1402 = .ok (.aload_n 2, 1) := by decide +kernel
theorem dL_law_1403 : decode cL_law 1403 = .ok (.invokevirtual 170, 3) := by decide +kernel
theorem dL_law_1406 : decode cL_law 1406 = .ok (.istore 7, 2) := by decide +kernel
theorem dL_law_1408 : decode cL_law 1408 = .ok (.aload_n 2, 1) := by decide +kernel
theorem dL_law_1409 : decode cL_law 1409 = .ok (.invokevirtual 93, 3) := by decide +kernel
theorem dL_law_1412 : decode cL_law 1412 = .ok (.iload 6, 2) := by decide +kernel
theorem dL_law_1414 : decode cL_law 1414 = .ok (.if_icmp .eq 5, 3) := by decide +kernel
theorem dL_law_1417 : decode cL_law 1417 = .ok (.iconst 0, 1) := by decide +kernel
theorem dL_law_1418 : decode cL_law 1418 = .ok (.ireturn, 1) := by decide +kernel
theorem dL_law_1419 : decode cL_law 1419 = .ok (.iload 6, 2) := by decide +kernel
theorem dL_law_1421 : decode cL_law 1421 = .ok (.ifCond .ne 15, 3) := by decide +kernel
theorem dL_law_1424 : decode cL_law 1424 = .ok (.aload_n 3, 1) := by decide +kernel
theorem dL_law_1425 : decode cL_law 1425 = .ok (.iconst 0, 1) := by decide +kernel
theorem dL_law_1426 : decode cL_law 1426 = .ok (.laload, 1) := by decide +kernel
theorem dL_law_1427 : decode cL_law 1427 = .ok (.iload 7, 2) := by decide +kernel
theorem dL_law_1429 : decode cL_law 1429 = .ok (.i2l, 1) := by decide +kernel
theorem dL_law_1430 : decode cL_law 1430 = .ok (.lcmp, 1) := by decide +kernel
theorem dL_law_1431 : decode cL_law 1431 = .ok (.ifCond .eq 5, 3) := by decide +kernel
theorem dL_law_1434 : decode cL_law 1434 = .ok (.iconst 0, 1) := by decide +kernel
theorem dL_law_1435 : decode cL_law 1435 = .ok (.ireturn, 1) := by decide +kernel
theorem dL_law_1436 : decode cL_law 1436 = .ok (.goto 69, 3) := by decide +kernel
theorem dL_law_1439 : decode cL_law 1439 = .ok (.aload_n 1, 1) := by decide +kernel
theorem dL_law_1440 : decode cL_law 1440 = .ok (.aload 4, 2) := by decide +kernel
theorem dL_law_1442 : decode cL_law 1442 = .ok (.invokestatic 171, 3) := by decide +kernel
theorem dL_law_1445 : decode cL_law 1445 = .ok (.istore 6, 2) := by decide +kernel
theorem dL_law_1447 : decode cL_law 1447 = .ok (.aload_n 2, 1) := by decide +kernel
theorem dL_law_1448 : decode cL_law 1448 = .ok (.invokevirtual 174, 3) := by decide +kernel
theorem dL_law_1451 : decode cL_law 1451 = .ok (.fstore 7, 2) := by decide +kernel
theorem dL_law_1453 : decode cL_law 1453 = .ok (.aload_n 2, 1) := by decide +kernel
theorem dL_law_1454 : decode cL_law 1454 = .ok (.invokevirtual 93, 3) := by decide +kernel
theorem dL_law_1457 : decode cL_law 1457 = .ok (.iload 6, 2) := by decide +kernel
theorem dL_law_1459 : decode cL_law 1459 = .ok (.if_icmp .eq 5, 3) := by decide +kernel
theorem dL_law_1462 : decode cL_law 1462 = .ok (.iconst 0, 1) := by decide +kernel
theorem dL_law_1463 : decode cL_law 1463 = .ok (.ireturn, 1) := by decide +kernel
theorem dL_law_1464 : decode cL_law 1464 = .ok (.iload 6, 2) := by decide +kernel
theorem dL_law_1466 : decode cL_law 1466 = .ok (.ifCond .ne 36, 3) := by decide +kernel
theorem dL_law_1469 : decode cL_law 1469 = .ok (.aload 4, 2) := by decide +kernel
theorem dL_law_1471 : decode cL_law 1471 = .ok (.iconst 0, 1) := by decide +kernel
theorem dL_law_1472 : decode cL_law 1472 = .ok (.daload, 1) := by decide +kernel
theorem dL_law_1473 : decode cL_law 1473 = .ok (.fload 7, 2) := by decide +kernel
theorem dL_law_1475 : decode cL_law 1475 = .ok (.f2d, 1) := by decide +kernel
theorem dL_law_1476 : decode cL_law 1476 = .ok (.dcmp .l, 1) := by decide +kernel
theorem dL_law_1477 : decode cL_law 1477 = .ok (.ifCond .eq 25, 3) := by decide +kernel
theorem dL_law_1480 : decode cL_law 1480 = .ok (.aload 4, 2) := by decide +kernel
theorem dL_law_1482 : decode cL_law 1482 = .ok (.iconst 0, 1) := by decide +kernel
theorem dL_law_1483 : decode cL_law 1483 = .ok (.daload, 1) := by decide +kernel
theorem dL_law_1484 : decode cL_law 1484 = .ok (.aload 4, 2) := by decide +kernel
theorem dL_law_1486 : decode cL_law 1486 = .ok (.iconst 0, 1) := by decide +kernel
theorem dL_law_1487 : decode cL_law 1487 = .ok (.daload, 1) := by decide +kernel
theorem dL_law_1488 : decode cL_law 1488 = .ok (.dcmp .l, 1) := by decide +kernel
theorem dL_law_1489 : decode cL_law 1489 = .ok (.ifCond .eq 11, 3) := by decide +kernel
theorem dL_law_1492 : decode cL_law 1492 = .ok (.fload 7, 2) := by decide +kernel
theorem dL_law_1494 : decode cL_law 1494 = .ok (.fload 7, 2) := by decide +kernel
theorem dL_law_1496 : decode cL_law 1496 = .ok (.fcmp .l, 1) := by decide +kernel
theorem dL_law_1497 : decode cL_law 1497 = .ok (.ifCond .ne 5, 3) := by decide +kernel
theorem dL_law_1500 : decode cL_law 1500 = .ok (.iconst 0, 1) := by decide +kernel
theorem dL_law_1501 : decode cL_law 1501 = .ok (.ireturn, 1) := by decide +kernel
theorem dL_law_1502 : decode cL_law 1502 = .ok (.goto 3, 3) := by decide +kernel
theorem dL_law_1505 : decode cL_law 1505 = .ok (.iinc 5 5, 3) := by decide +kernel
theorem dL_law_1508 : decode cL_law 1508 = .ok (.goto (-1480), 3) := by decide +kernel
theorem dL_law_1511 : decode cL_law 1511 = .ok (.iconst 1, 1) := by decide +kernel
theorem dL_law_1512 : decode cL_law 1512 = .ok (.ireturn, 1) := by decide +kernel
end
section
theorem zz_last : True := trivial
end
