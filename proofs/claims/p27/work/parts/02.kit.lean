/-! THE ABSTRACT STATE: kinds K, columns C, operands O, recorded sums R (by number, from 1); versions V; values X (3*id+column); crashed cr; number of changes n; level lv; cursor cu; active ac; time tm; holder ho; lease end le -/
abbrev TS : Type := (Nat → Int32) × (Nat → Int32) × (Nat → Int32) × (Nat → Int32) × (Nat → Int32) × (Nat → Int32) × (Nat → Int32) × Nat × Nat × Nat × Int32 × Int32 × Int32 × Int32
abbrev tK (T : TS) : Nat → Int32 := T.1
abbrev tC (T : TS) : Nat → Int32 := T.2.1
abbrev tO (T : TS) : Nat → Int32 := T.2.2.1
abbrev tR (T : TS) : Nat → Int32 := T.2.2.2.1
abbrev tV (T : TS) : Nat → Int32 := T.2.2.2.2.1
abbrev tX (T : TS) : Nat → Int32 := T.2.2.2.2.2.1
abbrev tcr (T : TS) : Nat → Int32 := T.2.2.2.2.2.2.1
abbrev tn (T : TS) : Nat := T.2.2.2.2.2.2.2.1
abbrev tlv (T : TS) : Nat := T.2.2.2.2.2.2.2.2.1
abbrev tcu (T : TS) : Nat := T.2.2.2.2.2.2.2.2.2.1
abbrev tac (T : TS) : Int32 := T.2.2.2.2.2.2.2.2.2.2.1
abbrev ttm (T : TS) : Int32 := T.2.2.2.2.2.2.2.2.2.2.2.1
abbrev tho (T : TS) : Int32 := T.2.2.2.2.2.2.2.2.2.2.2.2.1
abbrev tle (T : TS) : Int32 := T.2.2.2.2.2.2.2.2.2.2.2.2.2
abbrev mkT (K : Nat → Int32) (C : Nat → Int32) (O : Nat → Int32) (R : Nat → Int32) (V : Nat → Int32) (X : Nat → Int32) (cr : Nat → Int32) (n : Nat) (lv : Nat) (cu : Nat) (ac : Int32) (tm : Int32) (ho : Int32) (le : Int32) : TS := (K, C, O, R, V, X, cr, n, lv, cu, ac, tm, ho, le)
abbrev uK (T : TS) (x : Nat → Int32) : TS := mkT x (tC T) (tO T) (tR T) (tV T) (tX T) (tcr T) (tn T) (tlv T) (tcu T) (tac T) (ttm T) (tho T) (tle T)
abbrev uC (T : TS) (x : Nat → Int32) : TS := mkT (tK T) x (tO T) (tR T) (tV T) (tX T) (tcr T) (tn T) (tlv T) (tcu T) (tac T) (ttm T) (tho T) (tle T)
abbrev uO (T : TS) (x : Nat → Int32) : TS := mkT (tK T) (tC T) x (tR T) (tV T) (tX T) (tcr T) (tn T) (tlv T) (tcu T) (tac T) (ttm T) (tho T) (tle T)
abbrev uR (T : TS) (x : Nat → Int32) : TS := mkT (tK T) (tC T) (tO T) x (tV T) (tX T) (tcr T) (tn T) (tlv T) (tcu T) (tac T) (ttm T) (tho T) (tle T)
abbrev uV (T : TS) (x : Nat → Int32) : TS := mkT (tK T) (tC T) (tO T) (tR T) x (tX T) (tcr T) (tn T) (tlv T) (tcu T) (tac T) (ttm T) (tho T) (tle T)
abbrev uX (T : TS) (x : Nat → Int32) : TS := mkT (tK T) (tC T) (tO T) (tR T) (tV T) x (tcr T) (tn T) (tlv T) (tcu T) (tac T) (ttm T) (tho T) (tle T)
abbrev ucr (T : TS) (x : Nat → Int32) : TS := mkT (tK T) (tC T) (tO T) (tR T) (tV T) (tX T) x (tn T) (tlv T) (tcu T) (tac T) (ttm T) (tho T) (tle T)
abbrev un (T : TS) (x : Nat) : TS := mkT (tK T) (tC T) (tO T) (tR T) (tV T) (tX T) (tcr T) x (tlv T) (tcu T) (tac T) (ttm T) (tho T) (tle T)
abbrev ulv (T : TS) (x : Nat) : TS := mkT (tK T) (tC T) (tO T) (tR T) (tV T) (tX T) (tcr T) (tn T) x (tcu T) (tac T) (ttm T) (tho T) (tle T)
abbrev ucu (T : TS) (x : Nat) : TS := mkT (tK T) (tC T) (tO T) (tR T) (tV T) (tX T) (tcr T) (tn T) (tlv T) x (tac T) (ttm T) (tho T) (tle T)
abbrev uac (T : TS) (x : Int32) : TS := mkT (tK T) (tC T) (tO T) (tR T) (tV T) (tX T) (tcr T) (tn T) (tlv T) (tcu T) x (ttm T) (tho T) (tle T)
abbrev utm (T : TS) (x : Int32) : TS := mkT (tK T) (tC T) (tO T) (tR T) (tV T) (tX T) (tcr T) (tn T) (tlv T) (tcu T) (tac T) x (tho T) (tle T)
abbrev uho (T : TS) (x : Int32) : TS := mkT (tK T) (tC T) (tO T) (tR T) (tV T) (tX T) (tcr T) (tn T) (tlv T) (tcu T) (tac T) (ttm T) x (tle T)
abbrev ule (T : TS) (x : Int32) : TS := mkT (tK T) (tC T) (tO T) (tR T) (tV T) (tX T) (tcr T) (tn T) (tlv T) (tcu T) (tac T) (ttm T) (tho T) x
/-- the component's cells: 0 the ledger, 1 its list, 2 its table, 3 its lock, 4 tried, 5-8 the list's arrays, 9 10 the table's, 11 the lock's -/
abbrev wC (a : Nat → Nat) (cy : Nat → ClassId) (T : TS) (tr : Nat → Int32) : va_W := [(a 0, .inr (3, [.ref (a 1), .ref (a 2), .ref (a 3), .ref (a 4), .int (nI (tlv T)), .int (tac T), .int (nI (tcu T))])), (a 1, .inr (0, [.ref (a 5), .ref (a 6), .ref (a 7), .ref (a 8), .int (nI (tn T))])), (a 2, .inr (2, [.ref (a 9), .ref (a 10)])), (a 3, .inr (1, [.ref (a 11), .int (ttm T), .int (tho T), .int (tle T)])), (a 4, .inl (cy 0, 3, .inl tr)), (a 5, .inl (cy 0, 12, .inl (fun j => tK T (j + 1)))), (a 6, .inl (cy 0, 12, .inl (fun j => tC T (j + 1)))), (a 7, .inl (cy 0, 12, .inl (fun j => tO T (j + 1)))), (a 8, .inl (cy 0, 12, .inl (fun j => tR T (j + 1)))), (a 9, .inl (cy 0, 120, .inl (tX T))), (a 10, .inl (cy 0, 40, .inl (tV T))), (a 11, .inl (cy 2, 4, .inl (tcr T)))]
/-- the reference's cells: 0 the object, 1-4 the changes' arrays, 5 versions, 6 values, 7 spare, 8 crashed -/
abbrev wM (b : Nat → Nat) (cy : Nat → ClassId) (T : TS) (rf : Int32) (sp : Nat → Int64) : va_W := [(b 0, .inr (4, [.int rf, .int (nI (tn T)), .ref (b 1), .ref (b 2), .ref (b 3), .ref (b 4), .int (nI (tlv T)), .int (tac T), .int (nI (tcu T)), .ref (b 5), .ref (b 6), .ref (b 7), .int (ttm T), .int (tho T), .int (tle T), .ref (b 8)])), (b 1, .inl (cy 0, 13, .inl (tK T))), (b 2, .inl (cy 0, 13, .inl (tC T))), (b 3, .inl (cy 0, 13, .inl (tO T))), (b 4, .inl (cy 0, 13, .inl (tR T))), (b 5, .inl (cy 0, 40, .inl (tV T))), (b 6, .inl (cy 0, 120, .inl (tX T))), (b 7, .inl (cy 1, 3, .inr (.inl sp))), (b 8, .inl (cy 2, 4, .inl (tcr T)))]
/-- ints, longs, booleans, doubles -/
abbrev tyA (cy : Nat → ClassId) : List (ClassId × FieldType) := [(cy 0, .int), (cy 2, .boolean)]

/-- the class's String constants, by their places -/
def mlS : List (Nat × String) := [(48, "there are 12 changes"), (68, "the change is running or being undone"), (97, "the row is present"), (124, "a version is 0 to 12"), (130, "a version is 0 up to the number of changes"), (140, "a change cannot be applied to the row, or undone on it"), (145, "a lease is 1 to 100 ticks"), (153, "another worker has the lock"), (167, "the worker has not crashed"), (173, "1 to 1000 ticks pass"), (178, "a change is running or being undone"), (180, "a done change has drifted"), (182, "no change is pending"), (190, "a change is being undone"), (195, "a batch is 1 to 40 ids"), (197, "a worker crashes behind 1 to 40 rows, or 0 for not at all"), (253, "a kind is 0 to 2"), (259, "the operand is out of range for the kind"), (261, "a column is 0 to 2"), (263, "an id is 0 to 39"), (269, "a value is -1000000000 to 1000000000"), (271, "a worker is 0 to 3"), (278, "there is no such change"), (281, "the row is absent"), (283, "the worker has crashed"), (285, "the worker does not have the lock"), (287, "no change is running or being undone"), (289, "no change is running and none is done"), (294, "the change that was done last has drifted")]
def ml_st (U : State) : Prop := ∀ q ∈ mlS, ∃ z : Nat, vk_R "Migrationledger" q.1 q.2 z U
theorem ml_st.warm {s U : State} (hW : s.WarmedH U.vm) (h : ml_st s) : ml_st U := fun q hq => by
  obtain ⟨z, hz⟩ := h q hq
  exact ⟨z, vk_R.warm hW hz⟩
theorem ml_st.same {u U : State} (hv : U.vm = u.vm) (h : ml_st u) : ml_st U := fun q hq => by
  obtain ⟨z, hz⟩ := h q hq
  exact ⟨z, vk_R.same hv hz⟩
abbrev eIA : String := "java/lang/IllegalArgumentException"
abbrev eIS : String := "java/lang/IllegalStateException"
abbrev eIB : String := "java/lang/IndexOutOfBoundsException"
/-- the three exceptions: each castable to itself, to no other -/
def ml_ca (U : State) : Prop := (va_Nw (.castable eIA eIA) U ∧ va_Nw (.castable eIS eIS) U ∧ va_Nw (.castable eIB eIB) U) ∧ (va_Nc eIS eIA U ∧ va_Nc eIB eIA U ∧ va_Nc eIS eIB U ∧ va_Nc eIB eIS U) ∧ (va_Nw (.declares ⟨"java/lang/RuntimeException", "<init>", "(Ljava/lang/String;)V"⟩) U ∧ va_Nw (.declares ⟨"java/lang/Exception", "<init>", "(Ljava/lang/String;)V"⟩) U ∧ va_Nw (.declares ⟨"java/lang/Throwable", "<init>", "(Ljava/lang/String;)V"⟩) U)
theorem ml_ca.warm {s U : State} (hW : s.WarmedH U.vm) (h : ml_ca s) : ml_ca U := ⟨⟨h.1.1.warmC hW, h.1.2.1.warmC hW, h.1.2.2.warmC hW⟩, ⟨h.2.1.1.moved hW.alike, h.2.1.2.1.moved hW.alike, h.2.1.2.2.1.moved hW.alike, h.2.1.2.2.2.moved hW.alike⟩, h.2.2.1.warmD hW, h.2.2.2.1.warmD hW, h.2.2.2.2.warmD hW⟩
theorem ml_ca.same {u U : State} (hv : U.vm = u.vm) (h : ml_ca u) : ml_ca U := ⟨⟨h.1.1.same rfl hv.symm, h.1.2.1.same rfl hv.symm, h.1.2.2.same rfl hv.symm⟩, by
  obtain ⟨-, ⟨h1, h2, h3, h4⟩, h5, h6, h7⟩ := h
  refine ⟨?_, h5.same rfl hv.symm, h6.same rfl hv.symm, h7.same rfl hv.symm⟩
  unfold va_Nc at h1 h2 h3 h4 ⊢
  rw [hv]
  exact ⟨h1, h2, h3, h4⟩⟩
/-- the words of a throw that don't ride in the methods' lists -/
def ml_ng (cls : String) : List Cond := [Cond.castable cls cls, .declares ⟨"java/lang/RuntimeException", "<init>", "(Ljava/lang/String;)V"⟩, .declares ⟨"java/lang/Exception", "<init>", "(Ljava/lang/String;)V"⟩, .declares ⟨"java/lang/Throwable", "<init>", "(Ljava/lang/String;)V"⟩]
/-- what a throw needs of the world around -/
def ml_eX (A : Nat → Prop) (U : State) (H : Heap) : Prop := vx_Zq Bundle.tN "UNASSIGNED_STACK" Bundle.steD A U H ∧ vx_Zq Bundle.tN "SUPPRESSED_SENTINEL" Bundle.listD A U H ∧ ml_st U ∧ ml_ca U
/-- the private members that nest mates use -/
def ml_N (U : State) : Prop := va_Nw (.methodLinkNest RX0 49 yX3_isTableValue "Migrationledger") U ∧ va_Nw (.methodLinkNest RX3 9 yX0_init "Migrationledger") U ∧ va_Nw (.methodLinkNest RX3 25 yX1_init "Migrationledger") U
theorem ml_N.warm {s U : State} (hW : s.WarmedH U.vm) (h : ml_N s) : ml_N U := ⟨h.1.warmM hW, h.2.1.warmM hW, h.2.2.warmM hW⟩
theorem ml_N.same {u U : State} (hv : U.vm = u.vm) (h : ml_N u) : ml_N U := ⟨h.1.same rfl hv.symm, h.2.1.same rfl hv.symm, h.2.2.same rfl hv.symm⟩
/-- the start of a method over the world ws -/
def ml_P (G : va_G) (cy : Nat → ClassId) (av : List Value) (ws : va_W) (sz : Nat) : Array Value → State → Prop := va_Pc av (fun U => U.heap.size = sz ∧ va_P G vwCl ws U.heap ∧ va_K G vwCl (tyA cy) U ∧ va_D (fun _ => True) ws ∧ ml_N U)
def ml_PX (G : va_G) (cy : Nat → ClassId) (av : List Value) (ws : va_W) (sz : Nat) : Array Value → State → Prop := va_Pc av (fun U => U.heap.size = sz ∧ va_P G vwCl ws U.heap ∧ va_K G vwCl (tyA cy) U ∧ va_D (fun _ => True) ws ∧ ml_N U ∧ ml_eX (va_A ws sz) U U.heap)
/-- the world behind it -/
def ml_B {σ : Type} (G : va_G) (cy : Nat → ClassId) (A : Nat → Prop) (w : σ → va_W) : σ → State → Prop := fun u t => va_P G vwCl (w u) t.heap ∧ va_K G vwCl (tyA cy) t ∧ va_D A (w u)
/-- the world behind a throw: as it was -/
def ml_XC (G : va_G) (cy : Nat → ClassId) (A : Nat → Prop) (ws : va_W) (px : String → Prop) : String → State → State → Prop := fun E st t => px E ∧ va_P G vwCl ws t.heap ∧ va_K G vwCl (tyA cy) t ∧ va_D A ws ∧ va_F A st t ∧ st.heap.size < t.heap.size
/-- .. or but for scratch cells -/
def ml_XE {σ : Type} (G : va_G) (cy : Nat → ClassId) (A : Nat → Prop) (w : σ → va_W) (px : String → Prop) : String → State → State → Prop := fun E st t => px E ∧ (∃ u, va_P G vwCl (w u) t.heap ∧ va_D A (w u)) ∧ va_K G vwCl (tyA cy) t ∧ va_F A st t ∧ st.heap.size < t.heap.size
theorem ml_blind {G : va_G} {cy : Nat → ClassId} {av : List Value} {ws : va_W} {sz : Nat} : FrameBlind (ml_P G cy av ws sz) := fun a U g mk q => by
  obtain ⟨q0, q1, qP, qK, qD, qZ⟩ := q
  exact ⟨q0, q1, qP, va_K.moved (u := U) (U := U.calling g mk a) (Vm.Alike.refl U.vm) qK, qD, ml_N.same (u := U) rfl qZ⟩
theorem ml_blindX {G : va_G} {cy : Nat → ClassId} {av : List Value} {ws : va_W} {sz : Nat} : FrameBlind (ml_PX G cy av ws sz) := fun a U g mk q => by
  obtain ⟨q0, q1, qP, qK, qD, qZ, qU, qN, qS, qC⟩ := q
  exact ⟨q0, q1, qP, va_K.moved (u := U) (U := U.calling g mk a) (Vm.Alike.refl U.vm) qK, qD, ml_N.same (u := U) rfl qZ, vx_Zq.moved (u := U) (U := U.calling g mk a) (Vm.Alike.refl U.vm) qU, vx_Zq.moved (u := U) (U := U.calling g mk a) (Vm.Alike.refl U.vm) qN, ml_st.same (u := U) rfl qS, ml_ca.same (u := U) rfl qC⟩
theorem ml_eX.at {A : Nat → Prop} {ws : va_W} {s U : State} {H : Heap} {locs : List Loc} (h : ml_eX A s s.heap) (hS : va_S A s.heap H locs) (hF : ∀ q, va_A ws H.size q → A q) (hU : U.heap = H) (hW : s.WarmedH U.vm) : ml_eX (va_A ws H.size) U U.heap := by
  obtain ⟨h1, h2, h3, h4⟩ := h
  rw [hU]
  exact ⟨vx_Zq.moved hW.alike ((h1.kept hS.2.1).narrow hF), vx_Zq.moved hW.alike ((h2.kept hS.2.1).narrow hF), h3.warm hW, h4.warm hW⟩
theorem ml_free {A0 : Nat → Prop} {ws : va_W} {H0 H : Heap} {locs : List Loc} (hD : va_D A0 ws) (hS : va_S A0 H0 H locs) (hA : ∀ q, H0.size ≤ q → A0 q) : ∀ q, va_A ws H.size q → A0 q := by
  intro q h
  rcases h with ⟨k, e, h⟩ | h
  · exact hD.2 k (q, e) h
  · exact hA q (Nat.le_trans hS.1 h)
/-! a method that may throw; what it makes is counted where it throws alone -/
def vy_Q (Qc : Array Value → State → Outcome → State → Prop) (XC : String → State → State → Prop) (mc ms : Nat) (free : Addr → Prop) : Array Value → State → Outcome → State → Prop := fun a st o t =>
  (Qc a st o t ∧ ∃ L, FrameEnd st o t L 0 0 ∧ ∀ q ∈ L, free q.base) ∨ ∃ q, o = .threw q ∧ vx_T XC st q t mc ms free
def vy_Met (l : Launch) (y : MethodName) (ws : List Cond) (rm : Room) (Pc : Array Value → State → Prop) (Qc : Array Value → State → Outcome → State → Prop) (XC : String → State → State → Prop) (mc ms : Nat) (free : Addr → Prop) : Prop :=
  MetFree l y (headSpec ws rm) Pc (fun _ _ _ _ _ => True) (vy_Q Qc XC mc ms free)
section VYB
variable {l : Launch} {R : Room} {p : Program} {e : Env} {below : List Frame} {s : State} {sargs : Array Value} {y : MethodName} {len W9 : Nat}
theorem vy_back {ws : List Cond} {rm : Room} {Pc : Array Value → State → Prop} {Qc : Array Value → State → Outcome → State → Prop} {XC : String → State → State → Prop} {mc ms : Nat} {free : Addr → Prop} {bytes : ByteArray} {maxL : Nat} {ret : Option FieldType}
    (hM : vy_Met l y ws rm Pc Qc XC mc ms free) (hblind : FrameBlind Pc) (hrc : rm.cells = mc) (hrs : rm.slots = ms)
    (hframes : rm.frames + 1 ≤ R.frames) (hlocals : W9 + (maxL + 11) + rm.locals ≤ R.locals)
    (hws : ∀ w ∈ ws, ∀ a' U, s.WarmedH U.vm → w.before a' U = true) (hcode : Cond.code y bytes maxL ret ∈ ws) (hinit : ∀ a' U, s.WarmedH U.vm → (Cond.initialized y.cls).before a' U = true) :
    vx_Back l R p e below s sargs y len W9 (PreOf R mc ms Pc) (PostOf Qc 0 0 free) (vx_Post XC mc ms free) := by
  intro m meth c A g ig mk a X hg hsize hdg hW hn hp
  have h1 : (headSpec ws rm).pre.before a A.U = true := atoms_intro fun w hw => hws w hw _ _ X.warmed
  have h2 : (Cond.code y bytes maxL ret).before a A.U = true := hws _ hcode _ _ X.warmed
  have h3 : (Cond.initialized y.cls).before a A.U = true := hinit _ _ X.warmed
  have h4 : A.cells + (headSpec ws rm).room.cells ≤ R.cells := by rw [show (headSpec ws rm).room.cells = mc from hrc]; exact hp.1
  have h5 : A.slots + (headSpec ws rm).room.slots ≤ R.slots := by rw [show (headSpec ws rm).room.slots = ms from hrs]; exact hp.2.1
  have hPc : Pc a (A.U.calling g mk a) := hblind _ _ _ _ hp.2.2
  obtain ⟨U, Ls, c0, s0⟩ := A
  dsimp only [Pt.U, Pt.locs, Pt.cells, Pt.slots] at h1 h2 h3 h4 h5 X hn hPc ⊢
  obtain ⟨methY, cY, hmY, hcY, -, hlY, -, -, -, -⟩ := Cond.code_spec hn h2
  obtain ⟨kY, hkY, -⟩ := className_of_methodNamed hn
  have hinitY : kY.init = .initialized := Cond.initialized_spec (findClass_of_methodNamed hn) hkY h3
  have h : At U g.method c below := by rw [hg]; exact X.here
  have hlocals9 : W9 + (maxL + 11) + (headSpec ws rm).room.locals ≤ R.locals := hlocals
  have happ : (headSpec ws rm).appliesLoose y e.platform (U.calling g mk a) = true :=
    Spec.appliesLoose_calling (g := g) h hdg hn hkY hinitY
      (X.room_calling (g := g) (R' := (headSpec ws rm).room) hsize hmY hcY hframes (by rw [hlY]; omega) h4 h5) h1
  obtain ⟨mid, hmid⟩ := h.above
  have hfr : (U.setTop g).frames = (.java g :: mid) ++ below := by rw [State.frames_setTop' g h.top, hmid]; rfl
  obtain ⟨o, s₂, hsteps, -, hend, hq⟩ := Steps.callFree hM p X.admits X.cas X.clock (acts := []) hfr happ hPc trivial
  have hq' : vy_Q Qc XC mc ms free a (U.calling g mk a) o s₂ := hq
  rw [State.frames_setTop' g h.top] at hend
  obtain ⟨g₀, hg0⟩ := Option.isSome_iff_exists.mp h.top
  obtain ⟨r, hr⟩ := State.topJava?_eq_some.mp hg0
  have hr' : (({ U with heap := s₂.heap, slotsUsed := s₂.slotsUsed } : State).setVm s₂.vm).frames = .java g₀ :: r := hr
  rcases hq' with ⟨hqc, L, hfe, hL⟩ | ⟨q, rfl, E, ce, L, hx, hce, hcv, hcl, hW₂, hsm, hL⟩
  · obtain ⟨⟨v, rfl⟩, hW₂, e2, q2, q3, q4, q5, q6⟩ := id hfe
    have e3 : s₂ = ({ (U.calling g mk a).setFrames s₂.frames with heap := s₂.heap, slotsUsed := s₂.slotsUsed } : State).setVm s₂.vm := by
      have : s₂ = ({ s₂ with vm := (U.calling g mk a).vm } : State).setVm s₂.vm := rfl
      rw [e2] at this
      exact this
    obtain ⟨c₂, i₂, len₂, hc₂, hd₂, hf₂⟩ := hend
    have hW' : U.WarmedH s₂.vm := hW₂
    have hcc : c₂ = c := by
      have h1 : s₂.code? g.method = U.code? g.method := by
        rw [State.code?_eq, State.code?_eq, hW'.alike.method?]
      exact Option.some.inj (hc₂.symm.trans (h1.trans h.code))
    subst hcc
    have hlen : len₂ = len := by rw [hdg] at hd₂; cases hd₂; rfl
    subst hlen
    have hs₂ : s₂ = (({ U with heap := s₂.heap, slotsUsed := s₂.slotsUsed } : State).setVm s₂.vm).setTop { g with pc := g.pc + len₂, stack := v.toList ++ g.stack } := by
      refine e3.trans ?_
      rw [hf₂, State.calling_eq h.top, State.setFrames_setFrames, State.setTop_of_frames _ hr', hr]
      rfl
    have hsame : U.sameButNew ({ U with heap := s₂.heap, slotsUsed := s₂.slotsUsed } : State) L 0 0 := by
      refine ⟨?_, q2, q3, q4, q5, q6⟩
      obtain ⟨t, ht, -⟩ := State.frames_cons hr
      show ({ U with heap := s₂.heap, slotsUsed := s₂.slotsUsed } : State) = { U.setFrames U.frames with heap := s₂.heap, slotsUsed := s₂.slotsUsed }
      rw [State.setFrames_self ht]
    subst hg
    refine Or.inl ⟨v, ⟨(({ U with heap := s₂.heap, slotsUsed := s₂.slotsUsed } : State).setVm s₂.vm), Ls ++ L, c0 + 0, s0 + 0⟩,
      ⟨X.admits, X.cas, X.clock, X.frames, X.room, X.hears, X.method, X.code, (X.here.setHeapUsed s₂.heap s₂.slotsUsed).setVm hW'.alike, X.tail, State.WarmedH.trans X.warmed hW', X.limits, X.bytes, X.same.trans (hsame.setVm s.vm)⟩,
      ⟨g, mk, s₂, L, rfl, rfl, hqc, rfl, hL, rfl, rfl⟩, ?_⟩
    show Steps p.tables e below _ ((({ U with heap := s₂.heap, slotsUsed := s₂.slotsUsed } : State).setVm s₂.vm).setTop { g with pc := g.pc + len₂, stack := v.toList ++ g.stack })
    rw [← hs₂]
    exact hsteps
  · obtain ⟨e2, q2, q3, q4, q5, q6⟩ := id hsm
    have e3 : s₂ = ({ (U.calling g mk a).setFrames s₂.frames with heap := s₂.heap, slotsUsed := s₂.slotsUsed } : State).setVm s₂.vm := by
      have : s₂ = ({ s₂ with vm := (U.calling g mk a).vm } : State).setVm s₂.vm := rfl
      rw [e2] at this
      exact this
    have hf₂ : s₂.frames = .throwing q :: .java g :: U.frames.tail := hend
    have hW' : U.WarmedH s₂.vm := hW₂
    have hs₂ : s₂ = ((({ U with heap := s₂.heap, slotsUsed := s₂.slotsUsed } : State).setVm s₂.vm).setTop g).pushFrame (.throwing q) := by
      refine e3.trans ?_
      rw [hf₂, State.calling_eq h.top, State.setFrames_setFrames, State.pushFrame, State.frames_setTop _ hr', State.setTop_of_frames _ hr', State.setFrames_setFrames, hr]
      rfl
    have hsame : U.sameButNew ({ U with heap := s₂.heap, slotsUsed := s₂.slotsUsed } : State) L mc ms := by
      refine ⟨?_, q2, q3, q4, q5, q6⟩
      obtain ⟨t, ht, -⟩ := State.frames_cons hr
      show ({ U with heap := s₂.heap, slotsUsed := s₂.slotsUsed } : State) = { U.setFrames U.frames with heap := s₂.heap, slotsUsed := s₂.slotsUsed }
      rw [State.setFrames_self ht]
    subst hg
    refine Or.inr ⟨q, ⟨(({ U with heap := s₂.heap, slotsUsed := s₂.slotsUsed } : State).setVm s₂.vm), Ls ++ L, c0 + mc, s0 + ms⟩,
      ⟨X.admits, X.cas, X.clock, X.frames, X.room, X.hears, X.method, X.code, (X.here.setHeapUsed s₂.heap s₂.slotsUsed).setVm hW'.alike, X.tail, State.WarmedH.trans X.warmed hW', X.limits, X.bytes, X.same.trans (hsame.setVm s.vm)⟩,
      ⟨g, mk, s₂, L, E, ce, rfl, rfl, hx, hce, hcv, hcl, rfl, hL, rfl, rfl⟩, ?_⟩
    show Steps p.tables e below _ (((({ U with heap := s₂.heap, slotsUsed := s₂.slotsUsed } : State).setVm s₂.vm).setTop g).pushFrame (.throwing q))
    rw [← hs₂]
    exact hsteps
end VYB
def vy_Run (p : Program) (l : Launch) (e : Env) (R : Room) (s : State) (m : MethodId) (args : Array Value) (below : List Frame) (meth : Method) (c : Code) (H : Heap) (locs : List Loc) (cells slots mc ms : Nat) (g : JFrame) (rest : List Value) (Qa : State → Outcome → State → Prop) (XC : String → State → State → Prop) (free : Addr → Prop) : Prop :=
  ∀ T : State, T.heap = H → Stand p l e R s m args below meth c T locs cells slots →
    (∃ (v : Option Value) (st₀ t T' : State) (L : List Loc), st₀.heap = H ∧ Stand p l e R s m args below meth c T' (locs ++ L) cells slots ∧ (∀ q ∈ L, free q.base) ∧ T'.heap = t.heap ∧ T'.vm = t.vm ∧ Qa st₀ (.returned v) t ∧
      Goes p e below T g T' { g with pc := g.pc + 3, stack := v.toList ++ rest }) ∨
    (∃ (q : Addr) (st₀ t T' : State) (L : List Loc) (E : String) (ce : Cell), st₀.heap = H ∧ Stand p l e R s m args below meth c T' (locs ++ L) (cells + mc) (slots + ms) ∧ (∀ z ∈ L, free z.base) ∧ T'.heap = t.heap ∧ T'.vm = t.vm ∧ XC E st₀ t ∧ t.heap[q]? = some ce ∧ ce.vm = .none ∧ s.vm.findClass E = some ce.cls ∧
      Steps p.tables e below (T.setTop g) ((T'.setTop { g with stack := rest }).pushFrame (.throwing q)))
section VYR
variable {p : Program} {l : Launch} {e : Env} {R : Room} {s : State} {m : MethodId} {args : Array Value} {below : List Frame} {meth : Method} {c : Code} {H : Heap} {locs : List Loc} {cells slots : Nat}
variable {y : MethodName} {bytes cc : ByteArray} {maxL nL mc ms n index : Nat} {ret : Option FieldType} {ws : List Cond} {rm : Room} {Pc : Array Value → State → Prop} {Qc : Array Value → State → Outcome → State → Prop} {XC : String → State → State → Prop} {free : Addr → Prop} {Ts : List Cond} {own C : String} {b : Addr} {As rest : List Value} {g : JFrame}
theorem vy_callBack (cb : CallB R s args own index y bytes maxL ret ws rm mc ms n) (hM : vy_Met l y ws rm Pc Qc XC mc ms free) (hbl : FrameBlind Pc) : vx_Back l R p e below s args y 3 8 (PreOf R mc ms Pc) (PostOf Qc 0 0 free) (vx_Post XC mc ms free) := by
  obtain ⟨hrc, hrs, hfr, hlo, hws, hcw, -, hini, -⟩ := cb
  exact vy_back (bytes := bytes) (maxL := maxL) (ret := ret) hM hbl hrc hrs hfr hlo hws hcw (fun a' U hW => word_at hW (Or.inl (by first | rfl | simp [Cond.onTables, Cond.keeps, Cond.steady])) hini)

theorem vy_runV (S : CallFix p m c cc nL s args Ts own) (hM : vy_Met l y ws rm Pc Qc XC mc ms free) (cw : CallW R s args own C index y bytes maxL ret ws rm mc ms n) (hp : PreV s H C b Pc As)
    (hg : g.method = m) (hn : As.length = n) (hsize : g.locals.size = nL) (hstack : g.stack = As.reverse ++ .ref b :: rest) (hW : 2 * g.monitorRoom + (rest.map fun v => v.category).sum ≤ 8) (hdg : decode cc g.pc = .ok (.invokevirtual index, 3)) (hf : cells + mc ≤ R.cells ∧ slots + ms ≤ R.slots) :
    vy_Run p l e R s m args below meth c H locs cells slots mc ms g rest (Qc (Value.ref b :: As).toArray) XC free := by
  have hK : vx_Back l R p e below s args y 3 8 (PreOf R mc ms Pc) (PostOf Qc 0 0 free) (vx_Post XC mc ms free) := vy_callBack cw.1 hM hp.1
  obtain ⟨⟨-, -, -, -, -, -, hcode, -, hy, hlen, hl⟩, hin, hse⟩ := cw
  obtain ⟨hx, hb, hml, ho, -⟩ := S
  obtain ⟨-, ⟨cellB, hcB, hoB, hclB⟩, hPc⟩ := hp
  intro T hT X
  rcases vx_callV X hx (C := C) (bytes := bytes) (maxL := maxL) (ret := ret) ho hl hin hse hcode hy hK (by rw [hT]; exact hcB) hoB hclB hg (hsize.trans hml.symm) (argsL := As) (rest := rest) (fun sig h => hn.trans (hlen sig h)) hstack hW (by rw [hb]; exact hdg)
    (fun vm₁ hW₁ => ⟨hf.1, hf.2, hPc (T.setVm vm₁) hT hW₁⟩) with ⟨v, vm₁, ⟨U', l2, c2, s2⟩, hW₁, X', ⟨g', mk, t, L, e1, e2, hq, h1, hL, h2, h3⟩, st⟩ | ⟨q, vm₁, ⟨U', l2, c2, s2⟩, hW₁, X', ⟨g', mk, t, L, E, ce, e1, e2, hq, hce, hcv, hcl, h1, hL, h2, h3⟩, st⟩
  · dsimp only [Pt.U, Pt.locs, Pt.cells, Pt.slots] at X' e1 e2 h1 h2 h3 st
    subst h1; subst h2; subst h3
    exact Or.inl ⟨v, (T.setVm vm₁).calling g' mk (Value.ref b :: As).toArray, t, U', L, hT, X', hL, e1, e2, hq, st⟩
  · dsimp only [Pt.U, Pt.locs, Pt.cells, Pt.slots] at X' e1 e2 h1 h2 h3 st hcl
    subst h1; subst h2; subst h3
    exact Or.inr ⟨q, (T.setVm vm₁).calling g' mk (Value.ref b :: As).toArray, t, U', L, E, ce, hT, X', hL, e1, e2, hq, hce, hcv, vx_cls hW₁ hcl, st⟩
theorem vy_runS (S : CallFix p m c cc nL s args Ts own) (hM : vy_Met l y ws rm Pc Qc XC mc ms free) (cw : CallB R s args own index y bytes maxL ret ws rm mc ms n ∧ (Cond.static y).before args s = true) (hp : PreS s H Pc As)
    (hg : g.method = m) (hn : As.length = n) (hsize : g.locals.size = nL) (hstack : g.stack = As.reverse ++ rest) (hW : 2 * g.monitorRoom + (rest.map fun v => v.category).sum ≤ 8) (hdg : decode cc g.pc = .ok (.invokestatic index, 3)) (hf : cells + mc ≤ R.cells ∧ slots + ms ≤ R.slots) :
    vy_Run p l e R s m args below meth c H locs cells slots mc ms g rest (Qc As.toArray) XC free := by
  have hK : vx_Back l R p e below s args y 3 8 (PreOf R mc ms Pc) (PostOf Qc 0 0 free) (vx_Post XC mc ms free) := vy_callBack cw.1 hM hp.1
  obtain ⟨⟨-, -, -, -, -, -, hcode, hini, hy, hlen, hl⟩, hstt⟩ := cw
  obtain ⟨hx, hb, hml, ho, -⟩ := S
  intro T hT X
  rcases vx_callS X hx (bytes := bytes) (maxL := maxL) (ret := ret) ho hl hstt hini hcode hy hK hg (hsize.trans hml.symm) (argsL := As) (rest := rest) (fun sig h => hn.trans (hlen sig h)) hstack hW (by rw [hb]; exact hdg)
    (fun vm₁ hW₁ => ⟨hf.1, hf.2, hp.2 (T.setVm vm₁) hT hW₁⟩) with ⟨v, vm₁, ⟨U', l2, c2, s2⟩, hW₁, X', ⟨g', mk, t, L, e1, e2, hq, h1, hL, h2, h3⟩, st⟩ | ⟨q, vm₁, ⟨U', l2, c2, s2⟩, hW₁, X', ⟨g', mk, t, L, E, ce, e1, e2, hq, hce, hcv, hcl, h1, hL, h2, h3⟩, st⟩
  · dsimp only [Pt.U, Pt.locs, Pt.cells, Pt.slots] at X' e1 e2 h1 h2 h3 st
    subst h1; subst h2; subst h3
    exact Or.inl ⟨v, (T.setVm vm₁).calling g' mk As.toArray, t, U', L, hT, X', hL, e1, e2, hq, st⟩
  · dsimp only [Pt.U, Pt.locs, Pt.cells, Pt.slots] at X' e1 e2 h1 h2 h3 st hcl
    subst h1; subst h2; subst h3
    exact Or.inr ⟨q, (T.setVm vm₁).calling g' mk As.toArray, t, U', L, E, ce, hT, X', hL, e1, e2, hq, hce, hcv, vx_cls hW₁ hcl, st⟩

end VYR
section MLC
variable {p : Program} {l : Launch} {e : Env} {R : Room} {s : State} {m : MethodId} {args : Array Value} {below : List Frame} {meth : Method} {c : Code} {H : Heap} {locs : List Loc} {cells slots : Nat} {Q : State → Prop}
variable {pc : Nat} {ls : Array Slot} {rest st0 : List Value} {a : Array Value} {A : Nat → Prop} {mc ms : Nat}
variable {G : va_G} {cy : Nat → ClassId} {ws : va_W} {cc bytes : ByteArray} {maxL nL n index : Nat} {ret : Option FieldType} {wy Ts : List Cond} {rm : Room} {own C : String} {y : MethodName} {b : Addr} {As : List Value}
/-- the premises of a callee -/
theorem ml_pre (hP : va_P G vwCl ws H) (hK : va_K G vwCl (tyA cy) s) (hD : va_D A ws) (hN : ml_N s) : PreS s H (ml_P G cy As ws H.size) As :=
  ⟨ml_blind, fun U hU hW => ⟨rfl, by rw [hU], by rw [hU]; exact hP, va_K.moved hW.alike hK, hD.weaken (fun _ _ _ _ => trivial), hN.warm hW⟩⟩
theorem ml_preX (hP : va_P G vwCl ws H) (hK : va_K G vwCl (tyA cy) s) (hD : va_D A ws) (hN : ml_N s) (hE : ml_eX A s s.heap) (hS : va_S A s.heap H locs) (hF : ∀ q, va_A ws H.size q → A q) : PreS s H (ml_PX G cy As ws H.size) As :=
  ⟨ml_blindX, fun U hU hW => ⟨rfl, by rw [hU], by rw [hU]; exact hP, va_K.moved hW.alike hK, hD.weaken (fun _ _ _ _ => trivial), hN.warm hW, hE.at hS hF hU hW⟩⟩

theorem ml_calli {σ : Type} {post : Int32 → σ → Prop} {w : σ → va_W} (hr : va_Run p l e R s m args below meth c H locs cells slots mc ms (F0 m pc ls st0) rest (va_Qi post (ml_B G cy (va_A ws H.size) w) (va_A ws H.size) a) (va_A ws H.size)) (hD : va_D A ws) (hS : va_S A s.heap H locs) (hA : ∀ q, s.heap.size ≤ q → A q)
    (kk : ∀ (r : Int32) (u : σ) (H1 : Heap) (locs1 : List Loc), post r u → va_P G vwCl (w u) H1 → va_D A (w u) → va_S A s.heap H1 locs1 → W p l e R s m args below meth c H1 locs1 (cells + mc) (slots + ms) Q (F0 m (pc + 3) ls (.int r :: rest))) : W p l e R s m args below meth c H locs cells slots Q (F0 m pc ls st0) := by
  have hF := ml_free hD hS hA
  refine va_calli hr hS (fun q _ h => hF q h) hF (fun r u t H1 locs1 ht hvm hw hB hz1 hk1 hS1 => ?_)
  obtain ⟨hP1, hK1, hD1⟩ := hB
  rw [ht] at hP1
  exact kk r u H1 locs1 hw hP1 (hD1.weaken (fun _ q _ h => hF q.1 h)) hS1
theorem vy_calli {σ : Type} {post : Int32 → σ → Prop} {w : σ → va_W} {px : String → Prop} (hr : vy_Run p l e R s m args below meth c H locs cells slots mc ms (F0 m pc ls st0) rest (va_Qi post (ml_B G cy (va_A ws H.size) w) (va_A ws H.size) a) (ml_XC G cy (va_A ws H.size) ws px) (va_A ws H.size)) (hD : va_D A ws) (hS : va_S A s.heap H locs) (hA : ∀ q, s.heap.size ≤ q → A q)
    (kx : ∀ (E : String) (ce : Cell) (q9 : Addr) (H1 : Heap) (locs1 : List Loc), H.size < H1.size → px E → va_P G vwCl ws H1 → va_D A ws → va_S A s.heap H1 locs1 → H1[q9]? = some ce → ce.vm = .none → s.vm.findClass E = some ce.cls → vx_W p l e R s m args below meth c H1 locs1 (cells + mc) (slots + ms) Q (F0 m pc ls rest) q9)
    (kk : ∀ (r : Int32) (u : σ) (H1 : Heap) (locs1 : List Loc), post r u → va_P G vwCl (w u) H1 → va_D A (w u) → va_S A s.heap H1 locs1 → W p l e R s m args below meth c H1 locs1 cells slots Q (F0 m (pc + 3) ls (.int r :: rest))) : W p l e R s m args below meth c H locs cells slots Q (F0 m pc ls st0) := by
  have hF := ml_free hD hS hA
  intro T hT X
  rcases hr T hT X with ⟨v, st₀, t, T', L, h0, X', hL, e1, e2, ⟨⟨r, u, hv, hp, hb⟩, hFr⟩, st⟩ | ⟨q, st₀, t, T', L, E, ce, h0, X', hL, e1, e2, ⟨hp, hP1, hK1, hD1, hFr, hz9⟩, hce, hcv, hcl, st⟩
  · cases hv
    obtain ⟨k1, k2, k3⟩ := vx_keep h0 e1 hS (fun q _ h => hF q h) hF hL hFr
    obtain ⟨hP1, hK1, hD1⟩ := hb
    obtain ⟨t2, a1, b1⟩ := kk r u T'.heap (locs ++ L) hp (by rw [e1]; exact hP1) (hD1.weaken (fun _ q _ h => hF q.1 h)) k3 T' rfl X'
    exact ⟨t2, st t2 a1, b1⟩
  · obtain ⟨k1, k2, k3⟩ := vx_keep h0 e1 hS (fun q _ h => hF q h) hF hL hFr
    obtain ⟨t2, a1, b1⟩ := kx E ce q T'.heap (locs ++ L) (by rw [e1, ← h0]; exact hz9) hp (by rw [e1]; exact hP1) (hD1.weaken (fun _ q _ h => hF q.1 h)) k3 (by rw [e1]; exact hce) hcv hcl T' rfl X'
    exact ⟨t2, st.trans a1, b1⟩
theorem ml_callf {σ : Type} {post : UInt32 → σ → Prop} {w : σ → va_W} (hr : va_Run p l e R s m args below meth c H locs cells slots mc ms (F0 m pc ls st0) rest (va_Qf post (ml_B G cy (va_A ws H.size) w) (va_A ws H.size) a) (va_A ws H.size)) (hD : va_D A ws) (hS : va_S A s.heap H locs) (hA : ∀ q, s.heap.size ≤ q → A q)
    (kk : ∀ (r : UInt32) (u : σ) (H1 : Heap) (locs1 : List Loc), post r u → va_P G vwCl (w u) H1 → va_D A (w u) → va_S A s.heap H1 locs1 → W p l e R s m args below meth c H1 locs1 (cells + mc) (slots + ms) Q (F0 m (pc + 3) ls (.float r :: rest))) : W p l e R s m args below meth c H locs cells slots Q (F0 m pc ls st0) := by
  have hF := ml_free hD hS hA
  refine va_callf hr hS (fun q _ h => hF q h) hF (fun r u t H1 locs1 ht hvm hw hB hz1 hk1 hS1 => ?_)
  obtain ⟨hP1, hK1, hD1⟩ := hB
  rw [ht] at hP1
  exact kk r u H1 locs1 hw hP1 (hD1.weaken (fun _ q _ h => hF q.1 h)) hS1
theorem vy_callf {σ : Type} {post : UInt32 → σ → Prop} {w : σ → va_W} {px : String → Prop} (hr : vy_Run p l e R s m args below meth c H locs cells slots mc ms (F0 m pc ls st0) rest (va_Qf post (ml_B G cy (va_A ws H.size) w) (va_A ws H.size) a) (ml_XC G cy (va_A ws H.size) ws px) (va_A ws H.size)) (hD : va_D A ws) (hS : va_S A s.heap H locs) (hA : ∀ q, s.heap.size ≤ q → A q)
    (kx : ∀ (E : String) (ce : Cell) (q9 : Addr) (H1 : Heap) (locs1 : List Loc), H.size < H1.size → px E → va_P G vwCl ws H1 → va_D A ws → va_S A s.heap H1 locs1 → H1[q9]? = some ce → ce.vm = .none → s.vm.findClass E = some ce.cls → vx_W p l e R s m args below meth c H1 locs1 (cells + mc) (slots + ms) Q (F0 m pc ls rest) q9)
    (kk : ∀ (r : UInt32) (u : σ) (H1 : Heap) (locs1 : List Loc), post r u → va_P G vwCl (w u) H1 → va_D A (w u) → va_S A s.heap H1 locs1 → W p l e R s m args below meth c H1 locs1 cells slots Q (F0 m (pc + 3) ls (.float r :: rest))) : W p l e R s m args below meth c H locs cells slots Q (F0 m pc ls st0) := by
  have hF := ml_free hD hS hA
  intro T hT X
  rcases hr T hT X with ⟨v, st₀, t, T', L, h0, X', hL, e1, e2, ⟨⟨r, u, hv, hp, hb⟩, hFr⟩, st⟩ | ⟨q, st₀, t, T', L, E, ce, h0, X', hL, e1, e2, ⟨hp, hP1, hK1, hD1, hFr, hz9⟩, hce, hcv, hcl, st⟩
  · cases hv
    obtain ⟨k1, k2, k3⟩ := vx_keep h0 e1 hS (fun q _ h => hF q h) hF hL hFr
    obtain ⟨hP1, hK1, hD1⟩ := hb
    obtain ⟨t2, a1, b1⟩ := kk r u T'.heap (locs ++ L) hp (by rw [e1]; exact hP1) (hD1.weaken (fun _ q _ h => hF q.1 h)) k3 T' rfl X'
    exact ⟨t2, st t2 a1, b1⟩
  · obtain ⟨k1, k2, k3⟩ := vx_keep h0 e1 hS (fun q _ h => hF q h) hF hL hFr
    obtain ⟨t2, a1, b1⟩ := kx E ce q T'.heap (locs ++ L) (by rw [e1, ← h0]; exact hz9) hp (by rw [e1]; exact hP1) (hD1.weaken (fun _ q _ h => hF q.1 h)) k3 (by rw [e1]; exact hce) hcv hcl T' rfl X'
    exact ⟨t2, st.trans a1, b1⟩
theorem ml_callv {σ : Type} {post : σ → Prop} {w : σ → va_W} (hr : va_Run p l e R s m args below meth c H locs cells slots mc ms (F0 m pc ls st0) rest (va_Qv post (ml_B G cy (va_A ws H.size) w) (va_A ws H.size) a) (va_A ws H.size)) (hD : va_D A ws) (hS : va_S A s.heap H locs) (hA : ∀ q, s.heap.size ≤ q → A q)
    (kk : ∀ (u : σ) (H1 : Heap) (locs1 : List Loc), post u → va_P G vwCl (w u) H1 → va_D A (w u) → va_S A s.heap H1 locs1 → W p l e R s m args below meth c H1 locs1 (cells + mc) (slots + ms) Q (F0 m (pc + 3) ls rest)) : W p l e R s m args below meth c H locs cells slots Q (F0 m pc ls st0) := by
  have hF := ml_free hD hS hA
  refine va_callv hr hS (fun q _ h => hF q h) hF (fun u t H1 locs1 ht hvm hw hB hz1 hk1 hS1 => ?_)
  obtain ⟨hP1, hK1, hD1⟩ := hB
  rw [ht] at hP1
  exact kk u H1 locs1 hw hP1 (hD1.weaken (fun _ q _ h => hF q.1 h)) hS1
theorem vy_callv {σ : Type} {post : σ → Prop} {w : σ → va_W} {px : String → Prop} (hr : vy_Run p l e R s m args below meth c H locs cells slots mc ms (F0 m pc ls st0) rest (va_Qv post (ml_B G cy (va_A ws H.size) w) (va_A ws H.size) a) (ml_XC G cy (va_A ws H.size) ws px) (va_A ws H.size)) (hD : va_D A ws) (hS : va_S A s.heap H locs) (hA : ∀ q, s.heap.size ≤ q → A q)
    (kx : ∀ (E : String) (ce : Cell) (q9 : Addr) (H1 : Heap) (locs1 : List Loc), H.size < H1.size → px E → va_P G vwCl ws H1 → va_D A ws → va_S A s.heap H1 locs1 → H1[q9]? = some ce → ce.vm = .none → s.vm.findClass E = some ce.cls → vx_W p l e R s m args below meth c H1 locs1 (cells + mc) (slots + ms) Q (F0 m pc ls rest) q9)
    (kk : ∀ (u : σ) (H1 : Heap) (locs1 : List Loc), post u → va_P G vwCl (w u) H1 → va_D A (w u) → va_S A s.heap H1 locs1 → W p l e R s m args below meth c H1 locs1 cells slots Q (F0 m (pc + 3) ls rest)) : W p l e R s m args below meth c H locs cells slots Q (F0 m pc ls st0) := by
  have hF := ml_free hD hS hA
  intro T hT X
  rcases hr T hT X with ⟨v, st₀, t, T', L, h0, X', hL, e1, e2, ⟨⟨u, hv, hp, hb⟩, hFr⟩, st⟩ | ⟨q, st₀, t, T', L, E, ce, h0, X', hL, e1, e2, ⟨hp, hP1, hK1, hD1, hFr, hz9⟩, hce, hcv, hcl, st⟩
  · cases hv
    obtain ⟨k1, k2, k3⟩ := vx_keep h0 e1 hS (fun q _ h => hF q h) hF hL hFr
    obtain ⟨hP1, hK1, hD1⟩ := hb
    obtain ⟨t2, a1, b1⟩ := kk u T'.heap (locs ++ L) hp (by rw [e1]; exact hP1) (hD1.weaken (fun _ q _ h => hF q.1 h)) k3 T' rfl X'
    exact ⟨t2, st t2 a1, b1⟩
  · obtain ⟨k1, k2, k3⟩ := vx_keep h0 e1 hS (fun q _ h => hF q h) hF hL hFr
    obtain ⟨t2, a1, b1⟩ := kx E ce q T'.heap (locs ++ L) (by rw [e1, ← h0]; exact hz9) hp (by rw [e1]; exact hP1) (hD1.weaken (fun _ q _ h => hF q.1 h)) k3 (by rw [e1]; exact hce) hcv hcl T' rfl X'
    exact ⟨t2, st.trans a1, b1⟩
/-! instance call and static call, of a method that doesn't throw (V, S) or may (xV, xS); the whole world goes along -/

theorem ml_Vi {σ : Type} {post : Int32 → σ → Prop} {w : σ → va_W} (S : CallFix p m c cc nL s args Ts own) (hM : Met l y wy rm (ml_P G cy (.ref b :: As) ws H.size) (va_Qi post (ml_B G cy (va_A ws H.size) w) (va_A ws H.size)) mc ms (va_A ws H.size)) (cw : CallW R s args own C index y bytes maxL ret wy rm mc ms n) (hrv : ∃ cell : Cell, H[b]? = some cell ∧ cell.vm.isStatics = false ∧ s.vm.findClass C = some cell.cls) (hP : va_P G vwCl ws H) (hK : va_K G vwCl (tyA cy) s) (hD : va_D A ws) (hS : va_S A s.heap H locs) (hN : ml_N s) (hA : ∀ q, s.heap.size ≤ q → A q)
    (hn : As.length = n) (hsize : ls.size = nL) (hW : (rest.map fun v => v.category).sum ≤ 8) (hdg : decode cc pc = .ok (.invokevirtual index, 3)) (hf : cells + mc ≤ R.cells ∧ slots + ms ≤ R.slots)
    (kk : ∀ (r : Int32) (u : σ) (H1 : Heap) (locs1 : List Loc), post r u → va_P G vwCl (w u) H1 → va_D A (w u) → va_S A s.heap H1 locs1 → W p l e R s m args below meth c H1 locs1 (cells + mc) (slots + ms) Q (F0 m (pc + 3) ls (.int r :: rest))) : W p l e R s m args below meth c H locs cells slots Q (F0 m pc ls (As.reverse ++ .ref b :: rest)) :=
  ml_calli (va_runV S hM cw ⟨(ml_pre (As := .ref b :: As) hP hK hD hN).1, hrv, (ml_pre (As := .ref b :: As) hP hK hD hN).2⟩ rfl hn hsize rfl (lv_room hW) hdg hf) hD hS hA kk
theorem ml_xVi {σ : Type} {post : Int32 → σ → Prop} {w : σ → va_W} {px : String → Prop} (S : CallFix p m c cc nL s args Ts own) (hM : vy_Met l y wy rm (ml_PX G cy (.ref b :: As) ws H.size) (va_Qi post (ml_B G cy (va_A ws H.size) w) (va_A ws H.size)) (ml_XC G cy (va_A ws H.size) ws px) mc ms (va_A ws H.size)) (cw : CallW R s args own C index y bytes maxL ret wy rm mc ms n) (hrv : ∃ cell : Cell, H[b]? = some cell ∧ cell.vm.isStatics = false ∧ s.vm.findClass C = some cell.cls) (hP : va_P G vwCl ws H) (hK : va_K G vwCl (tyA cy) s) (hD : va_D A ws) (hS : va_S A s.heap H locs) (hN : ml_N s) (hA : ∀ q, s.heap.size ≤ q → A q) (hE : ml_eX A s s.heap)
    (hn : As.length = n) (hsize : ls.size = nL) (hW : (rest.map fun v => v.category).sum ≤ 8) (hdg : decode cc pc = .ok (.invokevirtual index, 3)) (hf : cells + mc ≤ R.cells ∧ slots + ms ≤ R.slots)
    (kx : ∀ (E : String) (ce : Cell) (q9 : Addr) (H1 : Heap) (locs1 : List Loc), H.size < H1.size → px E → va_P G vwCl ws H1 → va_D A ws → va_S A s.heap H1 locs1 → H1[q9]? = some ce → ce.vm = .none → s.vm.findClass E = some ce.cls → vx_W p l e R s m args below meth c H1 locs1 (cells + mc) (slots + ms) Q (F0 m pc ls rest) q9)
    (kk : ∀ (r : Int32) (u : σ) (H1 : Heap) (locs1 : List Loc), post r u → va_P G vwCl (w u) H1 → va_D A (w u) → va_S A s.heap H1 locs1 → W p l e R s m args below meth c H1 locs1 cells slots Q (F0 m (pc + 3) ls (.int r :: rest))) : W p l e R s m args below meth c H locs cells slots Q (F0 m pc ls (As.reverse ++ .ref b :: rest)) :=
  vy_calli (vy_runV S hM cw ⟨(ml_preX (As := .ref b :: As) hP hK hD hN hE hS (ml_free hD hS hA)).1, hrv, (ml_preX (As := .ref b :: As) hP hK hD hN hE hS (ml_free hD hS hA)).2⟩ rfl hn hsize rfl (lv_room hW) hdg hf) hD hS hA kx kk
theorem ml_Si {σ : Type} {post : Int32 → σ → Prop} {w : σ → va_W} (S : CallFix p m c cc nL s args Ts own) (hM : Met l y wy rm (ml_P G cy As ws H.size) (va_Qi post (ml_B G cy (va_A ws H.size) w) (va_A ws H.size)) mc ms (va_A ws H.size)) (cw : CallB R s args own index y bytes maxL ret wy rm mc ms n ∧ (Cond.static y).before args s = true) (hP : va_P G vwCl ws H) (hK : va_K G vwCl (tyA cy) s) (hD : va_D A ws) (hS : va_S A s.heap H locs) (hN : ml_N s) (hA : ∀ q, s.heap.size ≤ q → A q)
    (hn : As.length = n) (hsize : ls.size = nL) (hW : (rest.map fun v => v.category).sum ≤ 8) (hdg : decode cc pc = .ok (.invokestatic index, 3)) (hf : cells + mc ≤ R.cells ∧ slots + ms ≤ R.slots)
    (kk : ∀ (r : Int32) (u : σ) (H1 : Heap) (locs1 : List Loc), post r u → va_P G vwCl (w u) H1 → va_D A (w u) → va_S A s.heap H1 locs1 → W p l e R s m args below meth c H1 locs1 (cells + mc) (slots + ms) Q (F0 m (pc + 3) ls (.int r :: rest))) : W p l e R s m args below meth c H locs cells slots Q (F0 m pc ls (As.reverse ++ rest)) :=
  ml_calli (va_runS S hM cw (ml_pre hP hK hD hN) rfl hn hsize rfl (lv_room hW) hdg hf) hD hS hA kk
theorem ml_xSi {σ : Type} {post : Int32 → σ → Prop} {w : σ → va_W} {px : String → Prop} (S : CallFix p m c cc nL s args Ts own) (hM : vy_Met l y wy rm (ml_PX G cy As ws H.size) (va_Qi post (ml_B G cy (va_A ws H.size) w) (va_A ws H.size)) (ml_XC G cy (va_A ws H.size) ws px) mc ms (va_A ws H.size)) (cw : CallB R s args own index y bytes maxL ret wy rm mc ms n ∧ (Cond.static y).before args s = true) (hP : va_P G vwCl ws H) (hK : va_K G vwCl (tyA cy) s) (hD : va_D A ws) (hS : va_S A s.heap H locs) (hN : ml_N s) (hA : ∀ q, s.heap.size ≤ q → A q) (hE : ml_eX A s s.heap)
    (hn : As.length = n) (hsize : ls.size = nL) (hW : (rest.map fun v => v.category).sum ≤ 8) (hdg : decode cc pc = .ok (.invokestatic index, 3)) (hf : cells + mc ≤ R.cells ∧ slots + ms ≤ R.slots)
    (kx : ∀ (E : String) (ce : Cell) (q9 : Addr) (H1 : Heap) (locs1 : List Loc), H.size < H1.size → px E → va_P G vwCl ws H1 → va_D A ws → va_S A s.heap H1 locs1 → H1[q9]? = some ce → ce.vm = .none → s.vm.findClass E = some ce.cls → vx_W p l e R s m args below meth c H1 locs1 (cells + mc) (slots + ms) Q (F0 m pc ls rest) q9)
    (kk : ∀ (r : Int32) (u : σ) (H1 : Heap) (locs1 : List Loc), post r u → va_P G vwCl (w u) H1 → va_D A (w u) → va_S A s.heap H1 locs1 → W p l e R s m args below meth c H1 locs1 cells slots Q (F0 m (pc + 3) ls (.int r :: rest))) : W p l e R s m args below meth c H locs cells slots Q (F0 m pc ls (As.reverse ++ rest)) :=
  vy_calli (vy_runS S hM cw (ml_preX hP hK hD hN hE hS (ml_free hD hS hA)) rfl hn hsize rfl (lv_room hW) hdg hf) hD hS hA kx kk
theorem ml_Vf {σ : Type} {post : UInt32 → σ → Prop} {w : σ → va_W} (S : CallFix p m c cc nL s args Ts own) (hM : Met l y wy rm (ml_P G cy (.ref b :: As) ws H.size) (va_Qf post (ml_B G cy (va_A ws H.size) w) (va_A ws H.size)) mc ms (va_A ws H.size)) (cw : CallW R s args own C index y bytes maxL ret wy rm mc ms n) (hrv : ∃ cell : Cell, H[b]? = some cell ∧ cell.vm.isStatics = false ∧ s.vm.findClass C = some cell.cls) (hP : va_P G vwCl ws H) (hK : va_K G vwCl (tyA cy) s) (hD : va_D A ws) (hS : va_S A s.heap H locs) (hN : ml_N s) (hA : ∀ q, s.heap.size ≤ q → A q)
    (hn : As.length = n) (hsize : ls.size = nL) (hW : (rest.map fun v => v.category).sum ≤ 8) (hdg : decode cc pc = .ok (.invokevirtual index, 3)) (hf : cells + mc ≤ R.cells ∧ slots + ms ≤ R.slots)
    (kk : ∀ (r : UInt32) (u : σ) (H1 : Heap) (locs1 : List Loc), post r u → va_P G vwCl (w u) H1 → va_D A (w u) → va_S A s.heap H1 locs1 → W p l e R s m args below meth c H1 locs1 (cells + mc) (slots + ms) Q (F0 m (pc + 3) ls (.float r :: rest))) : W p l e R s m args below meth c H locs cells slots Q (F0 m pc ls (As.reverse ++ .ref b :: rest)) :=
  ml_callf (va_runV S hM cw ⟨(ml_pre (As := .ref b :: As) hP hK hD hN).1, hrv, (ml_pre (As := .ref b :: As) hP hK hD hN).2⟩ rfl hn hsize rfl (lv_room hW) hdg hf) hD hS hA kk
theorem ml_xVf {σ : Type} {post : UInt32 → σ → Prop} {w : σ → va_W} {px : String → Prop} (S : CallFix p m c cc nL s args Ts own) (hM : vy_Met l y wy rm (ml_PX G cy (.ref b :: As) ws H.size) (va_Qf post (ml_B G cy (va_A ws H.size) w) (va_A ws H.size)) (ml_XC G cy (va_A ws H.size) ws px) mc ms (va_A ws H.size)) (cw : CallW R s args own C index y bytes maxL ret wy rm mc ms n) (hrv : ∃ cell : Cell, H[b]? = some cell ∧ cell.vm.isStatics = false ∧ s.vm.findClass C = some cell.cls) (hP : va_P G vwCl ws H) (hK : va_K G vwCl (tyA cy) s) (hD : va_D A ws) (hS : va_S A s.heap H locs) (hN : ml_N s) (hA : ∀ q, s.heap.size ≤ q → A q) (hE : ml_eX A s s.heap)
    (hn : As.length = n) (hsize : ls.size = nL) (hW : (rest.map fun v => v.category).sum ≤ 8) (hdg : decode cc pc = .ok (.invokevirtual index, 3)) (hf : cells + mc ≤ R.cells ∧ slots + ms ≤ R.slots)
    (kx : ∀ (E : String) (ce : Cell) (q9 : Addr) (H1 : Heap) (locs1 : List Loc), H.size < H1.size → px E → va_P G vwCl ws H1 → va_D A ws → va_S A s.heap H1 locs1 → H1[q9]? = some ce → ce.vm = .none → s.vm.findClass E = some ce.cls → vx_W p l e R s m args below meth c H1 locs1 (cells + mc) (slots + ms) Q (F0 m pc ls rest) q9)
    (kk : ∀ (r : UInt32) (u : σ) (H1 : Heap) (locs1 : List Loc), post r u → va_P G vwCl (w u) H1 → va_D A (w u) → va_S A s.heap H1 locs1 → W p l e R s m args below meth c H1 locs1 cells slots Q (F0 m (pc + 3) ls (.float r :: rest))) : W p l e R s m args below meth c H locs cells slots Q (F0 m pc ls (As.reverse ++ .ref b :: rest)) :=
  vy_callf (vy_runV S hM cw ⟨(ml_preX (As := .ref b :: As) hP hK hD hN hE hS (ml_free hD hS hA)).1, hrv, (ml_preX (As := .ref b :: As) hP hK hD hN hE hS (ml_free hD hS hA)).2⟩ rfl hn hsize rfl (lv_room hW) hdg hf) hD hS hA kx kk
theorem ml_Sf {σ : Type} {post : UInt32 → σ → Prop} {w : σ → va_W} (S : CallFix p m c cc nL s args Ts own) (hM : Met l y wy rm (ml_P G cy As ws H.size) (va_Qf post (ml_B G cy (va_A ws H.size) w) (va_A ws H.size)) mc ms (va_A ws H.size)) (cw : CallB R s args own index y bytes maxL ret wy rm mc ms n ∧ (Cond.static y).before args s = true) (hP : va_P G vwCl ws H) (hK : va_K G vwCl (tyA cy) s) (hD : va_D A ws) (hS : va_S A s.heap H locs) (hN : ml_N s) (hA : ∀ q, s.heap.size ≤ q → A q)
    (hn : As.length = n) (hsize : ls.size = nL) (hW : (rest.map fun v => v.category).sum ≤ 8) (hdg : decode cc pc = .ok (.invokestatic index, 3)) (hf : cells + mc ≤ R.cells ∧ slots + ms ≤ R.slots)
    (kk : ∀ (r : UInt32) (u : σ) (H1 : Heap) (locs1 : List Loc), post r u → va_P G vwCl (w u) H1 → va_D A (w u) → va_S A s.heap H1 locs1 → W p l e R s m args below meth c H1 locs1 (cells + mc) (slots + ms) Q (F0 m (pc + 3) ls (.float r :: rest))) : W p l e R s m args below meth c H locs cells slots Q (F0 m pc ls (As.reverse ++ rest)) :=
  ml_callf (va_runS S hM cw (ml_pre hP hK hD hN) rfl hn hsize rfl (lv_room hW) hdg hf) hD hS hA kk
theorem ml_xSf {σ : Type} {post : UInt32 → σ → Prop} {w : σ → va_W} {px : String → Prop} (S : CallFix p m c cc nL s args Ts own) (hM : vy_Met l y wy rm (ml_PX G cy As ws H.size) (va_Qf post (ml_B G cy (va_A ws H.size) w) (va_A ws H.size)) (ml_XC G cy (va_A ws H.size) ws px) mc ms (va_A ws H.size)) (cw : CallB R s args own index y bytes maxL ret wy rm mc ms n ∧ (Cond.static y).before args s = true) (hP : va_P G vwCl ws H) (hK : va_K G vwCl (tyA cy) s) (hD : va_D A ws) (hS : va_S A s.heap H locs) (hN : ml_N s) (hA : ∀ q, s.heap.size ≤ q → A q) (hE : ml_eX A s s.heap)
    (hn : As.length = n) (hsize : ls.size = nL) (hW : (rest.map fun v => v.category).sum ≤ 8) (hdg : decode cc pc = .ok (.invokestatic index, 3)) (hf : cells + mc ≤ R.cells ∧ slots + ms ≤ R.slots)
    (kx : ∀ (E : String) (ce : Cell) (q9 : Addr) (H1 : Heap) (locs1 : List Loc), H.size < H1.size → px E → va_P G vwCl ws H1 → va_D A ws → va_S A s.heap H1 locs1 → H1[q9]? = some ce → ce.vm = .none → s.vm.findClass E = some ce.cls → vx_W p l e R s m args below meth c H1 locs1 (cells + mc) (slots + ms) Q (F0 m pc ls rest) q9)
    (kk : ∀ (r : UInt32) (u : σ) (H1 : Heap) (locs1 : List Loc), post r u → va_P G vwCl (w u) H1 → va_D A (w u) → va_S A s.heap H1 locs1 → W p l e R s m args below meth c H1 locs1 cells slots Q (F0 m (pc + 3) ls (.float r :: rest))) : W p l e R s m args below meth c H locs cells slots Q (F0 m pc ls (As.reverse ++ rest)) :=
  vy_callf (vy_runS S hM cw (ml_preX hP hK hD hN hE hS (ml_free hD hS hA)) rfl hn hsize rfl (lv_room hW) hdg hf) hD hS hA kx kk
theorem ml_Vv {σ : Type} {post : σ → Prop} {w : σ → va_W} (S : CallFix p m c cc nL s args Ts own) (hM : Met l y wy rm (ml_P G cy (.ref b :: As) ws H.size) (va_Qv post (ml_B G cy (va_A ws H.size) w) (va_A ws H.size)) mc ms (va_A ws H.size)) (cw : CallW R s args own C index y bytes maxL ret wy rm mc ms n) (hrv : ∃ cell : Cell, H[b]? = some cell ∧ cell.vm.isStatics = false ∧ s.vm.findClass C = some cell.cls) (hP : va_P G vwCl ws H) (hK : va_K G vwCl (tyA cy) s) (hD : va_D A ws) (hS : va_S A s.heap H locs) (hN : ml_N s) (hA : ∀ q, s.heap.size ≤ q → A q)
    (hn : As.length = n) (hsize : ls.size = nL) (hW : (rest.map fun v => v.category).sum ≤ 8) (hdg : decode cc pc = .ok (.invokevirtual index, 3)) (hf : cells + mc ≤ R.cells ∧ slots + ms ≤ R.slots)
    (kk : ∀ (u : σ) (H1 : Heap) (locs1 : List Loc), post u → va_P G vwCl (w u) H1 → va_D A (w u) → va_S A s.heap H1 locs1 → W p l e R s m args below meth c H1 locs1 (cells + mc) (slots + ms) Q (F0 m (pc + 3) ls rest)) : W p l e R s m args below meth c H locs cells slots Q (F0 m pc ls (As.reverse ++ .ref b :: rest)) :=
  ml_callv (va_runV S hM cw ⟨(ml_pre (As := .ref b :: As) hP hK hD hN).1, hrv, (ml_pre (As := .ref b :: As) hP hK hD hN).2⟩ rfl hn hsize rfl (lv_room hW) hdg hf) hD hS hA kk
theorem ml_xVv {σ : Type} {post : σ → Prop} {w : σ → va_W} {px : String → Prop} (S : CallFix p m c cc nL s args Ts own) (hM : vy_Met l y wy rm (ml_PX G cy (.ref b :: As) ws H.size) (va_Qv post (ml_B G cy (va_A ws H.size) w) (va_A ws H.size)) (ml_XC G cy (va_A ws H.size) ws px) mc ms (va_A ws H.size)) (cw : CallW R s args own C index y bytes maxL ret wy rm mc ms n) (hrv : ∃ cell : Cell, H[b]? = some cell ∧ cell.vm.isStatics = false ∧ s.vm.findClass C = some cell.cls) (hP : va_P G vwCl ws H) (hK : va_K G vwCl (tyA cy) s) (hD : va_D A ws) (hS : va_S A s.heap H locs) (hN : ml_N s) (hA : ∀ q, s.heap.size ≤ q → A q) (hE : ml_eX A s s.heap)
    (hn : As.length = n) (hsize : ls.size = nL) (hW : (rest.map fun v => v.category).sum ≤ 8) (hdg : decode cc pc = .ok (.invokevirtual index, 3)) (hf : cells + mc ≤ R.cells ∧ slots + ms ≤ R.slots)
    (kx : ∀ (E : String) (ce : Cell) (q9 : Addr) (H1 : Heap) (locs1 : List Loc), H.size < H1.size → px E → va_P G vwCl ws H1 → va_D A ws → va_S A s.heap H1 locs1 → H1[q9]? = some ce → ce.vm = .none → s.vm.findClass E = some ce.cls → vx_W p l e R s m args below meth c H1 locs1 (cells + mc) (slots + ms) Q (F0 m pc ls rest) q9)
    (kk : ∀ (u : σ) (H1 : Heap) (locs1 : List Loc), post u → va_P G vwCl (w u) H1 → va_D A (w u) → va_S A s.heap H1 locs1 → W p l e R s m args below meth c H1 locs1 cells slots Q (F0 m (pc + 3) ls rest)) : W p l e R s m args below meth c H locs cells slots Q (F0 m pc ls (As.reverse ++ .ref b :: rest)) :=
  vy_callv (vy_runV S hM cw ⟨(ml_preX (As := .ref b :: As) hP hK hD hN hE hS (ml_free hD hS hA)).1, hrv, (ml_preX (As := .ref b :: As) hP hK hD hN hE hS (ml_free hD hS hA)).2⟩ rfl hn hsize rfl (lv_room hW) hdg hf) hD hS hA kx kk
theorem ml_Sv {σ : Type} {post : σ → Prop} {w : σ → va_W} (S : CallFix p m c cc nL s args Ts own) (hM : Met l y wy rm (ml_P G cy As ws H.size) (va_Qv post (ml_B G cy (va_A ws H.size) w) (va_A ws H.size)) mc ms (va_A ws H.size)) (cw : CallB R s args own index y bytes maxL ret wy rm mc ms n ∧ (Cond.static y).before args s = true) (hP : va_P G vwCl ws H) (hK : va_K G vwCl (tyA cy) s) (hD : va_D A ws) (hS : va_S A s.heap H locs) (hN : ml_N s) (hA : ∀ q, s.heap.size ≤ q → A q)
    (hn : As.length = n) (hsize : ls.size = nL) (hW : (rest.map fun v => v.category).sum ≤ 8) (hdg : decode cc pc = .ok (.invokestatic index, 3)) (hf : cells + mc ≤ R.cells ∧ slots + ms ≤ R.slots)
    (kk : ∀ (u : σ) (H1 : Heap) (locs1 : List Loc), post u → va_P G vwCl (w u) H1 → va_D A (w u) → va_S A s.heap H1 locs1 → W p l e R s m args below meth c H1 locs1 (cells + mc) (slots + ms) Q (F0 m (pc + 3) ls rest)) : W p l e R s m args below meth c H locs cells slots Q (F0 m pc ls (As.reverse ++ rest)) :=
  ml_callv (va_runS S hM cw (ml_pre hP hK hD hN) rfl hn hsize rfl (lv_room hW) hdg hf) hD hS hA kk
theorem ml_xSv {σ : Type} {post : σ → Prop} {w : σ → va_W} {px : String → Prop} (S : CallFix p m c cc nL s args Ts own) (hM : vy_Met l y wy rm (ml_PX G cy As ws H.size) (va_Qv post (ml_B G cy (va_A ws H.size) w) (va_A ws H.size)) (ml_XC G cy (va_A ws H.size) ws px) mc ms (va_A ws H.size)) (cw : CallB R s args own index y bytes maxL ret wy rm mc ms n ∧ (Cond.static y).before args s = true) (hP : va_P G vwCl ws H) (hK : va_K G vwCl (tyA cy) s) (hD : va_D A ws) (hS : va_S A s.heap H locs) (hN : ml_N s) (hA : ∀ q, s.heap.size ≤ q → A q) (hE : ml_eX A s s.heap)
    (hn : As.length = n) (hsize : ls.size = nL) (hW : (rest.map fun v => v.category).sum ≤ 8) (hdg : decode cc pc = .ok (.invokestatic index, 3)) (hf : cells + mc ≤ R.cells ∧ slots + ms ≤ R.slots)
    (kx : ∀ (E : String) (ce : Cell) (q9 : Addr) (H1 : Heap) (locs1 : List Loc), H.size < H1.size → px E → va_P G vwCl ws H1 → va_D A ws → va_S A s.heap H1 locs1 → H1[q9]? = some ce → ce.vm = .none → s.vm.findClass E = some ce.cls → vx_W p l e R s m args below meth c H1 locs1 (cells + mc) (slots + ms) Q (F0 m pc ls rest) q9)
    (kk : ∀ (u : σ) (H1 : Heap) (locs1 : List Loc), post u → va_P G vwCl (w u) H1 → va_D A (w u) → va_S A s.heap H1 locs1 → W p l e R s m args below meth c H1 locs1 cells slots Q (F0 m (pc + 3) ls rest)) : W p l e R s m args below meth c H locs cells slots Q (F0 m pc ls (As.reverse ++ rest)) :=
  vy_callv (vy_runS S hM cw (ml_preX hP hK hD hN hE hS (ml_free hD hS hA)) rfl hn hsize rfl (lv_room hW) hdg hf) hD hS hA kx kk
theorem ml_Iv {σ : Type} {post : σ → Prop} {w : σ → va_W} (S : CallFix p m c cc nL s args Ts own) (hM : Met l y wy rm (ml_P G cy (.ref b :: As) ws H.size) (va_Qv post (ml_B G cy (va_A ws H.size) w) (va_A ws H.size)) mc ms (va_A ws H.size)) (cw : CallB R s args own index y bytes maxL none wy rm mc ms n ∧ y.name = "<init>" ∧ (Cond.instanceMethod y).before args s = true) (hP : va_P G vwCl ws H) (hK : va_K G vwCl (tyA cy) s) (hD : va_D A ws) (hS : va_S A s.heap H locs) (hN : ml_N s) (hA : ∀ q, s.heap.size ≤ q → A q)
    (hn : As.length = n) (hsize : ls.size = nL) (hW : (rest.map fun v => v.category).sum ≤ 8) (hdg : decode cc pc = .ok (.invokespecial index, 3)) (hf : cells + mc ≤ R.cells ∧ slots + ms ≤ R.slots)
    (kk : ∀ (u : σ) (H1 : Heap) (locs1 : List Loc), post u → va_P G vwCl (w u) H1 → va_D A (w u) → va_S A s.heap H1 locs1 → W p l e R s m args below meth c H1 locs1 (cells + mc) (slots + ms) Q (F0 m (pc + 3) ls rest)) : W p l e R s m args below meth c H locs cells slots Q (F0 m pc ls (As.reverse ++ .ref b :: rest)) :=
  ml_callv (va_runI S hM cw (ml_pre (As := .ref b :: As) hP hK hD hN) rfl hn hsize rfl (lv_room hW) hdg hf) hD hS hA kk
theorem ml_SNi {host : String} {σ : Type} {post : Int32 → σ → Prop} {w : σ → va_W} (S : CallFix p m c cc nL s args Ts own) (hM : Met l y wy rm (ml_P G cy As ws H.size) (va_Qi post (ml_B G cy (va_A ws H.size) w) (va_A ws H.size)) mc ms (va_A ws H.size)) (cw : va_CN R s args own index y host bytes maxL ret wy rm mc ms n ∧ (Cond.static y).before args s = true ∧ True) (hP : va_P G vwCl ws H) (hK : va_K G vwCl (tyA cy) s) (hD : va_D A ws) (hS : va_S A s.heap H locs) (hN : ml_N s) (hA : ∀ q, s.heap.size ≤ q → A q)
    (hn : As.length = n) (hsize : ls.size = nL) (hW : (rest.map fun v => v.category).sum ≤ 8) (hdg : decode cc pc = .ok (.invokestatic index, 3)) (hf : cells + mc ≤ R.cells ∧ slots + ms ≤ R.slots)
    (kk : ∀ (r : Int32) (u : σ) (H1 : Heap) (locs1 : List Loc), post r u → va_P G vwCl (w u) H1 → va_D A (w u) → va_S A s.heap H1 locs1 → W p l e R s m args below meth c H1 locs1 (cells + mc) (slots + ms) Q (F0 m (pc + 3) ls (.int r :: rest))) : W p l e R s m args below meth c H locs cells slots Q (F0 m pc ls (As.reverse ++ rest)) :=
  ml_calli (va_runSN S hM cw (ml_pre hP hK hD hN) rfl hn hsize rfl (lv_room hW) hdg hf) hD hS hA kk
end MLC
section VYT
variable {p : Program} {l : Launch} {e : Env} {R : Room} {s : State} {m : MethodId} {args : Array Value} {below : List Frame} {meth : Method} {c : Code} {H : Heap} {locs : List Loc} {cells slots : Nat} {Q : State → Prop}
variable {mc ms : Nat} {free : Addr → Prop} {A0 A1 : Nat → Prop} {H0 : Heap} {a : Array Value} {ls : Array Slot} {st0 rest : List Value}
variable {Qc : Array Value → State → Outcome → State → Prop} {XC : String → State → State → Prop}
theorem vy_throwS {cc : ByteArray} {pc : Nat} (hexec : p.tables.exec = Jvm.exec) (hb : c.code = cc) (hl : l.stackTraces = false) {own cls text : String} {names : List String} {ik is ic mc ms sa : Nat} {A : Nat → Prop}
    (hown : s.vm.findClass own = some m.cls) (hcls : Bundle.fit cls = true) (hnames : ∀ n ∈ names, Bundle.fit n = true)
    (hk : (Cond.classLink own ik cls).before args s = true) (hini : (Cond.initialized cls).before args s = true) (hstr : vk_R own is text sa s) (hat : ∀ w ∈ vx_atS own ic cls names, w.before args s = true)
    (hgood : ∀ w ∈ Cond.classLink own ik cls :: Cond.initialized cls :: vx_atS own ic cls names, vx_ot w = true)
    (hU : vx_Zq Bundle.tN "UNASSIGNED_STACK" Bundle.steD A s s.heap) (hN : vx_Zq Bundle.tN "SUPPRESSED_SENTINEL" Bundle.listD A s s.heap) (hS : va_S A s.heap H locs) (hsize : ls.size = c.maxLocals)
    (d0 : decode cc pc = .ok (.new ik, 3)) (d3 : decode cc (pc + 3) = .ok (.dup, 1)) (d4 : decode cc (pc + 4) = .ok (.ldc is, 2)) (d6 : decode cc (pc + 6) = .ok (.invokespecial ic, 3)) (d9 : decode cc (pc + 9) = .ok (.athrow, 1))
    (hout : ∀ x ∈ c.exceptionTable.toList, covers x (pc + 9) = false)
    (hRframes : names.length + 3 < R.frames) (hRlocals : (rest.map fun v => v.category).sum + (13 * (names.length + 1) + 43) ≤ R.locals) (hRcells : cells + 1 ≤ R.cells) (hRslots : slots + 6 ≤ R.slots) (hlocks : meth.locks = false)
    (hx : ∀ t : State, s.vm.Alike t.vm → H.size < t.heap.size → (∀ q : Nat, q < H.size → t.heap[q]? = H[q]?) → XC cls s t)
    (hf : ∀ z ∈ locs, free z.base) (hc : cells + 1 ≤ mc) (hs : slots + 6 ≤ ms) :
    W p l e R s m args below meth c H locs cells slots (vx_MQ below Qc XC args s mc ms free) (F0 m pc ls rest) := by
  intro T hT X
  have htr : e.platform.stackTraces = false := (show e.platform.stackTraces = l.stackTraces by rw [X.admits.platform]).trans hl
  have Y := vx_rebase X (R' := { frames := R.frames, locals := R.locals, cells := 1, slots := 6 }) (Nat.le_refl _) (Nat.le_refl _) hRcells hRslots
  obtain ⟨s', hA⟩ : ∃ z, z = (T.setVm s.vm).setFrames (.invoking m args :: below) := ⟨_, rfl⟩
  rw [← hA] at Y
  have hvm : s'.vm = s.vm := by rw [hA]; rfl
  have hhp : s'.heap = H := by rw [hA]; exact hT
  have hW0 : s.WarmedH s'.vm := by rw [hvm]; exact State.WarmedH.refl s
  have hat' : ∀ w ∈ vx_atS own ic cls names, w.before args s' = true := fun w hw => vx_ot_at hW0 hvm.symm (hgood w (List.mem_cons_of_mem _ (List.mem_cons_of_mem _ hw))) (hat w hw)
  have hk' : (Cond.classLink own ik cls).before args s' = true := vx_ot_at hW0 hvm.symm (hgood _ List.mem_cons_self) hk
  have hini' : (Cond.initialized cls).before args s' = true := vx_ot_at hW0 hvm.symm (hgood _ (List.mem_cons_of_mem _ List.mem_cons_self)) hini
  have hU' : vx_Zq Bundle.tN "UNASSIGNED_STACK" Bundle.steD A s' s'.heap := by rw [hhp]; exact vx_Zq.moved hW0.alike (hU.kept hS.2.1)
  have hN' : vx_Zq Bundle.tN "SUPPRESSED_SENTINEL" Bundle.listD A s' s'.heap := by rw [hhp]; exact vx_Zq.moved hW0.alike (hN.kept hS.2.1)
  have h : ∀ w ∈ Bundle.ownAtoms own ic cls names, w.before args s' = true := vx_own hat' (vx_isRefq hU'.1) (vx_isRefq hN'.1) hU'.2.word hN'.2.word
  have hown' : s'.vm.findClass own = some m.cls := by rw [hvm]; exact hown
  have hins : (Cond.instantiable cls 6).before args s' = true := h _ (by simp [Bundle.ownAtoms])
  obtain ⟨vm₁, cX, kX, hfX, hkX, -, -, X₁, st1⟩ := Y.newCold hexec (own := own) (C := cls) (index := ik) (n := 6) hown' hk' hins hini'
    (g := F0 m pc ls rest) rfl (by rw [hb]; exact d0) (Nat.le_refl _) (Nat.le_refl _)
  generalize hT1 : (T.setVm vm₁).pushCell { cls := cX, slots := kX.instanceTypes.map defaultValue, vm := .none } = T1 at X₁ st1
  have hcat : (Value.ref T.heap.size).category = 1 := rfl
  have hcellA : T1.heap[T.heap.size]? = some (freshCell cX kX) := by rw [← hT1]; exact State.heap_pushCell_size _ _
  have d3' : decode c.code (pc + 3) = .ok (.dup, 1) := by rw [hb]; exact d3
  have d4' : decode c.code (pc + 4) = .ok (.ldc is, 2) := by rw [hb]; exact d4
  have hstr' : vk_R own is text sa s' := vk_R.warm hW0 hstr
  obtain ⟨U, hsteps, hrun, hend, hW, hsame, ce, hce, hO⟩ := X₁.ctorThrowS hexec htr (own := own) (cls := cls) (names := names) (ic := ic) hown' hcls hnames h (fun x hx => nomatch hx) hfX hkX hcellA (by rw [hhp, hT]; exact Nat.le_refl _) (msg := .ref sa) rfl
    (g := { method := m, pc := pc + 6, locals := ls, stack := .ref sa :: .ref T.heap.size :: .ref T.heap.size :: rest, locked := none }) rfl hsize rfl rfl (rest := rest) rfl
    (by rw [hb]; exact d6) (by rw [hb]; exact d9) hout hRframes (by simp only [List.map_cons, List.sum_cons, hcat]; omega) hlocks
  obtain ⟨f1, f2⟩ := vx_frame hsame
  rw [hhp] at f1 f2
  have hWs : s.WarmedH U.vm := State.WarmedH.trans hW0 hW
  have hcl : s.vm.findClass cls = some ce.cls := by
    have h9 := hO.cls
    rw [hvm] at h9
    exact h9
  have hall : s.sameButNew ({ U with vm := s.vm } : State) locs mc ms := by
    subst hA
    obtain ⟨e1, e2⟩ := hsame
    rw [State.setFrames_setFrames] at e1
    have h2 : (T.setVm s.vm).sameButNew ({ U with vm := s.vm } : State) [] (0 + 1) (0 + 6) := ⟨e1, e2⟩
    have h3 := X.same.trans h2
    rw [List.append_nil] at h3
    exact h3.mono hc hs
  refine ⟨U, ?_, .threw T.heap.size, hrun, hend, Or.inr ⟨T.heap.size, rfl, cls, ce, locs, hx U hWs.alike (by rw [← hT]; exact (Array.getElem?_eq_some_iff.mp hce).1) (fun q hq => f2 q hq (fun z hz => nomatch hz)), hce, hO.vm, hcl, hWs, hall, hf⟩⟩
  refine st1 _ ?_
  show Steps p.tables e below (T1.setTop { method := m, pc := pc + 3, locals := ls, stack := .ref T.heap.size :: rest, locked := none }) _
  jvm_step X₁.here [X₁.here.top, hexec, d3', Value.category]
  exact X₁.ldcString hexec (own := own) (text := text) (index := is) (a := sa) hown' hstr'.1 hstr'.2
    (g := { method := m, pc := pc + 4, locals := ls, stack := .ref T.heap.size :: .ref T.heap.size :: rest, locked := none }) rfl d4' _ hsteps
theorem vy_throwSW {cc : ByteArray} {pc : Nat} (hexec : p.tables.exec = Jvm.exec) (hb : c.code = cc) (hl : l.stackTraces = false) {own cls text : String} {names : List String} {ik is ic mc ms sa : Nat} {A : Nat → Prop}
    (hown : s.vm.findClass own = some m.cls) (hcls : Bundle.fit cls = true) (hnames : ∀ n ∈ names, Bundle.fit n = true)
    (hk : (Cond.classLink own ik cls).before args s = true) (hini : (Cond.initialized cls).before args s = true) (hstr : vk_R own is text sa s) (hat : ∀ w ∈ vx_atS own ic cls names, w.before args s = true)
    (hgood : ∀ w ∈ Cond.classLink own ik cls :: Cond.initialized cls :: vx_atS own ic cls names, vx_ot w = true)
    (hU : vx_Zq Bundle.tN "UNASSIGNED_STACK" Bundle.steD A s s.heap) (hN : vx_Zq Bundle.tN "SUPPRESSED_SENTINEL" Bundle.listD A s s.heap) (hS : va_S A s.heap H locs) (hsize : ls.size = c.maxLocals)
    (d0 : decode cc pc = .ok (.new ik, 3)) (d3 : decode cc (pc + 3) = .ok (.dup, 1)) (d4 : decode cc (pc + 4) = .ok (.ldc_w is, 3)) (d7 : decode cc (pc + 7) = .ok (.invokespecial ic, 3)) (d10 : decode cc (pc + 10) = .ok (.athrow, 1))
    (hout : ∀ x ∈ c.exceptionTable.toList, covers x (pc + 10) = false)
    (hRframes : names.length + 3 < R.frames) (hRlocals : (rest.map fun v => v.category).sum + (13 * (names.length + 1) + 43) ≤ R.locals) (hRcells : cells + 1 ≤ R.cells) (hRslots : slots + 6 ≤ R.slots) (hlocks : meth.locks = false)
    (hx : ∀ t : State, s.vm.Alike t.vm → H.size < t.heap.size → (∀ q : Nat, q < H.size → t.heap[q]? = H[q]?) → XC cls s t)
    (hf : ∀ z ∈ locs, free z.base) (hc : cells + 1 ≤ mc) (hs : slots + 6 ≤ ms) :
    W p l e R s m args below meth c H locs cells slots (vx_MQ below Qc XC args s mc ms free) (F0 m pc ls rest) := by
  intro T hT X
  have htr : e.platform.stackTraces = false := (show e.platform.stackTraces = l.stackTraces by rw [X.admits.platform]).trans hl
  have Y := vx_rebase X (R' := { frames := R.frames, locals := R.locals, cells := 1, slots := 6 }) (Nat.le_refl _) (Nat.le_refl _) hRcells hRslots
  obtain ⟨s', hA⟩ : ∃ z, z = (T.setVm s.vm).setFrames (.invoking m args :: below) := ⟨_, rfl⟩
  rw [← hA] at Y
  have hvm : s'.vm = s.vm := by rw [hA]; rfl
  have hhp : s'.heap = H := by rw [hA]; exact hT
  have hW0 : s.WarmedH s'.vm := by rw [hvm]; exact State.WarmedH.refl s
  have hat' : ∀ w ∈ vx_atS own ic cls names, w.before args s' = true := fun w hw => vx_ot_at hW0 hvm.symm (hgood w (List.mem_cons_of_mem _ (List.mem_cons_of_mem _ hw))) (hat w hw)
  have hk' : (Cond.classLink own ik cls).before args s' = true := vx_ot_at hW0 hvm.symm (hgood _ List.mem_cons_self) hk
  have hini' : (Cond.initialized cls).before args s' = true := vx_ot_at hW0 hvm.symm (hgood _ (List.mem_cons_of_mem _ List.mem_cons_self)) hini
  have hU' : vx_Zq Bundle.tN "UNASSIGNED_STACK" Bundle.steD A s' s'.heap := by rw [hhp]; exact vx_Zq.moved hW0.alike (hU.kept hS.2.1)
  have hN' : vx_Zq Bundle.tN "SUPPRESSED_SENTINEL" Bundle.listD A s' s'.heap := by rw [hhp]; exact vx_Zq.moved hW0.alike (hN.kept hS.2.1)
  have h : ∀ w ∈ Bundle.ownAtoms own ic cls names, w.before args s' = true := vx_own hat' (vx_isRefq hU'.1) (vx_isRefq hN'.1) hU'.2.word hN'.2.word
  have hown' : s'.vm.findClass own = some m.cls := by rw [hvm]; exact hown
  have hins : (Cond.instantiable cls 6).before args s' = true := h _ (by simp [Bundle.ownAtoms])
  obtain ⟨vm₁, cX, kX, hfX, hkX, -, -, X₁, st1⟩ := Y.newCold hexec (own := own) (C := cls) (index := ik) (n := 6) hown' hk' hins hini'
    (g := F0 m pc ls rest) rfl (by rw [hb]; exact d0) (Nat.le_refl _) (Nat.le_refl _)
  generalize hT1 : (T.setVm vm₁).pushCell { cls := cX, slots := kX.instanceTypes.map defaultValue, vm := .none } = T1 at X₁ st1
  have hcat : (Value.ref T.heap.size).category = 1 := rfl
  have hcellA : T1.heap[T.heap.size]? = some (freshCell cX kX) := by rw [← hT1]; exact State.heap_pushCell_size _ _
  have d3' : decode c.code (pc + 3) = .ok (.dup, 1) := by rw [hb]; exact d3
  have d4' : decode c.code (pc + 4) = .ok (.ldc_w is, 3) := by rw [hb]; exact d4
  have hstr' : vk_R own is text sa s' := vk_R.warm hW0 hstr
  obtain ⟨U, hsteps, hrun, hend, hW, hsame, ce, hce, hO⟩ := X₁.ctorThrowS hexec htr (own := own) (cls := cls) (names := names) (ic := ic) hown' hcls hnames h (fun x hx => nomatch hx) hfX hkX hcellA (by rw [hhp, hT]; exact Nat.le_refl _) (msg := .ref sa) rfl
    (g := { method := m, pc := pc + 7, locals := ls, stack := .ref sa :: .ref T.heap.size :: .ref T.heap.size :: rest, locked := none }) rfl hsize rfl rfl (rest := rest) rfl
    (by rw [hb]; exact d7) (by rw [hb]; exact d10) hout hRframes (by simp only [List.map_cons, List.sum_cons, hcat]; omega) hlocks
  obtain ⟨f1, f2⟩ := vx_frame hsame
  rw [hhp] at f1 f2
  have hWs : s.WarmedH U.vm := State.WarmedH.trans hW0 hW
  have hcl : s.vm.findClass cls = some ce.cls := by
    have h9 := hO.cls
    rw [hvm] at h9
    exact h9
  have hall : s.sameButNew ({ U with vm := s.vm } : State) locs mc ms := by
    subst hA
    obtain ⟨e1, e2⟩ := hsame
    rw [State.setFrames_setFrames] at e1
    have h2 : (T.setVm s.vm).sameButNew ({ U with vm := s.vm } : State) [] (0 + 1) (0 + 6) := ⟨e1, e2⟩
    have h3 := X.same.trans h2
    rw [List.append_nil] at h3
    exact h3.mono hc hs
  refine ⟨U, ?_, .threw T.heap.size, hrun, hend, Or.inr ⟨T.heap.size, rfl, cls, ce, locs, hx U hWs.alike (by rw [← hT]; exact (Array.getElem?_eq_some_iff.mp hce).1) (fun q hq => f2 q hq (fun z hz => nomatch hz)), hce, hO.vm, hcl, hWs, hall, hf⟩⟩
  refine st1 _ ?_
  show Steps p.tables e below (T1.setTop { method := m, pc := pc + 3, locals := ls, stack := .ref T.heap.size :: rest, locked := none }) _
  jvm_step X₁.here [X₁.here.top, hexec, d3', Value.category]
  exact X₁.ldcStringW hexec (own := own) (text := text) (index := is) (a := sa) hown' hstr'.1 hstr'.2
    (g := { method := m, pc := pc + 4, locals := ls, stack := .ref T.heap.size :: .ref T.heap.size :: rest, locked := none }) rfl d4' _ hsteps
end VYT
/-! ends -/
def vy_MQ (below : List Frame) (Qc : Array Value → State → Outcome → State → Prop) (XC : String → State → State → Prop) (a : Array Value) (s : State) (mc ms : Nat) (free : Addr → Prop) : State → Prop := fun t =>
  ∃ o, t.status = .running ∧ Ended t below o ∧ vy_Q Qc XC mc ms free a s o t
section MLE
variable {p : Program} {l : Launch} {e : Env} {R : Room} {s : State} {m : MethodId} {args : Array Value} {below : List Frame} {meth : Method} {c : Code} {H : Heap} {locs : List Loc} {cells slots : Nat} {Q : State → Prop}
variable {pc : Nat} {ls : Array Slot} {rest : List Value} {A : Nat → Prop} {mc ms : Nat}
variable {G : va_G} {cy : Nat → ClassId} {ws w1 : va_W} {cc : ByteArray} {σ : Type}
variable {Qc : Array Value → State → Outcome → State → Prop} {XC : String → State → State → Prop} {free : Addr → Prop}
theorem vy_ret {g : JFrame} (k : W p l e R s m args below meth c H locs 0 0 (MQ below Qc args s 0 0 free) g) : W p l e R s m args below meth c H locs 0 0 (vy_MQ below Qc XC args s mc ms free) g := by
  intro T hT X
  obtain ⟨t, a1, o, b1, b2, b3, b4⟩ := k T hT X
  exact ⟨t, a1, o, b1, b2, Or.inl ⟨b3, b4⟩⟩
theorem ml_ri {post : Int32 → σ → Prop} {w : σ → va_W} {v : Int32} (u : σ) (hx : p.tables.exec = Jvm.exec) (hb : c.code = cc) (hr : meth.sig.returnType = some .int) (hlocks : meth.locks = false) (hP : va_P G vwCl w1 H) (hK : va_K G vwCl (tyA cy) s) (hD : va_D A w1) (hS : va_S A s.heap H locs) (hw : w u = w1) (hp : post v u) (hdg : decode cc pc = .ok (.ireturn, 1)) :
    W p l e R s m args below meth c H locs cells slots (MQ below (va_Qi post (ml_B G cy A w) A) args s cells slots A) (F0 m pc ls [.int v]) :=
  W.iret hx hb hr (fun t ht hW => ⟨⟨v, u, rfl, hp, by rw [ht, hw]; exact hP, va_K.moved hW.alike hK, by rw [hw]; exact hD⟩, hS.F ht⟩) hS.2.2 hdg hlocks
theorem ml_rz {post : Int32 → σ → Prop} {w : σ → va_W} {v : Int32} (u : σ) (hx : p.tables.exec = Jvm.exec) (hb : c.code = cc) (hr : meth.sig.returnType = some .boolean) (hlocks : meth.locks = false) (hP : va_P G vwCl w1 H) (hK : va_K G vwCl (tyA cy) s) (hD : va_D A w1) (hS : va_S A s.heap H locs) (hn : narrow .boolean (.int v) = .int v) (hw : w u = w1) (hp : post v u) (hdg : decode cc pc = .ok (.ireturn, 1)) :
    W p l e R s m args below meth c H locs cells slots (MQ below (va_Qi post (ml_B G cy A w) A) args s cells slots A) (F0 m pc ls [.int v]) :=
  W.zret hx hb hr hn (fun t ht hW => ⟨⟨v, u, rfl, hp, by rw [ht, hw]; exact hP, va_K.moved hW.alike hK, by rw [hw]; exact hD⟩, hS.F ht⟩) hS.2.2 hdg hlocks
theorem ml_rf {post : UInt32 → σ → Prop} {w : σ → va_W} {v : UInt32} (u : σ) (hx : p.tables.exec = Jvm.exec) (hb : c.code = cc) (hr : meth.sig.returnType = some .float) (hlocks : meth.locks = false) (hP : va_P G vwCl w1 H) (hK : va_K G vwCl (tyA cy) s) (hD : va_D A w1) (hS : va_S A s.heap H locs) (hw : w u = w1) (hp : post v u) (hdg : decode cc pc = .ok (.freturn, 1)) :
    W p l e R s m args below meth c H locs cells slots (MQ below (va_Qf post (ml_B G cy A w) A) args s cells slots A) (F0 m pc ls [.float v]) :=
  W.fret hx hb hr (fun t ht hW => ⟨⟨v, u, rfl, hp, by rw [ht, hw]; exact hP, va_K.moved hW.alike hK, by rw [hw]; exact hD⟩, hS.F ht⟩) hS.2.2 hdg hlocks
theorem ml_rv {post : σ → Prop} {w : σ → va_W} (u : σ) (hx : p.tables.exec = Jvm.exec) (hb : c.code = cc) (hr : meth.sig.returnType = none) (hlocks : meth.locks = false) (hP : va_P G vwCl w1 H) (hK : va_K G vwCl (tyA cy) s) (hD : va_D A w1) (hS : va_S A s.heap H locs) (hw : w u = w1) (hp : post u) (hdg : decode cc pc = .ok (.return_, 1)) :
    W p l e R s m args below meth c H locs cells slots (MQ below (va_Qv post (ml_B G cy A w) A) args s cells slots A) (F0 m pc ls []) :=
  W.vret hx hb hr (fun t ht hW => ⟨⟨u, rfl, hp, by rw [ht, hw]; exact hP, va_K.moved hW.alike hK, by rw [hw]; exact hD⟩, hS.F ht⟩) hS.2.2 hdg hlocks
/-- an exception goes on to the caller, nothing of the world changed -/
theorem ml_out {px : String → Prop} {E : String} {ce : Cell} {q : Addr} (hout : ∀ x ∈ c.exceptionTable.toList, False) (hlocks : meth.locks = false) (hz9 : s.heap.size < H.size) (hp : px E) (hP : va_P G vwCl ws H) (hK : va_K G vwCl (tyA cy) s) (hD : va_D A ws) (hS : va_S A s.heap H locs) (hcell : H[q]? = some ce) (hv : ce.vm = .none) (hcl : s.vm.findClass E = some ce.cls) (hc : cells ≤ mc) (hs : slots ≤ ms) :
    vx_W p l e R s m args below meth c H locs cells slots (vy_MQ below Qc (ml_XC G cy A ws px) args s mc ms A) (F0 m pc ls rest) q := by
  intro T hT X
  obtain ⟨t, a1, o, b1, b2, b3⟩ := vx_out (Qc := fun _ _ _ _ => False) (XC := ml_XC G cy A ws px) (free := A) (mc := mc) (ms := ms) (pc := pc) (ls := ls) (rest := rest) (fun x hx => (hout x hx).elim) hlocks hcell hv hcl (fun t ht hvm => ⟨hp, by rw [ht]; exact hP, va_K.moved hvm hK, hD, hS.F ht, by rw [ht]; exact hz9⟩) hS.2.2 hc hs T hT X
  refine ⟨t, a1, o, b1, b2, ?_⟩
  rcases b3 with ⟨b4, -⟩ | b4
  · exact b4.elim
  · exact Or.inr b4
/-- throw new E("text"), the text by a narrow or a wide index -/
theorem ml_thr {px : String → Prop} {own cls text : String} {ik is ic : Nat} (w : Bool) (hx : p.tables.exec = Jvm.exec) (hb : c.code = cc) (hl : l.stackTraces = false) (hown : s.vm.findClass own = some m.cls) (ho : own = "Migrationledger") (hcls : cls = eIA ∨ cls = eIS ∨ cls = eIB) (hstr : (is, text) ∈ mlS)
    (hk : (Cond.classLink own ik cls).before args s = true) (hini : (Cond.initialized cls).before args s = true) (hat : ∀ w ∈ (vx_atS own ic cls ["java/lang/RuntimeException", "java/lang/Exception"]).filter goodWord, w.before args s = true)
    (hng : ∀ w ∈ (vx_atS own ic cls ["java/lang/RuntimeException", "java/lang/Exception"]).filter (fun w => !goodWord w), w ∈ ml_ng cls)
    (hgood : ∀ w ∈ Cond.classLink own ik cls :: Cond.initialized cls :: vx_atS own ic cls ["java/lang/RuntimeException", "java/lang/Exception"], vx_ot w = true)
    (hP : va_P G vwCl ws H) (hK : va_K G vwCl (tyA cy) s) (hD : va_D A ws) (hE : ml_eX A s s.heap) (hS : va_S A s.heap H locs) (hsize : ls.size = c.maxLocals)
    (d0 : decode cc pc = .ok (.new ik, 3)) (d3 : decode cc (pc + 3) = .ok (.dup, 1)) (d4 : decode cc (pc + 4) = .ok (if w then (.ldc_w is, 3) else (.ldc is, 2))) (d6 : decode cc (pc + (if w then 7 else 6)) = .ok (.invokespecial ic, 3)) (d9 : decode cc (pc + (if w then 10 else 9)) = .ok (.athrow, 1))
    (hout : ∀ x ∈ c.exceptionTable.toList, False) (hRf : 5 < R.frames) (hRl : (rest.map fun v => v.category).sum + 82 ≤ R.locals) (hRc : 1 ≤ R.cells) (hRs : 6 ≤ R.slots) (hlocks : meth.locks = false) (hp : px cls) (hc : 1 ≤ mc) (hs : 6 ≤ ms) :
    W p l e R s m args below meth c H locs 0 0 (vy_MQ below Qc (ml_XC G cy A ws px) args s mc ms A) (F0 m pc ls rest) := by
  subst ho
  obtain ⟨hU, hN, hst, hca⟩ := hE
  obtain ⟨sa, hsa⟩ := hst _ hstr
  have hself : va_Nw (.castable cls cls) s := by
    rcases hcls with rfl | rfl | rfl
    · exact hca.1.1
    · exact hca.1.2.1
    · exact hca.1.2.2
  have hfit : Bundle.fit cls = true := by
    rcases hcls with rfl | rfl | rfl <;> decide +kernel
  have hat' := vx_hat hat hng (vx_c (va_Nw.use rfl hself) (vx_c (va_Nw.use rfl hca.2.2.1) (vx_c (va_Nw.use rfl hca.2.2.2.1) (vx_c (va_Nw.use rfl hca.2.2.2.2) vx_n))))
  have hx9 : ∀ t : State, s.vm.Alike t.vm → H.size < t.heap.size → (∀ q : Nat, q < H.size → t.heap[q]? = H[q]?) → ml_XC G cy A ws px cls s t := fun t hvm hz hq => ⟨hp, hP.kept (fun k q hk => hq q.1 ((hP k q hk).lt)), va_K.moved hvm hK, hD, ⟨Nat.le_trans hS.1 (Nat.le_of_lt hz), fun q h1 h2 => (hq q (Nat.lt_of_lt_of_le h1 hS.1)).trans (hS.2.1 q h1 h2)⟩, Nat.lt_of_le_of_lt hS.1 hz⟩
  intro T hT X
  have key : W p l e R s m args below meth c H locs 0 0 (vx_MQ below (fun _ _ _ _ => False) (ml_XC G cy A ws px) args s mc ms A) (F0 m pc ls rest) := by
    cases w with
    | false => exact vy_throwS (A := A) hx hb hl hown hfit (by decide +kernel) hk hini hsa hat' hgood hU hN hS hsize d0 d3 d4 d6 d9 (fun x h => (hout x h).elim) hRf hRl (by omega) (by omega) hlocks hx9 hS.2.2 hc hs
    | true => exact vy_throwSW (A := A) hx hb hl hown hfit (by decide +kernel) hk hini hsa hat' hgood hU hN hS hsize d0 d3 d4 d6 d9 (fun x h => (hout x h).elim) hRf hRl (by omega) (by omega) hlocks hx9 hS.2.2 hc hs
  obtain ⟨t, a1, o, b1, b2, b3⟩ := key T hT X
  refine ⟨t, a1, o, b1, b2, ?_⟩
  rcases b3 with ⟨b4, -⟩ | b4
  · exact b4.elim
  · exact Or.inr b4
theorem ml_outE {w : σ → va_W} (u : σ) (hw : w u = ws) {px : String → Prop} {E : String} {ce : Cell} {q : Addr} (hout : ∀ x ∈ c.exceptionTable.toList, False) (hlocks : meth.locks = false) (hz9 : s.heap.size < H.size) (hp : px E) (hP : va_P G vwCl ws H) (hK : va_K G vwCl (tyA cy) s) (hD : va_D A ws) (hS : va_S A s.heap H locs) (hcell : H[q]? = some ce) (hv : ce.vm = .none) (hcl : s.vm.findClass E = some ce.cls) (hc : cells ≤ mc) (hs : slots ≤ ms) :
    vx_W p l e R s m args below meth c H locs cells slots (vy_MQ below Qc (ml_XE G cy A w px) args s mc ms A) (F0 m pc ls rest) q := by
  intro T hT X
  obtain ⟨t, a1, o, b1, b2, b3⟩ := vx_out (Qc := fun _ _ _ _ => False) (XC := ml_XE G cy A w px) (free := A) (mc := mc) (ms := ms) (pc := pc) (ls := ls) (rest := rest) (fun x hx => (hout x hx).elim) hlocks hcell hv hcl (fun t ht hvm => ⟨hp, ⟨u, by rw [ht, hw]; exact hP, by rw [hw]; exact hD⟩, va_K.moved hvm hK, hS.F ht, by rw [ht]; exact hz9⟩) hS.2.2 hc hs T hT X
  refine ⟨t, a1, o, b1, b2, ?_⟩
  rcases b3 with ⟨b4, -⟩ | b4
  · exact b4.elim
  · exact Or.inr b4
/-- throw new E("text"), the text by a narrow or a wide index -/
theorem ml_thrE {w9 : σ → va_W} (u : σ) (hw : w9 u = ws) {px : String → Prop} {own cls text : String} {ik is ic : Nat} (w : Bool) (hx : p.tables.exec = Jvm.exec) (hb : c.code = cc) (hl : l.stackTraces = false) (hown : s.vm.findClass own = some m.cls) (ho : own = "Migrationledger") (hcls : cls = eIA ∨ cls = eIS ∨ cls = eIB) (hstr : (is, text) ∈ mlS)
    (hk : (Cond.classLink own ik cls).before args s = true) (hini : (Cond.initialized cls).before args s = true) (hat : ∀ w ∈ (vx_atS own ic cls ["java/lang/RuntimeException", "java/lang/Exception"]).filter goodWord, w.before args s = true)
    (hng : ∀ w ∈ (vx_atS own ic cls ["java/lang/RuntimeException", "java/lang/Exception"]).filter (fun w => !goodWord w), w ∈ ml_ng cls)
    (hgood : ∀ w ∈ Cond.classLink own ik cls :: Cond.initialized cls :: vx_atS own ic cls ["java/lang/RuntimeException", "java/lang/Exception"], vx_ot w = true)
    (hP : va_P G vwCl ws H) (hK : va_K G vwCl (tyA cy) s) (hD : va_D A ws) (hE : ml_eX A s s.heap) (hS : va_S A s.heap H locs) (hsize : ls.size = c.maxLocals)
    (d0 : decode cc pc = .ok (.new ik, 3)) (d3 : decode cc (pc + 3) = .ok (.dup, 1)) (d4 : decode cc (pc + 4) = .ok (if w then (.ldc_w is, 3) else (.ldc is, 2))) (d6 : decode cc (pc + (if w then 7 else 6)) = .ok (.invokespecial ic, 3)) (d9 : decode cc (pc + (if w then 10 else 9)) = .ok (.athrow, 1))
    (hout : ∀ x ∈ c.exceptionTable.toList, False) (hRf : 5 < R.frames) (hRl : (rest.map fun v => v.category).sum + 82 ≤ R.locals) (hRc : 1 ≤ R.cells) (hRs : 6 ≤ R.slots) (hlocks : meth.locks = false) (hp : px cls) (hc : 1 ≤ mc) (hs : 6 ≤ ms) :
    W p l e R s m args below meth c H locs 0 0 (vy_MQ below Qc (ml_XE G cy A w9 px) args s mc ms A) (F0 m pc ls rest) := by
  subst ho
  obtain ⟨hU, hN, hst, hca⟩ := hE
  obtain ⟨sa, hsa⟩ := hst _ hstr
  have hself : va_Nw (.castable cls cls) s := by
    rcases hcls with rfl | rfl | rfl
    · exact hca.1.1
    · exact hca.1.2.1
    · exact hca.1.2.2
  have hfit : Bundle.fit cls = true := by
    rcases hcls with rfl | rfl | rfl <;> decide +kernel
  have hat' := vx_hat hat hng (vx_c (va_Nw.use rfl hself) (vx_c (va_Nw.use rfl hca.2.2.1) (vx_c (va_Nw.use rfl hca.2.2.2.1) (vx_c (va_Nw.use rfl hca.2.2.2.2) vx_n))))
  have hx9 : ∀ t : State, s.vm.Alike t.vm → H.size < t.heap.size → (∀ q : Nat, q < H.size → t.heap[q]? = H[q]?) → ml_XE G cy A w9 px cls s t := fun t hvm hz hq => ⟨hp, ⟨u, by rw [hw]; exact hP.kept (fun k q hk => hq q.1 ((hP k q hk).lt)), by rw [hw]; exact hD⟩, va_K.moved hvm hK, ⟨Nat.le_trans hS.1 (Nat.le_of_lt hz), fun q h1 h2 => (hq q (Nat.lt_of_lt_of_le h1 hS.1)).trans (hS.2.1 q h1 h2)⟩, Nat.lt_of_le_of_lt hS.1 hz⟩
  intro T hT X
  have key : W p l e R s m args below meth c H locs 0 0 (vx_MQ below (fun _ _ _ _ => False) (ml_XE G cy A w9 px) args s mc ms A) (F0 m pc ls rest) := by
    cases w with
    | false => exact vy_throwS (A := A) hx hb hl hown hfit (by decide +kernel) hk hini hsa hat' hgood hU hN hS hsize d0 d3 d4 d6 d9 (fun x h => (hout x h).elim) hRf hRl (by omega) (by omega) hlocks hx9 hS.2.2 hc hs
    | true => exact vy_throwSW (A := A) hx hb hl hown hfit (by decide +kernel) hk hini hsa hat' hgood hU hN hS hsize d0 d3 d4 d6 d9 (fun x h => (hout x h).elim) hRf hRl (by omega) (by omega) hlocks hx9 hS.2.2 hc hs
  obtain ⟨t, a1, o, b1, b2, b3⟩ := key T hT X
  refine ⟨t, a1, o, b1, b2, ?_⟩
  rcases b3 with ⟨b4, -⟩ | b4
  · exact b4.elim
  · exact Or.inr b4
end MLE
section MLO
variable {l : Launch}
theorem vy_ofW {y : MethodName} {ws ws' : List Cond} {rm : Room} {Pc : Array Value → State → Prop} {Qc : Array Value → State → Outcome → State → Prop} {XC : String → State → State → Prop} {mc ms : Nat} {free : Addr → Prop} {cc : ByteArray} {maxL : Nat} {ret : Option FieldType}
    (hy : plainName y.cls = true) (hw : ws = Cond.code y cc maxL ret :: ws')
    (body : ∀ p e s m args below meth c s₁, BodyLoose p l y (headSpec ws rm) cc maxL ret e s m args below meth c s₁ → c.maxLocals = maxL → (∀ x ∈ c.exceptionTable.toList, False) → Pc args s →
      W p l e (headSpec ws rm).room s m args below meth c s.heap [] 0 0 (vy_MQ below Qc XC args s mc ms free) (entryFrame m args maxL)) : vy_Met l y ws rm Pc Qc XC mc ms free := by
  refine MetFree.of_bodyS (code := cc) (maxLocals := maxL) (ret := ret) hy ?_ ?_
  · intro args s m h hn
    obtain ⟨meth, c, h1, h2, h3, h4, h5, h6, -, -⟩ := Cond.code_spec hn (atoms_spec (ws := ws) h _ (by rw [hw]; exact List.mem_cons_self))
    exact ⟨meth, c, h1, h2, h3, h4, h5, h6⟩
  · intro p e s m args below meth c s₁ B hml hP _
    have hh0 : s₁.heap = s.heap := by rw [B.state]; rfl
    have ht : ∀ x ∈ c.exceptionTable.toList, False := by
      obtain ⟨meth9, c9, h1, h2, -, -, -, -, h7, -⟩ := Cond.code_spec B.named (atoms_spec (ws := ws) B.pre _ (by rw [hw]; exact List.mem_cons_self))
      cases Option.some.inj (h1.symm.trans B.method)
      cases Option.some.inj (h2.symm.trans (Stand.of_body B).code)
      intro x hx
      rw [Array.isEmpty_iff.mp h7] at hx
      cases hx
    obtain ⟨t, a1, o, b1, b2, b3⟩ := body p e s m args below meth c s₁ B hml ht hP s₁ hh0 (Stand.of_body B)
    exact ⟨t, o, a1, b1, b2, b3⟩
end MLO
/-! arrays by an index that is a natural number -/
section MLA
variable {p : Program} {l : Launch} {e : Env} {R : Room} {s : State} {m : MethodId} {args : Array Value} {below : List Frame} {meth : Method} {c : Code} {H : Heap} {locs : List Loc} {cells slots : Nat} {Q : State → Prop}
variable {cc : ByteArray} {pc : Nat} {ls : Array Slot} {rest : List Value} {D : va_G} {cl : List vw_C} {A : Nat → Prop} {a : Nat} {tys : List (ClassId × FieldType)} {ws : va_W} {H0 : Heap}
theorem ml_eqi {x : Int32} (y : Int32) (h : x = y) (k : W p l e R s m args below meth c H locs cells slots Q (F0 m pc ls (.int y :: rest))) : W p l e R s m args below meth c H locs cells slots Q (F0 m pc ls (.int x :: rest)) := h ▸ k
theorem ml_eql {x : Int64} (y : Int64) (h : x = y) (k : W p l e R s m args below meth c H locs cells slots Q (F0 m pc ls (.long y :: rest))) : W p l e R s m args below meth c H locs cells slots Q (F0 m pc ls (.long x :: rest)) := h ▸ k
theorem ml_ix {i : Int32} {j n : Nat} (hi : i = nI j) (hj : j < n) (hn : n < 2 ^ 31) : vp_in i n ∧ i.toNatClampNeg = j := by
  subst hi
  exact ⟨vp_in_nI hj hn, nI_clamp (by omega)⟩
theorem ml_iald (hx : p.tables.exec = Jvm.exec) (hb : c.code = cc) (hK : va_K D cl tys s) (hP : va_P D cl ws H) (q0 t0 : Nat) {cA : ClassId} {n : Nat} {f : Nat → Int32} (ha : ws[q0]? = some (a, .inl (cA, n, .inl f))) (ht : tys[t0]? = some (cA, .int)) {i : Int32} (j : Nat) (hi : i = nI j) (hj : j < n) (hn : n < 2 ^ 31) (v : Int32) (hv : f j = v) (hdg : decode cc pc = .ok (.iaload, 1))
    (kk : W p l e R s m args below meth c H locs cells slots Q (F0 m (pc + 1) ls (.int v :: rest))) : W p l e R s m args below meth c H locs cells slots Q (F0 m pc ls (.int i :: .ref a :: rest)) := by
  obtain ⟨h1, h2⟩ := ml_ix hi hj hn
  refine va_iald hx hb hK hP q0 t0 ha ht h1 hdg ?_
  rw [h2, hv]
  exact kk
theorem ml_zald (hx : p.tables.exec = Jvm.exec) (hb : c.code = cc) (hK : va_K D cl tys s) (hP : va_P D cl ws H) (q0 t0 : Nat) {cA : ClassId} {n : Nat} {f : Nat → Int32} (ha : ws[q0]? = some (a, .inl (cA, n, .inl f))) (ht : tys[t0]? = some (cA, .boolean)) {i : Int32} (j : Nat) (hi : i = nI j) (hj : j < n) (hn : n < 2 ^ 31) (v : Int32) (hv : f j = v) (hdg : decode cc pc = .ok (.baload, 1))
    (kk : W p l e R s m args below meth c H locs cells slots Q (F0 m (pc + 1) ls (.int v :: rest))) : W p l e R s m args below meth c H locs cells slots Q (F0 m pc ls (.int i :: .ref a :: rest)) := by
  obtain ⟨h1, h2⟩ := ml_ix hi hj hn
  refine va_zald hx hb hK hP q0 t0 ha ht h1 hdg ?_
  rw [h2, hv]
  exact kk
theorem ml_lald (hx : p.tables.exec = Jvm.exec) (hb : c.code = cc) (hK : va_K D cl tys s) (hP : va_P D cl ws H) (q0 t0 : Nat) {cA : ClassId} {n : Nat} {f : Nat → Int64} (ha : ws[q0]? = some (a, .inl (cA, n, .inr (.inl f)))) (ht : tys[t0]? = some (cA, .long)) {i : Int32} (j : Nat) (hi : i = nI j) (hj : j < n) (hn : n < 2 ^ 31) (v : Int64) (hv : f j = v) (hdg : decode cc pc = .ok (.laload, 1))
    (kk : W p l e R s m args below meth c H locs cells slots Q (F0 m (pc + 1) ls (.long v :: rest))) : W p l e R s m args below meth c H locs cells slots Q (F0 m pc ls (.int i :: .ref a :: rest)) := by
  obtain ⟨h1, h2⟩ := ml_ix hi hj hn
  refine va_lald hx hb hK hP q0 t0 ha ht h1 hdg ?_
  rw [h2, hv]
  exact kk
theorem ml_iast (hx : p.tables.exec = Jvm.exec) (hb : c.code = cc) (hK : va_K D cl tys s) (hP : va_P D cl ws H) (hD : va_D A ws) (hS : va_S A H0 H locs) (q0 t0 : Nat) {cA : ClassId} {n : Nat} {f : Nat → Int32} (ha : ws[q0]? = some (a, .inl (cA, n, .inl f))) (ht : tys[t0]? = some (cA, .int)) {i x : Int32} (j : Nat) (hi : i = nI j) (hj : j < n) (hn : n < 2 ^ 31) (hdg : decode cc pc = .ok (.iastore, 1))
    (kk : ∀ (H1 : Heap) (locs1 : List Loc), va_P D cl (ws.set q0 (a, .inl (cA, n, .inl (upd f j x)))) H1 → va_D A (ws.set q0 (a, .inl (cA, n, .inl (upd f j x)))) → va_S A H0 H1 locs1 → W p l e R s m args below meth c H1 locs1 cells slots Q (F0 m (pc + 1) ls rest)) : W p l e R s m args below meth c H locs cells slots Q (F0 m pc ls (.int x :: .int i :: .ref a :: rest)) := by
  obtain ⟨h1, h2⟩ := ml_ix hi hj hn
  refine va_iast hx hb hK hP hD hS q0 t0 ha ht h1 hdg ?_
  rw [h2]
  exact kk
theorem ml_zast (hx : p.tables.exec = Jvm.exec) (hb : c.code = cc) (hK : va_K D cl tys s) (hP : va_P D cl ws H) (hD : va_D A ws) (hS : va_S A H0 H locs) (q0 t0 : Nat) {cA : ClassId} {n : Nat} {f : Nat → Int32} (ha : ws[q0]? = some (a, .inl (cA, n, .inl f))) (ht : tys[t0]? = some (cA, .boolean)) {i x : Int32} (j : Nat) (hi : i = nI j) (hj : j < n) (hn : n < 2 ^ 31) (hnar : vp_nar .boolean x = x) (hdg : decode cc pc = .ok (.bastore, 1))
    (kk : ∀ (H1 : Heap) (locs1 : List Loc), va_P D cl (ws.set q0 (a, .inl (cA, n, .inl (upd f j x)))) H1 → va_D A (ws.set q0 (a, .inl (cA, n, .inl (upd f j x)))) → va_S A H0 H1 locs1 → W p l e R s m args below meth c H1 locs1 cells slots Q (F0 m (pc + 1) ls rest)) : W p l e R s m args below meth c H locs cells slots Q (F0 m pc ls (.int x :: .int i :: .ref a :: rest)) := by
  obtain ⟨h1, h2⟩ := ml_ix hi hj hn
  refine va_zast hx hb hK hP hD hS q0 t0 ha ht h1 hdg ?_
  rw [h2, hnar]
  exact kk
theorem ml_last (hx : p.tables.exec = Jvm.exec) (hb : c.code = cc) (hK : va_K D cl tys s) (hP : va_P D cl ws H) (hD : va_D A ws) (hS : va_S A H0 H locs) (q0 t0 : Nat) {cA : ClassId} {n : Nat} {f : Nat → Int64} (ha : ws[q0]? = some (a, .inl (cA, n, .inr (.inl f)))) (ht : tys[t0]? = some (cA, .long)) {i : Int32} {x : Int64} (j : Nat) (hi : i = nI j) (hj : j < n) (hn : n < 2 ^ 31) (hdg : decode cc pc = .ok (.lastore, 1))
    (kk : ∀ (H1 : Heap) (locs1 : List Loc), va_P D cl (ws.set q0 (a, .inl (cA, n, .inr (.inl (vp_updL f j x))))) H1 → va_D A (ws.set q0 (a, .inl (cA, n, .inr (.inl (vp_updL f j x))))) → va_S A H0 H1 locs1 → W p l e R s m args below meth c H1 locs1 cells slots Q (F0 m (pc + 1) ls rest)) : W p l e R s m args below meth c H locs cells slots Q (F0 m pc ls (.long x :: .int i :: .ref a :: rest)) := by
  obtain ⟨h1, h2⟩ := ml_ix hi hj hn
  refine va_last hx hb hK hP hD hS q0 t0 ha ht h1 hdg ?_
  rw [h2]
  exact kk
theorem ml_sh (f : Nat → Int32) (k : Nat) (x : Int32) : upd (fun j => f (j + 1)) k x = fun j => upd f (k + 1) x (j + 1) := by
  funext j
  simp [upd]
theorem ml_upn {f : Nat → Int32} {k : Nat} {x : Int32} (h : f k = x) : upd f k x = f := by
  funext j
  by_cases hj : j = k
  · simp [upd, hj, h]
  · simp [upd, hj]
/-! truth values -/
noncomputable def b2i (p : Prop) : Int32 := @ite Int32 p (Classical.propDecidable p) 1 0
theorem b2i_t {q : Prop} (h : q) : b2i q = 1 := by unfold b2i; exact if_pos h
theorem b2i_f {q : Prop} (h : ¬ q) : b2i q = 0 := by unfold b2i; exact if_neg h
theorem b2i_t' {q : Prop} (h : q) : 1 = b2i q := (b2i_t h).symm
theorem b2i_f' {q : Prop} (h : ¬ q) : 0 = b2i q := (b2i_f h).symm
theorem b2i_nar (q : Prop) : narrow .boolean (.int (b2i q)) = .int (b2i q) := by
  by_cases h : q
  · rw [b2i_t h]; rfl
  · rw [b2i_f h]; rfl
theorem b2i_0 {q : Prop} : b2i q = 0 ↔ ¬ q := by
  by_cases h : q
  · rw [b2i_t h]; exact ⟨fun e => absurd e (by decide), fun e => absurd h e⟩
  · rw [b2i_f h]; exact ⟨fun _ => h, fun _ => rfl⟩
noncomputable def cif {α : Type} (q : Prop) (x y : α) : α := @ite α q (Classical.propDecidable q) x y
theorem cif_t {α : Type} {q : Prop} {x y : α} (h : q) : cif q x y = x := by unfold cif; exact if_pos h
theorem cif_f {α : Type} {q : Prop} {x y : α} (h : ¬ q) : cif q x y = y := by unfold cif; exact if_neg h
theorem ml_lk2 (hx : p.tables.exec = Jvm.exec) (hb : c.code = cc) {o0 o1 od : Int} {len t0 t1 td : Nat} {x : Int32} (hdg : decode cc pc = .ok (.lookupswitch od #[(0, o0), (1, o1)], len)) (h0 : (pc : Int) + o0 = (t0 : Int)) (h1 : (pc : Int) + o1 = (t1 : Int)) (hd : (pc : Int) + od = (td : Int))
    (k0 : x = 0 → W p l e R s m args below meth c H locs cells slots Q (F0 m t0 ls rest)) (k1 : x = 1 → W p l e R s m args below meth c H locs cells slots Q (F0 m t1 ls rest)) (kd : x ≠ 0 → x ≠ 1 → W p l e R s m args below meth c H locs cells slots Q (F0 m td ls rest)) : W p l e R s m args below meth c H locs cells slots Q (F0 m pc ls (.int x :: rest)) := by
  by_cases e0 : x = 0
  · exact lv_lookup hx hb (off := o0) (tgt := t0) hdg (by simp) (by subst e0; simp [Op.lookupswitch.offset]) h0 (k0 e0)
  · by_cases e1 : x = 1
    · exact lv_lookup hx hb (off := o1) (tgt := t1) hdg (by simp) (by subst e1; simp [Op.lookupswitch.offset]) h1 (k1 e1)
    · have n0 : ¬ x.toInt = 0 := fun h => e0 (Int32.toInt_inj.mp (by rw [h]; rfl))
      have n1 : ¬ x.toInt = 1 := fun h => e1 (Int32.toInt_inj.mp (by rw [h]; rfl))
      exact lv_lookup hx hb (off := od) (tgt := td) hdg (by simp) (by simp [Op.lookupswitch.offset, n0, n1, eq_comm]) hd (kd e0 e1)
theorem ml_ifeqb (hx : p.tables.exec = Jvm.exec) (hb : c.code = cc) {q : Prop} {off : Int} {tgt : Nat} (hdg : decode cc pc = .ok (.ifCond .eq off, 3)) (ht : (pc : Int) + off = (tgt : Int))
    (kt : ¬ q → W p l e R s m args below meth c H locs cells slots Q (F0 m tgt ls rest)) (kf : q → W p l e R s m args below meth c H locs cells slots Q (F0 m (pc + 3) ls rest)) : W p l e R s m args below meth c H locs cells slots Q (F0 m pc ls (.int (b2i q) :: rest)) :=
  lv_if_eq hx hb hdg ht (fun h => kt (b2i_0.mp h)) (fun h => kf (Classical.byContradiction fun n => h (b2i_f n)))
theorem ml_ifneb (hx : p.tables.exec = Jvm.exec) (hb : c.code = cc) {q : Prop} {off : Int} {tgt : Nat} (hdg : decode cc pc = .ok (.ifCond .ne off, 3)) (ht : (pc : Int) + off = (tgt : Int))
    (kt : q → W p l e R s m args below meth c H locs cells slots Q (F0 m tgt ls rest)) (kf : ¬ q → W p l e R s m args below meth c H locs cells slots Q (F0 m (pc + 3) ls rest)) : W p l e R s m args below meth c H locs cells slots Q (F0 m pc ls (.int (b2i q) :: rest)) :=
  lv_if_ne hx hb hdg ht (fun h => kt (Classical.byContradiction fun n => h (b2i_f n))) (fun h => kf (b2i_0.mp h))
end MLA
/-! the words of the three throws -/
theorem th_ng50 : ∀ w ∈ (vx_atS RX3 50 eIS ["java/lang/RuntimeException", "java/lang/Exception"]).filter (fun w => !goodWord w), w ∈ ml_ng eIS := by decide +kernel
theorem th_gd50 : ∀ w ∈ Cond.classLink RX3 46 eIS :: Cond.initialized eIS :: vx_atS RX3 50 eIS ["java/lang/RuntimeException", "java/lang/Exception"], vx_ot w = true := by decide +kernel
theorem th_ng126 : ∀ w ∈ (vx_atS RX3 126 eIA ["java/lang/RuntimeException", "java/lang/Exception"]).filter (fun w => !goodWord w), w ∈ ml_ng eIA := by decide +kernel
theorem th_gd126 : ∀ w ∈ Cond.classLink RX3 122 eIA :: Cond.initialized eIA :: vx_atS RX3 126 eIA ["java/lang/RuntimeException", "java/lang/Exception"], vx_ot w = true := by decide +kernel
theorem th_ng280 : ∀ w ∈ (vx_atS RX3 280 eIB ["java/lang/RuntimeException", "java/lang/Exception"]).filter (fun w => !goodWord w), w ∈ ml_ng eIB := by decide +kernel
theorem th_gd280 : ∀ w ∈ Cond.classLink RX3 276 eIB :: Cond.initialized eIB :: vx_atS RX3 280 eIB ["java/lang/RuntimeException", "java/lang/Exception"], vx_ot w = true := by decide +kernel
