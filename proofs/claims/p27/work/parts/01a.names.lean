/-! ===== BEGIN words of one list among another's, by their places ===== -/
theorem goodIn_r {big : List Cond} (ws : List Cond) (ps : List Nat) (hp : ws = ps.filterMap (fun i => big[i]?)) (h : ws.all goodWord = true) : GoodIn big ws := by
  intro w hw
  have h1 := List.all_eq_true.mp h w hw
  rw [hp] at hw
  obtain ⟨i, -, hi⟩ := List.mem_filterMap.mp hw
  have hm : w ∈ big := by first | exact List.mem_of_getElem? hi | exact List.getElem?_mem hi
  exact ⟨hm, good_of_word h1⟩
theorem goodIn_app {big a b : List Cond} (ha : GoodIn big a) (hb : GoodIn big b) : GoodIn big (a ++ b) := fun w h => (List.mem_append.mp h).elim (ha w) (hb w)
theorem goodIn_ca {big a b : List Cond} {c : Cond} (ha : GoodIn big (c :: a)) (hb : GoodIn big b) : GoodIn big (c :: (a ++ b)) := fun w h => (List.mem_cons.mp h).elim (fun e => ha w (List.mem_cons.mpr (Or.inl e))) (fun h => (List.mem_append.mp h).elim (fun h => ha w (List.mem_cons.mpr (Or.inr h))) (hb w))
theorem goodIn_sub {big ws : List Cond} (hm : ∀ w ∈ ws, w ∈ big) (h : ws.all goodWord = true) : GoodIn big ws := fun w hw => ⟨hm w hw, good_of_word (List.all_eq_true.mp h w hw)⟩
/-! ===== END ===== -/

/-! ===== BEGIN exceptions that leave a method, and their catching by the caller (launches without stack traces) ===== -/
section VXA
/-! The laws vx_back, vx_callV, vx_callS, vx_callSW, vx_throw0, vx_throwS follow proofs of the library, with one case more: JvmDerived/Free/Laws.lean (Back.of_free), Shelf42/LK1.lean (callV, callS), Shelf/KitTraced.lean (throwNew0V, throwNewS). -/
/-- where a method has thrown q: the class by its name, the cell, what was written, the world -/
def vx_T (XC : String → State → State → Prop) (st : State) (q : Addr) (t : State) (mc ms : Nat) (free : Addr → Prop) : Prop :=
  ∃ (E : String) (ce : Cell) (L : List Loc), XC E st t ∧ t.heap[q]? = some ce ∧ ce.vm = .none ∧ st.vm.findClass E = some ce.cls ∧ st.WarmedH t.vm ∧ st.sameButNew ({ t with vm := st.vm } : State) L mc ms ∧ ∀ z ∈ L, free z.base
def vx_Q (Qc : Array Value → State → Outcome → State → Prop) (XC : String → State → State → Prop) (mc ms : Nat) (free : Addr → Prop) : Array Value → State → Outcome → State → Prop := fun a st o t =>
  (Qc a st o t ∧ ∃ L, FrameEnd st o t L mc ms ∧ ∀ q ∈ L, free q.base) ∨ ∃ q, o = .threw q ∧ vx_T XC st q t mc ms free
/-- a callee that returns or throws -/
def vx_Met (l : Launch) (y : MethodName) (ws : List Cond) (rm : Room) (Pc : Array Value → State → Prop) (Qc : Array Value → State → Outcome → State → Prop) (XC : String → State → State → Prop) (mc ms : Nat) (free : Addr → Prop) : Prop :=
  MetFree l y (headSpec ws rm) Pc (fun _ _ _ _ _ => True) (vx_Q Qc XC mc ms free)
def vx_Post (XC : String → State → State → Prop) (mc ms : Nat) (free : Addr → Prop) : Pt → Array Value → Addr → Pt → Prop := fun A a q B =>
  ∃ (g : JFrame) (mk : MethodId) (t : State) (L : List Loc) (E : String) (ce : Cell), B.U.heap = t.heap ∧ B.U.vm = t.vm ∧ XC E (A.U.calling g mk a) t ∧ t.heap[q]? = some ce ∧ ce.vm = .none ∧ A.U.vm.findClass E = some ce.cls ∧ B.locs = A.locs ++ L ∧ (∀ z ∈ L, free z.base) ∧ B.cells = A.cells + mc ∧ B.slots = A.slots + ms
def vx_Back (l : Launch) (R : Room) (p : Program) (e : Env) (below : List Frame) (s : State) (sargs : Array Value) (y : MethodName) (len W9 : Nat)
    (Pre : Pt → Array Value → Prop) (Post : Pt → Array Value → Option Value → Pt → Prop) (PostX : Pt → Array Value → Addr → Pt → Prop) : Prop :=
  ∀ (m : MethodId) (meth : Method) (c : Code) (A : Pt) (g : JFrame) (ig : Instr) (mk : MethodId) (a : Array Value),
    Stand p l e R s m sargs below meth c A.U A.locs A.cells A.slots → g.method = m → g.locals.size = c.maxLocals → decode c.code g.pc = .ok (ig, len) →
    2 * g.monitorRoom + (g.stack.map fun v => v.category).sum ≤ W9 → A.U.methodNamed? y = some mk → Pre A a →
    (∃ (v : Option Value) (B : Pt), Stand p l e R s m sargs below meth c B.U B.locs B.cells B.slots ∧ Post A a v B ∧
      Steps p.tables e below (doInvoke e (A.U.setTop g) [] mk a).1 (B.U.setTop { g with pc := g.pc + len, stack := v.toList ++ g.stack })) ∨
    (∃ (q : Addr) (B : Pt), Stand p l e R s m sargs below meth c B.U B.locs B.cells B.slots ∧ PostX A a q B ∧
      Steps p.tables e below (doInvoke e (A.U.setTop g) [] mk a).1 ((B.U.setTop g).pushFrame (.throwing q)))
section Payer
variable {l : Launch} {R : Room} {p : Program} {e : Env} {below : List Frame} {s : State} {sargs : Array Value} {y : MethodName} {len W9 : Nat}
theorem vx_back {ws : List Cond} {rm : Room} {Pc : Array Value → State → Prop} {Qc : Array Value → State → Outcome → State → Prop} {XC : String → State → State → Prop} {mc ms : Nat} {free : Addr → Prop} {bytes : ByteArray} {maxL : Nat} {ret : Option FieldType}
    (hM : vx_Met l y ws rm Pc Qc XC mc ms free) (hblind : FrameBlind Pc) (hrc : rm.cells = mc) (hrs : rm.slots = ms)
    (hframes : rm.frames + 1 ≤ R.frames) (hlocals : W9 + (maxL + 11) + rm.locals ≤ R.locals)
    (hws : ∀ w ∈ ws, ∀ a' U, s.WarmedH U.vm → w.before a' U = true) (hcode : Cond.code y bytes maxL ret ∈ ws) (hinit : ∀ a' U, s.WarmedH U.vm → (Cond.initialized y.cls).before a' U = true) :
    vx_Back l R p e below s sargs y len W9 (PreOf R mc ms Pc) (PostOf Qc mc ms free) (vx_Post XC mc ms free) := by
  intro m meth c A g ig mk a X hg hsize hdg hW hn hp
  have h1 : (headSpec ws rm).pre.before a A.U = true := atoms_intro fun w hw => hws w hw _ _ X.warmed
  have h2 : (Cond.code y bytes maxL ret).before a A.U = true := hws _ hcode _ _ X.warmed
  have h3 : (Cond.initialized y.cls).before a A.U = true := hinit _ _ X.warmed
  have h4 : A.cells + (headSpec ws rm).room.cells ≤ R.cells := by rw [show (headSpec ws rm).room.cells = mc from hrc]; exact hp.1
  have h5 : A.slots + (headSpec ws rm).room.slots ≤ R.slots := by rw [show (headSpec ws rm).room.slots = ms from hrs]; exact hp.2.1
  have hPc : Pc a (A.U.calling g mk a) := hblind _ _ _ _ hp.2.2
  obtain ⟨U, Ls, c0, s0⟩ := A
  dsimp only [Pt.U, Pt.locs, Pt.cells, Pt.slots] at h1 h2 h3 h4 h5 X hn hPc ⊢
  obtain ⟨methY, cY, hmY, hcY, -, hlY, -, -, -, -⟩ := Cond.code_spec hn h2
  obtain ⟨kY, hkY, -⟩ := className_of_methodNamed hn
  have hinitY : kY.init = .initialized := Cond.initialized_spec (findClass_of_methodNamed hn) hkY h3
  have h : At U g.method c below := by rw [hg]; exact X.here
  have hlocals9 : W9 + (maxL + 11) + (headSpec ws rm).room.locals ≤ R.locals := hlocals
  have happ : (headSpec ws rm).appliesLoose y e.platform (U.calling g mk a) = true :=
    Spec.appliesLoose_calling (g := g) h hdg hn hkY hinitY
      (X.room_calling (g := g) (R' := (headSpec ws rm).room) hsize hmY hcY hframes (by rw [hlY]; omega) h4 h5) h1
  obtain ⟨mid, hmid⟩ := h.above
  have hfr : (U.setTop g).frames = (.java g :: mid) ++ below := by rw [State.frames_setTop' g h.top, hmid]; rfl
  obtain ⟨o, s₂, hsteps, -, hend, hq⟩ := Steps.callFree hM p X.admits X.cas X.clock (acts := []) hfr happ hPc trivial
  have hq' : vx_Q Qc XC mc ms free a (U.calling g mk a) o s₂ := hq
  rw [State.frames_setTop' g h.top] at hend
  obtain ⟨g₀, hg0⟩ := Option.isSome_iff_exists.mp h.top
  obtain ⟨r, hr⟩ := State.topJava?_eq_some.mp hg0
  have hr' : (({ U with heap := s₂.heap, slotsUsed := s₂.slotsUsed } : State).setVm s₂.vm).frames = .java g₀ :: r := hr
  rcases hq' with ⟨hqc, L, hfe, hL⟩ | ⟨q, rfl, E, ce, L, hx, hce, hcv, hcl, hW₂, hsm, hL⟩
  · obtain ⟨⟨v, rfl⟩, hW₂, e2, q2, q3, q4, q5, q6⟩ := id hfe
    have e3 : s₂ = ({ (U.calling g mk a).setFrames s₂.frames with heap := s₂.heap, slotsUsed := s₂.slotsUsed } : State).setVm s₂.vm := by
      have : s₂ = ({ s₂ with vm := (U.calling g mk a).vm } : State).setVm s₂.vm := rfl
      rw [e2] at this
      exact this
    obtain ⟨c₂, i₂, len₂, hc₂, hd₂, hf₂⟩ := hend
    have hW' : U.WarmedH s₂.vm := hW₂
    have hcc : c₂ = c := by
      have h1 : s₂.code? g.method = U.code? g.method := by
        rw [State.code?_eq, State.code?_eq, hW'.alike.method?]
      exact Option.some.inj (hc₂.symm.trans (h1.trans h.code))
    subst hcc
    have hlen : len₂ = len := by rw [hdg] at hd₂; cases hd₂; rfl
    subst hlen
    have hs₂ : s₂ = (({ U with heap := s₂.heap, slotsUsed := s₂.slotsUsed } : State).setVm s₂.vm).setTop { g with pc := g.pc + len₂, stack := v.toList ++ g.stack } := by
      refine e3.trans ?_
      rw [hf₂, State.calling_eq h.top, State.setFrames_setFrames, State.setTop_of_frames _ hr', hr]
      rfl
    have hsame : U.sameButNew ({ U with heap := s₂.heap, slotsUsed := s₂.slotsUsed } : State) L mc ms := by
      refine ⟨?_, q2, q3, q4, q5, q6⟩
      obtain ⟨t, ht, -⟩ := State.frames_cons hr
      show ({ U with heap := s₂.heap, slotsUsed := s₂.slotsUsed } : State) = { U.setFrames U.frames with heap := s₂.heap, slotsUsed := s₂.slotsUsed }
      rw [State.setFrames_self ht]
    subst hg
    refine Or.inl ⟨v, ⟨(({ U with heap := s₂.heap, slotsUsed := s₂.slotsUsed } : State).setVm s₂.vm), Ls ++ L, c0 + mc, s0 + ms⟩,
      ⟨X.admits, X.cas, X.clock, X.frames, X.room, X.hears, X.method, X.code, (X.here.setHeapUsed s₂.heap s₂.slotsUsed).setVm hW'.alike, X.tail, State.WarmedH.trans X.warmed hW', X.limits, X.bytes, X.same.trans (hsame.setVm s.vm)⟩,
      ⟨g, mk, s₂, L, rfl, rfl, hqc, rfl, hL, rfl, rfl⟩, ?_⟩
    show Steps p.tables e below _ ((({ U with heap := s₂.heap, slotsUsed := s₂.slotsUsed } : State).setVm s₂.vm).setTop { g with pc := g.pc + len₂, stack := v.toList ++ g.stack })
    rw [← hs₂]
    exact hsteps
  · obtain ⟨e2, q2, q3, q4, q5, q6⟩ := id hsm
    have e3 : s₂ = ({ (U.calling g mk a).setFrames s₂.frames with heap := s₂.heap, slotsUsed := s₂.slotsUsed } : State).setVm s₂.vm := by
      have : s₂ = ({ s₂ with vm := (U.calling g mk a).vm } : State).setVm s₂.vm := rfl
      rw [e2] at this
      exact this
    have hf₂ : s₂.frames = .throwing q :: .java g :: U.frames.tail := hend
    have hW' : U.WarmedH s₂.vm := hW₂
    have hs₂ : s₂ = ((({ U with heap := s₂.heap, slotsUsed := s₂.slotsUsed } : State).setVm s₂.vm).setTop g).pushFrame (.throwing q) := by
      refine e3.trans ?_
      rw [hf₂, State.calling_eq h.top, State.setFrames_setFrames, State.pushFrame, State.frames_setTop _ hr', State.setTop_of_frames _ hr', State.setFrames_setFrames, hr]
      rfl
    have hsame : U.sameButNew ({ U with heap := s₂.heap, slotsUsed := s₂.slotsUsed } : State) L mc ms := by
      refine ⟨?_, q2, q3, q4, q5, q6⟩
      obtain ⟨t, ht, -⟩ := State.frames_cons hr
      show ({ U with heap := s₂.heap, slotsUsed := s₂.slotsUsed } : State) = { U.setFrames U.frames with heap := s₂.heap, slotsUsed := s₂.slotsUsed }
      rw [State.setFrames_self ht]
    subst hg
    refine Or.inr ⟨q, ⟨(({ U with heap := s₂.heap, slotsUsed := s₂.slotsUsed } : State).setVm s₂.vm), Ls ++ L, c0 + mc, s0 + ms⟩,
      ⟨X.admits, X.cas, X.clock, X.frames, X.room, X.hears, X.method, X.code, (X.here.setHeapUsed s₂.heap s₂.slotsUsed).setVm hW'.alike, X.tail, State.WarmedH.trans X.warmed hW', X.limits, X.bytes, X.same.trans (hsame.setVm s.vm)⟩,
      ⟨g, mk, s₂, L, E, ce, rfl, rfl, hx, hce, hcv, hcl, rfl, hL, rfl, rfl⟩, ?_⟩
    show Steps p.tables e below _ (((({ U with heap := s₂.heap, slotsUsed := s₂.slotsUsed } : State).setVm s₂.vm).setTop g).pushFrame (.throwing q))
    rw [← hs₂]
    exact hsteps
end Payer
section Calls
variable {p : Program} {l : Launch} {e : Env} {R : Room} {s : State} {m : MethodId} {args : Array Value} {below : List Frame} {meth : Method} {c : Code} {T : State} {locs : List Loc} {cells slots : Nat}
theorem vx_callV (X : Stand p l e R s m args below meth c T locs cells slots) (hexec : p.tables.exec = Jvm.exec) {own C : String} {index : Nat} {y : MethodName} {bytes : ByteArray} {maxL : Nat} {ret : Option FieldType}
    (hown : s.vm.findClass own = some m.cls) (hlink : (Cond.methodLink own index y).before args s = true) (hinst : (Cond.instanceMethod y).before args s = true) (hsel : (Cond.selects C y y).before args s = true)
    (hcode : (Cond.code y bytes maxL ret).before args s = true) (hy : y.cls ≠ "java/lang/invoke/MethodHandle" ∧ y.cls ≠ "java/lang/invoke/VarHandle")
    {W9 : Nat} {Pre : Pt → Array Value → Prop} {Post : Pt → Array Value → Option Value → Pt → Prop} {PostX : Pt → Array Value → Addr → Pt → Prop} (hK : vx_Back l R p e below s args y 3 W9 Pre Post PostX)
    {b : Addr} {cellB : Cell} (hcell : T.heap[b]? = some cellB) (hobj : cellB.vm.isStatics = false) (hcls : s.vm.findClass C = some cellB.cls)
    {g : JFrame} (hg : g.method = m) (hsize : g.locals.size = c.maxLocals) {argsL rest : List Value} (hlen : ∀ sig, parseMethodDescriptor y.desc = some sig → argsL.length = sig.parameters.length)
    (hstack : g.stack = argsL.reverse ++ .ref b :: rest) (hW : 2 * g.monitorRoom + (rest.map fun v => v.category).sum ≤ W9) (hdg : decode c.code g.pc = .ok (.invokevirtual index, 3))
    (hpre : ∀ vm₁, s.WarmedH vm₁ → Pre ⟨T.setVm vm₁, locs, cells, slots⟩ (Value.ref b :: argsL).toArray) :
    (∃ (v : Option Value) (vm₁ : Vm) (B : Pt), s.WarmedH vm₁ ∧ Stand p l e R s m args below meth c B.U B.locs B.cells B.slots ∧ Post ⟨T.setVm vm₁, locs, cells, slots⟩ (Value.ref b :: argsL).toArray v B ∧
      ∀ target, Steps p.tables e below (B.U.setTop { g with pc := g.pc + 3, stack := v.toList ++ rest }) target → Steps p.tables e below (T.setTop g) target) ∨
    (∃ (q : Addr) (vm₁ : Vm) (B : Pt), s.WarmedH vm₁ ∧ Stand p l e R s m args below meth c B.U B.locs B.cells B.slots ∧ PostX ⟨T.setVm vm₁, locs, cells, slots⟩ (Value.ref b :: argsL).toArray q B ∧
      Steps p.tables e below (T.setTop g) ((B.U.setTop { g with stack := rest }).pushFrame (.throwing q))) := by
  obtain ⟨mk, methM, hnamed, hmethM, hstM, habM⟩ := Cond.instanceMethod_spec hinst
  obtain ⟨methM', cM, hmethM', -, -, -, -, -, -, hsigM⟩ := Cond.code_spec hnamed hcode
  cases hmethM.symm.trans hmethM'
  obtain ⟨c2, r2, m2, q1, q2, q3, q4, kP, hkP, hkPi⟩ := Cond.selects_spec hsel
  cases hcls.symm.trans q1
  cases (State.methodFound?_of_named hnamed hy).symm.trans q2
  cases hnamed.symm.trans q3
  have hselP : selectMethod e.platform s.vm cellB.cls mk = .method mk := by rw [Launch.admits_selectMethod X.admits]; exact q4
  obtain ⟨vm₁, X₁, hstep₁⟩ := X.invokevirtual hexec hown hlink hnamed hmethM hstM hkP hkPi hy (a := b) (cell := cellB) hcell
    (fun z h => by rw [h] at hobj; cases hobj) hselP hmethM habM hkP hkPi (g := g) hg (argsL := argsL) (rest := rest) (hlen _ hsigM) hstack hdg
  rcases hK m meth c ⟨T.setVm vm₁, locs, cells, slots⟩ { g with stack := rest } (.invokevirtual index) mk (Value.ref b :: argsL).toArray X₁ hg hsize hdg hW (X₁.named hnamed) (hpre vm₁ X₁.warmed) with ⟨v, B, X', hpost, hsteps⟩ | ⟨q, B, X', hpost, hsteps⟩
  · exact Or.inl ⟨v, vm₁, B, X₁.warmed, X', hpost, fun target h => hstep₁ _ fun acts => by rw [doInvoke_state]; exact hsteps.trans h⟩
  · exact Or.inr ⟨q, vm₁, B, X₁.warmed, X', hpost, hstep₁ _ fun acts => by rw [doInvoke_state]; exact hsteps⟩
theorem vx_callS (X : Stand p l e R s m args below meth c T locs cells slots) (hexec : p.tables.exec = Jvm.exec) {own : String} {index : Nat} {y : MethodName} {bytes : ByteArray} {maxL : Nat} {ret : Option FieldType}
    (hown : s.vm.findClass own = some m.cls) (hlink : (Cond.methodLink own index y).before args s = true) (hstat : (Cond.static y).before args s = true) (hinit : (Cond.initialized y.cls).before args s = true)
    (hcode : (Cond.code y bytes maxL ret).before args s = true) (hy : y.cls ≠ "java/lang/invoke/MethodHandle" ∧ y.cls ≠ "java/lang/invoke/VarHandle")
    {W9 : Nat} {Pre : Pt → Array Value → Prop} {Post : Pt → Array Value → Option Value → Pt → Prop} {PostX : Pt → Array Value → Addr → Pt → Prop} (hK : vx_Back l R p e below s args y 3 W9 Pre Post PostX)
    {g : JFrame} (hg : g.method = m) (hsize : g.locals.size = c.maxLocals) {argsL rest : List Value} (hlen : ∀ sig, parseMethodDescriptor y.desc = some sig → argsL.length = sig.parameters.length)
    (hstack : g.stack = argsL.reverse ++ rest) (hW : 2 * g.monitorRoom + (rest.map fun v => v.category).sum ≤ W9) (hdg : decode c.code g.pc = .ok (.invokestatic index, 3))
    (hpre : ∀ vm₁, s.WarmedH vm₁ → Pre ⟨T.setVm vm₁, locs, cells, slots⟩ argsL.toArray) :
    (∃ (v : Option Value) (vm₁ : Vm) (B : Pt), s.WarmedH vm₁ ∧ Stand p l e R s m args below meth c B.U B.locs B.cells B.slots ∧ Post ⟨T.setVm vm₁, locs, cells, slots⟩ argsL.toArray v B ∧
      ∀ target, Steps p.tables e below (B.U.setTop { g with pc := g.pc + 3, stack := v.toList ++ rest }) target → Steps p.tables e below (T.setTop g) target) ∨
    (∃ (q : Addr) (vm₁ : Vm) (B : Pt), s.WarmedH vm₁ ∧ Stand p l e R s m args below meth c B.U B.locs B.cells B.slots ∧ PostX ⟨T.setVm vm₁, locs, cells, slots⟩ argsL.toArray q B ∧
      Steps p.tables e below (T.setTop g) ((B.U.setTop { g with stack := rest }).pushFrame (.throwing q))) := by
  obtain ⟨mk, hnamed⟩ := Cond.code_named hcode
  obtain ⟨methM, cM, hmethM, -, -, -, -, -, -, hsigM⟩ := Cond.code_spec hnamed hcode
  have hstatic : methM.isStatic = true := Cond.static_spec hnamed hmethM hstat
  obtain ⟨kP, hkP, -⟩ := className_of_methodNamed hnamed
  have hinitP : kP.init = .initialized := Cond.initialized_spec (findClass_of_methodNamed hnamed) hkP hinit
  obtain ⟨vm₁, X₁, hstep₁⟩ := X.invokestatic hexec hown hlink hnamed hmethM hstatic hkP hinitP hy (g := g) hg (argsL := argsL) (rest := rest) (hlen _ hsigM) hstack hdg
  rcases hK m meth c ⟨T.setVm vm₁, locs, cells, slots⟩ { g with stack := rest } (.invokestatic index) mk argsL.toArray X₁ hg hsize hdg hW (X₁.named hnamed) (hpre vm₁ X₁.warmed) with ⟨v, B, X', hpost, hsteps⟩ | ⟨q, B, X', hpost, hsteps⟩
  · exact Or.inl ⟨v, vm₁, B, X₁.warmed, X', hpost, fun target h => hstep₁ _ fun acts => by rw [doInvoke_state]; exact hsteps.trans h⟩
  · exact Or.inr ⟨q, vm₁, B, X₁.warmed, X', hpost, hstep₁ _ fun acts => by rw [doInvoke_state]; exact hsteps⟩
end Calls
theorem vx_cls {s : State} {T : State} {vm₁ : Vm} {E : String} {k : ClassId} (hW : s.WarmedH vm₁) (h : (T.setVm vm₁).vm.findClass E = some k) : s.vm.findClass E = some k := by
  have h1 : vm₁.findClass E = some k := h
  rw [hW.alike.findClass] at h1
  exact h1
/-- the method's frame g, with q thrown over it -/
def vx_W (p : Program) (l : Launch) (e : Env) (R : Room) (s : State) (m : MethodId) (args : Array Value) (below : List Frame) (meth : Method) (c : Code) (H : Heap) (locs : List Loc) (cells slots : Nat) (Q : State → Prop) (g : JFrame) (q : Addr) : Prop :=
  ∀ T : State, T.heap = H → Stand p l e R s m args below meth c T locs cells slots → ∃ t, Steps p.tables e below ((T.setTop g).pushFrame (.throwing q)) t ∧ Q t
def vx_Run (p : Program) (l : Launch) (e : Env) (R : Room) (s : State) (m : MethodId) (args : Array Value) (below : List Frame) (meth : Method) (c : Code) (H : Heap) (locs : List Loc) (cells slots mc ms : Nat) (g : JFrame) (rest : List Value) (Qa : State → Outcome → State → Prop) (XC : String → State → State → Prop) (free : Addr → Prop) : Prop :=
  ∀ T : State, T.heap = H → Stand p l e R s m args below meth c T locs cells slots →
    (∃ (v : Option Value) (st₀ t T' : State) (L : List Loc), st₀.heap = H ∧ Stand p l e R s m args below meth c T' (locs ++ L) (cells + mc) (slots + ms) ∧ (∀ q ∈ L, free q.base) ∧ T'.heap = t.heap ∧ T'.vm = t.vm ∧ Qa st₀ (.returned v) t ∧
      Goes p e below T g T' { g with pc := g.pc + 3, stack := v.toList ++ rest }) ∨
    (∃ (q : Addr) (st₀ t T' : State) (L : List Loc) (E : String) (ce : Cell), st₀.heap = H ∧ Stand p l e R s m args below meth c T' (locs ++ L) (cells + mc) (slots + ms) ∧ (∀ z ∈ L, free z.base) ∧ T'.heap = t.heap ∧ T'.vm = t.vm ∧ XC E st₀ t ∧ t.heap[q]? = some ce ∧ ce.vm = .none ∧ s.vm.findClass E = some ce.cls ∧
      Steps p.tables e below (T.setTop g) ((T'.setTop { g with stack := rest }).pushFrame (.throwing q)))
def vx_X {S : Type} (px : S → Prop) (B : String → S → State → Prop) (A : Nat → Prop) : String → State → State → Prop := fun E st t => ∃ u : S, px u ∧ B E u t ∧ va_F A st t
section Runs
variable {p : Program} {l : Launch} {e : Env} {R : Room} {s : State} {m : MethodId} {args : Array Value} {below : List Frame} {meth : Method} {c : Code} {H : Heap} {locs : List Loc} {cells slots : Nat}
variable {y : MethodName} {bytes cc : ByteArray} {maxL nL mc ms n index : Nat} {ret : Option FieldType} {ws : List Cond} {rm : Room} {Pc : Array Value → State → Prop} {Qc : Array Value → State → Outcome → State → Prop} {XC : String → State → State → Prop} {free : Addr → Prop} {Ts : List Cond} {own C : String} {b : Addr} {As rest : List Value} {g : JFrame}
theorem vx_callBack (cb : CallB R s args own index y bytes maxL ret ws rm mc ms n) (hM : vx_Met l y ws rm Pc Qc XC mc ms free) (hbl : FrameBlind Pc) : vx_Back l R p e below s args y 3 8 (PreOf R mc ms Pc) (PostOf Qc mc ms free) (vx_Post XC mc ms free) := by
  obtain ⟨hrc, hrs, hfr, hlo, hws, hcw, -, hini, -⟩ := cb
  exact vx_back (bytes := bytes) (maxL := maxL) (ret := ret) hM hbl hrc hrs hfr hlo hws hcw (fun a' U hW => word_at hW (Or.inl (by first | rfl | simp [Cond.onTables, Cond.keeps, Cond.steady])) hini)
theorem vx_runV (S : CallFix p m c cc nL s args Ts own) (hM : vx_Met l y ws rm Pc Qc XC mc ms free) (cw : CallW R s args own C index y bytes maxL ret ws rm mc ms n) (hp : PreV s H C b Pc As)
    (hg : g.method = m) (hn : As.length = n) (hsize : g.locals.size = nL) (hstack : g.stack = As.reverse ++ .ref b :: rest) (hW : 2 * g.monitorRoom + (rest.map fun v => v.category).sum ≤ 8) (hdg : decode cc g.pc = .ok (.invokevirtual index, 3)) (hf : cells + mc ≤ R.cells ∧ slots + ms ≤ R.slots) :
    vx_Run p l e R s m args below meth c H locs cells slots mc ms g rest (Qc (Value.ref b :: As).toArray) XC free := by
  have hK : vx_Back l R p e below s args y 3 8 (PreOf R mc ms Pc) (PostOf Qc mc ms free) (vx_Post XC mc ms free) := vx_callBack cw.1 hM hp.1
  obtain ⟨⟨-, -, -, -, -, -, hcode, -, hy, hlen, hl⟩, hin, hse⟩ := cw
  obtain ⟨hx, hb, hml, ho, -⟩ := S
  obtain ⟨-, ⟨cellB, hcB, hoB, hclB⟩, hPc⟩ := hp
  intro T hT X
  rcases vx_callV X hx (C := C) (bytes := bytes) (maxL := maxL) (ret := ret) ho hl hin hse hcode hy hK (by rw [hT]; exact hcB) hoB hclB hg (hsize.trans hml.symm) (argsL := As) (rest := rest) (fun sig h => hn.trans (hlen sig h)) hstack hW (by rw [hb]; exact hdg)
    (fun vm₁ hW₁ => ⟨hf.1, hf.2, hPc (T.setVm vm₁) hT hW₁⟩) with ⟨v, vm₁, ⟨U', l2, c2, s2⟩, hW₁, X', ⟨g', mk, t, L, e1, e2, hq, h1, hL, h2, h3⟩, st⟩ | ⟨q, vm₁, ⟨U', l2, c2, s2⟩, hW₁, X', ⟨g', mk, t, L, E, ce, e1, e2, hq, hce, hcv, hcl, h1, hL, h2, h3⟩, st⟩
  · dsimp only [Pt.U, Pt.locs, Pt.cells, Pt.slots] at X' e1 e2 h1 h2 h3 st
    subst h1; subst h2; subst h3
    exact Or.inl ⟨v, (T.setVm vm₁).calling g' mk (Value.ref b :: As).toArray, t, U', L, hT, X', hL, e1, e2, hq, st⟩
  · dsimp only [Pt.U, Pt.locs, Pt.cells, Pt.slots] at X' e1 e2 h1 h2 h3 st hcl
    subst h1; subst h2; subst h3
    exact Or.inr ⟨q, (T.setVm vm₁).calling g' mk (Value.ref b :: As).toArray, t, U', L, E, ce, hT, X', hL, e1, e2, hq, hce, hcv, vx_cls hW₁ hcl, st⟩
theorem vx_runS (S : CallFix p m c cc nL s args Ts own) (hM : vx_Met l y ws rm Pc Qc XC mc ms free) (cw : CallB R s args own index y bytes maxL ret ws rm mc ms n ∧ (Cond.static y).before args s = true) (hp : PreS s H Pc As)
    (hg : g.method = m) (hn : As.length = n) (hsize : g.locals.size = nL) (hstack : g.stack = As.reverse ++ rest) (hW : 2 * g.monitorRoom + (rest.map fun v => v.category).sum ≤ 8) (hdg : decode cc g.pc = .ok (.invokestatic index, 3)) (hf : cells + mc ≤ R.cells ∧ slots + ms ≤ R.slots) :
    vx_Run p l e R s m args below meth c H locs cells slots mc ms g rest (Qc As.toArray) XC free := by
  have hK : vx_Back l R p e below s args y 3 8 (PreOf R mc ms Pc) (PostOf Qc mc ms free) (vx_Post XC mc ms free) := vx_callBack cw.1 hM hp.1
  obtain ⟨⟨-, -, -, -, -, -, hcode, hini, hy, hlen, hl⟩, hstt⟩ := cw
  obtain ⟨hx, hb, hml, ho, -⟩ := S
  intro T hT X
  rcases vx_callS X hx (bytes := bytes) (maxL := maxL) (ret := ret) ho hl hstt hini hcode hy hK hg (hsize.trans hml.symm) (argsL := As) (rest := rest) (fun sig h => hn.trans (hlen sig h)) hstack hW (by rw [hb]; exact hdg)
    (fun vm₁ hW₁ => ⟨hf.1, hf.2, hp.2 (T.setVm vm₁) hT hW₁⟩) with ⟨v, vm₁, ⟨U', l2, c2, s2⟩, hW₁, X', ⟨g', mk, t, L, e1, e2, hq, h1, hL, h2, h3⟩, st⟩ | ⟨q, vm₁, ⟨U', l2, c2, s2⟩, hW₁, X', ⟨g', mk, t, L, E, ce, e1, e2, hq, hce, hcv, hcl, h1, hL, h2, h3⟩, st⟩
  · dsimp only [Pt.U, Pt.locs, Pt.cells, Pt.slots] at X' e1 e2 h1 h2 h3 st
    subst h1; subst h2; subst h3
    exact Or.inl ⟨v, (T.setVm vm₁).calling g' mk As.toArray, t, U', L, hT, X', hL, e1, e2, hq, st⟩
  · dsimp only [Pt.U, Pt.locs, Pt.cells, Pt.slots] at X' e1 e2 h1 h2 h3 st hcl
    subst h1; subst h2; subst h3
    exact Or.inr ⟨q, (T.setVm vm₁).calling g' mk As.toArray, t, U', L, E, ce, hT, X', hL, e1, e2, hq, hce, hcv, vx_cls hW₁ hcl, st⟩
end Runs
section Rows
variable {p : Program} {l : Launch} {e : Env} {R : Room} {s : State} {m : MethodId} {args : Array Value} {below : List Frame} {meth : Method} {c : Code} {H : Heap} {locs : List Loc} {cells slots : Nat} {Q : State → Prop}
variable {mc ms : Nat} {free : Addr → Prop} {A0 A1 : Nat → Prop} {H0 : Heap} {a : Array Value} {pc : Nat} {ls : Array Slot} {st0 rest : List Value}
theorem vx_keep {st₀ t T' : State} {L : List Loc} (h0 : st₀.heap = H) (e1 : T'.heap = t.heap) (hS : va_S A0 H0 H locs) (hA : ∀ q, q < H.size → A1 q → A0 q) (hf : ∀ q, free q → A0 q) (hL : ∀ q ∈ L, free q.base) (hF : va_F A1 st₀ t) :
    H.size ≤ T'.heap.size ∧ (∀ q : Nat, q < H.size → ¬ A1 q → T'.heap[q]? = H[q]?) ∧ va_S A0 H0 T'.heap (locs ++ L) := by
  obtain ⟨hz, hk⟩ := hF
  rw [h0] at hz hk
  exact ⟨by rw [e1]; exact hz, fun q h1 h2 => by rw [e1]; exact hk q h1 h2,
    ⟨Nat.le_trans hS.1 (by rw [e1]; exact hz), fun q h1 h2 => by rw [e1, hk q (Nat.lt_of_lt_of_le h1 hS.1) (fun z => h2 (hA q (Nat.lt_of_lt_of_le h1 hS.1) z))]; exact hS.2.1 q h1 h2, fun q hq => by
      rcases List.mem_append.mp hq with h | h
      · exact hS.2.2 q h
      · exact hf _ (hL q h)⟩⟩
theorem vx_calli {S SX : Type} {post : Int32 → S → Prop} {px : SX → Prop} {B : S → State → Prop} {BX : String → SX → State → Prop} {AX : Nat → Prop} (hr : vx_Run p l e R s m args below meth c H locs cells slots mc ms (F0 m pc ls st0) rest (va_Qi post B A1 a) (vx_X px BX AX) free) (hS : va_S A0 H0 H locs) (hA : ∀ q, q < H.size → A1 q → A0 q) (hf : ∀ q, free q → A0 q) (hAX : ∀ q, q < H.size → AX q → A0 q)
    (kx : ∀ (E : String) (ce : Cell) (q9 : Addr) (u : SX) (t : State) (H1 : Heap) (locs1 : List Loc), t.heap = H1 → s.vm.Alike t.vm → px u → BX E u t → H.size ≤ H1.size → (∀ q : Nat, q < H.size → ¬ AX q → H1[q]? = H[q]?) → va_S A0 H0 H1 locs1 → H1[q9]? = some ce → ce.vm = .none → s.vm.findClass E = some ce.cls → vx_W p l e R s m args below meth c H1 locs1 (cells + mc) (slots + ms) Q (F0 m pc ls rest) q9)
    (kk : ∀ (r : Int32) (u : S) (t : State) (H1 : Heap) (locs1 : List Loc), t.heap = H1 → s.vm.Alike t.vm → post r u → B u t → H.size ≤ H1.size → (∀ q : Nat, q < H.size → ¬ A1 q → H1[q]? = H[q]?) → va_S A0 H0 H1 locs1 → W p l e R s m args below meth c H1 locs1 (cells + mc) (slots + ms) Q (F0 m (pc + 3) ls (.int r :: rest))) : W p l e R s m args below meth c H locs cells slots Q (F0 m pc ls st0) := by
  intro T hT X
  rcases hr T hT X with ⟨v, st₀, t, T', L, h0, X', hL, e1, e2, ⟨⟨r, u, hv, hp, hb⟩, hF⟩, st⟩ | ⟨q, st₀, t, T', L, E, ce, h0, X', hL, e1, e2, ⟨u, hp, hb, hF⟩, hce, hcv, hcl, st⟩
  · cases hv
    obtain ⟨k1, k2, k3⟩ := vx_keep h0 e1 hS hA hf hL hF
    obtain ⟨t2, a1, b1⟩ := kk r u t T'.heap (locs ++ L) e1.symm (by rw [← e2]; exact X'.warmed.alike) hp hb k1 k2 k3 T' rfl X'
    exact ⟨t2, st t2 a1, b1⟩
  · obtain ⟨k1, k2, k3⟩ := vx_keep h0 e1 hS hAX hf hL hF
    obtain ⟨t2, a1, b1⟩ := kx E ce q u t T'.heap (locs ++ L) e1.symm (by rw [← e2]; exact X'.warmed.alike) hp hb k1 k2 k3 (by rw [e1]; exact hce) hcv hcl T' rfl X'
    exact ⟨t2, st.trans a1, b1⟩
theorem vx_calll {S SX : Type} {post : Int64 → S → Prop} {px : SX → Prop} {B : S → State → Prop} {BX : String → SX → State → Prop} {AX : Nat → Prop} (hr : vx_Run p l e R s m args below meth c H locs cells slots mc ms (F0 m pc ls st0) rest (va_Ql post B A1 a) (vx_X px BX AX) free) (hS : va_S A0 H0 H locs) (hA : ∀ q, q < H.size → A1 q → A0 q) (hf : ∀ q, free q → A0 q) (hAX : ∀ q, q < H.size → AX q → A0 q)
    (kx : ∀ (E : String) (ce : Cell) (q9 : Addr) (u : SX) (t : State) (H1 : Heap) (locs1 : List Loc), t.heap = H1 → s.vm.Alike t.vm → px u → BX E u t → H.size ≤ H1.size → (∀ q : Nat, q < H.size → ¬ AX q → H1[q]? = H[q]?) → va_S A0 H0 H1 locs1 → H1[q9]? = some ce → ce.vm = .none → s.vm.findClass E = some ce.cls → vx_W p l e R s m args below meth c H1 locs1 (cells + mc) (slots + ms) Q (F0 m pc ls rest) q9)
    (kk : ∀ (r : Int64) (u : S) (t : State) (H1 : Heap) (locs1 : List Loc), t.heap = H1 → s.vm.Alike t.vm → post r u → B u t → H.size ≤ H1.size → (∀ q : Nat, q < H.size → ¬ A1 q → H1[q]? = H[q]?) → va_S A0 H0 H1 locs1 → W p l e R s m args below meth c H1 locs1 (cells + mc) (slots + ms) Q (F0 m (pc + 3) ls (.long r :: rest))) : W p l e R s m args below meth c H locs cells slots Q (F0 m pc ls st0) := by
  intro T hT X
  rcases hr T hT X with ⟨v, st₀, t, T', L, h0, X', hL, e1, e2, ⟨⟨r, u, hv, hp, hb⟩, hF⟩, st⟩ | ⟨q, st₀, t, T', L, E, ce, h0, X', hL, e1, e2, ⟨u, hp, hb, hF⟩, hce, hcv, hcl, st⟩
  · cases hv
    obtain ⟨k1, k2, k3⟩ := vx_keep h0 e1 hS hA hf hL hF
    obtain ⟨t2, a1, b1⟩ := kk r u t T'.heap (locs ++ L) e1.symm (by rw [← e2]; exact X'.warmed.alike) hp hb k1 k2 k3 T' rfl X'
    exact ⟨t2, st t2 a1, b1⟩
  · obtain ⟨k1, k2, k3⟩ := vx_keep h0 e1 hS hAX hf hL hF
    obtain ⟨t2, a1, b1⟩ := kx E ce q u t T'.heap (locs ++ L) e1.symm (by rw [← e2]; exact X'.warmed.alike) hp hb k1 k2 k3 (by rw [e1]; exact hce) hcv hcl T' rfl X'
    exact ⟨t2, st.trans a1, b1⟩
theorem vx_callf {S SX : Type} {post : UInt32 → S → Prop} {px : SX → Prop} {B : S → State → Prop} {BX : String → SX → State → Prop} {AX : Nat → Prop} (hr : vx_Run p l e R s m args below meth c H locs cells slots mc ms (F0 m pc ls st0) rest (va_Qf post B A1 a) (vx_X px BX AX) free) (hS : va_S A0 H0 H locs) (hA : ∀ q, q < H.size → A1 q → A0 q) (hf : ∀ q, free q → A0 q) (hAX : ∀ q, q < H.size → AX q → A0 q)
    (kx : ∀ (E : String) (ce : Cell) (q9 : Addr) (u : SX) (t : State) (H1 : Heap) (locs1 : List Loc), t.heap = H1 → s.vm.Alike t.vm → px u → BX E u t → H.size ≤ H1.size → (∀ q : Nat, q < H.size → ¬ AX q → H1[q]? = H[q]?) → va_S A0 H0 H1 locs1 → H1[q9]? = some ce → ce.vm = .none → s.vm.findClass E = some ce.cls → vx_W p l e R s m args below meth c H1 locs1 (cells + mc) (slots + ms) Q (F0 m pc ls rest) q9)
    (kk : ∀ (r : UInt32) (u : S) (t : State) (H1 : Heap) (locs1 : List Loc), t.heap = H1 → s.vm.Alike t.vm → post r u → B u t → H.size ≤ H1.size → (∀ q : Nat, q < H.size → ¬ A1 q → H1[q]? = H[q]?) → va_S A0 H0 H1 locs1 → W p l e R s m args below meth c H1 locs1 (cells + mc) (slots + ms) Q (F0 m (pc + 3) ls (.float r :: rest))) : W p l e R s m args below meth c H locs cells slots Q (F0 m pc ls st0) := by
  intro T hT X
  rcases hr T hT X with ⟨v, st₀, t, T', L, h0, X', hL, e1, e2, ⟨⟨r, u, hv, hp, hb⟩, hF⟩, st⟩ | ⟨q, st₀, t, T', L, E, ce, h0, X', hL, e1, e2, ⟨u, hp, hb, hF⟩, hce, hcv, hcl, st⟩
  · cases hv
    obtain ⟨k1, k2, k3⟩ := vx_keep h0 e1 hS hA hf hL hF
    obtain ⟨t2, a1, b1⟩ := kk r u t T'.heap (locs ++ L) e1.symm (by rw [← e2]; exact X'.warmed.alike) hp hb k1 k2 k3 T' rfl X'
    exact ⟨t2, st t2 a1, b1⟩
  · obtain ⟨k1, k2, k3⟩ := vx_keep h0 e1 hS hAX hf hL hF
    obtain ⟨t2, a1, b1⟩ := kx E ce q u t T'.heap (locs ++ L) e1.symm (by rw [← e2]; exact X'.warmed.alike) hp hb k1 k2 k3 (by rw [e1]; exact hce) hcv hcl T' rfl X'
    exact ⟨t2, st.trans a1, b1⟩
theorem vx_calld {S SX : Type} {post : UInt64 → S → Prop} {px : SX → Prop} {B : S → State → Prop} {BX : String → SX → State → Prop} {AX : Nat → Prop} (hr : vx_Run p l e R s m args below meth c H locs cells slots mc ms (F0 m pc ls st0) rest (va_Qd post B A1 a) (vx_X px BX AX) free) (hS : va_S A0 H0 H locs) (hA : ∀ q, q < H.size → A1 q → A0 q) (hf : ∀ q, free q → A0 q) (hAX : ∀ q, q < H.size → AX q → A0 q)
    (kx : ∀ (E : String) (ce : Cell) (q9 : Addr) (u : SX) (t : State) (H1 : Heap) (locs1 : List Loc), t.heap = H1 → s.vm.Alike t.vm → px u → BX E u t → H.size ≤ H1.size → (∀ q : Nat, q < H.size → ¬ AX q → H1[q]? = H[q]?) → va_S A0 H0 H1 locs1 → H1[q9]? = some ce → ce.vm = .none → s.vm.findClass E = some ce.cls → vx_W p l e R s m args below meth c H1 locs1 (cells + mc) (slots + ms) Q (F0 m pc ls rest) q9)
    (kk : ∀ (r : UInt64) (u : S) (t : State) (H1 : Heap) (locs1 : List Loc), t.heap = H1 → s.vm.Alike t.vm → post r u → B u t → H.size ≤ H1.size → (∀ q : Nat, q < H.size → ¬ A1 q → H1[q]? = H[q]?) → va_S A0 H0 H1 locs1 → W p l e R s m args below meth c H1 locs1 (cells + mc) (slots + ms) Q (F0 m (pc + 3) ls (.double r :: rest))) : W p l e R s m args below meth c H locs cells slots Q (F0 m pc ls st0) := by
  intro T hT X
  rcases hr T hT X with ⟨v, st₀, t, T', L, h0, X', hL, e1, e2, ⟨⟨r, u, hv, hp, hb⟩, hF⟩, st⟩ | ⟨q, st₀, t, T', L, E, ce, h0, X', hL, e1, e2, ⟨u, hp, hb, hF⟩, hce, hcv, hcl, st⟩
  · cases hv
    obtain ⟨k1, k2, k3⟩ := vx_keep h0 e1 hS hA hf hL hF
    obtain ⟨t2, a1, b1⟩ := kk r u t T'.heap (locs ++ L) e1.symm (by rw [← e2]; exact X'.warmed.alike) hp hb k1 k2 k3 T' rfl X'
    exact ⟨t2, st t2 a1, b1⟩
  · obtain ⟨k1, k2, k3⟩ := vx_keep h0 e1 hS hAX hf hL hF
    obtain ⟨t2, a1, b1⟩ := kx E ce q u t T'.heap (locs ++ L) e1.symm (by rw [← e2]; exact X'.warmed.alike) hp hb k1 k2 k3 (by rw [e1]; exact hce) hcv hcl T' rfl X'
    exact ⟨t2, st.trans a1, b1⟩
theorem vx_callv {S SX : Type} {post : S → Prop} {px : SX → Prop} {B : S → State → Prop} {BX : String → SX → State → Prop} {AX : Nat → Prop} (hr : vx_Run p l e R s m args below meth c H locs cells slots mc ms (F0 m pc ls st0) rest (va_Qv post B A1 a) (vx_X px BX AX) free) (hS : va_S A0 H0 H locs) (hA : ∀ q, q < H.size → A1 q → A0 q) (hf : ∀ q, free q → A0 q) (hAX : ∀ q, q < H.size → AX q → A0 q)
    (kx : ∀ (E : String) (ce : Cell) (q9 : Addr) (u : SX) (t : State) (H1 : Heap) (locs1 : List Loc), t.heap = H1 → s.vm.Alike t.vm → px u → BX E u t → H.size ≤ H1.size → (∀ q : Nat, q < H.size → ¬ AX q → H1[q]? = H[q]?) → va_S A0 H0 H1 locs1 → H1[q9]? = some ce → ce.vm = .none → s.vm.findClass E = some ce.cls → vx_W p l e R s m args below meth c H1 locs1 (cells + mc) (slots + ms) Q (F0 m pc ls rest) q9)
    (kk : ∀ (u : S) (t : State) (H1 : Heap) (locs1 : List Loc), t.heap = H1 → s.vm.Alike t.vm → post u → B u t → H.size ≤ H1.size → (∀ q : Nat, q < H.size → ¬ A1 q → H1[q]? = H[q]?) → va_S A0 H0 H1 locs1 → W p l e R s m args below meth c H1 locs1 (cells + mc) (slots + ms) Q (F0 m (pc + 3) ls (rest))) : W p l e R s m args below meth c H locs cells slots Q (F0 m pc ls st0) := by
  intro T hT X
  rcases hr T hT X with ⟨v, st₀, t, T', L, h0, X', hL, e1, e2, ⟨⟨u, hv, hp, hb⟩, hF⟩, st⟩ | ⟨q, st₀, t, T', L, E, ce, h0, X', hL, e1, e2, ⟨u, hp, hb, hF⟩, hce, hcv, hcl, st⟩
  · cases hv
    obtain ⟨k1, k2, k3⟩ := vx_keep h0 e1 hS hA hf hL hF
    obtain ⟨t2, a1, b1⟩ := kk u t T'.heap (locs ++ L) e1.symm (by rw [← e2]; exact X'.warmed.alike) hp hb k1 k2 k3 T' rfl X'
    exact ⟨t2, st t2 a1, b1⟩
  · obtain ⟨k1, k2, k3⟩ := vx_keep h0 e1 hS hAX hf hL hF
    obtain ⟨t2, a1, b1⟩ := kx E ce q u t T'.heap (locs ++ L) e1.symm (by rw [← e2]; exact X'.warmed.alike) hp hb k1 k2 k3 (by rw [e1]; exact hce) hcv hcl T' rfl X'
    exact ⟨t2, st.trans a1, b1⟩
/-- caught by the row x of this method's table; the rows ahead don't take it -/
theorem vx_catch {own name : String} {E : String} {ce : Cell} {q : Addr} (hown : s.vm.findClass own = some m.cls) (pre : List ExceptionTableEntry) (x : ExceptionTableEntry) (suf : List ExceptionTableEntry) (hsplit : c.exceptionTable.toList = pre ++ x :: suf)
    (hpass : ∀ z ∈ pre, covers z pc = false ∨ (z.catchType ≠ 0 ∧ ∃ nm : String, (Cond.classLink own z.catchType nm).before args s = true ∧ va_Nc E nm s)) (hx : covers x pc = true) (h0 : x.catchType ≠ 0)
    (hlink : (Cond.classLink own x.catchType name).before args s = true) (hcast : (Cond.castable E name).before args s = true) (hcell : H[q]? = some ce) (hv : ce.vm = .none) (hcl : s.vm.findClass E = some ce.cls)
    (kk : W p l e R s m args below meth c H locs cells slots Q (F0 m x.handlerPc ls [.ref q])) : vx_W p l e R s m args below meth c H locs cells slots Q (F0 m pc ls rest) q := by
  intro T hT X
  have hpl : e.platform.magicAccessors = ({} : Platform).magicAccessors := by rw [X.admits.platform]
  obtain ⟨c3, c4, hc3, hc4, hasg⟩ := Cond.castable_spec hcast
  cases Option.some.inj (hc3.symm.trans hcl)
  obtain ⟨c5, hc5, hcl5⟩ := Cond.classLink_spec hown hlink e.platform hpl
  cases Option.some.inj (hc4.symm.trans hc5)
  obtain ⟨vm', X', st⟩ := X.thenCaughtThrough q (g := F0 m pc ls rest) rfl (Steps.refl _) (by rw [hT]; exact hcell) (by rw [hv]; rfl) (by obtain ⟨k9, h9, -⟩ := Vm.findClass_spec hcl; exact ⟨k9, h9⟩) pre x suf hsplit
    (fun z hz => by
      rcases hpass z hz with h | ⟨hz0, nm, hl1, hn1⟩
      · exact Or.inl h
      · obtain ⟨c6, hc6, hcl6⟩ := Cond.classLink_spec hown hl1 e.platform hpl
        obtain ⟨a8, b8, h1, h2, h3⟩ := hn1
        cases Option.some.inj (h1.symm.trans hcl)
        cases Option.some.inj (h2.symm.trans hc6)
        exact Or.inr ⟨hz0, _, hcl6, h3⟩) hx (Or.inr ⟨h0, c4, hcl5, hasg⟩)
  obtain ⟨t, a1, b1⟩ := kk (T.setVm vm') hT X'
  exact ⟨t, st.trans a1, b1⟩
end Rows
section Ends
variable {p : Program} {l : Launch} {e : Env} {R : Room} {s : State} {m : MethodId} {args : Array Value} {below : List Frame} {meth : Method} {c : Code} {H : Heap} {locs : List Loc} {cells slots : Nat} {Q : State → Prop}
variable {mc ms : Nat} {free : Addr → Prop} {A0 A1 : Nat → Prop} {H0 : Heap} {a : Array Value} {ls : Array Slot} {st0 rest : List Value}
variable {Qc : Array Value → State → Outcome → State → Prop} {XC : String → State → State → Prop}
/-- what a body that may throw owes at its end -/
def vx_MQ (below : List Frame) (Qc : Array Value → State → Outcome → State → Prop) (XC : String → State → State → Prop) (a : Array Value) (s : State) (mc ms : Nat) (free : Addr → Prop) : State → Prop := fun t =>
  ∃ o, t.status = .running ∧ Ended t below o ∧ vx_Q Qc XC mc ms free a s o t
theorem vx_ret {g : JFrame} {mc ms : Nat} (k : W p l e R s m args below meth c H locs cells slots (MQ below Qc args s mc ms free) g) : W p l e R s m args below meth c H locs cells slots (vx_MQ below Qc XC args s mc ms free) g := by
  intro T hT X
  obtain ⟨t, a1, o, b1, b2, b3, b4⟩ := k T hT X
  exact ⟨t, a1, o, b1, b2, Or.inl ⟨b3, b4⟩⟩
/-- not caught here: it goes on to the caller -/
theorem vx_widen {g : JFrame} {q : Addr} {k n : Nat} (h1 : cells ≤ k) (h2 : slots ≤ n) (kk : vx_W p l e R s m args below meth c H locs k n Q g q) : vx_W p l e R s m args below meth c H locs cells slots Q g q := fun T hT X => kk T hT (stand_widen X h1 h2)
theorem vx_out {pc : Nat} {E : String} {ce : Cell} {q : Addr} {mc ms : Nat} (hout : ∀ x ∈ c.exceptionTable.toList, covers x pc = false) (hlocks : meth.locks = false) (hcell : H[q]? = some ce) (hv : ce.vm = .none) (hcl : s.vm.findClass E = some ce.cls)
    (hx : ∀ t : State, t.heap = H → s.vm.Alike t.vm → XC E s t) (hf : ∀ z ∈ locs, free z.base) (hc : cells ≤ mc) (hs : slots ≤ ms) :
    vx_W p l e R s m args below meth c H locs cells slots (vx_MQ below Qc XC args s mc ms free) (F0 m pc ls rest) q := by
  intro T hT X
  obtain ⟨st1, hrun, hend, hW, hsm⟩ := X.leaveThrown q (g := F0 m pc ls rest) rfl rfl rfl hout hlocks
  have hcell9 : (T.setFrames (.throwing q :: below)).heap[q]? = some ce := by
    show T.heap[q]? = some ce
    rw [hT]; exact hcell
  exact ⟨_, st1, .threw q, hrun, hend, Or.inr ⟨q, rfl, E, ce, locs, hx _ hT hW.alike, hcell9, hv, hcl, hW, hsm.mono hc hs, hf⟩⟩
theorem vx_frame {U : State} {k n : Nat} (h : s.sameButNew ({ U with vm := s.vm } : State) locs k n) : s.heap.size ≤ U.heap.size ∧ ∀ q : Nat, q < s.heap.size → (∀ z ∈ locs, z.base ≠ q) → U.heap[q]? = s.heap[q]? := by
  obtain ⟨-, h2, -, -, -, h6⟩ := h
  refine ⟨h2, fun q hq hz => ?_⟩
  obtain ⟨c9, e1, e2, e3, e4⟩ := h6 q _ (Array.getElem?_eq_getElem hq)
  have hs : c9.slots = (s.heap[q]).slots := Array.ext_getElem? fun i => e4 i fun hm => hz _ hm rfl
  have h9 : c9 = s.heap[q] := by
    rw [hs] at e2
    exact e2
  have e5 : U.heap[q]? = some c9 := e1
  rw [e5, h9, Array.getElem?_eq_getElem hq]
/-- the words of a throw but the four that speak of the heap -/
def vx_no (w : Cond) : Bool := decide (w ≠ .isRef (.static Bundle.tN "UNASSIGNED_STACK" Bundle.steD)) && decide (w ≠ .isRef (.static Bundle.tN "SUPPRESSED_SENTINEL" Bundle.listD)) && decide (w ≠ .laysStatic Bundle.tN "UNASSIGNED_STACK" Bundle.steD) && decide (w ≠ .laysStatic Bundle.tN "SUPPRESSED_SENTINEL" Bundle.listD)
def vx_at0 (own : String) (ic : Nat) (X : String) (names : List String) : List Cond := (Bundle.ownAtoms0 own ic X names).filter vx_no
def vx_atS (own : String) (ic : Nat) (X : String) (names : List String) : List Cond := (Bundle.ownAtoms own ic X names).filter vx_no
/-- a word that the tables alone decide, or a good one -/
def vx_ot (w : Cond) : Bool := w.onTables || goodWord w
theorem vx_ot_at {args a' : Array Value} {s U : State} {w : Cond} (hW : s.WarmedH U.vm) (hvm : s.vm = U.vm) (hg : vx_ot w = true) (h : w.before args s = true) : w.before a' U = true := by
  simp only [vx_ot, Bool.or_eq_true] at hg
  rcases hg with hg | hg
  · exact va_tabs hg hvm h
  · exact word_at hW (good_of_word hg) h
/-- a list's words: the good ones out of the method's own list, the others by premises of their own -/
theorem vx_hat {args : Array Value} {s : State} {L B : List Cond} (h1 : ∀ w ∈ L.filter goodWord, w.before args s = true) (h2 : ∀ w ∈ L.filter (fun w => !goodWord w), w ∈ B) (h3 : ∀ w ∈ B, w.before args s = true) : ∀ w ∈ L, w.before args s = true := by
  intro w hw
  by_cases g : goodWord w = true
  · exact h1 w (List.mem_filter.mpr ⟨hw, g⟩)
  · refine h3 w (h2 w (List.mem_filter.mpr ⟨hw, ?_⟩))
    show (!goodWord w) = true
    cases hgw : goodWord w
    · rfl
    · exact absurd hgw g
theorem vx_c {args : Array Value} {s : State} {w : Cond} {B : List Cond} (h : w.before args s = true) (t : ∀ w ∈ B, w.before args s = true) : ∀ w' ∈ w :: B, w'.before args s = true := fun w' h' => (List.mem_cons.mp h').elim (fun e => by rw [e]; exact h) (t w')
theorem vx_n {args : Array Value} {s : State} : ∀ w ∈ ([] : List Cond), w.before args s = true := fun _ h => nomatch h
theorem vx_own {args : Array Value} {s : State} {L : List Cond} (h1 : ∀ w ∈ L.filter vx_no, w.before args s = true)
    (hU : (Cond.isRef (.static Bundle.tN "UNASSIGNED_STACK" Bundle.steD)).before args s = true) (hN : (Cond.isRef (.static Bundle.tN "SUPPRESSED_SENTINEL" Bundle.listD)).before args s = true)
    (lU : (Cond.laysStatic Bundle.tN "UNASSIGNED_STACK" Bundle.steD).before args s = true) (lN : (Cond.laysStatic Bundle.tN "SUPPRESSED_SENTINEL" Bundle.listD).before args s = true) : ∀ w ∈ L, w.before args s = true := by
  intro w hw
  by_cases e1 : w = .isRef (.static Bundle.tN "UNASSIGNED_STACK" Bundle.steD)
  · rw [e1]; exact hU
  · by_cases e2 : w = .isRef (.static Bundle.tN "SUPPRESSED_SENTINEL" Bundle.listD)
    · rw [e2]; exact hN
    · by_cases e3 : w = .laysStatic Bundle.tN "UNASSIGNED_STACK" Bundle.steD
      · rw [e3]; exact lU
      · by_cases e4 : w = .laysStatic Bundle.tN "SUPPRESSED_SENTINEL" Bundle.listD
        · rw [e4]; exact lN
        · exact h1 w (List.mem_filter.mpr ⟨hw, by unfold vx_no; rw [decide_eq_true e1, decide_eq_true e2, decide_eq_true e3, decide_eq_true e4]; rfl⟩)
/-- where a static field lies, its class's statics cell in H -/
def vx_L (C n d : String) (A : Nat → Prop) (U : State) (H : Heap) : Prop := ∃ (c : ClassId) (k : Class) (i : Nat) (f : Field) (a : Nat) (cell : Cell), U.vm.findClass C = some c ∧ U.fieldFound? C n d = some (c, k, i, f) ∧ f.isStatic = true ∧ k.statics = some a ∧ H[a]? = some cell ∧ cell.vm.isStatics = true ∧ cell.cls = c ∧ f.slot < cell.slots.size ∧ k.staticTypes[f.slot]? = some f.type ∧ ¬ A a
theorem vx_L.moved {C n d : String} {A : Nat → Prop} {u U : State} {H : Heap} (hvm : u.vm.Alike U.vm) (h : vx_L C n d A u H) : vx_L C n d A U H := by
  obtain ⟨c, k, i, f, a, cell, h1, h2, h3, h4, h5, h6, h7, h8, h9, h10⟩ := h
  obtain ⟨k', hi', he⟩ := State.fieldFound?_setVm hvm h2
  exact ⟨c, k', i, f, a, cell, by rw [hvm.findClass]; exact h1, hi', h3, by rw [he]; exact h4, h5, h6, h7, h8, by rw [he]; exact h9, h10⟩
theorem vx_L.kept {C n d : String} {A : Nat → Prop} {U : State} {H H1 : Heap} (h : vx_L C n d A U H) (hq : ∀ a : Nat, a < H.size → ¬ A a → H1[a]? = H[a]?) : vx_L C n d A U H1 := by
  obtain ⟨c, k, i, f, a, cell, h1, h2, h3, h4, h5, h6, h7, h8, h9, h10⟩ := h
  exact ⟨c, k, i, f, a, cell, h1, h2, h3, h4, by rw [hq a (Array.getElem?_eq_some_iff.mp h5).1 h10]; exact h5, h6, h7, h8, h9, h10⟩
theorem vx_L.narrow {C n d : String} {A B : Nat → Prop} {U : State} {H : Heap} (h : vx_L C n d A U H) (hAB : ∀ q, B q → A q) : vx_L C n d B U H := by
  obtain ⟨c, k, i, f, a, cell, h1, h2, h3, h4, h5, h6, h7, h8, h9, h10⟩ := h
  exact ⟨c, k, i, f, a, cell, h1, h2, h3, h4, h5, h6, h7, h8, h9, fun z => h10 (hAB _ z)⟩
theorem vx_L.word {C n d : String} {A : Nat → Prop} {s : State} {args : Array Value} (h : vx_L C n d A s s.heap) : (Cond.laysStatic C n d).before args s = true := by
  obtain ⟨c, k, i, f, a, cell, h1, h2, h3, h4, h5, h6, h7, h8, h9, -⟩ := h
  show (Cond.laysStatic C n d).holds args s none s [] = true
  exact Cond.laysStatic_of h1 h2 h3 h4 h5 h6 h7 h8 h9
/-- .. and what it holds: null or some reference -/
def vx_Zq (C n d : String) (A : Nat → Prop) (U : State) (H : Heap) : Prop := va_Zq C n d A U H ∧ vx_L C n d A U H
theorem vx_Zq.moved {C n d : String} {A : Nat → Prop} {u U : State} {H : Heap} (hvm : u.vm.Alike U.vm) (h : vx_Zq C n d A u H) : vx_Zq C n d A U H := ⟨va_Zq.moved hvm h.1, vx_L.moved hvm h.2⟩
theorem vx_Zq.kept {C n d : String} {A : Nat → Prop} {U : State} {H H1 : Heap} (h : vx_Zq C n d A U H) (hq : ∀ a : Nat, a < H.size → ¬ A a → H1[a]? = H[a]?) : vx_Zq C n d A U H1 := ⟨va_Zq.kept h.1 hq, vx_L.kept h.2 hq⟩
theorem vx_Zq.narrow {C n d : String} {A B : Nat → Prop} {U : State} {H : Heap} (h : vx_Zq C n d A U H) (hAB : ∀ q, B q → A q) : vx_Zq C n d B U H := ⟨va_Zq.narrow h.1 hAB, vx_L.narrow h.2 hAB⟩
theorem vx_Zqof {args : Array Value} {s : State} {C n d : String} {A : Nat → Prop} (hl : (Cond.laysStatic C n d).before args s = true) (hini : (Cond.initialized C).before args s = true) (h : (Cond.isRef (.static C n d)).before args s = true) (hA : ∀ a : Nat, a < s.heap.size → ¬ A a) : vx_Zq C n d A s s.heap := by
  refine ⟨va_Zqof hl hini h hA, ?_⟩
  obtain ⟨c, k, i, f, a, cell, h1, h2, h3, h4, h5, h6, h7, h8, h9⟩ := Cond.laysStatic_spec hl
  exact ⟨c, k, i, f, a, cell, h1, h2, h3, h4, h5, h6, h7, h8, h9, hA a (Array.getElem?_eq_some_iff.mp h5).1⟩
theorem vx_isRef {C n d : String} {v : Value} {A : Nat → Prop} {s : State} {args : Array Value} (h : va_Z C n d v A s s.heap) (hv : v.isRef = true) : (Cond.isRef (.static C n d)).before args s = true := by
  obtain ⟨cf, kf, fi, f, a, cell, h1, h2, h3, h4, h5, h6, h7, -⟩ := h
  have he : (Term.static C n d).eval args s none [] s = some v := by
    simp [Term.eval, State.fieldNamed?, h1, h2, h4, h5, h6, h7]
  simp only [Cond.before, Cond.holds, Cond.value, he]
  cases v <;> simp_all [Value.isRef]
theorem vx_isRefq {C n d : String} {A : Nat → Prop} {s : State} {args : Array Value} (h : va_Zq C n d A s s.heap) : (Cond.isRef (.static C n d)).before args s = true := by
  rcases h with h | ⟨t, h⟩
  · exact vx_isRef h rfl
  · exact vx_isRef h rfl
/-- the same frame, seen from here: as if the method were called anew in this heap -/
theorem vx_rebase {T : State} (X : Stand p l e R s m args below meth c T locs cells slots) {R' : Room} (hf : R'.frames ≤ R.frames) (hl : R'.locals ≤ R.locals) (hc : cells + R'.cells ≤ R.cells) (hs : slots + R'.slots ≤ R.slots) :
    Stand p l e R' ((T.setVm s.vm).setFrames (.invoking m args :: below)) m args below meth c T [] 0 0 := by
  have htop : (T.setVm s.vm).topJava?.isSome := X.here.top
  have hF : ((T.setVm s.vm).setFrames (.invoking m args :: below)).frames = .invoking m args :: below := State.frames_setFrames _ (State.cur_lt_of_top htop)
  obtain ⟨g₀, hg0⟩ := Option.isSome_iff_exists.mp htop
  obtain ⟨r, hr⟩ := State.topJava?_eq_some.mp hg0
  have hl9 : e.platform.stackLimits (T.setVm s.vm).me = e.platform.stackLimits s.me := X.limits
  have hb9 : (T.setVm s.vm).me.stackBytes = s.me.stackBytes := X.bytes
  refine ⟨X.admits, X.cas, X.clock, hF, ?_, X.hears, X.method, X.code, X.here, X.tail, X.warmed, ?_, ?_, ?_⟩
  · have h := X.room
    have hU : ((T.setVm s.vm).setFrames (.invoking m args :: below)).localsInUse = s.localsInUse := by
      rw [State.localsInUse_invoking hF (meth := meth) (c := c) X.method X.code, State.localsInUse_invoking X.frames X.method X.code]
    simp only [State.hasRoom, Bool.and_eq_true, decide_eq_true_eq] at h ⊢
    obtain ⟨⟨⟨⟨h1, h2, h3, h4, h5, h6⟩, h7⟩, h8⟩, h9⟩ := h
    rw [X.frames, List.length_cons] at h2 h3
    have q1 := X.heapSize
    have q2 := X.used
    simp only [hF, hU, List.length_cons, State.stackLimits_setFrames, State.stackBytes_setFrames, hl9, hb9]
    refine ⟨⟨⟨⟨by omega, by omega, by omega, by omega, by omega, h6⟩, ?_⟩, ?_⟩, X.book⟩
    · show T.heap.size + R'.cells ≤ e.platform.maxCells
      omega
    · show T.slotsUsed + R'.slots ≤ e.platform.maxSlots
      omega
  · rw [State.stackLimits_setFrames]; rfl
  · rw [State.stackBytes_setFrames]; rfl
  · refine ⟨?_, Nat.le_refl _, Nat.le_refl _, ?_, ?_, fun a c9 h9 => ⟨c9, h9, rfl, rfl, fun _ _ => rfl⟩⟩
    · obtain ⟨t, ht, -⟩ := State.frames_cons hr
      show T.setVm s.vm = { ((T.setVm s.vm).setFrames (.invoking m args :: below)).setFrames (T.setVm s.vm).frames with heap := T.heap, slotsUsed := T.slotsUsed }
      rw [State.setFrames_setFrames, State.setFrames_self ht]
      rfl
    · show T.slotsUsed = T.slotsUsed + ((T.heap.toList.drop T.heap.size).map (·.slots.size)).sum
      rw [List.drop_eq_nil_of_le (Nat.le_of_eq Array.length_toList)]
      rfl
    · show ((T.heap.toList.drop T.heap.size).map (·.slots.size)).sum ≤ 0
      rw [List.drop_eq_nil_of_le (Nat.le_of_eq Array.length_toList)]
      exact Nat.le_refl _
/-- 'throw new E()': new; dup; invokespecial; athrow -/
theorem vx_throw0 {cc : ByteArray} {pc : Nat} (hexec : p.tables.exec = Jvm.exec) (hb : c.code = cc) (hl : l.stackTraces = false) {own cls : String} {names : List String} {ik ic mc ms : Nat} {A : Nat → Prop}
    (hown : s.vm.findClass own = some m.cls) (hcls : Bundle.fit cls = true) (hnames : ∀ n ∈ names, Bundle.fit n = true)
    (hk : (Cond.classLink own ik cls).before args s = true) (hini : (Cond.initialized cls).before args s = true) (hat : ∀ w ∈ vx_at0 own ic cls names, w.before args s = true)
    (hgood : ∀ w ∈ Cond.classLink own ik cls :: Cond.initialized cls :: vx_at0 own ic cls names, vx_ot w = true)
    (hU : vx_Zq Bundle.tN "UNASSIGNED_STACK" Bundle.steD A s s.heap) (hN : vx_Zq Bundle.tN "SUPPRESSED_SENTINEL" Bundle.listD A s s.heap) (hS : va_S A s.heap H locs) (hsize : ls.size = c.maxLocals)
    (d0 : decode cc pc = .ok (.new ik, 3)) (d3 : decode cc (pc + 3) = .ok (.dup, 1)) (d4 : decode cc (pc + 4) = .ok (.invokespecial ic, 3)) (d7 : decode cc (pc + 7) = .ok (.athrow, 1))
    (hout : ∀ x ∈ c.exceptionTable.toList, covers x (pc + 7) = false)
    (hRframes : names.length + 3 < R.frames) (hRlocals : (rest.map fun v => v.category).sum + (13 * (names.length + 1) + 42) ≤ R.locals) (hRcells : cells + 1 ≤ R.cells) (hRslots : slots + 6 ≤ R.slots) (hlocks : meth.locks = false)
    (hx : ∀ t : State, s.vm.Alike t.vm → H.size ≤ t.heap.size → (∀ q : Nat, q < H.size → t.heap[q]? = H[q]?) → XC cls s t)
    (hf : ∀ z ∈ locs, free z.base) (hc : cells + 1 ≤ mc) (hs : slots + 6 ≤ ms) :
    W p l e R s m args below meth c H locs cells slots (vx_MQ below Qc XC args s mc ms free) (F0 m pc ls rest) := by
  intro T hT X
  have htr : e.platform.stackTraces = false := (show e.platform.stackTraces = l.stackTraces by rw [X.admits.platform]).trans hl
  have Y := vx_rebase X (R' := { frames := R.frames, locals := R.locals, cells := 1, slots := 6 }) (Nat.le_refl _) (Nat.le_refl _) hRcells hRslots
  obtain ⟨s', hA⟩ : ∃ z, z = (T.setVm s.vm).setFrames (.invoking m args :: below) := ⟨_, rfl⟩
  rw [← hA] at Y
  have hvm : s'.vm = s.vm := by rw [hA]; rfl
  have hhp : s'.heap = H := by rw [hA]; exact hT
  have hW0 : s.WarmedH s'.vm := by rw [hvm]; exact State.WarmedH.refl s
  have hat' : ∀ w ∈ vx_at0 own ic cls names, w.before args s' = true := fun w hw => vx_ot_at hW0 hvm.symm (hgood w (List.mem_cons_of_mem _ (List.mem_cons_of_mem _ hw))) (hat w hw)
  have hk' : (Cond.classLink own ik cls).before args s' = true := vx_ot_at hW0 hvm.symm (hgood _ List.mem_cons_self) hk
  have hini' : (Cond.initialized cls).before args s' = true := vx_ot_at hW0 hvm.symm (hgood _ (List.mem_cons_of_mem _ List.mem_cons_self)) hini
  have hU' : vx_Zq Bundle.tN "UNASSIGNED_STACK" Bundle.steD A s' s'.heap := by rw [hhp]; exact vx_Zq.moved hW0.alike (hU.kept hS.2.1)
  have hN' : vx_Zq Bundle.tN "SUPPRESSED_SENTINEL" Bundle.listD A s' s'.heap := by rw [hhp]; exact vx_Zq.moved hW0.alike (hN.kept hS.2.1)
  have h : ∀ w ∈ Bundle.ownAtoms0 own ic cls names, w.before args s' = true := vx_own hat' (vx_isRefq hU'.1) (vx_isRefq hN'.1) hU'.2.word hN'.2.word
  have hown' : s'.vm.findClass own = some m.cls := by rw [hvm]; exact hown
  have hins : (Cond.instantiable cls 6).before args s' = true := h _ (by simp [Bundle.ownAtoms0])
  obtain ⟨vm₁, cX, kX, hfX, hkX, -, -, X₁, st1⟩ := Y.newCold hexec (own := own) (C := cls) (index := ik) (n := 6) hown' hk' hins hini'
    (g := F0 m pc ls rest) rfl (by rw [hb]; exact d0) (Nat.le_refl _) (Nat.le_refl _)
  generalize hT1 : (T.setVm vm₁).pushCell { cls := cX, slots := kX.instanceTypes.map defaultValue, vm := .none } = T1 at X₁ st1
  have hcat : (Value.ref T.heap.size).category = 1 := rfl
  have hcellA : T1.heap[T.heap.size]? = some (freshCell cX kX) := by rw [← hT1]; exact State.heap_pushCell_size _ _
  have d3' : decode c.code (pc + 3) = .ok (.dup, 1) := by rw [hb]; exact d3
  obtain ⟨U, hsteps, hrun, hend, hW, hsame, ce, hce, hO⟩ := X₁.ctorThrow0 hexec htr (own := own) (cls := cls) (names := names) (ic := ic) hown' hcls hnames h (fun x hx => nomatch hx) hfX hkX hcellA (by rw [hhp, hT]; exact Nat.le_refl _)
    (g := { method := m, pc := pc + 4, locals := ls, stack := .ref T.heap.size :: .ref T.heap.size :: rest, locked := none }) rfl hsize rfl rfl (rest := rest) rfl
    (by rw [hb]; exact d4) (by rw [hb]; exact d7) hout hRframes (by simp only [List.map_cons, List.sum_cons, hcat]; omega) hlocks
  obtain ⟨f1, f2⟩ := vx_frame hsame
  rw [hhp] at f1 f2
  have hWs : s.WarmedH U.vm := State.WarmedH.trans hW0 hW
  have hcl : s.vm.findClass cls = some ce.cls := by
    have h9 := hO.cls
    rw [hvm] at h9
    exact h9
  have hall : s.sameButNew ({ U with vm := s.vm } : State) locs mc ms := by
    subst hA
    obtain ⟨e1, e2⟩ := hsame
    rw [State.setFrames_setFrames] at e1
    have h2 : (T.setVm s.vm).sameButNew ({ U with vm := s.vm } : State) [] (0 + 1) (0 + 6) := ⟨e1, e2⟩
    have h3 := X.same.trans h2
    rw [List.append_nil] at h3
    exact h3.mono hc hs
  refine ⟨U, ?_, .threw T.heap.size, hrun, hend, Or.inr ⟨T.heap.size, rfl, cls, ce, locs, hx U hWs.alike f1 (fun q hq => f2 q hq (fun z hz => nomatch hz)), hce, hO.vm, hcl, hWs, hall, hf⟩⟩
  refine st1 _ ?_
  show Steps p.tables e below (T1.setTop { method := m, pc := pc + 3, locals := ls, stack := .ref T.heap.size :: rest, locked := none }) _
  jvm_step X₁.here [X₁.here.top, hexec, d3', Value.category]
  exact hsteps
/-- 'throw new E("text")': new; dup; ldc; invokespecial; athrow -/
theorem vx_throwS {cc : ByteArray} {pc : Nat} (hexec : p.tables.exec = Jvm.exec) (hb : c.code = cc) (hl : l.stackTraces = false) {own cls text : String} {names : List String} {ik is ic mc ms sa : Nat} {A : Nat → Prop}
    (hown : s.vm.findClass own = some m.cls) (hcls : Bundle.fit cls = true) (hnames : ∀ n ∈ names, Bundle.fit n = true)
    (hk : (Cond.classLink own ik cls).before args s = true) (hini : (Cond.initialized cls).before args s = true) (hstr : vk_R own is text sa s) (hat : ∀ w ∈ vx_atS own ic cls names, w.before args s = true)
    (hgood : ∀ w ∈ Cond.classLink own ik cls :: Cond.initialized cls :: vx_atS own ic cls names, vx_ot w = true)
    (hU : vx_Zq Bundle.tN "UNASSIGNED_STACK" Bundle.steD A s s.heap) (hN : vx_Zq Bundle.tN "SUPPRESSED_SENTINEL" Bundle.listD A s s.heap) (hS : va_S A s.heap H locs) (hsize : ls.size = c.maxLocals)
    (d0 : decode cc pc = .ok (.new ik, 3)) (d3 : decode cc (pc + 3) = .ok (.dup, 1)) (d4 : decode cc (pc + 4) = .ok (.ldc is, 2)) (d6 : decode cc (pc + 6) = .ok (.invokespecial ic, 3)) (d9 : decode cc (pc + 9) = .ok (.athrow, 1))
    (hout : ∀ x ∈ c.exceptionTable.toList, covers x (pc + 9) = false)
    (hRframes : names.length + 3 < R.frames) (hRlocals : (rest.map fun v => v.category).sum + (13 * (names.length + 1) + 43) ≤ R.locals) (hRcells : cells + 1 ≤ R.cells) (hRslots : slots + 6 ≤ R.slots) (hlocks : meth.locks = false)
    (hx : ∀ t : State, s.vm.Alike t.vm → H.size ≤ t.heap.size → (∀ q : Nat, q < H.size → t.heap[q]? = H[q]?) → XC cls s t)
    (hf : ∀ z ∈ locs, free z.base) (hc : cells + 1 ≤ mc) (hs : slots + 6 ≤ ms) :
    W p l e R s m args below meth c H locs cells slots (vx_MQ below Qc XC args s mc ms free) (F0 m pc ls rest) := by
  intro T hT X
  have htr : e.platform.stackTraces = false := (show e.platform.stackTraces = l.stackTraces by rw [X.admits.platform]).trans hl
  have Y := vx_rebase X (R' := { frames := R.frames, locals := R.locals, cells := 1, slots := 6 }) (Nat.le_refl _) (Nat.le_refl _) hRcells hRslots
  obtain ⟨s', hA⟩ : ∃ z, z = (T.setVm s.vm).setFrames (.invoking m args :: below) := ⟨_, rfl⟩
  rw [← hA] at Y
  have hvm : s'.vm = s.vm := by rw [hA]; rfl
  have hhp : s'.heap = H := by rw [hA]; exact hT
  have hW0 : s.WarmedH s'.vm := by rw [hvm]; exact State.WarmedH.refl s
  have hat' : ∀ w ∈ vx_atS own ic cls names, w.before args s' = true := fun w hw => vx_ot_at hW0 hvm.symm (hgood w (List.mem_cons_of_mem _ (List.mem_cons_of_mem _ hw))) (hat w hw)
  have hk' : (Cond.classLink own ik cls).before args s' = true := vx_ot_at hW0 hvm.symm (hgood _ List.mem_cons_self) hk
  have hini' : (Cond.initialized cls).before args s' = true := vx_ot_at hW0 hvm.symm (hgood _ (List.mem_cons_of_mem _ List.mem_cons_self)) hini
  have hU' : vx_Zq Bundle.tN "UNASSIGNED_STACK" Bundle.steD A s' s'.heap := by rw [hhp]; exact vx_Zq.moved hW0.alike (hU.kept hS.2.1)
  have hN' : vx_Zq Bundle.tN "SUPPRESSED_SENTINEL" Bundle.listD A s' s'.heap := by rw [hhp]; exact vx_Zq.moved hW0.alike (hN.kept hS.2.1)
  have h : ∀ w ∈ Bundle.ownAtoms own ic cls names, w.before args s' = true := vx_own hat' (vx_isRefq hU'.1) (vx_isRefq hN'.1) hU'.2.word hN'.2.word
  have hown' : s'.vm.findClass own = some m.cls := by rw [hvm]; exact hown
  have hins : (Cond.instantiable cls 6).before args s' = true := h _ (by simp [Bundle.ownAtoms])
  obtain ⟨vm₁, cX, kX, hfX, hkX, -, -, X₁, st1⟩ := Y.newCold hexec (own := own) (C := cls) (index := ik) (n := 6) hown' hk' hins hini'
    (g := F0 m pc ls rest) rfl (by rw [hb]; exact d0) (Nat.le_refl _) (Nat.le_refl _)
  generalize hT1 : (T.setVm vm₁).pushCell { cls := cX, slots := kX.instanceTypes.map defaultValue, vm := .none } = T1 at X₁ st1
  have hcat : (Value.ref T.heap.size).category = 1 := rfl
  have hcellA : T1.heap[T.heap.size]? = some (freshCell cX kX) := by rw [← hT1]; exact State.heap_pushCell_size _ _
  have d3' : decode c.code (pc + 3) = .ok (.dup, 1) := by rw [hb]; exact d3
  have d4' : decode c.code (pc + 4) = .ok (.ldc is, 2) := by rw [hb]; exact d4
  have hstr' : vk_R own is text sa s' := vk_R.warm hW0 hstr
  obtain ⟨U, hsteps, hrun, hend, hW, hsame, ce, hce, hO⟩ := X₁.ctorThrowS hexec htr (own := own) (cls := cls) (names := names) (ic := ic) hown' hcls hnames h (fun x hx => nomatch hx) hfX hkX hcellA (by rw [hhp, hT]; exact Nat.le_refl _) (msg := .ref sa) rfl
    (g := { method := m, pc := pc + 6, locals := ls, stack := .ref sa :: .ref T.heap.size :: .ref T.heap.size :: rest, locked := none }) rfl hsize rfl rfl (rest := rest) rfl
    (by rw [hb]; exact d6) (by rw [hb]; exact d9) hout hRframes (by simp only [List.map_cons, List.sum_cons, hcat]; omega) hlocks
  obtain ⟨f1, f2⟩ := vx_frame hsame
  rw [hhp] at f1 f2
  have hWs : s.WarmedH U.vm := State.WarmedH.trans hW0 hW
  have hcl : s.vm.findClass cls = some ce.cls := by
    have h9 := hO.cls
    rw [hvm] at h9
    exact h9
  have hall : s.sameButNew ({ U with vm := s.vm } : State) locs mc ms := by
    subst hA
    obtain ⟨e1, e2⟩ := hsame
    rw [State.setFrames_setFrames] at e1
    have h2 : (T.setVm s.vm).sameButNew ({ U with vm := s.vm } : State) [] (0 + 1) (0 + 6) := ⟨e1, e2⟩
    have h3 := X.same.trans h2
    rw [List.append_nil] at h3
    exact h3.mono hc hs
  refine ⟨U, ?_, .threw T.heap.size, hrun, hend, Or.inr ⟨T.heap.size, rfl, cls, ce, locs, hx U hWs.alike f1 (fun q hq => f2 q hq (fun z hz => nomatch hz)), hce, hO.vm, hcl, hWs, hall, hf⟩⟩
  refine st1 _ ?_
  show Steps p.tables e below (T1.setTop { method := m, pc := pc + 3, locals := ls, stack := .ref T.heap.size :: rest, locked := none }) _
  jvm_step X₁.here [X₁.here.top, hexec, d3', Value.category]
  exact X₁.ldcString hexec (own := own) (text := text) (index := is) (a := sa) hown' hstr'.1 hstr'.2
    (g := { method := m, pc := pc + 4, locals := ls, stack := .ref T.heap.size :: .ref T.heap.size :: rest, locked := none }) rfl d4' _ hsteps
/-- 'throw new E("text")', the text by a wide index -/
theorem vx_throwSW {cc : ByteArray} {pc : Nat} (hexec : p.tables.exec = Jvm.exec) (hb : c.code = cc) (hl : l.stackTraces = false) {own cls text : String} {names : List String} {ik is ic mc ms sa : Nat} {A : Nat → Prop}
    (hown : s.vm.findClass own = some m.cls) (hcls : Bundle.fit cls = true) (hnames : ∀ n ∈ names, Bundle.fit n = true)
    (hk : (Cond.classLink own ik cls).before args s = true) (hini : (Cond.initialized cls).before args s = true) (hstr : vk_R own is text sa s) (hat : ∀ w ∈ vx_atS own ic cls names, w.before args s = true)
    (hgood : ∀ w ∈ Cond.classLink own ik cls :: Cond.initialized cls :: vx_atS own ic cls names, vx_ot w = true)
    (hU : vx_Zq Bundle.tN "UNASSIGNED_STACK" Bundle.steD A s s.heap) (hN : vx_Zq Bundle.tN "SUPPRESSED_SENTINEL" Bundle.listD A s s.heap) (hS : va_S A s.heap H locs) (hsize : ls.size = c.maxLocals)
    (d0 : decode cc pc = .ok (.new ik, 3)) (d3 : decode cc (pc + 3) = .ok (.dup, 1)) (d4 : decode cc (pc + 4) = .ok (.ldc_w is, 3)) (d7 : decode cc (pc + 7) = .ok (.invokespecial ic, 3)) (d10 : decode cc (pc + 10) = .ok (.athrow, 1))
    (hout : ∀ x ∈ c.exceptionTable.toList, covers x (pc + 10) = false)
    (hRframes : names.length + 3 < R.frames) (hRlocals : (rest.map fun v => v.category).sum + (13 * (names.length + 1) + 43) ≤ R.locals) (hRcells : cells + 1 ≤ R.cells) (hRslots : slots + 6 ≤ R.slots) (hlocks : meth.locks = false)
    (hx : ∀ t : State, s.vm.Alike t.vm → H.size ≤ t.heap.size → (∀ q : Nat, q < H.size → t.heap[q]? = H[q]?) → XC cls s t)
    (hf : ∀ z ∈ locs, free z.base) (hc : cells + 1 ≤ mc) (hs : slots + 6 ≤ ms) :
    W p l e R s m args below meth c H locs cells slots (vx_MQ below Qc XC args s mc ms free) (F0 m pc ls rest) := by
  intro T hT X
  have htr : e.platform.stackTraces = false := (show e.platform.stackTraces = l.stackTraces by rw [X.admits.platform]).trans hl
  have Y := vx_rebase X (R' := { frames := R.frames, locals := R.locals, cells := 1, slots := 6 }) (Nat.le_refl _) (Nat.le_refl _) hRcells hRslots
  obtain ⟨s', hA⟩ : ∃ z, z = (T.setVm s.vm).setFrames (.invoking m args :: below) := ⟨_, rfl⟩
  rw [← hA] at Y
  have hvm : s'.vm = s.vm := by rw [hA]; rfl
  have hhp : s'.heap = H := by rw [hA]; exact hT
  have hW0 : s.WarmedH s'.vm := by rw [hvm]; exact State.WarmedH.refl s
  have hat' : ∀ w ∈ vx_atS own ic cls names, w.before args s' = true := fun w hw => vx_ot_at hW0 hvm.symm (hgood w (List.mem_cons_of_mem _ (List.mem_cons_of_mem _ hw))) (hat w hw)
  have hk' : (Cond.classLink own ik cls).before args s' = true := vx_ot_at hW0 hvm.symm (hgood _ List.mem_cons_self) hk
  have hini' : (Cond.initialized cls).before args s' = true := vx_ot_at hW0 hvm.symm (hgood _ (List.mem_cons_of_mem _ List.mem_cons_self)) hini
  have hU' : vx_Zq Bundle.tN "UNASSIGNED_STACK" Bundle.steD A s' s'.heap := by rw [hhp]; exact vx_Zq.moved hW0.alike (hU.kept hS.2.1)
  have hN' : vx_Zq Bundle.tN "SUPPRESSED_SENTINEL" Bundle.listD A s' s'.heap := by rw [hhp]; exact vx_Zq.moved hW0.alike (hN.kept hS.2.1)
  have h : ∀ w ∈ Bundle.ownAtoms own ic cls names, w.before args s' = true := vx_own hat' (vx_isRefq hU'.1) (vx_isRefq hN'.1) hU'.2.word hN'.2.word
  have hown' : s'.vm.findClass own = some m.cls := by rw [hvm]; exact hown
  have hins : (Cond.instantiable cls 6).before args s' = true := h _ (by simp [Bundle.ownAtoms])
  obtain ⟨vm₁, cX, kX, hfX, hkX, -, -, X₁, st1⟩ := Y.newCold hexec (own := own) (C := cls) (index := ik) (n := 6) hown' hk' hins hini'
    (g := F0 m pc ls rest) rfl (by rw [hb]; exact d0) (Nat.le_refl _) (Nat.le_refl _)
  generalize hT1 : (T.setVm vm₁).pushCell { cls := cX, slots := kX.instanceTypes.map defaultValue, vm := .none } = T1 at X₁ st1
  have hcat : (Value.ref T.heap.size).category = 1 := rfl
  have hcellA : T1.heap[T.heap.size]? = some (freshCell cX kX) := by rw [← hT1]; exact State.heap_pushCell_size _ _
  have d3' : decode c.code (pc + 3) = .ok (.dup, 1) := by rw [hb]; exact d3
  have d4' : decode c.code (pc + 4) = .ok (.ldc_w is, 3) := by rw [hb]; exact d4
  have hstr' : vk_R own is text sa s' := vk_R.warm hW0 hstr
  obtain ⟨U, hsteps, hrun, hend, hW, hsame, ce, hce, hO⟩ := X₁.ctorThrowS hexec htr (own := own) (cls := cls) (names := names) (ic := ic) hown' hcls hnames h (fun x hx => nomatch hx) hfX hkX hcellA (by rw [hhp, hT]; exact Nat.le_refl _) (msg := .ref sa) rfl
    (g := { method := m, pc := pc + 7, locals := ls, stack := .ref sa :: .ref T.heap.size :: .ref T.heap.size :: rest, locked := none }) rfl hsize rfl rfl (rest := rest) rfl
    (by rw [hb]; exact d7) (by rw [hb]; exact d10) hout hRframes (by simp only [List.map_cons, List.sum_cons, hcat]; omega) hlocks
  obtain ⟨f1, f2⟩ := vx_frame hsame
  rw [hhp] at f1 f2
  have hWs : s.WarmedH U.vm := State.WarmedH.trans hW0 hW
  have hcl : s.vm.findClass cls = some ce.cls := by
    have h9 := hO.cls
    rw [hvm] at h9
    exact h9
  have hall : s.sameButNew ({ U with vm := s.vm } : State) locs mc ms := by
    subst hA
    obtain ⟨e1, e2⟩ := hsame
    rw [State.setFrames_setFrames] at e1
    have h2 : (T.setVm s.vm).sameButNew ({ U with vm := s.vm } : State) [] (0 + 1) (0 + 6) := ⟨e1, e2⟩
    have h3 := X.same.trans h2
    rw [List.append_nil] at h3
    exact h3.mono hc hs
  refine ⟨U, ?_, .threw T.heap.size, hrun, hend, Or.inr ⟨T.heap.size, rfl, cls, ce, locs, hx U hWs.alike f1 (fun q hq => f2 q hq (fun z hz => nomatch hz)), hce, hO.vm, hcl, hWs, hall, hf⟩⟩
  refine st1 _ ?_
  show Steps p.tables e below (T1.setTop { method := m, pc := pc + 3, locals := ls, stack := .ref T.heap.size :: rest, locked := none }) _
  jvm_step X₁.here [X₁.here.top, hexec, d3', Value.category]
  exact X₁.ldcStringW hexec (own := own) (text := text) (index := is) (a := sa) hown' hstr'.1 hstr'.2
    (g := { method := m, pc := pc + 4, locals := ls, stack := .ref T.heap.size :: .ref T.heap.size :: rest, locked := none }) rfl d4' _ hsteps
end Ends
section Bodies
variable {l : Launch}
theorem vx_ofW {y : MethodName} {ws ws' : List Cond} {rm : Room} {Pc : Array Value → State → Prop} {Qc : Array Value → State → Outcome → State → Prop} {XC : String → State → State → Prop} {mc ms : Nat} {free : Addr → Prop} {cc : ByteArray} {maxL : Nat} {ret : Option FieldType}
    (hy : plainName y.cls = true) (hw : ws = Cond.code y cc maxL ret :: ws')
    (body : ∀ p e s m args below meth c s₁, BodyLoose p l y (headSpec ws rm) cc maxL ret e s m args below meth c s₁ → c.maxLocals = maxL → (∀ x ∈ c.exceptionTable.toList, False) → Pc args s →
      W p l e (headSpec ws rm).room s m args below meth c s.heap [] 0 0 (vx_MQ below Qc XC args s mc ms free) (entryFrame m args maxL)) : vx_Met l y ws rm Pc Qc XC mc ms free := by
  refine MetFree.of_bodyS (code := cc) (maxLocals := maxL) (ret := ret) hy ?_ ?_
  · intro args s m h hn
    obtain ⟨meth, c, h1, h2, h3, h4, h5, h6, -, -⟩ := Cond.code_spec hn (atoms_spec (ws := ws) h _ (by rw [hw]; exact List.mem_cons_self))
    exact ⟨meth, c, h1, h2, h3, h4, h5, h6⟩
  · intro p e s m args below meth c s₁ B hml hP _
    have hh0 : s₁.heap = s.heap := by rw [B.state]; rfl
    have ht : ∀ x ∈ c.exceptionTable.toList, False := by
      obtain ⟨meth9, c9, h1, h2, -, -, -, -, h7, -⟩ := Cond.code_spec B.named (atoms_spec (ws := ws) B.pre _ (by rw [hw]; exact List.mem_cons_self))
      cases Option.some.inj (h1.symm.trans B.method)
      cases Option.some.inj (h2.symm.trans (Stand.of_body B).code)
      intro x hx
      rw [Array.isEmpty_iff.mp h7] at hx
      cases hx
    obtain ⟨t, a1, o, b1, b2, b3⟩ := body p e s m args below meth c s₁ B hml ht hP s₁ hh0 (Stand.of_body B)
    exact ⟨t, o, a1, b1, b2, b3⟩
/-- the table of a body with handlers -/
theorem vx_table {p : Program} {x y : MethodName} {S : Spec} {cc bytes : ByteArray} {maxL maxL' : Nat} {ret ret' : Option FieldType} {e : Env} {s s₁ : State} {m : MethodId} {args : Array Value} {below : List Frame} {meth : Method} {c : Code} {hh : List (Nat × Nat × Nat × Nat)}
    (B : BodyLoose p l y S cc maxL ret e s m args below meth c s₁) (h : (Cond.codeWith y bytes maxL' ret' hh).before args s = true) : c.exceptionTable.toList = tableOf hh := by
  obtain ⟨m9, meth9, c9, hn9, h1, h2, -, -, h6, -⟩ := Cond.codeWith_spec h
  cases Option.some.inj (hn9.symm.trans B.named)
  cases Option.some.inj (h1.symm.trans B.method)
  cases Option.some.inj (h2.symm.trans (Stand.of_body B).code)
  rw [← h6, table_eq]
end Bodies
end VXA
/-! ===== END ===== -/
/-! ===== BEGIN a static call of a method with an exception table ===== -/
section VXS
variable {p : Program} {l : Launch} {e : Env} {R : Room} {s : State} {m : MethodId} {args : Array Value} {below : List Frame} {meth : Method} {c : Code} {T : State} {H : Heap} {locs : List Loc} {cells slots : Nat}
abbrev vx_CSW (R : Room) (s : State) (args : Array Value) (own : String) (index : Nat) (y : MethodName) (bytes : ByteArray) (maxL : Nat) (ret : Option FieldType) (hh : List (Nat × Nat × Nat × Nat)) (ws : List Cond) (rm : Room) (mc ms n : Nat) : Prop :=
  (rm.cells = mc ∧ rm.slots = ms ∧ rm.frames + 1 ≤ R.frames ∧ 8 + (maxL + 11) + rm.locals ≤ R.locals ∧ (∀ w ∈ ws, ∀ (a' : Array Value) (U : State), s.WarmedH U.vm → w.before a' U = true) ∧ Cond.codeWith y bytes maxL ret hh ∈ ws) ∧
  (Cond.codeWith y bytes maxL ret hh).before args s = true ∧ (Cond.initialized y.cls).before args s = true ∧ (y.cls ≠ "java/lang/invoke/MethodHandle" ∧ y.cls ≠ "java/lang/invoke/VarHandle") ∧
  (∀ sig, parseMethodDescriptor y.desc = some sig → n = sig.parameters.length) ∧ (Cond.methodLink own index y).before args s = true ∧ (Cond.static y).before args s = true
theorem vx_cwSW {own : String} {index maxL mc ms : Nat} {y : MethodName} {bytes : ByteArray} {ret : Option FieldType} {hh : List (Nat × Nat × Nat × Nat)} {Ts ws ws' : List Cond} {rm : Room} (n : Nat) (ht : ∀ w ∈ Ts, w.before args s = true) (hT : GoodIn Ts (va_wsS own index y ws)) (hw : ws = Cond.codeWith y bytes maxL ret hh :: ws') (hrc : rm.cells = mc) (hrs : rm.slots = ms)
    (hd : y.cls ≠ "java/lang/invoke/MethodHandle" ∧ y.cls ≠ "java/lang/invoke/VarHandle" ∧ (parseMethodDescriptor y.desc).map (fun d => d.parameters.length) = some n) (hR : rm.frames + 1 ≤ R.frames ∧ 8 + (maxL + 11) + rm.locals ≤ R.locals) :
    vx_CSW R s args own index y bytes maxL ret hh ws rm mc ms n := by
  have ok : ∀ w ∈ va_wsS own index y ws, w.before args s = true := fun w h => ht w (hT w h).1
  have hG : GoodIn Ts ws := fun w h => hT w (by unfold va_wsS; exact List.mem_append_right _ h)
  have hc : Cond.codeWith y bytes maxL ret hh ∈ ws := by rw [hw]; exact List.mem_cons_self
  refine ⟨⟨hrc, hrs, hR.1, hR.2, pay_in ht hG, hc⟩, ht _ (hG _ hc).1, ok _ (by simp [va_wsS]), ⟨hd.1, hd.2.1⟩, fun sig h => ?_, ok _ (by simp [va_wsS]), ok _ (by simp [va_wsS])⟩
  have h2 := hd.2.2
  rw [h] at h2
  exact (Option.some.inj h2).symm
theorem vx_callSW (X : Stand p l e R s m args below meth c T locs cells slots) (hexec : p.tables.exec = Jvm.exec) {own : String} {index : Nat} {y : MethodName} {bytes : ByteArray} {maxL : Nat} {ret : Option FieldType} {hh : List (Nat × Nat × Nat × Nat)}
    (hown : s.vm.findClass own = some m.cls) (hlink : (Cond.methodLink own index y).before args s = true) (hstat : (Cond.static y).before args s = true) (hinit : (Cond.initialized y.cls).before args s = true)
    (hcode : (Cond.codeWith y bytes maxL ret hh).before args s = true) (hy : y.cls ≠ "java/lang/invoke/MethodHandle" ∧ y.cls ≠ "java/lang/invoke/VarHandle")
    {W9 : Nat} {Pre : Pt → Array Value → Prop} {Post : Pt → Array Value → Option Value → Pt → Prop} (hK : Back l R p e below s args y 3 W9 Pre Post)
    {g : JFrame} (hg : g.method = m) (hsize : g.locals.size = c.maxLocals) {argsL rest : List Value} (hlen : ∀ sig, parseMethodDescriptor y.desc = some sig → argsL.length = sig.parameters.length)
    (hstack : g.stack = argsL.reverse ++ rest) (hW : 2 * g.monitorRoom + (rest.map fun v => v.category).sum ≤ W9) (hdg : decode c.code g.pc = .ok (.invokestatic index, 3))
    (hpre : ∀ vm₁, s.WarmedH vm₁ → Pre ⟨T.setVm vm₁, locs, cells, slots⟩ argsL.toArray) :
    ∃ (v : Option Value) (vm₁ : Vm) (B : Pt), s.WarmedH vm₁ ∧ Stand p l e R s m args below meth c B.U B.locs B.cells B.slots ∧ Post ⟨T.setVm vm₁, locs, cells, slots⟩ argsL.toArray v B ∧
      ∀ target, Steps p.tables e below (B.U.setTop { g with pc := g.pc + 3, stack := v.toList ++ rest }) target → Steps p.tables e below (T.setTop g) target := by
  obtain ⟨mk, methM, cM, hnamed, hmethM, -, -, -, -, -, -, hsigM⟩ := Cond.codeWith_spec hcode
  have hstatic : methM.isStatic = true := Cond.static_spec hnamed hmethM hstat
  obtain ⟨kP, hkP, -⟩ := className_of_methodNamed hnamed
  have hinitP : kP.init = .initialized := Cond.initialized_spec (findClass_of_methodNamed hnamed) hkP hinit
  obtain ⟨vm₁, X₁, hstep₁⟩ := X.invokestatic hexec hown hlink hnamed hmethM hstatic hkP hinitP hy (g := g) hg (argsL := argsL) (rest := rest) (hlen _ hsigM) hstack hdg
  obtain ⟨v, B, X', hpost, hsteps⟩ := hK m meth c ⟨T.setVm vm₁, locs, cells, slots⟩ { g with stack := rest } (.invokestatic index) mk argsL.toArray X₁ hg hsize hdg hW (X₁.named hnamed) (hpre vm₁ X₁.warmed)
  exact ⟨v, vm₁, B, X₁.warmed, X', hpost, fun target h => hstep₁ _ fun acts => by rw [doInvoke_state]; exact hsteps.trans h⟩
theorem vx_runSW {y : MethodName} {bytes cc : ByteArray} {maxL nL mc ms n index : Nat} {ret : Option FieldType} {hh : List (Nat × Nat × Nat × Nat)} {ws : List Cond} {rm : Room} {Pc : Array Value → State → Prop} {Qc : Array Value → State → Outcome → State → Prop} {free : Addr → Prop} {Ts : List Cond} {own : String} {As rest : List Value} {g : JFrame}
    (S : CallFix p m c cc nL s args Ts own) (hM : Met l y ws rm Pc Qc mc ms free) (cw : vx_CSW R s args own index y bytes maxL ret hh ws rm mc ms n) (hp : PreS s H Pc As)
    (hg : g.method = m) (hn : As.length = n) (hsize : g.locals.size = nL) (hstack : g.stack = As.reverse ++ rest) (hW : 2 * g.monitorRoom + (rest.map fun v => v.category).sum ≤ 8) (hdg : decode cc g.pc = .ok (.invokestatic index, 3)) (hf : cells + mc ≤ R.cells ∧ slots + ms ≤ R.slots) :
    va_Run p l e R s m args below meth c H locs cells slots mc ms g rest (Qc As.toArray) (free) := by
  obtain ⟨⟨hrc, hrs, hfr, hlo, hws, hcw⟩, hcode, hini, hy, hlen, hl, hstt⟩ := cw
  have hK : Back l R p e below s args y 3 8 (PreOf R mc ms Pc) (PostOf Qc mc ms free) := va_backW (hh := hh) (bytes := bytes) (maxL := maxL) (ret := ret) hM hp.1 hrc hrs hfr hlo hws hcw (fun a' U hW => word_at hW (Or.inl (by first | rfl | simp [Cond.onTables, Cond.keeps, Cond.steady])) hini)
  obtain ⟨hx, hb, hml, ho, -⟩ := S
  intro T hT X
  obtain ⟨v, vm₁, ⟨U', l2, c2, s2⟩, hW₁, X', ⟨g', mk, t, L, e1, e2, hq, h1, hL, h2, h3⟩, st⟩ := vx_callSW X hx (hh := hh) (bytes := bytes) (maxL := maxL) (ret := ret) ho hl hstt hini hcode hy hK hg (hsize.trans hml.symm) (argsL := As) (rest := rest) (fun sig h => hn.trans (hlen sig h)) hstack hW (by rw [hb]; exact hdg)
    (fun vm₁ hW₁ => ⟨hf.1, hf.2, hp.2 (T.setVm vm₁) hT hW₁⟩)
  dsimp only [Pt.U, Pt.locs, Pt.cells, Pt.slots] at X' e1 e2 h1 h2 h3 st
  subst h1; subst h2; subst h3
  exact ⟨v, (T.setVm vm₁).calling g' mk As.toArray, t, U', L, hT, X', hL, e1, e2, hq, st⟩
/-- not caught here, past rows that name other classes: it goes on to the caller -/
theorem vx_outP {p : Program} {l : Launch} {e : Env} {R : Room} {s : State} {m : MethodId} {args : Array Value} {below : List Frame} {meth : Method} {c : Code} {H : Heap} {locs : List Loc} {cells slots : Nat} {free : Addr → Prop} {ls : Array Slot} {rest : List Value} {Qc : Array Value → State → Outcome → State → Prop} {XC : String → State → State → Prop}
    {pc : Nat} {own E : String} {ce : Cell} {q : Addr} {mc ms : Nat} (hown : s.vm.findClass own = some m.cls) (hlocks : meth.locks = false)
    (hpass : ∀ z ∈ c.exceptionTable.toList, covers z pc = false ∨ (z.catchType ≠ 0 ∧ ∃ nm : String, (Cond.classLink own z.catchType nm).before args s = true ∧ va_Nc E nm s)) (hcell : H[q]? = some ce) (hv : ce.vm = .none) (hcl : s.vm.findClass E = some ce.cls)
    (hx : ∀ t : State, t.heap = H → s.vm.Alike t.vm → XC E s t) (hf : ∀ z ∈ locs, free z.base) (hc : cells ≤ mc) (hs : slots ≤ ms) :
    vx_W p l e R s m args below meth c H locs cells slots (vx_MQ below Qc XC args s mc ms free) (F0 m pc ls rest) q := by
  intro T hT X
  have hpl : e.platform.magicAccessors = ({} : Platform).magicAccessors := by rw [X.admits.platform]
  obtain ⟨vm', hW', X', st⟩ := X.outThrough hlocks q (g := F0 m pc ls rest) rfl rfl rfl (cell := ce) (by rw [hT]; exact hcell) (by rw [hv]; rfl)
    (by obtain ⟨k9, h9, -⟩ := Vm.findClass_spec hcl; exact ⟨k9, h9⟩) (fun z hz => by
      rcases hpass z hz with h | ⟨hz0, nm, hl1, hn1⟩
      · exact Or.inl h
      · obtain ⟨c6, hc6, hcl6⟩ := Cond.classLink_spec hown hl1 e.platform hpl
        obtain ⟨a8, b8, h1, h2, h3⟩ := hn1
        cases Option.some.inj (h1.symm.trans hcl)
        cases Option.some.inj (h2.symm.trans hc6)
        exact Or.inr ⟨hz0, _, hcl6, h3⟩)
  obtain ⟨g₀, hfr⟩ := X'.frames_eq
  have hcell9 : ((T.setVm vm').setFrames (.throwing q :: below)).heap[q]? = some ce := by
    show T.heap[q]? = some ce
    rw [hT]; exact hcell
  have hend : Ended ((T.setVm vm').setFrames (.throwing q :: below)) below (.threw q) := State.frames_setFrames _ (State.cur_lt_of_frames hfr)
  refine ⟨(T.setVm vm').setFrames (.throwing q :: below), ?_, .threw q, X'.here.running, hend, Or.inr ⟨q, rfl, E, ce, locs, hx _ hT (X'.ends _).1.alike, hcell9, hv, hcl, (X'.ends _).1, (X'.ends _).2.mono hc hs, hf⟩⟩
  rw [X.pushThrowing_eq]
  exact st
/-- a thing of a world lies in the heap -/
theorem vx_lt {D : va_G} {cl : List vw_C} {ws : va_W} {H1 : Heap} (h : va_P D cl ws H1) {k : Nat} {q : Nat × va_E} (hk : ws[k]? = some q) : q.1 < H1.size := (h k q hk).lt
end VXS
/-! ===== END ===== -/
/-! ===== BEGIN methods with a table of their own: called by a name, returning or throwing ===== -/
section VXH
/-! vx_backW, vx_callVX, vx_callSX, vx_callVW, vx_runVW, vx_runVX, vx_runSX, vx_ofWH follow the same proofs as their sisters above (Free/Laws.lean, Shelf42/LK1.lean); vx_outP calls Shelf42/NT130.lean (outThrough). -/
section
variable {l : Launch} {R : Room} {p : Program} {e : Env} {below : List Frame} {s : State} {sargs : Array Value} {y : MethodName} {len W9 : Nat}
theorem vx_backW {ws : List Cond} {rm : Room} {Pc : Array Value → State → Prop} {Qc : Array Value → State → Outcome → State → Prop} {XC : String → State → State → Prop} {mc ms : Nat} {free : Addr → Prop} {bytes : ByteArray} {maxL : Nat} {ret : Option FieldType} {hh : List (Nat × Nat × Nat × Nat)}
    (hM : vx_Met l y ws rm Pc Qc XC mc ms free) (hblind : FrameBlind Pc) (hrc : rm.cells = mc) (hrs : rm.slots = ms)
    (hframes : rm.frames + 1 ≤ R.frames) (hlocals : W9 + (maxL + 11) + rm.locals ≤ R.locals)
    (hws : ∀ w ∈ ws, ∀ a' U, s.WarmedH U.vm → w.before a' U = true) (hcode : Cond.codeWith y bytes maxL ret hh ∈ ws) (hinit : ∀ a' U, s.WarmedH U.vm → (Cond.initialized y.cls).before a' U = true) :
    vx_Back l R p e below s sargs y len W9 (PreOf R mc ms Pc) (PostOf Qc mc ms free) (vx_Post XC mc ms free) := by
  intro m meth c A g ig mk a X hg hsize hdg hW hn hp
  have h1 : (headSpec ws rm).pre.before a A.U = true := atoms_intro fun w hw => hws w hw _ _ X.warmed
  have h2 : (Cond.codeWith y bytes maxL ret hh).before a A.U = true := hws _ hcode _ _ X.warmed
  have h3 : (Cond.initialized y.cls).before a A.U = true := hinit _ _ X.warmed
  have h4 : A.cells + (headSpec ws rm).room.cells ≤ R.cells := by rw [show (headSpec ws rm).room.cells = mc from hrc]; exact hp.1
  have h5 : A.slots + (headSpec ws rm).room.slots ≤ R.slots := by rw [show (headSpec ws rm).room.slots = ms from hrs]; exact hp.2.1
  have hPc : Pc a (A.U.calling g mk a) := hblind _ _ _ _ hp.2.2
  obtain ⟨U, Ls, c0, s0⟩ := A
  dsimp only [Pt.U, Pt.locs, Pt.cells, Pt.slots] at h1 h2 h3 h4 h5 X hn hPc ⊢
  obtain ⟨m9, methY, cY, hn9, hmY, hcY, -, hlY, -⟩ := Cond.codeWith_spec h2
  cases Option.some.inj (hn9.symm.trans hn)
  obtain ⟨kY, hkY, -⟩ := className_of_methodNamed hn
  have hinitY : kY.init = .initialized := Cond.initialized_spec (findClass_of_methodNamed hn) hkY h3
  have h : At U g.method c below := by rw [hg]; exact X.here
  have hlocals9 : W9 + (maxL + 11) + (headSpec ws rm).room.locals ≤ R.locals := hlocals
  have happ : (headSpec ws rm).appliesLoose y e.platform (U.calling g mk a) = true :=
    Spec.appliesLoose_calling (g := g) h hdg hn hkY hinitY
      (X.room_calling (g := g) (R' := (headSpec ws rm).room) hsize hmY hcY hframes (by rw [hlY]; omega) h4 h5) h1
  obtain ⟨mid, hmid⟩ := h.above
  have hfr : (U.setTop g).frames = (.java g :: mid) ++ below := by rw [State.frames_setTop' g h.top, hmid]; rfl
  obtain ⟨o, s₂, hsteps, -, hend, hq⟩ := Steps.callFree hM p X.admits X.cas X.clock (acts := []) hfr happ hPc trivial
  have hq' : vx_Q Qc XC mc ms free a (U.calling g mk a) o s₂ := hq
  rw [State.frames_setTop' g h.top] at hend
  obtain ⟨g₀, hg0⟩ := Option.isSome_iff_exists.mp h.top
  obtain ⟨r, hr⟩ := State.topJava?_eq_some.mp hg0
  have hr' : (({ U with heap := s₂.heap, slotsUsed := s₂.slotsUsed } : State).setVm s₂.vm).frames = .java g₀ :: r := hr
  rcases hq' with ⟨hqc, L, hfe, hL⟩ | ⟨q, rfl, E, ce, L, hx, hce, hcv, hcl, hW₂, hsm, hL⟩
  · obtain ⟨⟨v, rfl⟩, hW₂, e2, q2, q3, q4, q5, q6⟩ := id hfe
    have e3 : s₂ = ({ (U.calling g mk a).setFrames s₂.frames with heap := s₂.heap, slotsUsed := s₂.slotsUsed } : State).setVm s₂.vm := by
      have : s₂ = ({ s₂ with vm := (U.calling g mk a).vm } : State).setVm s₂.vm := rfl
      rw [e2] at this
      exact this
    obtain ⟨c₂, i₂, len₂, hc₂, hd₂, hf₂⟩ := hend
    have hW' : U.WarmedH s₂.vm := hW₂
    have hcc : c₂ = c := by
      have h1 : s₂.code? g.method = U.code? g.method := by
        rw [State.code?_eq, State.code?_eq, hW'.alike.method?]
      exact Option.some.inj (hc₂.symm.trans (h1.trans h.code))
    subst hcc
    have hlen : len₂ = len := by rw [hdg] at hd₂; cases hd₂; rfl
    subst hlen
    have hs₂ : s₂ = (({ U with heap := s₂.heap, slotsUsed := s₂.slotsUsed } : State).setVm s₂.vm).setTop { g with pc := g.pc + len₂, stack := v.toList ++ g.stack } := by
      refine e3.trans ?_
      rw [hf₂, State.calling_eq h.top, State.setFrames_setFrames, State.setTop_of_frames _ hr', hr]
      rfl
    have hsame : U.sameButNew ({ U with heap := s₂.heap, slotsUsed := s₂.slotsUsed } : State) L mc ms := by
      refine ⟨?_, q2, q3, q4, q5, q6⟩
      obtain ⟨t, ht, -⟩ := State.frames_cons hr
      show ({ U with heap := s₂.heap, slotsUsed := s₂.slotsUsed } : State) = { U.setFrames U.frames with heap := s₂.heap, slotsUsed := s₂.slotsUsed }
      rw [State.setFrames_self ht]
    subst hg
    refine Or.inl ⟨v, ⟨(({ U with heap := s₂.heap, slotsUsed := s₂.slotsUsed } : State).setVm s₂.vm), Ls ++ L, c0 + mc, s0 + ms⟩,
      ⟨X.admits, X.cas, X.clock, X.frames, X.room, X.hears, X.method, X.code, (X.here.setHeapUsed s₂.heap s₂.slotsUsed).setVm hW'.alike, X.tail, State.WarmedH.trans X.warmed hW', X.limits, X.bytes, X.same.trans (hsame.setVm s.vm)⟩,
      ⟨g, mk, s₂, L, rfl, rfl, hqc, rfl, hL, rfl, rfl⟩, ?_⟩
    show Steps p.tables e below _ ((({ U with heap := s₂.heap, slotsUsed := s₂.slotsUsed } : State).setVm s₂.vm).setTop { g with pc := g.pc + len₂, stack := v.toList ++ g.stack })
    rw [← hs₂]
    exact hsteps
  · obtain ⟨e2, q2, q3, q4, q5, q6⟩ := id hsm
    have e3 : s₂ = ({ (U.calling g mk a).setFrames s₂.frames with heap := s₂.heap, slotsUsed := s₂.slotsUsed } : State).setVm s₂.vm := by
      have : s₂ = ({ s₂ with vm := (U.calling g mk a).vm } : State).setVm s₂.vm := rfl
      rw [e2] at this
      exact this
    have hf₂ : s₂.frames = .throwing q :: .java g :: U.frames.tail := hend
    have hW' : U.WarmedH s₂.vm := hW₂
    have hs₂ : s₂ = ((({ U with heap := s₂.heap, slotsUsed := s₂.slotsUsed } : State).setVm s₂.vm).setTop g).pushFrame (.throwing q) := by
      refine e3.trans ?_
      rw [hf₂, State.calling_eq h.top, State.setFrames_setFrames, State.pushFrame, State.frames_setTop _ hr', State.setTop_of_frames _ hr', State.setFrames_setFrames, hr]
      rfl
    have hsame : U.sameButNew ({ U with heap := s₂.heap, slotsUsed := s₂.slotsUsed } : State) L mc ms := by
      refine ⟨?_, q2, q3, q4, q5, q6⟩
      obtain ⟨t, ht, -⟩ := State.frames_cons hr
      show ({ U with heap := s₂.heap, slotsUsed := s₂.slotsUsed } : State) = { U.setFrames U.frames with heap := s₂.heap, slotsUsed := s₂.slotsUsed }
      rw [State.setFrames_self ht]
    subst hg
    refine Or.inr ⟨q, ⟨(({ U with heap := s₂.heap, slotsUsed := s₂.slotsUsed } : State).setVm s₂.vm), Ls ++ L, c0 + mc, s0 + ms⟩,
      ⟨X.admits, X.cas, X.clock, X.frames, X.room, X.hears, X.method, X.code, (X.here.setHeapUsed s₂.heap s₂.slotsUsed).setVm hW'.alike, X.tail, State.WarmedH.trans X.warmed hW', X.limits, X.bytes, X.same.trans (hsame.setVm s.vm)⟩,
      ⟨g, mk, s₂, L, E, ce, rfl, rfl, hx, hce, hcv, hcl, rfl, hL, rfl, rfl⟩, ?_⟩
    show Steps p.tables e below _ (((({ U with heap := s₂.heap, slotsUsed := s₂.slotsUsed } : State).setVm s₂.vm).setTop g).pushFrame (.throwing q))
    rw [← hs₂]
    exact hsteps
end
variable {p : Program} {l : Launch} {e : Env} {R : Room} {s : State} {m : MethodId} {args : Array Value} {below : List Frame} {meth : Method} {c : Code} {T : State} {H : Heap} {locs : List Loc} {cells slots : Nat}
theorem vx_callVX (X : Stand p l e R s m args below meth c T locs cells slots) (hexec : p.tables.exec = Jvm.exec) {own C : String} {index : Nat} {y : MethodName} {bytes : ByteArray} {maxL : Nat} {ret : Option FieldType} {hh : List (Nat × Nat × Nat × Nat)}
    (hown : s.vm.findClass own = some m.cls) (hlink : (Cond.methodLink own index y).before args s = true) (hinst : (Cond.instanceMethod y).before args s = true) (hsel : (Cond.selects C y y).before args s = true)
    (hcode : (Cond.codeWith y bytes maxL ret hh).before args s = true) (hy : y.cls ≠ "java/lang/invoke/MethodHandle" ∧ y.cls ≠ "java/lang/invoke/VarHandle")
    {W9 : Nat} {Pre : Pt → Array Value → Prop} {Post : Pt → Array Value → Option Value → Pt → Prop} {PostX : Pt → Array Value → Addr → Pt → Prop} (hK : vx_Back l R p e below s args y 3 W9 Pre Post PostX)
    {b : Addr} {cellB : Cell} (hcell : T.heap[b]? = some cellB) (hobj : cellB.vm.isStatics = false) (hcls : s.vm.findClass C = some cellB.cls)
    {g : JFrame} (hg : g.method = m) (hsize : g.locals.size = c.maxLocals) {argsL rest : List Value} (hlen : ∀ sig, parseMethodDescriptor y.desc = some sig → argsL.length = sig.parameters.length)
    (hstack : g.stack = argsL.reverse ++ .ref b :: rest) (hW : 2 * g.monitorRoom + (rest.map fun v => v.category).sum ≤ W9) (hdg : decode c.code g.pc = .ok (.invokevirtual index, 3))
    (hpre : ∀ vm₁, s.WarmedH vm₁ → Pre ⟨T.setVm vm₁, locs, cells, slots⟩ (Value.ref b :: argsL).toArray) :
    (∃ (v : Option Value) (vm₁ : Vm) (B : Pt), s.WarmedH vm₁ ∧ Stand p l e R s m args below meth c B.U B.locs B.cells B.slots ∧ Post ⟨T.setVm vm₁, locs, cells, slots⟩ (Value.ref b :: argsL).toArray v B ∧
      ∀ target, Steps p.tables e below (B.U.setTop { g with pc := g.pc + 3, stack := v.toList ++ rest }) target → Steps p.tables e below (T.setTop g) target) ∨
    (∃ (q : Addr) (vm₁ : Vm) (B : Pt), s.WarmedH vm₁ ∧ Stand p l e R s m args below meth c B.U B.locs B.cells B.slots ∧ PostX ⟨T.setVm vm₁, locs, cells, slots⟩ (Value.ref b :: argsL).toArray q B ∧
      Steps p.tables e below (T.setTop g) ((B.U.setTop { g with stack := rest }).pushFrame (.throwing q))) := by
  obtain ⟨mk, methM, hnamed, hmethM, hstM, habM⟩ := Cond.instanceMethod_spec hinst
  obtain ⟨m8, methM', cM, hn8, hmethM', -, -, -, -, -, -, hsigM⟩ := Cond.codeWith_spec hcode
  cases Option.some.inj (hn8.symm.trans hnamed)
  cases hmethM.symm.trans hmethM'
  obtain ⟨c2, r2, m2, q1, q2, q3, q4, kP, hkP, hkPi⟩ := Cond.selects_spec hsel
  cases hcls.symm.trans q1
  cases (State.methodFound?_of_named hnamed hy).symm.trans q2
  cases hnamed.symm.trans q3
  have hselP : selectMethod e.platform s.vm cellB.cls mk = .method mk := by rw [Launch.admits_selectMethod X.admits]; exact q4
  obtain ⟨vm₁, X₁, hstep₁⟩ := X.invokevirtual hexec hown hlink hnamed hmethM hstM hkP hkPi hy (a := b) (cell := cellB) hcell
    (fun z h => by rw [h] at hobj; cases hobj) hselP hmethM habM hkP hkPi (g := g) hg (argsL := argsL) (rest := rest) (hlen _ hsigM) hstack hdg
  rcases hK m meth c ⟨T.setVm vm₁, locs, cells, slots⟩ { g with stack := rest } (.invokevirtual index) mk (Value.ref b :: argsL).toArray X₁ hg hsize hdg hW (X₁.named hnamed) (hpre vm₁ X₁.warmed) with ⟨v, B, X', hpost, hsteps⟩ | ⟨q, B, X', hpost, hsteps⟩
  · exact Or.inl ⟨v, vm₁, B, X₁.warmed, X', hpost, fun target h => hstep₁ _ fun acts => by rw [doInvoke_state]; exact hsteps.trans h⟩
  · exact Or.inr ⟨q, vm₁, B, X₁.warmed, X', hpost, hstep₁ _ fun acts => by rw [doInvoke_state]; exact hsteps⟩
theorem vx_callSX (X : Stand p l e R s m args below meth c T locs cells slots) (hexec : p.tables.exec = Jvm.exec) {own : String} {index : Nat} {y : MethodName} {bytes : ByteArray} {maxL : Nat} {ret : Option FieldType} {hh : List (Nat × Nat × Nat × Nat)}
    (hown : s.vm.findClass own = some m.cls) (hlink : (Cond.methodLink own index y).before args s = true) (hstat : (Cond.static y).before args s = true) (hinit : (Cond.initialized y.cls).before args s = true)
    (hcode : (Cond.codeWith y bytes maxL ret hh).before args s = true) (hy : y.cls ≠ "java/lang/invoke/MethodHandle" ∧ y.cls ≠ "java/lang/invoke/VarHandle")
    {W9 : Nat} {Pre : Pt → Array Value → Prop} {Post : Pt → Array Value → Option Value → Pt → Prop} {PostX : Pt → Array Value → Addr → Pt → Prop} (hK : vx_Back l R p e below s args y 3 W9 Pre Post PostX)
    {g : JFrame} (hg : g.method = m) (hsize : g.locals.size = c.maxLocals) {argsL rest : List Value} (hlen : ∀ sig, parseMethodDescriptor y.desc = some sig → argsL.length = sig.parameters.length)
    (hstack : g.stack = argsL.reverse ++ rest) (hW : 2 * g.monitorRoom + (rest.map fun v => v.category).sum ≤ W9) (hdg : decode c.code g.pc = .ok (.invokestatic index, 3))
    (hpre : ∀ vm₁, s.WarmedH vm₁ → Pre ⟨T.setVm vm₁, locs, cells, slots⟩ argsL.toArray) :
    (∃ (v : Option Value) (vm₁ : Vm) (B : Pt), s.WarmedH vm₁ ∧ Stand p l e R s m args below meth c B.U B.locs B.cells B.slots ∧ Post ⟨T.setVm vm₁, locs, cells, slots⟩ argsL.toArray v B ∧
      ∀ target, Steps p.tables e below (B.U.setTop { g with pc := g.pc + 3, stack := v.toList ++ rest }) target → Steps p.tables e below (T.setTop g) target) ∨
    (∃ (q : Addr) (vm₁ : Vm) (B : Pt), s.WarmedH vm₁ ∧ Stand p l e R s m args below meth c B.U B.locs B.cells B.slots ∧ PostX ⟨T.setVm vm₁, locs, cells, slots⟩ argsL.toArray q B ∧
      Steps p.tables e below (T.setTop g) ((B.U.setTop { g with stack := rest }).pushFrame (.throwing q))) := by
  obtain ⟨mk, methM, cM, hnamed, hmethM, -, -, -, -, -, -, hsigM⟩ := Cond.codeWith_spec hcode
  have hstatic : methM.isStatic = true := Cond.static_spec hnamed hmethM hstat
  obtain ⟨kP, hkP, -⟩ := className_of_methodNamed hnamed
  have hinitP : kP.init = .initialized := Cond.initialized_spec (findClass_of_methodNamed hnamed) hkP hinit
  obtain ⟨vm₁, X₁, hstep₁⟩ := X.invokestatic hexec hown hlink hnamed hmethM hstatic hkP hinitP hy (g := g) hg (argsL := argsL) (rest := rest) (hlen _ hsigM) hstack hdg
  rcases hK m meth c ⟨T.setVm vm₁, locs, cells, slots⟩ { g with stack := rest } (.invokestatic index) mk argsL.toArray X₁ hg hsize hdg hW (X₁.named hnamed) (hpre vm₁ X₁.warmed) with ⟨v, B, X', hpost, hsteps⟩ | ⟨q, B, X', hpost, hsteps⟩
  · exact Or.inl ⟨v, vm₁, B, X₁.warmed, X', hpost, fun target h => hstep₁ _ fun acts => by rw [doInvoke_state]; exact hsteps.trans h⟩
  · exact Or.inr ⟨q, vm₁, B, X₁.warmed, X', hpost, hstep₁ _ fun acts => by rw [doInvoke_state]; exact hsteps⟩
theorem vx_callVW (X : Stand p l e R s m args below meth c T locs cells slots) (hexec : p.tables.exec = Jvm.exec) {own C : String} {index : Nat} {y : MethodName} {bytes : ByteArray} {maxL : Nat} {ret : Option FieldType} {hh : List (Nat × Nat × Nat × Nat)}
    (hown : s.vm.findClass own = some m.cls) (hlink : (Cond.methodLink own index y).before args s = true) (hinst : (Cond.instanceMethod y).before args s = true) (hsel : (Cond.selects C y y).before args s = true)
    (hcode : (Cond.codeWith y bytes maxL ret hh).before args s = true) (hy : y.cls ≠ "java/lang/invoke/MethodHandle" ∧ y.cls ≠ "java/lang/invoke/VarHandle")
    {W9 : Nat} {Pre : Pt → Array Value → Prop} {Post : Pt → Array Value → Option Value → Pt → Prop} (hK : Back l R p e below s args y 3 W9 Pre Post)
    {b : Addr} {cellB : Cell} (hcell : T.heap[b]? = some cellB) (hobj : cellB.vm.isStatics = false) (hcls : s.vm.findClass C = some cellB.cls)
    {g : JFrame} (hg : g.method = m) (hsize : g.locals.size = c.maxLocals) {argsL rest : List Value} (hlen : ∀ sig, parseMethodDescriptor y.desc = some sig → argsL.length = sig.parameters.length)
    (hstack : g.stack = argsL.reverse ++ .ref b :: rest) (hW : 2 * g.monitorRoom + (rest.map fun v => v.category).sum ≤ W9) (hdg : decode c.code g.pc = .ok (.invokevirtual index, 3))
    (hpre : ∀ vm₁, s.WarmedH vm₁ → Pre ⟨T.setVm vm₁, locs, cells, slots⟩ (Value.ref b :: argsL).toArray) :
    ∃ (v : Option Value) (vm₁ : Vm) (B : Pt), s.WarmedH vm₁ ∧ Stand p l e R s m args below meth c B.U B.locs B.cells B.slots ∧ Post ⟨T.setVm vm₁, locs, cells, slots⟩ (Value.ref b :: argsL).toArray v B ∧
      ∀ target, Steps p.tables e below (B.U.setTop { g with pc := g.pc + 3, stack := v.toList ++ rest }) target → Steps p.tables e below (T.setTop g) target := by
  obtain ⟨mk, methM, hnamed, hmethM, hstM, habM⟩ := Cond.instanceMethod_spec hinst
  obtain ⟨m8, methM', cM, hn8, hmethM', -, -, -, -, -, -, hsigM⟩ := Cond.codeWith_spec hcode
  cases Option.some.inj (hn8.symm.trans hnamed)
  cases hmethM.symm.trans hmethM'
  obtain ⟨c2, r2, m2, q1, q2, q3, q4, kP, hkP, hkPi⟩ := Cond.selects_spec hsel
  cases hcls.symm.trans q1
  cases (State.methodFound?_of_named hnamed hy).symm.trans q2
  cases hnamed.symm.trans q3
  have hselP : selectMethod e.platform s.vm cellB.cls mk = .method mk := by rw [Launch.admits_selectMethod X.admits]; exact q4
  obtain ⟨vm₁, X₁, hstep₁⟩ := X.invokevirtual hexec hown hlink hnamed hmethM hstM hkP hkPi hy (a := b) (cell := cellB) hcell
    (fun z h => by rw [h] at hobj; cases hobj) hselP hmethM habM hkP hkPi (g := g) hg (argsL := argsL) (rest := rest) (hlen _ hsigM) hstack hdg
  obtain ⟨v, B, X', hpost, hsteps⟩ := hK m meth c ⟨T.setVm vm₁, locs, cells, slots⟩ { g with stack := rest } (.invokevirtual index) mk (Value.ref b :: argsL).toArray X₁ hg hsize hdg hW (X₁.named hnamed) (hpre vm₁ X₁.warmed)
  exact ⟨v, vm₁, B, X₁.warmed, X', hpost, fun target h => hstep₁ _ fun acts => by rw [doInvoke_state]; exact hsteps.trans h⟩
abbrev vx_CVW (R : Room) (s : State) (args : Array Value) (own C : String) (index : Nat) (y : MethodName) (bytes : ByteArray) (maxL : Nat) (ret : Option FieldType) (hh : List (Nat × Nat × Nat × Nat)) (ws : List Cond) (rm : Room) (mc ms n : Nat) : Prop :=
  (rm.cells = mc ∧ rm.slots = ms ∧ rm.frames + 1 ≤ R.frames ∧ 8 + (maxL + 11) + rm.locals ≤ R.locals ∧ (∀ w ∈ ws, ∀ (a' : Array Value) (U : State), s.WarmedH U.vm → w.before a' U = true) ∧ Cond.codeWith y bytes maxL ret hh ∈ ws) ∧
  (Cond.codeWith y bytes maxL ret hh).before args s = true ∧ (Cond.initialized y.cls).before args s = true ∧ (y.cls ≠ "java/lang/invoke/MethodHandle" ∧ y.cls ≠ "java/lang/invoke/VarHandle") ∧
  (∀ sig, parseMethodDescriptor y.desc = some sig → n = sig.parameters.length) ∧ (Cond.methodLink own index y).before args s = true ∧ (Cond.instanceMethod y).before args s = true ∧ (Cond.selects C y y).before args s = true
theorem vx_cwVW {own C : String} {index maxL mc ms : Nat} {y : MethodName} {bytes : ByteArray} {ret : Option FieldType} {hh : List (Nat × Nat × Nat × Nat)} {Ts ws ws' : List Cond} {rm : Room} (n : Nat) (ht : ∀ w ∈ Ts, w.before args s = true) (hT : GoodIn Ts (wsV own index C y ws)) (hw : ws = Cond.codeWith y bytes maxL ret hh :: ws') (hrc : rm.cells = mc) (hrs : rm.slots = ms)
    (hd : y.cls = C ∧ y.cls ≠ "java/lang/invoke/MethodHandle" ∧ y.cls ≠ "java/lang/invoke/VarHandle" ∧ (parseMethodDescriptor y.desc).map (fun d => d.parameters.length) = some n) (hR : rm.frames + 1 ≤ R.frames ∧ 8 + (maxL + 11) + rm.locals ≤ R.locals) :
    vx_CVW R s args own C index y bytes maxL ret hh ws rm mc ms n := by
  obtain ⟨hC, hd⟩ := hd
  subst hC
  have ok : ∀ w ∈ wsV own index y.cls y ws, w.before args s = true := fun w h => ht w (hT w h).1
  have hG : GoodIn Ts ws := fun w h => hT w (by unfold wsV; exact List.mem_append_right _ h)
  have hc : Cond.codeWith y bytes maxL ret hh ∈ ws := by rw [hw]; exact List.mem_cons_self
  refine ⟨⟨hrc, hrs, hR.1, hR.2, pay_in ht hG, hc⟩, ht _ (hG _ hc).1, ok _ (by simp [wsV]), ⟨hd.1, hd.2.1⟩, fun sig h => ?_, ok _ (by simp [wsV]), ok _ (by simp [wsV]), ok _ (by simp [wsV])⟩
  have h2 := hd.2.2
  rw [h] at h2
  exact (Option.some.inj h2).symm
theorem vx_runVW {y : MethodName} {bytes cc : ByteArray} {maxL nL mc ms n index : Nat} {ret : Option FieldType} {hh : List (Nat × Nat × Nat × Nat)} {ws : List Cond} {rm : Room} {Pc : Array Value → State → Prop} {Qc : Array Value → State → Outcome → State → Prop} {free : Addr → Prop} {Ts : List Cond} {own C : String} {b : Addr} {As rest : List Value} {g : JFrame}
    (S : CallFix p m c cc nL s args Ts own) (hM : Met l y ws rm Pc Qc mc ms free) (cw : vx_CVW R s args own C index y bytes maxL ret hh ws rm mc ms n) (hp : PreV s H C b Pc As)
    (hg : g.method = m) (hn : As.length = n) (hsize : g.locals.size = nL) (hstack : g.stack = As.reverse ++ .ref b :: rest) (hW : 2 * g.monitorRoom + (rest.map fun v => v.category).sum ≤ 8) (hdg : decode cc g.pc = .ok (.invokevirtual index, 3)) (hf : cells + mc ≤ R.cells ∧ slots + ms ≤ R.slots) :
    va_Run p l e R s m args below meth c H locs cells slots mc ms g rest (Qc (Value.ref b :: As).toArray) free := by
  obtain ⟨⟨hrc, hrs, hfr, hlo, hws, hcw⟩, hcode, hini, hy, hlen, hl, hin, hse⟩ := cw
  have hK : Back l R p e below s args y 3 8 (PreOf R mc ms Pc) (PostOf Qc mc ms free) := va_backW (hh := hh) (bytes := bytes) (maxL := maxL) (ret := ret) hM hp.1 hrc hrs hfr hlo hws hcw (fun a' U hW => word_at hW (Or.inl (by first | rfl | simp [Cond.onTables, Cond.keeps, Cond.steady])) hini)
  obtain ⟨hx, hb, hml, ho, -⟩ := S
  obtain ⟨-, ⟨cellB, hcB, hoB, hclB⟩, hPc⟩ := hp
  intro T hT X
  obtain ⟨v, vm₁, ⟨U', l2, c2, s2⟩, hW₁, X', ⟨g', mk, t, L, e1, e2, hq, h1, hL, h2, h3⟩, st⟩ := vx_callVW X hx (C := C) (hh := hh) (bytes := bytes) (maxL := maxL) (ret := ret) ho hl hin hse hcode hy hK (by rw [hT]; exact hcB) hoB hclB hg (hsize.trans hml.symm) (argsL := As) (rest := rest) (fun sig h => hn.trans (hlen sig h)) hstack hW (by rw [hb]; exact hdg)
    (fun vm₁ hW₁ => ⟨hf.1, hf.2, hPc (T.setVm vm₁) hT hW₁⟩)
  dsimp only [Pt.U, Pt.locs, Pt.cells, Pt.slots] at X' e1 e2 h1 h2 h3 st
  subst h1; subst h2; subst h3
  exact ⟨v, (T.setVm vm₁).calling g' mk (Value.ref b :: As).toArray, t, U', L, hT, X', hL, e1, e2, hq, st⟩
section
variable {y : MethodName} {bytes cc : ByteArray} {maxL nL mc ms n index : Nat} {ret : Option FieldType} {ws : List Cond} {rm : Room} {Pc : Array Value → State → Prop} {Qc : Array Value → State → Outcome → State → Prop} {XC : String → State → State → Prop} {free : Addr → Prop} {Ts : List Cond} {own C : String} {b : Addr} {As rest : List Value} {g : JFrame}
theorem vx_runVX {hh : List (Nat × Nat × Nat × Nat)} (S : CallFix p m c cc nL s args Ts own) (hM : vx_Met l y ws rm Pc Qc XC mc ms free) (cw : vx_CVW R s args own C index y bytes maxL ret hh ws rm mc ms n) (hp : PreV s H C b Pc As)
    (hg : g.method = m) (hn : As.length = n) (hsize : g.locals.size = nL) (hstack : g.stack = As.reverse ++ .ref b :: rest) (hW : 2 * g.monitorRoom + (rest.map fun v => v.category).sum ≤ 8) (hdg : decode cc g.pc = .ok (.invokevirtual index, 3)) (hf : cells + mc ≤ R.cells ∧ slots + ms ≤ R.slots) :
    vx_Run p l e R s m args below meth c H locs cells slots mc ms g rest (Qc (Value.ref b :: As).toArray) XC free := by
  obtain ⟨⟨hrc, hrs, hfr, hlo, hws, hcw⟩, hcode, hini, hy, hlen, hl, hin, hse⟩ := cw
  have hK : vx_Back l R p e below s args y 3 8 (PreOf R mc ms Pc) (PostOf Qc mc ms free) (vx_Post XC mc ms free) := vx_backW (hh := hh) (bytes := bytes) (maxL := maxL) (ret := ret) hM hp.1 hrc hrs hfr hlo hws hcw (fun a' U hW => word_at hW (Or.inl (by first | rfl | simp [Cond.onTables, Cond.keeps, Cond.steady])) hini)
  obtain ⟨hx, hb, hml, ho, -⟩ := S
  obtain ⟨-, ⟨cellB, hcB, hoB, hclB⟩, hPc⟩ := hp
  intro T hT X
  rcases vx_callVX X hx (C := C) (hh := hh) (bytes := bytes) (maxL := maxL) (ret := ret) ho hl hin hse hcode hy hK (by rw [hT]; exact hcB) hoB hclB hg (hsize.trans hml.symm) (argsL := As) (rest := rest) (fun sig h => hn.trans (hlen sig h)) hstack hW (by rw [hb]; exact hdg)
    (fun vm₁ hW₁ => ⟨hf.1, hf.2, hPc (T.setVm vm₁) hT hW₁⟩) with ⟨v, vm₁, ⟨U', l2, c2, s2⟩, hW₁, X', ⟨g', mk, t, L, e1, e2, hq, h1, hL, h2, h3⟩, st⟩ | ⟨q, vm₁, ⟨U', l2, c2, s2⟩, hW₁, X', ⟨g', mk, t, L, E, ce, e1, e2, hq, hce, hcv, hcl, h1, hL, h2, h3⟩, st⟩
  · dsimp only [Pt.U, Pt.locs, Pt.cells, Pt.slots] at X' e1 e2 h1 h2 h3 st
    subst h1; subst h2; subst h3
    exact Or.inl ⟨v, (T.setVm vm₁).calling g' mk (Value.ref b :: As).toArray, t, U', L, hT, X', hL, e1, e2, hq, st⟩
  · dsimp only [Pt.U, Pt.locs, Pt.cells, Pt.slots] at X' e1 e2 h1 h2 h3 st hcl
    subst h1; subst h2; subst h3
    exact Or.inr ⟨q, (T.setVm vm₁).calling g' mk (Value.ref b :: As).toArray, t, U', L, E, ce, hT, X', hL, e1, e2, hq, hce, hcv, vx_cls hW₁ hcl, st⟩
theorem vx_runSX {hh : List (Nat × Nat × Nat × Nat)} (S : CallFix p m c cc nL s args Ts own) (hM : vx_Met l y ws rm Pc Qc XC mc ms free) (cw : vx_CSW R s args own index y bytes maxL ret hh ws rm mc ms n) (hp : PreS s H Pc As)
    (hg : g.method = m) (hn : As.length = n) (hsize : g.locals.size = nL) (hstack : g.stack = As.reverse ++ rest) (hW : 2 * g.monitorRoom + (rest.map fun v => v.category).sum ≤ 8) (hdg : decode cc g.pc = .ok (.invokestatic index, 3)) (hf : cells + mc ≤ R.cells ∧ slots + ms ≤ R.slots) :
    vx_Run p l e R s m args below meth c H locs cells slots mc ms g rest (Qc As.toArray) XC free := by
  obtain ⟨⟨hrc, hrs, hfr, hlo, hws, hcw⟩, hcode, hini, hy, hlen, hl, hstt⟩ := cw
  have hK : vx_Back l R p e below s args y 3 8 (PreOf R mc ms Pc) (PostOf Qc mc ms free) (vx_Post XC mc ms free) := vx_backW (hh := hh) (bytes := bytes) (maxL := maxL) (ret := ret) hM hp.1 hrc hrs hfr hlo hws hcw (fun a' U hW => word_at hW (Or.inl (by first | rfl | simp [Cond.onTables, Cond.keeps, Cond.steady])) hini)
  obtain ⟨hx, hb, hml, ho, -⟩ := S
  intro T hT X
  rcases vx_callSX X hx (hh := hh) (bytes := bytes) (maxL := maxL) (ret := ret) ho hl hstt hini hcode hy hK hg (hsize.trans hml.symm) (argsL := As) (rest := rest) (fun sig h => hn.trans (hlen sig h)) hstack hW (by rw [hb]; exact hdg)
    (fun vm₁ hW₁ => ⟨hf.1, hf.2, hp.2 (T.setVm vm₁) hT hW₁⟩) with ⟨v, vm₁, ⟨U', l2, c2, s2⟩, hW₁, X', ⟨g', mk, t, L, e1, e2, hq, h1, hL, h2, h3⟩, st⟩ | ⟨q, vm₁, ⟨U', l2, c2, s2⟩, hW₁, X', ⟨g', mk, t, L, E, ce, e1, e2, hq, hce, hcv, hcl, h1, hL, h2, h3⟩, st⟩
  · dsimp only [Pt.U, Pt.locs, Pt.cells, Pt.slots] at X' e1 e2 h1 h2 h3 st
    subst h1; subst h2; subst h3
    exact Or.inl ⟨v, (T.setVm vm₁).calling g' mk As.toArray, t, U', L, hT, X', hL, e1, e2, hq, st⟩
  · dsimp only [Pt.U, Pt.locs, Pt.cells, Pt.slots] at X' e1 e2 h1 h2 h3 st hcl
    subst h1; subst h2; subst h3
    exact Or.inr ⟨q, (T.setVm vm₁).calling g' mk As.toArray, t, U', L, E, ce, hT, X', hL, e1, e2, hq, hce, hcv, vx_cls hW₁ hcl, st⟩
end
end VXH
theorem vx_ofWH {l : Launch} {y : MethodName} {ws ws' : List Cond} {rm : Room} {Pc : Array Value → State → Prop} {Qc : Array Value → State → Outcome → State → Prop} {XC : String → State → State → Prop} {mc ms : Nat} {free : Addr → Prop} {cc : ByteArray} {maxL : Nat} {ret : Option FieldType} {hh : List (Nat × Nat × Nat × Nat)}
    (hy : plainName y.cls = true) (hw : ws = Cond.codeWith y cc maxL ret hh :: ws')
    (body : ∀ p e s m args below meth c s₁, BodyLoose p l y (headSpec ws rm) cc maxL ret e s m args below meth c s₁ → c.maxLocals = maxL → Pc args s →
      W p l e (headSpec ws rm).room s m args below meth c s.heap [] 0 0 (vx_MQ below Qc XC args s mc ms free) (entryFrame m args maxL)) : vx_Met l y ws rm Pc Qc XC mc ms free := by
  refine MetFree.of_bodyS (code := cc) (maxLocals := maxL) (ret := ret) hy ?_ ?_
  · intro args s m h hn
    obtain ⟨m9, meth, c, hn9, h1, h2, h3, h4, -, h5, h6, -⟩ := Cond.codeWith_spec (atoms_spec (ws := ws) h _ (by rw [hw]; exact List.mem_cons_self))
    cases hn.symm.trans hn9
    exact ⟨meth, c, h1, h2, h3, h4, h5, h6⟩
  · intro p e s m args below meth c s₁ B hml hP _
    have hh0 : s₁.heap = s.heap := by rw [B.state]; rfl
    obtain ⟨t, a1, o, b1, b2, b3⟩ := body p e s m args below meth c s₁ B hml hP s₁ hh0 (Stand.of_body B)
    exact ⟨t, o, a1, b1, b2, b3⟩
/-! ===== END ===== -/

/-! ===== BEGIN printed: names, fields, word lists, decode rows ===== -/
def RX0 : String := "Migrationledger$ChangeList"
def TX0 : u_T := fun k => match k with
  | 0 => ("Migrationledger$ChangeList", "kinds", "[I", true)
  | 1 => ("Migrationledger$ChangeList", "columns", "[I", true)
  | 2 => ("Migrationledger$ChangeList", "operands", "[I", true)
  | 3 => ("Migrationledger$ChangeList", "recorded", "[I", true)
  | _ => ("Migrationledger$ChangeList", "count", "I", false)
def tyX0 : Nat → FieldType := fun k => match k with
  | 0 => .array .int
  | 1 => .array .int
  | 2 => .array .int
  | 3 => .array .int
  | _ => .int
abbrev wsX00 : List Cond := u_ws RX0 TX0 5
theorem nmX0 : ∀ a, a < 5 → ∀ b, b < 5 → a ≠ b → (TX0 a).2.1 ≠ (TX0 b).2.1 := by decide +kernel
theorem tyX0_ok : ∀ k, k < 5 → parseFieldDescriptor (TX0 k).2.2.1 = some (tyX0 k) := by decide +kernel
abbrev cX0_init : ByteArray := prog_2_method_1_code
def yX0_init : MethodName := ⟨RX0, "<init>", "()V"⟩
abbrev cX0_count : ByteArray := prog_2_method_2_code
def yX0_count : MethodName := ⟨RX0, "count", "()I"⟩
abbrev cX0_isFull : ByteArray := prog_2_method_3_code
def yX0_isFull : MethodName := ⟨RX0, "isFull", "()Z"⟩
abbrev cX0_contains : ByteArray := prog_2_method_4_code
def yX0_contains : MethodName := ⟨RX0, "contains", "(I)Z"⟩
abbrev cX0_append : ByteArray := prog_2_method_5_code
def yX0_append : MethodName := ⟨RX0, "append", "(III)I"⟩
abbrev cX0_put : ByteArray := prog_2_method_6_code
def yX0_put : MethodName := ⟨RX0, "put", "(IIII)V"⟩
abbrev cX0_checksumOf : ByteArray := prog_2_method_7_code
def yX0_checksumOf : MethodName := ⟨RX0, "checksumOf", "(I)I"⟩
abbrev cX0_recordChecksum : ByteArray := prog_2_method_8_code
def yX0_recordChecksum : MethodName := ⟨RX0, "recordChecksum", "(I)V"⟩
abbrev cX0_hasDrifted : ByteArray := prog_2_method_9_code
def yX0_hasDrifted : MethodName := ⟨RX0, "hasDrifted", "(I)Z"⟩
abbrev cX0_firstDrifted : ByteArray := prog_2_method_10_code
def yX0_firstDrifted : MethodName := ⟨RX0, "firstDrifted", "(I)I"⟩
abbrev cX0_applyTo : ByteArray := prog_2_method_11_code
def yX0_applyTo : MethodName := ⟨RX0, "applyTo", "([II)Z"⟩
abbrev cX0_undoOn : ByteArray := prog_2_method_12_code
def yX0_undoOn : MethodName := ⟨RX0, "undoOn", "([II)Z"⟩
abbrev cX0_putResult : ByteArray := prog_2_method_13_code
def yX0_putResult : MethodName := ⟨RX0, "putResult", "([IIJ)Z"⟩
abbrev cX0_exchange : ByteArray := prog_2_method_14_code
def yX0_exchange : MethodName := ⟨RX0, "exchange", "([III)Z"⟩
def RX1 : String := "Migrationledger$Lock"
def TX1 : u_T := fun k => match k with
  | 0 => ("Migrationledger$Lock", "crashed", "[Z", true)
  | 1 => ("Migrationledger$Lock", "time", "I", false)
  | 2 => ("Migrationledger$Lock", "taker", "I", false)
  | _ => ("Migrationledger$Lock", "leaseEnd", "I", false)
def tyX1 : Nat → FieldType := fun k => match k with
  | 0 => .array .boolean
  | 1 => .int
  | 2 => .int
  | _ => .int
abbrev wsX10 : List Cond := u_ws RX1 TX1 4
theorem nmX1 : ∀ a, a < 4 → ∀ b, b < 4 → a ≠ b → (TX1 a).2.1 ≠ (TX1 b).2.1 := by decide +kernel
theorem tyX1_ok : ∀ k, k < 4 → parseFieldDescriptor (TX1 k).2.2.1 = some (tyX1 k) := by decide +kernel
abbrev cX1_init : ByteArray := prog_3_method_1_code
def yX1_init : MethodName := ⟨RX1, "<init>", "()V"⟩
abbrev cX1_owner : ByteArray := prog_3_method_2_code
def yX1_owner : MethodName := ⟨RX1, "owner", "()I"⟩
abbrev cX1_grant : ByteArray := prog_3_method_3_code
def yX1_grant : MethodName := ⟨RX1, "grant", "(II)I"⟩
abbrev cX1_release : ByteArray := prog_3_method_4_code
def yX1_release : MethodName := ⟨RX1, "release", "()V"⟩
abbrev cX1_advance : ByteArray := prog_3_method_5_code
def yX1_advance : MethodName := ⟨RX1, "advance", "(I)I"⟩
abbrev cX1_hasCrashed : ByteArray := prog_3_method_6_code
def yX1_hasCrashed : MethodName := ⟨RX1, "hasCrashed", "(I)Z"⟩
abbrev cX1_setCrashed : ByteArray := prog_3_method_7_code
def yX1_setCrashed : MethodName := ⟨RX1, "setCrashed", "(IZ)V"⟩
def RX2 : String := "Migrationledger$Table"
def TX2 : u_T := fun k => match k with
  | 0 => ("Migrationledger$Table", "cells", "[I", true)
  | _ => ("Migrationledger$Table", "versions", "[I", true)
def tyX2 : Nat → FieldType := fun k => match k with
  | 0 => .array .int
  | _ => .array .int
abbrev wsX20 : List Cond := u_ws RX2 TX2 2
theorem nmX2 : ∀ a, a < 2 → ∀ b, b < 2 → a ≠ b → (TX2 a).2.1 ≠ (TX2 b).2.1 := by decide +kernel
theorem tyX2_ok : ∀ k, k < 2 → parseFieldDescriptor (TX2 k).2.2.1 = some (tyX2 k) := by decide +kernel
abbrev cX2_init : ByteArray := prog_4_method_1_code
def yX2_init : MethodName := ⟨RX2, "<init>", "()V"⟩
abbrev cX2_isPresent : ByteArray := prog_4_method_2_code
def yX2_isPresent : MethodName := ⟨RX2, "isPresent", "(I)Z"⟩
abbrev cX2_versionOf : ByteArray := prog_4_method_3_code
def yX2_versionOf : MethodName := ⟨RX2, "versionOf", "(I)I"⟩
abbrev cX2_setVersion : ByteArray := prog_4_method_4_code
def yX2_setVersion : MethodName := ⟨RX2, "setVersion", "(II)V"⟩
abbrev cX2_cell : ByteArray := prog_4_method_5_code
def yX2_cell : MethodName := ⟨RX2, "cell", "(II)I"⟩
abbrev cX2_setCell : ByteArray := prog_4_method_6_code
def yX2_setCell : MethodName := ⟨RX2, "setCell", "(III)V"⟩
abbrev cX2_copyRow : ByteArray := prog_4_method_7_code
def yX2_copyRow : MethodName := ⟨RX2, "copyRow", "(I[I)V"⟩
abbrev cX2_storeRow : ByteArray := prog_4_method_8_code
def yX2_storeRow : MethodName := ⟨RX2, "storeRow", "(I[I)V"⟩
abbrev cX2_countWithVersion : ByteArray := prog_4_method_9_code
def yX2_countWithVersion : MethodName := ⟨RX2, "countWithVersion", "(I)I"⟩
def RX3 : String := "Migrationledger"
def TX3 : u_T := fun k => match k with
  | 0 => ("Migrationledger", "list", "LMigrationledger$ChangeList;", true)
  | 1 => ("Migrationledger", "table", "LMigrationledger$Table;", true)
  | 2 => ("Migrationledger", "lock", "LMigrationledger$Lock;", true)
  | 3 => ("Migrationledger", "tried", "[I", true)
  | 4 => ("Migrationledger", "done", "I", false)
  | 5 => ("Migrationledger", "phase", "I", false)
  | _ => ("Migrationledger", "position", "I", false)
def tyX3 : Nat → FieldType := fun k => match k with
  | 0 => .object "Migrationledger$ChangeList"
  | 1 => .object "Migrationledger$Table"
  | 2 => .object "Migrationledger$Lock"
  | 3 => .array .int
  | 4 => .int
  | 5 => .int
  | _ => .int
abbrev wsX30 : List Cond := u_ws RX3 TX3 7
theorem nmX3 : ∀ a, a < 7 → ∀ b, b < 7 → a ≠ b → (TX3 a).2.1 ≠ (TX3 b).2.1 := by decide +kernel
theorem tyX3_ok : ∀ k, k < 7 → parseFieldDescriptor (TX3 k).2.2.1 = some (tyX3 k) := by decide +kernel
abbrev cX3_init : ByteArray := prog_1_method_1_code
def yX3_init : MethodName := ⟨RX3, "<init>", "()V"⟩
abbrev cX3_addChange : ByteArray := prog_1_method_2_code
def yX3_addChange : MethodName := ⟨RX3, "addChange", "(III)I"⟩
abbrev cX3_edit : ByteArray := prog_1_method_3_code
def yX3_edit : MethodName := ⟨RX3, "edit", "(IIII)I"⟩
abbrev cX3_changes : ByteArray := prog_1_method_4_code
def yX3_changes : MethodName := ⟨RX3, "changes", "()I"⟩
abbrev cX3_checksum : ByteArray := prog_1_method_5_code
def yX3_checksum : MethodName := ⟨RX3, "checksum", "(I)I"⟩
abbrev cX3_state : ByteArray := prog_1_method_6_code
def yX3_state : MethodName := ⟨RX3, "state", "(I)I"⟩
abbrev cX3_level : ByteArray := prog_1_method_7_code
def yX3_level : MethodName := ⟨RX3, "level", "()I"⟩
abbrev cX3_drifted : ByteArray := prog_1_method_8_code
def yX3_drifted : MethodName := ⟨RX3, "drifted", "()I"⟩
abbrev cX3_insert : ByteArray := prog_1_method_9_code
def yX3_insert : MethodName := ⟨RX3, "insert", "(IIII)I"⟩
abbrev cX3_write : ByteArray := prog_1_method_10_code
def yX3_write : MethodName := ⟨RX3, "write", "(III)I"⟩
abbrev cX3_delete : ByteArray := prog_1_method_11_code
def yX3_delete : MethodName := ⟨RX3, "delete", "(I)I"⟩
abbrev cX3_value : ByteArray := prog_1_method_12_code
def yX3_value : MethodName := ⟨RX3, "value", "(II)I"⟩
abbrev cX3_version : ByteArray := prog_1_method_13_code
def yX3_version : MethodName := ⟨RX3, "version", "(I)I"⟩
abbrev cX3_rowsAt : ByteArray := prog_1_method_14_code
def yX3_rowsAt : MethodName := ⟨RX3, "rowsAt", "(I)I"⟩
abbrev cX3_valueAt : ByteArray := prog_1_method_15_code
def yX3_valueAt : MethodName := ⟨RX3, "valueAt", "(III)I"⟩
abbrev cX3_take : ByteArray := prog_1_method_16_code
def yX3_take : MethodName := ⟨RX3, "take", "(II)I"⟩
abbrev cX3_giveBack : ByteArray := prog_1_method_17_code
def yX3_giveBack : MethodName := ⟨RX3, "giveBack", "(I)V"⟩
abbrev cX3_holder : ByteArray := prog_1_method_18_code
def yX3_holder : MethodName := ⟨RX3, "holder", "()I"⟩
abbrev cX3_restart : ByteArray := prog_1_method_19_code
def yX3_restart : MethodName := ⟨RX3, "restart", "(I)Z"⟩
abbrev cX3_pass : ByteArray := prog_1_method_20_code
def yX3_pass : MethodName := ⟨RX3, "pass", "(I)I"⟩
abbrev cX3_begin : ByteArray := prog_1_method_21_code
def yX3_begin : MethodName := ⟨RX3, "begin", "(I)I"⟩
abbrev cX3_undo : ByteArray := prog_1_method_22_code
def yX3_undo : MethodName := ⟨RX3, "undo", "(I)I"⟩
abbrev cX3_step : ByteArray := prog_1_method_23_code
def yX3_step : MethodName := ⟨RX3, "step", "(III)I"⟩
abbrev cX3_cursor : ByteArray := prog_1_method_24_code
def yX3_cursor : MethodName := ⟨RX3, "cursor", "()I"⟩
abbrev cX3_isActive : ByteArray := prog_1_method_26_code
def yX3_isActive : MethodName := ⟨RX3, "isActive", "()Z"⟩
abbrev cX3_activeNumber : ByteArray := prog_1_method_27_code
def yX3_activeNumber : MethodName := ⟨RX3, "activeNumber", "()I"⟩
abbrev cX3_versionForNewRow : ByteArray := prog_1_method_28_code
def yX3_versionForNewRow : MethodName := ⟨RX3, "versionForNewRow", "(I)I"⟩
abbrev cX3_idsLeft : ByteArray := prog_1_method_29_code
def yX3_idsLeft : MethodName := ⟨RX3, "idsLeft", "()I"⟩
abbrev cX3_positionBehind : ByteArray := prog_1_method_30_code
def yX3_positionBehind : MethodName := ⟨RX3, "positionBehind", "(I)I"⟩
abbrev cX3_idBehind : ByteArray := prog_1_method_31_code
def yX3_idBehind : MethodName := ⟨RX3, "idBehind", "(I)I"⟩
abbrev cX3_goThrough : ByteArray := prog_1_method_32_code
def yX3_goThrough : MethodName := ⟨RX3, "goThrough", "(III)I"⟩
abbrev cX3_isToBeChanged : ByteArray := prog_1_method_33_code
def yX3_isToBeChanged : MethodName := ⟨RX3, "isToBeChanged", "(I)Z"⟩
abbrev cX3_changeRow : ByteArray := prog_1_method_34_code
def yX3_changeRow : MethodName := ⟨RX3, "changeRow", "(I)Z"⟩
abbrev cX3_endIfAllPassed : ByteArray := prog_1_method_35_code
def yX3_endIfAllPassed : MethodName := ⟨RX3, "endIfAllPassed", "()V"⟩
abbrev cX3_bringTried : ByteArray := prog_1_method_36_code
def yX3_bringTried : MethodName := ⟨RX3, "bringTried", "(II)Z"⟩
abbrev cX3_isTableValue : ByteArray := prog_1_method_37_code
def yX3_isTableValue : MethodName := ⟨RX3, "isTableValue", "(J)Z"⟩
abbrev cX3_isColumn : ByteArray := prog_1_method_38_code
def yX3_isColumn : MethodName := ⟨RX3, "isColumn", "(I)Z"⟩
abbrev cX3_isOperand : ByteArray := prog_1_method_39_code
def yX3_isOperand : MethodName := ⟨RX3, "isOperand", "(III)Z"⟩
abbrev cX3_requireChangeParts : ByteArray := prog_1_method_40_code
def yX3_requireChangeParts : MethodName := ⟨RX3, "requireChangeParts", "(III)V"⟩
abbrev cX3_requireColumn : ByteArray := prog_1_method_41_code
def yX3_requireColumn : MethodName := ⟨RX3, "requireColumn", "(I)V"⟩
abbrev cX3_requireId : ByteArray := prog_1_method_42_code
def yX3_requireId : MethodName := ⟨RX3, "requireId", "(I)V"⟩
abbrev cX3_requireTableValue : ByteArray := prog_1_method_43_code
def yX3_requireTableValue : MethodName := ⟨RX3, "requireTableValue", "(I)V"⟩
abbrev cX3_requireWorker : ByteArray := prog_1_method_44_code
def yX3_requireWorker : MethodName := ⟨RX3, "requireWorker", "(I)V"⟩
abbrev cX3_requireListed : ByteArray := prog_1_method_45_code
def yX3_requireListed : MethodName := ⟨RX3, "requireListed", "(I)V"⟩
abbrev cX3_requirePresent : ByteArray := prog_1_method_46_code
def yX3_requirePresent : MethodName := ⟨RX3, "requirePresent", "(I)V"⟩
abbrev cX3_requireNotCrashed : ByteArray := prog_1_method_47_code
def yX3_requireNotCrashed : MethodName := ⟨RX3, "requireNotCrashed", "(I)V"⟩
abbrev cX3_requireAtWork : ByteArray := prog_1_method_48_code
def yX3_requireAtWork : MethodName := ⟨RX3, "requireAtWork", "(I)V"⟩
abbrev cX3_requireActive : ByteArray := prog_1_method_49_code
def yX3_requireActive : MethodName := ⟨RX3, "requireActive", "()V"⟩
abbrev cX3_requireUndoableDone : ByteArray := prog_1_method_50_code
def yX3_requireUndoableDone : MethodName := ⟨RX3, "requireUndoableDone", "()V"⟩
def RX4 : String := "MigrationledgerModel"
def TX4 : u_T := fun k => match k with
  | _ => ("", "", "", false)
def tyX4 : Nat → FieldType := fun k => match k with
  | _ => .int
abbrev wsX40 : List Cond := u_ws RX4 TX4 0
theorem nmX4 : ∀ a, a < 0 → ∀ b, b < 0 → a ≠ b → (TX4 a).2.1 ≠ (TX4 b).2.1 := by decide +kernel
theorem tyX4_ok : ∀ k, k < 0 → parseFieldDescriptor (TX4 k).2.2.1 = some (tyX4 k) := by decide +kernel
def RJ9 : String := "java/lang/Math"
def TJ9 : u_T := fun k => match k with
  | _ => ("", "", "", false)
def tyJ9 : Nat → FieldType := fun k => match k with
  | _ => .int
abbrev wsJ90 : List Cond := u_ws RJ9 TJ9 0
theorem nmJ9 : ∀ a, a < 0 → ∀ b, b < 0 → a ≠ b → (TJ9 a).2.1 ≠ (TJ9 b).2.1 := by decide +kernel
theorem tyJ9_ok : ∀ k, k < 0 → parseFieldDescriptor (TJ9 k).2.2.1 = some (tyJ9 k) := by decide +kernel
abbrev cJ9_min_7cf53 : ByteArray := prog_11_method_69_code
def yJ9_min_7cf53 : MethodName := ⟨RJ9, "min", "(II)I"⟩
def RJ0 : String := "java/lang/String"
def TJ0 : u_T := fun k => match k with
  | _ => ("", "", "", false)
def tyJ0 : Nat → FieldType := fun k => match k with
  | _ => .int
abbrev wsJ00 : List Cond := u_ws RJ0 TJ0 0
theorem nmJ0 : ∀ a, a < 0 → ∀ b, b < 0 → a ≠ b → (TJ0 a).2.1 ≠ (TJ0 b).2.1 := by decide +kernel
theorem tyJ0_ok : ∀ k, k < 0 → parseFieldDescriptor (TJ0 k).2.2.1 = some (tyJ0 k) := by decide +kernel
def RL : String := "MigrationledgerLaw"
abbrev cL_adds : ByteArray := method_2_code
def yL_adds : MethodName := ⟨RL, "adds", "(LMigrationledger;III)I"⟩
abbrev cL_edits : ByteArray := method_3_code
def yL_edits : MethodName := ⟨RL, "edits", "(LMigrationledger;IIII)I"⟩
abbrev cL_sum : ByteArray := method_4_code
def yL_sum : MethodName := ⟨RL, "sum", "(LMigrationledger;I)I"⟩
abbrev cL_state : ByteArray := method_5_code
def yL_state : MethodName := ⟨RL, "state", "(LMigrationledger;I)I"⟩
abbrev cL_inserts : ByteArray := method_6_code
def yL_inserts : MethodName := ⟨RL, "inserts", "(LMigrationledger;IIII)I"⟩
abbrev cL_writes : ByteArray := method_7_code
def yL_writes : MethodName := ⟨RL, "writes", "(LMigrationledger;III)I"⟩
abbrev cL_deletes : ByteArray := method_8_code
def yL_deletes : MethodName := ⟨RL, "deletes", "(LMigrationledger;I)I"⟩
abbrev cL_value : ByteArray := method_9_code
def yL_value : MethodName := ⟨RL, "value", "(LMigrationledger;II)I"⟩
abbrev cL_version : ByteArray := method_10_code
def yL_version : MethodName := ⟨RL, "version", "(LMigrationledger;I)I"⟩
abbrev cL_rowsAt : ByteArray := method_11_code
def yL_rowsAt : MethodName := ⟨RL, "rowsAt", "(LMigrationledger;I)I"⟩
abbrev cL_valueAt : ByteArray := method_12_code
def yL_valueAt : MethodName := ⟨RL, "valueAt", "(LMigrationledger;III)I"⟩
abbrev cL_takes : ByteArray := method_13_code
def yL_takes : MethodName := ⟨RL, "takes", "(LMigrationledger;II)I"⟩
abbrev cL_gives : ByteArray := method_14_code
def yL_gives : MethodName := ⟨RL, "gives", "(LMigrationledger;I)I"⟩
abbrev cL_restarts : ByteArray := method_15_code
def yL_restarts : MethodName := ⟨RL, "restarts", "(LMigrationledger;I)I"⟩
abbrev cL_passes : ByteArray := method_16_code
def yL_passes : MethodName := ⟨RL, "passes", "(LMigrationledger;I)I"⟩
abbrev cL_begins : ByteArray := method_17_code
def yL_begins : MethodName := ⟨RL, "begins", "(LMigrationledger;I)I"⟩
abbrev cL_undoes : ByteArray := method_18_code
def yL_undoes : MethodName := ⟨RL, "undoes", "(LMigrationledger;I)I"⟩
abbrev cL_steps : ByteArray := method_19_code
def yL_steps : MethodName := ⟨RL, "steps", "(LMigrationledger;III)I"⟩
abbrev cL_cursor : ByteArray := method_20_code
def yL_cursor : MethodName := ⟨RL, "cursor", "(LMigrationledger;)I"⟩
abbrev cL_drawn : ByteArray := method_22_code
def yL_drawn : MethodName := ⟨RL, "drawn", "([II)I"⟩
abbrev cL_refuses : ByteArray := method_23_code
def yL_refuses : MethodName := ⟨RL, "refuses", "(LMigrationledger;I)Z"⟩
abbrev cL_alike : ByteArray := method_24_code
def yL_alike : MethodName := ⟨RL, "alike", "(LMigrationledger;LMigrationledger;)Z"⟩
abbrev cL_comes : ByteArray := method_25_code
def yL_comes : MethodName := ⟨RL, "comes", "(LMigrationledger;IZ)I"⟩
abbrev cL_law : ByteArray := code
def yL_law : MethodName := ⟨RL, "law", "([I)Z"⟩
abbrev cL_ledgerWorker : ByteArray := method_27_code
def yL_ledgerWorker : MethodName := ⟨RL, "ledgerWorker", "(LMigrationledger;I)I"⟩
def wsX0_init : List Cond := .code yX0_init cX0_init 1 none :: ([.methodLink RX0 3 objectInit, .instanceMethod objectInit, .code objectInit ⟨#[0xb1]⟩ 1 none, .arrayClass .int, .fieldLink RX0 9 "Migrationledger$ChangeList" "kinds" "[I", .fieldLink RX0 15 "Migrationledger$ChangeList" "columns" "[I", .fieldLink RX0 18 "Migrationledger$ChangeList" "operands" "[I", .fieldLink RX0 21 "Migrationledger$ChangeList" "recorded" "[I"] ++ wsX00)
def wsX0_count : List Cond := .code yX0_count cX0_count 1 (some .int) :: ([.fieldLink RX0 24 "Migrationledger$ChangeList" "count" "I"] ++ wsX00)
def wsX0_isFull : List Cond := .code yX0_isFull cX0_isFull 1 (some .boolean) :: ([.fieldLink RX0 24 "Migrationledger$ChangeList" "count" "I"] ++ wsX00)
def wsX0_contains : List Cond := .code yX0_contains cX0_contains 2 (some .boolean) :: ([.fieldLink RX0 24 "Migrationledger$ChangeList" "count" "I"] ++ wsX00)
def wsX0_put : List Cond := .code yX0_put cX0_put 5 none :: ([.fieldLink RX0 9 "Migrationledger$ChangeList" "kinds" "[I", .fieldLink RX0 15 "Migrationledger$ChangeList" "columns" "[I", .fieldLink RX0 18 "Migrationledger$ChangeList" "operands" "[I"] ++ wsX00)
def wsX0_append : List Cond := .code yX0_append cX0_append 4 (some .int) :: ([.fieldLink RX0 24 "Migrationledger$ChangeList" "count" "I", .methodLink RX0 28 yX0_put, .instanceMethod yX0_put, .selects RX0 yX0_put yX0_put, .initialized RX0, .code yX0_put cX0_put 5 none, .fieldLink RX0 9 "Migrationledger$ChangeList" "kinds" "[I", .fieldLink RX0 15 "Migrationledger$ChangeList" "columns" "[I", .fieldLink RX0 18 "Migrationledger$ChangeList" "operands" "[I"] ++ wsX00)
def wsX0_checksumOf : List Cond := .code yX0_checksumOf cX0_checksumOf 4 (some .int) :: ([.fieldLink RX0 9 "Migrationledger$ChangeList" "kinds" "[I", .fieldLink RX0 15 "Migrationledger$ChangeList" "columns" "[I", .fieldLink RX0 18 "Migrationledger$ChangeList" "operands" "[I", .constant RX0 32 (65521)] ++ wsX00)
def wsX0_recordChecksum : List Cond := .code yX0_recordChecksum cX0_recordChecksum 2 none :: ([.fieldLink RX0 21 "Migrationledger$ChangeList" "recorded" "[I", .methodLink RX0 33 yX0_checksumOf, .instanceMethod yX0_checksumOf, .selects RX0 yX0_checksumOf yX0_checksumOf, .initialized RX0, .code yX0_checksumOf cX0_checksumOf 4 (some .int), .fieldLink RX0 9 "Migrationledger$ChangeList" "kinds" "[I", .fieldLink RX0 15 "Migrationledger$ChangeList" "columns" "[I", .fieldLink RX0 18 "Migrationledger$ChangeList" "operands" "[I", .constant RX0 32 (65521)] ++ wsX00)
def wsX0_hasDrifted : List Cond := .code yX0_hasDrifted cX0_hasDrifted 2 (some .boolean) :: ([.fieldLink RX0 21 "Migrationledger$ChangeList" "recorded" "[I", .methodLink RX0 33 yX0_checksumOf, .instanceMethod yX0_checksumOf, .selects RX0 yX0_checksumOf yX0_checksumOf, .initialized RX0, .code yX0_checksumOf cX0_checksumOf 4 (some .int), .fieldLink RX0 9 "Migrationledger$ChangeList" "kinds" "[I", .fieldLink RX0 15 "Migrationledger$ChangeList" "columns" "[I", .fieldLink RX0 18 "Migrationledger$ChangeList" "operands" "[I", .constant RX0 32 (65521)] ++ wsX00)
def wsX0_firstDrifted : List Cond := .code yX0_firstDrifted cX0_firstDrifted 3 (some .int) :: ([.methodLink RX0 37 yX0_hasDrifted, .instanceMethod yX0_hasDrifted, .selects RX0 yX0_hasDrifted yX0_hasDrifted, .initialized RX0, .code yX0_hasDrifted cX0_hasDrifted 2 (some .boolean), .fieldLink RX0 21 "Migrationledger$ChangeList" "recorded" "[I", .methodLink RX0 33 yX0_checksumOf, .instanceMethod yX0_checksumOf, .selects RX0 yX0_checksumOf yX0_checksumOf, .code yX0_checksumOf cX0_checksumOf 4 (some .int), .fieldLink RX0 9 "Migrationledger$ChangeList" "kinds" "[I", .fieldLink RX0 15 "Migrationledger$ChangeList" "columns" "[I", .fieldLink RX0 18 "Migrationledger$ChangeList" "operands" "[I", .constant RX0 32 (65521)] ++ wsX00)
def wsX3_isTableValue : List Cond := .code yX3_isTableValue cX3_isTableValue 2 (some .boolean) :: ([.constantLong RX3 246 (-1000000000), .constantLong RX3 248 (1000000000)])
def wsX0_putResult : List Cond := .code yX0_putResult cX0_putResult 4 (some .boolean) :: ([.static yX3_isTableValue, .initialized RX3, .code yX3_isTableValue cX3_isTableValue 2 (some .boolean), .constantLong RX3 246 (-1000000000), .constantLong RX3 248 (1000000000)])
def wsX0_exchange : List Cond := .code yX0_exchange cX0_exchange 4 (some .boolean) :: ([])
def wsX0_applyTo : List Cond := .code yX0_applyTo cX0_applyTo 7 (some .boolean) :: ([.fieldLink RX0 15 "Migrationledger$ChangeList" "columns" "[I", .fieldLink RX0 18 "Migrationledger$ChangeList" "operands" "[I", .fieldLink RX0 9 "Migrationledger$ChangeList" "kinds" "[I", .methodLink RX0 41 yX0_putResult, .static yX0_putResult, .initialized RX0, .code yX0_putResult cX0_putResult 4 (some .boolean), .static yX3_isTableValue, .initialized RX3, .code yX3_isTableValue cX3_isTableValue 2 (some .boolean), .constantLong RX3 246 (-1000000000), .constantLong RX3 248 (1000000000), .methodLink RX0 45 yX0_exchange, .static yX0_exchange, .code yX0_exchange cX0_exchange 4 (some .boolean)] ++ wsX00)
def wsX0_undoOn : List Cond := .code yX0_undoOn cX0_undoOn 7 (some .boolean) :: ([.fieldLink RX0 15 "Migrationledger$ChangeList" "columns" "[I", .fieldLink RX0 18 "Migrationledger$ChangeList" "operands" "[I", .fieldLink RX0 9 "Migrationledger$ChangeList" "kinds" "[I", .methodLink RX0 41 yX0_putResult, .static yX0_putResult, .initialized RX0, .code yX0_putResult cX0_putResult 4 (some .boolean), .static yX3_isTableValue, .initialized RX3, .code yX3_isTableValue cX3_isTableValue 2 (some .boolean), .constantLong RX3 246 (-1000000000), .constantLong RX3 248 (1000000000), .methodLink RX0 45 yX0_exchange, .static yX0_exchange, .code yX0_exchange cX0_exchange 4 (some .boolean)] ++ wsX00)
def wsX1_init : List Cond := .code yX1_init cX1_init 1 none :: ([.methodLink RX1 3 objectInit, .instanceMethod objectInit, .code objectInit ⟨#[0xb1]⟩ 1 none, .arrayClass .boolean, .fieldLink RX1 9 "Migrationledger$Lock" "crashed" "[Z", .fieldLink RX1 15 "Migrationledger$Lock" "taker" "I"] ++ wsX10)
def wsX1_owner : List Cond := .code yX1_owner cX1_owner 1 (some .int) :: ([.fieldLink RX1 19 "Migrationledger$Lock" "time" "I", .fieldLink RX1 22 "Migrationledger$Lock" "leaseEnd" "I", .fieldLink RX1 15 "Migrationledger$Lock" "taker" "I"] ++ wsX10)
def wsX1_grant : List Cond := .code yX1_grant cX1_grant 3 (some .int) :: ([.fieldLink RX1 15 "Migrationledger$Lock" "taker" "I", .fieldLink RX1 19 "Migrationledger$Lock" "time" "I", .fieldLink RX1 22 "Migrationledger$Lock" "leaseEnd" "I"] ++ wsX10)
def wsX1_release : List Cond := .code yX1_release cX1_release 1 none :: ([.fieldLink RX1 15 "Migrationledger$Lock" "taker" "I"] ++ wsX10)
def wsX1_advance : List Cond := .code yX1_advance cX1_advance 2 (some .int) :: ([.fieldLink RX1 19 "Migrationledger$Lock" "time" "I"] ++ wsX10)
def wsX1_hasCrashed : List Cond := .code yX1_hasCrashed cX1_hasCrashed 2 (some .boolean) :: ([.fieldLink RX1 9 "Migrationledger$Lock" "crashed" "[Z"] ++ wsX10)
def wsX1_setCrashed : List Cond := .code yX1_setCrashed cX1_setCrashed 3 none :: ([.fieldLink RX1 9 "Migrationledger$Lock" "crashed" "[Z"] ++ wsX10)
def wsX2_init : List Cond := .code yX2_init cX2_init 2 none :: ([.methodLink RX2 3 objectInit, .instanceMethod objectInit, .code objectInit ⟨#[0xb1]⟩ 1 none, .arrayClass .int, .fieldLink RX2 9 "Migrationledger$Table" "cells" "[I", .fieldLink RX2 15 "Migrationledger$Table" "versions" "[I"] ++ wsX20)
def wsX2_isPresent : List Cond := .code yX2_isPresent cX2_isPresent 2 (some .boolean) :: ([.fieldLink RX2 15 "Migrationledger$Table" "versions" "[I"] ++ wsX20)
def wsX2_versionOf : List Cond := .code yX2_versionOf cX2_versionOf 2 (some .int) :: ([.fieldLink RX2 15 "Migrationledger$Table" "versions" "[I"] ++ wsX20)
def wsX2_setVersion : List Cond := .code yX2_setVersion cX2_setVersion 3 none :: ([.fieldLink RX2 15 "Migrationledger$Table" "versions" "[I"] ++ wsX20)
def wsX2_cell : List Cond := .code yX2_cell cX2_cell 3 (some .int) :: ([.fieldLink RX2 9 "Migrationledger$Table" "cells" "[I"] ++ wsX20)
def wsX2_setCell : List Cond := .code yX2_setCell cX2_setCell 4 none :: ([.fieldLink RX2 9 "Migrationledger$Table" "cells" "[I"] ++ wsX20)
def wsX2_copyRow : List Cond := .code yX2_copyRow cX2_copyRow 4 none :: ([.methodLink RX2 18 yX2_cell, .instanceMethod yX2_cell, .selects RX2 yX2_cell yX2_cell, .initialized RX2, .code yX2_cell cX2_cell 3 (some .int), .fieldLink RX2 9 "Migrationledger$Table" "cells" "[I"] ++ wsX20)
def wsX2_storeRow : List Cond := .code yX2_storeRow cX2_storeRow 4 none :: ([.methodLink RX2 22 yX2_setCell, .instanceMethod yX2_setCell, .selects RX2 yX2_setCell yX2_setCell, .initialized RX2, .code yX2_setCell cX2_setCell 4 none, .fieldLink RX2 9 "Migrationledger$Table" "cells" "[I"] ++ wsX20)
def wsX2_countWithVersion : List Cond := .code yX2_countWithVersion cX2_countWithVersion 4 (some .int) :: ([.fieldLink RX2 15 "Migrationledger$Table" "versions" "[I"] ++ wsX20)
def wsX3_init_r1 : List Cond := [Cond.methodLink RX3 1 objectInit, Cond.instanceMethod objectInit, Cond.code objectInit ⟨#[0xb1]⟩ 1 none, Cond.classLink RX3 7 RX0, Cond.instantiable RX0 5, Cond.initialized RX0, Cond.fieldLink RX3 10 "Migrationledger" "list" "LMigrationledger$ChangeList;", Cond.classLink RX3 16 RX2, Cond.instantiable RX2 2, Cond.initialized RX2, Cond.fieldLink RX3 19 "Migrationledger" "table" "LMigrationledger$Table;", Cond.classLink RX3 23 RX1, Cond.instantiable RX1 4, Cond.initialized RX1, Cond.fieldLink RX3 26 "Migrationledger" "lock" "LMigrationledger$Lock;", Cond.arrayClass .int, Cond.fieldLink RX3 30 "Migrationledger" "tried" "[I", Cond.fieldLink RX3 34 "Migrationledger" "phase" "I", Cond.instanceMethod yX0_init, Cond.code yX0_init cX0_init 1 none, Cond.methodLink RX0 3 objectInit, Cond.fieldLink RX0 9 "Migrationledger$ChangeList" "kinds" "[I", Cond.fieldLink RX0 15 "Migrationledger$ChangeList" "columns" "[I", Cond.fieldLink RX0 18 "Migrationledger$ChangeList" "operands" "[I"]
def wsX3_init_r2 : List Cond := [Cond.fieldLink RX0 21 "Migrationledger$ChangeList" "recorded" "[I", Cond.methodLink RX3 18 yX2_init, Cond.instanceMethod yX2_init, Cond.code yX2_init cX2_init 2 none, Cond.methodLink RX2 3 objectInit, Cond.fieldLink RX2 9 "Migrationledger$Table" "cells" "[I", Cond.fieldLink RX2 15 "Migrationledger$Table" "versions" "[I", Cond.instanceMethod yX1_init, Cond.code yX1_init cX1_init 1 none, Cond.methodLink RX1 3 objectInit, Cond.arrayClass .boolean, Cond.fieldLink RX1 9 "Migrationledger$Lock" "crashed" "[Z", Cond.fieldLink RX1 15 "Migrationledger$Lock" "taker" "I"]
def wsX3_init : List Cond := .code yX3_init cX3_init 1 none :: ((wsX3_init_r1 ++ wsX3_init_r2) ++ wsX00 ++ wsX30 ++ wsX20 ++ wsX10)
def wsX3_isColumn : List Cond := .code yX3_isColumn cX3_isColumn 1 (some .boolean) :: ([])
def wsX3_requireColumn : List Cond := .code yX3_requireColumn cX3_requireColumn 1 none :: ([.classLink RX3 122 "java/lang/IllegalArgumentException", .initialized "java/lang/IllegalArgumentException", .methodLink RX3 250 yX3_isColumn, .static yX3_isColumn, .initialized RX3, .code yX3_isColumn cX3_isColumn 1 (some .boolean)] ++ (vx_atS RX3 126 "java/lang/IllegalArgumentException" ["java/lang/RuntimeException", "java/lang/Exception"]).filter goodWord)
def wsX3_isOperand : List Cond := .code yX3_isOperand cX3_isOperand 3 (some .boolean) :: ([.methodLink RX3 250 yX3_isColumn, .static yX3_isColumn, .initialized RX3, .code yX3_isColumn cX3_isColumn 1 (some .boolean)])
def wsX3_requireChangeParts : List Cond := .code yX3_requireChangeParts cX3_requireChangeParts 3 none :: ([.classLink RX3 122 "java/lang/IllegalArgumentException", .initialized "java/lang/IllegalArgumentException", .methodLink RX3 109 yX3_requireColumn, .static yX3_requireColumn, .initialized RX3, .code yX3_requireColumn cX3_requireColumn 1 none, .methodLink RX3 250 yX3_isColumn, .static yX3_isColumn, .code yX3_isColumn cX3_isColumn 1 (some .boolean), .methodLink RX3 255 yX3_isOperand, .static yX3_isOperand, .code yX3_isOperand cX3_isOperand 3 (some .boolean)] ++ (vx_atS RX3 126 "java/lang/IllegalArgumentException" ["java/lang/RuntimeException", "java/lang/Exception"]).filter goodWord)
def wsX3_addChange_r1 : List Cond := [Cond.classLink RX3 46 "java/lang/IllegalStateException", Cond.initialized "java/lang/IllegalStateException", Cond.fieldLink RX3 10 "Migrationledger" "list" "LMigrationledger$ChangeList;", Cond.methodLink RX3 38 yX3_requireChangeParts, Cond.static yX3_requireChangeParts, Cond.initialized RX3, Cond.code yX3_requireChangeParts cX3_requireChangeParts 3 none, Cond.classLink RX3 122 "java/lang/IllegalArgumentException", Cond.initialized "java/lang/IllegalArgumentException", Cond.methodLink RX3 109 yX3_requireColumn, Cond.static yX3_requireColumn, Cond.code yX3_requireColumn cX3_requireColumn 1 none, Cond.methodLink RX3 250 yX3_isColumn, Cond.static yX3_isColumn, Cond.code yX3_isColumn cX3_isColumn 1 (some .boolean), Cond.methodLink RX3 255 yX3_isOperand, Cond.static yX3_isOperand, Cond.code yX3_isOperand cX3_isOperand 3 (some .boolean), Cond.methodLink RX3 42 yX0_isFull, Cond.instanceMethod yX0_isFull, Cond.selects RX0 yX0_isFull yX0_isFull, Cond.initialized RX0, Cond.code yX0_isFull cX0_isFull 1 (some .boolean), Cond.fieldLink RX0 24 "Migrationledger$ChangeList" "count" "I"]
def wsX3_addChange_r2 : List Cond := [Cond.methodLink RX3 53 yX0_append, Cond.instanceMethod yX0_append, Cond.selects RX0 yX0_append yX0_append, Cond.code yX0_append cX0_append 4 (some .int), Cond.methodLink RX0 28 yX0_put, Cond.instanceMethod yX0_put, Cond.selects RX0 yX0_put yX0_put, Cond.code yX0_put cX0_put 5 none, Cond.fieldLink RX0 9 "Migrationledger$ChangeList" "kinds" "[I", Cond.fieldLink RX0 15 "Migrationledger$ChangeList" "columns" "[I", Cond.fieldLink RX0 18 "Migrationledger$ChangeList" "operands" "[I"]
def wsX3_addChange : List Cond := .code yX3_addChange cX3_addChange 4 (some .int) :: ((wsX3_addChange_r1 ++ wsX3_addChange_r2) ++ wsX30 ++ wsX00 ++ (vx_atS RX3 50 "java/lang/IllegalStateException" ["java/lang/RuntimeException", "java/lang/Exception"]).filter goodWord ++ (vx_atS RX3 126 "java/lang/IllegalArgumentException" ["java/lang/RuntimeException", "java/lang/Exception"]).filter goodWord)
def wsX3_requireListed : List Cond := .code yX3_requireListed cX3_requireListed 2 none :: ([.classLink RX3 276 "java/lang/IndexOutOfBoundsException", .initialized "java/lang/IndexOutOfBoundsException", .fieldLink RX3 10 "Migrationledger" "list" "LMigrationledger$ChangeList;", .methodLink RX3 273 yX0_contains, .instanceMethod yX0_contains, .selects RX0 yX0_contains yX0_contains, .initialized RX0, .code yX0_contains cX0_contains 2 (some .boolean), .fieldLink RX0 24 "Migrationledger$ChangeList" "count" "I"] ++ wsX30 ++ wsX00 ++ (vx_atS RX3 280 "java/lang/IndexOutOfBoundsException" ["java/lang/RuntimeException", "java/lang/Exception"]).filter goodWord)
def wsX3_isActive : List Cond := .code yX3_isActive cX3_isActive 1 (some .boolean) :: ([.fieldLink RX3 34 "Migrationledger" "phase" "I"] ++ wsX30)
def wsX3_activeNumber : List Cond := .code yX3_activeNumber cX3_activeNumber 1 (some .int) :: ([.fieldLink RX3 81 "Migrationledger" "done" "I"] ++ wsX30)
def wsX3_edit_r1 : List Cond := [Cond.classLink RX3 46 "java/lang/IllegalStateException", Cond.initialized "java/lang/IllegalStateException", Cond.fieldLink RX3 10 "Migrationledger" "list" "LMigrationledger$ChangeList;", Cond.methodLink RX3 38 yX3_requireChangeParts, Cond.static yX3_requireChangeParts, Cond.initialized RX3, Cond.code yX3_requireChangeParts cX3_requireChangeParts 3 none, Cond.classLink RX3 122 "java/lang/IllegalArgumentException", Cond.initialized "java/lang/IllegalArgumentException", Cond.methodLink RX3 109 yX3_requireColumn, Cond.static yX3_requireColumn, Cond.code yX3_requireColumn cX3_requireColumn 1 none, Cond.methodLink RX3 250 yX3_isColumn, Cond.static yX3_isColumn, Cond.code yX3_isColumn cX3_isColumn 1 (some .boolean), Cond.methodLink RX3 255 yX3_isOperand, Cond.static yX3_isOperand, Cond.code yX3_isOperand cX3_isOperand 3 (some .boolean), Cond.methodLink RX3 57 yX3_requireListed, Cond.instanceMethod yX3_requireListed, Cond.selects RX3 yX3_requireListed yX3_requireListed, Cond.code yX3_requireListed cX3_requireListed 2 none, Cond.classLink RX3 276 "java/lang/IndexOutOfBoundsException", Cond.initialized "java/lang/IndexOutOfBoundsException"]
def wsX3_edit_r2 : List Cond := [Cond.methodLink RX3 273 yX0_contains, Cond.instanceMethod yX0_contains, Cond.selects RX0 yX0_contains yX0_contains, Cond.initialized RX0, Cond.code yX0_contains cX0_contains 2 (some .boolean), Cond.fieldLink RX0 24 "Migrationledger$ChangeList" "count" "I", Cond.methodLink RX3 61 yX3_isActive, Cond.instanceMethod yX3_isActive, Cond.selects RX3 yX3_isActive yX3_isActive, Cond.code yX3_isActive cX3_isActive 1 (some .boolean), Cond.fieldLink RX3 34 "Migrationledger" "phase" "I", Cond.methodLink RX3 64 yX3_activeNumber, Cond.instanceMethod yX3_activeNumber, Cond.selects RX3 yX3_activeNumber yX3_activeNumber, Cond.code yX3_activeNumber cX3_activeNumber 1 (some .int), Cond.fieldLink RX3 81 "Migrationledger" "done" "I", Cond.methodLink RX3 70 yX0_put, Cond.instanceMethod yX0_put, Cond.selects RX0 yX0_put yX0_put, Cond.code yX0_put cX0_put 5 none, Cond.fieldLink RX0 9 "Migrationledger$ChangeList" "kinds" "[I", Cond.fieldLink RX0 15 "Migrationledger$ChangeList" "columns" "[I", Cond.fieldLink RX0 18 "Migrationledger$ChangeList" "operands" "[I", Cond.methodLink RX3 74 yX0_checksumOf]
def wsX3_edit_r3 : List Cond := [Cond.instanceMethod yX0_checksumOf, Cond.selects RX0 yX0_checksumOf yX0_checksumOf, Cond.code yX0_checksumOf cX0_checksumOf 4 (some .int), Cond.constant RX0 32 (65521)]
def wsX3_edit : List Cond := .code yX3_edit cX3_edit 5 (some .int) :: ((wsX3_edit_r1 ++ (wsX3_edit_r2 ++ wsX3_edit_r3)) ++ wsX30 ++ wsX00 ++ (vx_atS RX3 50 "java/lang/IllegalStateException" ["java/lang/RuntimeException", "java/lang/Exception"]).filter goodWord ++ (vx_atS RX3 126 "java/lang/IllegalArgumentException" ["java/lang/RuntimeException", "java/lang/Exception"]).filter goodWord ++ (vx_atS RX3 280 "java/lang/IndexOutOfBoundsException" ["java/lang/RuntimeException", "java/lang/Exception"]).filter goodWord)
def wsX3_changes : List Cond := .code yX3_changes cX3_changes 1 (some .int) :: ([.fieldLink RX3 10 "Migrationledger" "list" "LMigrationledger$ChangeList;", .methodLink RX3 78 yX0_count, .instanceMethod yX0_count, .selects RX0 yX0_count yX0_count, .initialized RX0, .code yX0_count cX0_count 1 (some .int), .fieldLink RX0 24 "Migrationledger$ChangeList" "count" "I"] ++ wsX30 ++ wsX00)
def wsX3_checksum : List Cond := .code yX3_checksum cX3_checksum 2 (some .int) :: ([.fieldLink RX3 10 "Migrationledger" "list" "LMigrationledger$ChangeList;", .methodLink RX3 57 yX3_requireListed, .instanceMethod yX3_requireListed, .selects RX3 yX3_requireListed yX3_requireListed, .initialized RX3, .code yX3_requireListed cX3_requireListed 2 none, .classLink RX3 276 "java/lang/IndexOutOfBoundsException", .initialized "java/lang/IndexOutOfBoundsException", .methodLink RX3 273 yX0_contains, .instanceMethod yX0_contains, .selects RX0 yX0_contains yX0_contains, .initialized RX0, .code yX0_contains cX0_contains 2 (some .boolean), .fieldLink RX0 24 "Migrationledger$ChangeList" "count" "I", .methodLink RX3 74 yX0_checksumOf, .instanceMethod yX0_checksumOf, .selects RX0 yX0_checksumOf yX0_checksumOf, .code yX0_checksumOf cX0_checksumOf 4 (some .int), .fieldLink RX0 9 "Migrationledger$ChangeList" "kinds" "[I", .fieldLink RX0 15 "Migrationledger$ChangeList" "columns" "[I", .fieldLink RX0 18 "Migrationledger$ChangeList" "operands" "[I", .constant RX0 32 (65521)] ++ wsX30 ++ wsX00 ++ (vx_atS RX3 280 "java/lang/IndexOutOfBoundsException" ["java/lang/RuntimeException", "java/lang/Exception"]).filter goodWord)
def wsX3_state : List Cond := .code yX3_state cX3_state 2 (some .int) :: ([.fieldLink RX3 81 "Migrationledger" "done" "I", .fieldLink RX3 34 "Migrationledger" "phase" "I", .methodLink RX3 57 yX3_requireListed, .instanceMethod yX3_requireListed, .selects RX3 yX3_requireListed yX3_requireListed, .initialized RX3, .code yX3_requireListed cX3_requireListed 2 none, .classLink RX3 276 "java/lang/IndexOutOfBoundsException", .initialized "java/lang/IndexOutOfBoundsException", .fieldLink RX3 10 "Migrationledger" "list" "LMigrationledger$ChangeList;", .methodLink RX3 273 yX0_contains, .instanceMethod yX0_contains, .selects RX0 yX0_contains yX0_contains, .initialized RX0, .code yX0_contains cX0_contains 2 (some .boolean), .fieldLink RX0 24 "Migrationledger$ChangeList" "count" "I", .methodLink RX3 64 yX3_activeNumber, .instanceMethod yX3_activeNumber, .selects RX3 yX3_activeNumber yX3_activeNumber, .code yX3_activeNumber cX3_activeNumber 1 (some .int)] ++ wsX30 ++ wsX00 ++ (vx_atS RX3 280 "java/lang/IndexOutOfBoundsException" ["java/lang/RuntimeException", "java/lang/Exception"]).filter goodWord)
def wsX3_level : List Cond := .code yX3_level cX3_level 1 (some .int) :: ([.fieldLink RX3 81 "Migrationledger" "done" "I"] ++ wsX30)
def wsX3_drifted : List Cond := .code yX3_drifted cX3_drifted 1 (some .int) :: ([.fieldLink RX3 10 "Migrationledger" "list" "LMigrationledger$ChangeList;", .fieldLink RX3 81 "Migrationledger" "done" "I", .methodLink RX3 84 yX0_firstDrifted, .instanceMethod yX0_firstDrifted, .selects RX0 yX0_firstDrifted yX0_firstDrifted, .initialized RX0, .code yX0_firstDrifted cX0_firstDrifted 3 (some .int), .methodLink RX0 37 yX0_hasDrifted, .instanceMethod yX0_hasDrifted, .selects RX0 yX0_hasDrifted yX0_hasDrifted, .code yX0_hasDrifted cX0_hasDrifted 2 (some .boolean), .fieldLink RX0 21 "Migrationledger$ChangeList" "recorded" "[I", .methodLink RX0 33 yX0_checksumOf, .instanceMethod yX0_checksumOf, .selects RX0 yX0_checksumOf yX0_checksumOf, .code yX0_checksumOf cX0_checksumOf 4 (some .int), .fieldLink RX0 9 "Migrationledger$ChangeList" "kinds" "[I", .fieldLink RX0 15 "Migrationledger$ChangeList" "columns" "[I", .fieldLink RX0 18 "Migrationledger$ChangeList" "operands" "[I", .constant RX0 32 (65521)] ++ wsX30 ++ wsX00)
def wsX3_requireId : List Cond := .code yX3_requireId cX3_requireId 1 none :: ([.classLink RX3 122 "java/lang/IllegalArgumentException", .initialized "java/lang/IllegalArgumentException"] ++ (vx_atS RX3 126 "java/lang/IllegalArgumentException" ["java/lang/RuntimeException", "java/lang/Exception"]).filter goodWord)
def wsX3_requireTableValue : List Cond := .code yX3_requireTableValue cX3_requireTableValue 1 none :: ([.classLink RX3 122 "java/lang/IllegalArgumentException", .initialized "java/lang/IllegalArgumentException", .methodLink RX3 265 yX3_isTableValue, .static yX3_isTableValue, .initialized RX3, .code yX3_isTableValue cX3_isTableValue 2 (some .boolean), .constantLong RX3 246 (-1000000000), .constantLong RX3 248 (1000000000)] ++ (vx_atS RX3 126 "java/lang/IllegalArgumentException" ["java/lang/RuntimeException", "java/lang/Exception"]).filter goodWord)
def wsX3_versionForNewRow : List Cond := .code yX3_versionForNewRow cX3_versionForNewRow 2 (some .int) :: ([.fieldLink RX3 184 "Migrationledger" "position" "I", .fieldLink RX3 81 "Migrationledger" "done" "I", .methodLink RX3 61 yX3_isActive, .instanceMethod yX3_isActive, .selects RX3 yX3_isActive yX3_isActive, .initialized RX3, .code yX3_isActive cX3_isActive 1 (some .boolean), .fieldLink RX3 34 "Migrationledger" "phase" "I", .methodLink RX3 64 yX3_activeNumber, .instanceMethod yX3_activeNumber, .selects RX3 yX3_activeNumber yX3_activeNumber, .code yX3_activeNumber cX3_activeNumber 1 (some .int)] ++ wsX30)
def wsX3_insert_r1 : List Cond := [Cond.classLink RX3 46 "java/lang/IllegalStateException", Cond.initialized "java/lang/IllegalStateException", Cond.fieldLink RX3 19 "Migrationledger" "table" "LMigrationledger$Table;", Cond.methodLink RX3 87 yX3_requireId, Cond.static yX3_requireId, Cond.initialized RX3, Cond.code yX3_requireId cX3_requireId 1 none, Cond.classLink RX3 122 "java/lang/IllegalArgumentException", Cond.initialized "java/lang/IllegalArgumentException", Cond.methodLink RX3 90 yX3_requireTableValue, Cond.static yX3_requireTableValue, Cond.code yX3_requireTableValue cX3_requireTableValue 1 none, Cond.methodLink RX3 265 yX3_isTableValue, Cond.static yX3_isTableValue, Cond.code yX3_isTableValue cX3_isTableValue 2 (some .boolean), Cond.constantLong RX3 246 (-1000000000), Cond.constantLong RX3 248 (1000000000), Cond.methodLink RX3 93 yX2_isPresent, Cond.instanceMethod yX2_isPresent, Cond.selects RX2 yX2_isPresent yX2_isPresent, Cond.initialized RX2, Cond.code yX2_isPresent cX2_isPresent 2 (some .boolean), Cond.fieldLink RX2 15 "Migrationledger$Table" "versions" "[I", Cond.methodLink RX3 99 yX3_versionForNewRow]
def wsX3_insert_r2 : List Cond := [Cond.instanceMethod yX3_versionForNewRow, Cond.selects RX3 yX3_versionForNewRow yX3_versionForNewRow, Cond.code yX3_versionForNewRow cX3_versionForNewRow 2 (some .int), Cond.fieldLink RX3 184 "Migrationledger" "position" "I", Cond.fieldLink RX3 81 "Migrationledger" "done" "I", Cond.methodLink RX3 61 yX3_isActive, Cond.instanceMethod yX3_isActive, Cond.selects RX3 yX3_isActive yX3_isActive, Cond.code yX3_isActive cX3_isActive 1 (some .boolean), Cond.fieldLink RX3 34 "Migrationledger" "phase" "I", Cond.methodLink RX3 64 yX3_activeNumber, Cond.instanceMethod yX3_activeNumber, Cond.selects RX3 yX3_activeNumber yX3_activeNumber, Cond.code yX3_activeNumber cX3_activeNumber 1 (some .int), Cond.methodLink RX3 102 yX2_setCell, Cond.instanceMethod yX2_setCell, Cond.selects RX2 yX2_setCell yX2_setCell, Cond.code yX2_setCell cX2_setCell 4 none, Cond.fieldLink RX2 9 "Migrationledger$Table" "cells" "[I", Cond.methodLink RX3 105 yX2_setVersion, Cond.instanceMethod yX2_setVersion, Cond.selects RX2 yX2_setVersion yX2_setVersion, Cond.code yX2_setVersion cX2_setVersion 3 none]
def wsX3_insert : List Cond := .code yX3_insert cX3_insert 6 (some .int) :: ((wsX3_insert_r1 ++ wsX3_insert_r2) ++ wsX30 ++ wsX20 ++ (vx_atS RX3 50 "java/lang/IllegalStateException" ["java/lang/RuntimeException", "java/lang/Exception"]).filter goodWord ++ (vx_atS RX3 126 "java/lang/IllegalArgumentException" ["java/lang/RuntimeException", "java/lang/Exception"]).filter goodWord)
def wsX3_requirePresent : List Cond := .code yX3_requirePresent cX3_requirePresent 2 none :: ([.classLink RX3 276 "java/lang/IndexOutOfBoundsException", .initialized "java/lang/IndexOutOfBoundsException", .fieldLink RX3 19 "Migrationledger" "table" "LMigrationledger$Table;", .methodLink RX3 93 yX2_isPresent, .instanceMethod yX2_isPresent, .selects RX2 yX2_isPresent yX2_isPresent, .initialized RX2, .code yX2_isPresent cX2_isPresent 2 (some .boolean), .fieldLink RX2 15 "Migrationledger$Table" "versions" "[I"] ++ wsX30 ++ wsX20 ++ (vx_atS RX3 280 "java/lang/IndexOutOfBoundsException" ["java/lang/RuntimeException", "java/lang/Exception"]).filter goodWord)
def wsX3_write_r1 : List Cond := [Cond.fieldLink RX3 19 "Migrationledger" "table" "LMigrationledger$Table;", Cond.methodLink RX3 87 yX3_requireId, Cond.static yX3_requireId, Cond.initialized RX3, Cond.code yX3_requireId cX3_requireId 1 none, Cond.classLink RX3 122 "java/lang/IllegalArgumentException", Cond.initialized "java/lang/IllegalArgumentException", Cond.methodLink RX3 109 yX3_requireColumn, Cond.static yX3_requireColumn, Cond.code yX3_requireColumn cX3_requireColumn 1 none, Cond.methodLink RX3 250 yX3_isColumn, Cond.static yX3_isColumn, Cond.code yX3_isColumn cX3_isColumn 1 (some .boolean), Cond.methodLink RX3 90 yX3_requireTableValue, Cond.static yX3_requireTableValue, Cond.code yX3_requireTableValue cX3_requireTableValue 1 none, Cond.methodLink RX3 265 yX3_isTableValue, Cond.static yX3_isTableValue, Cond.code yX3_isTableValue cX3_isTableValue 2 (some .boolean), Cond.constantLong RX3 246 (-1000000000), Cond.constantLong RX3 248 (1000000000), Cond.methodLink RX3 112 yX3_requirePresent, Cond.instanceMethod yX3_requirePresent, Cond.selects RX3 yX3_requirePresent yX3_requirePresent]
def wsX3_write_r2 : List Cond := [Cond.code yX3_requirePresent cX3_requirePresent 2 none, Cond.classLink RX3 276 "java/lang/IndexOutOfBoundsException", Cond.initialized "java/lang/IndexOutOfBoundsException", Cond.methodLink RX3 93 yX2_isPresent, Cond.instanceMethod yX2_isPresent, Cond.selects RX2 yX2_isPresent yX2_isPresent, Cond.initialized RX2, Cond.code yX2_isPresent cX2_isPresent 2 (some .boolean), Cond.fieldLink RX2 15 "Migrationledger$Table" "versions" "[I", Cond.methodLink RX3 115 yX2_cell, Cond.instanceMethod yX2_cell, Cond.selects RX2 yX2_cell yX2_cell, Cond.code yX2_cell cX2_cell 3 (some .int), Cond.fieldLink RX2 9 "Migrationledger$Table" "cells" "[I", Cond.methodLink RX3 102 yX2_setCell, Cond.instanceMethod yX2_setCell, Cond.selects RX2 yX2_setCell yX2_setCell, Cond.code yX2_setCell cX2_setCell 4 none]
def wsX3_write : List Cond := .code yX3_write cX3_write 5 (some .int) :: ((wsX3_write_r1 ++ wsX3_write_r2) ++ wsX30 ++ wsX20 ++ (vx_atS RX3 126 "java/lang/IllegalArgumentException" ["java/lang/RuntimeException", "java/lang/Exception"]).filter goodWord ++ (vx_atS RX3 280 "java/lang/IndexOutOfBoundsException" ["java/lang/RuntimeException", "java/lang/Exception"]).filter goodWord)
def wsX3_delete_r1 : List Cond := [Cond.fieldLink RX3 19 "Migrationledger" "table" "LMigrationledger$Table;", Cond.methodLink RX3 87 yX3_requireId, Cond.static yX3_requireId, Cond.initialized RX3, Cond.code yX3_requireId cX3_requireId 1 none, Cond.classLink RX3 122 "java/lang/IllegalArgumentException", Cond.initialized "java/lang/IllegalArgumentException", Cond.methodLink RX3 112 yX3_requirePresent, Cond.instanceMethod yX3_requirePresent, Cond.selects RX3 yX3_requirePresent yX3_requirePresent, Cond.code yX3_requirePresent cX3_requirePresent 2 none, Cond.classLink RX3 276 "java/lang/IndexOutOfBoundsException", Cond.initialized "java/lang/IndexOutOfBoundsException", Cond.methodLink RX3 93 yX2_isPresent, Cond.instanceMethod yX2_isPresent, Cond.selects RX2 yX2_isPresent yX2_isPresent, Cond.initialized RX2, Cond.code yX2_isPresent cX2_isPresent 2 (some .boolean), Cond.fieldLink RX2 15 "Migrationledger$Table" "versions" "[I", Cond.methodLink RX3 119 yX2_versionOf, Cond.instanceMethod yX2_versionOf, Cond.selects RX2 yX2_versionOf yX2_versionOf, Cond.code yX2_versionOf cX2_versionOf 2 (some .int), Cond.methodLink RX3 105 yX2_setVersion]
def wsX3_delete_r2 : List Cond := [Cond.instanceMethod yX2_setVersion, Cond.selects RX2 yX2_setVersion yX2_setVersion, Cond.code yX2_setVersion cX2_setVersion 3 none]
def wsX3_delete : List Cond := .code yX3_delete cX3_delete 3 (some .int) :: ((wsX3_delete_r1 ++ wsX3_delete_r2) ++ wsX30 ++ wsX20 ++ (vx_atS RX3 126 "java/lang/IllegalArgumentException" ["java/lang/RuntimeException", "java/lang/Exception"]).filter goodWord ++ (vx_atS RX3 280 "java/lang/IndexOutOfBoundsException" ["java/lang/RuntimeException", "java/lang/Exception"]).filter goodWord)
def wsX3_value_r1 : List Cond := [Cond.fieldLink RX3 19 "Migrationledger" "table" "LMigrationledger$Table;", Cond.methodLink RX3 87 yX3_requireId, Cond.static yX3_requireId, Cond.initialized RX3, Cond.code yX3_requireId cX3_requireId 1 none, Cond.classLink RX3 122 "java/lang/IllegalArgumentException", Cond.initialized "java/lang/IllegalArgumentException", Cond.methodLink RX3 109 yX3_requireColumn, Cond.static yX3_requireColumn, Cond.code yX3_requireColumn cX3_requireColumn 1 none, Cond.methodLink RX3 250 yX3_isColumn, Cond.static yX3_isColumn, Cond.code yX3_isColumn cX3_isColumn 1 (some .boolean), Cond.methodLink RX3 112 yX3_requirePresent, Cond.instanceMethod yX3_requirePresent, Cond.selects RX3 yX3_requirePresent yX3_requirePresent, Cond.code yX3_requirePresent cX3_requirePresent 2 none, Cond.classLink RX3 276 "java/lang/IndexOutOfBoundsException", Cond.initialized "java/lang/IndexOutOfBoundsException", Cond.methodLink RX3 93 yX2_isPresent, Cond.instanceMethod yX2_isPresent, Cond.selects RX2 yX2_isPresent yX2_isPresent, Cond.initialized RX2, Cond.code yX2_isPresent cX2_isPresent 2 (some .boolean)]
def wsX3_value_r2 : List Cond := [Cond.fieldLink RX2 15 "Migrationledger$Table" "versions" "[I", Cond.methodLink RX3 115 yX2_cell, Cond.instanceMethod yX2_cell, Cond.selects RX2 yX2_cell yX2_cell, Cond.code yX2_cell cX2_cell 3 (some .int), Cond.fieldLink RX2 9 "Migrationledger$Table" "cells" "[I"]
def wsX3_value : List Cond := .code yX3_value cX3_value 3 (some .int) :: ((wsX3_value_r1 ++ wsX3_value_r2) ++ wsX30 ++ wsX20 ++ (vx_atS RX3 126 "java/lang/IllegalArgumentException" ["java/lang/RuntimeException", "java/lang/Exception"]).filter goodWord ++ (vx_atS RX3 280 "java/lang/IndexOutOfBoundsException" ["java/lang/RuntimeException", "java/lang/Exception"]).filter goodWord)
def wsX3_version : List Cond := .code yX3_version cX3_version 2 (some .int) :: ([.fieldLink RX3 19 "Migrationledger" "table" "LMigrationledger$Table;", .methodLink RX3 87 yX3_requireId, .static yX3_requireId, .initialized RX3, .code yX3_requireId cX3_requireId 1 none, .classLink RX3 122 "java/lang/IllegalArgumentException", .initialized "java/lang/IllegalArgumentException", .methodLink RX3 119 yX2_versionOf, .instanceMethod yX2_versionOf, .selects RX2 yX2_versionOf yX2_versionOf, .initialized RX2, .code yX2_versionOf cX2_versionOf 2 (some .int), .fieldLink RX2 15 "Migrationledger$Table" "versions" "[I"] ++ wsX30 ++ wsX20 ++ (vx_atS RX3 126 "java/lang/IllegalArgumentException" ["java/lang/RuntimeException", "java/lang/Exception"]).filter goodWord)
def wsX3_rowsAt : List Cond := .code yX3_rowsAt cX3_rowsAt 2 (some .int) :: ([.classLink RX3 122 "java/lang/IllegalArgumentException", .initialized "java/lang/IllegalArgumentException", .fieldLink RX3 19 "Migrationledger" "table" "LMigrationledger$Table;", .methodLink RX3 127 yX2_countWithVersion, .instanceMethod yX2_countWithVersion, .selects RX2 yX2_countWithVersion yX2_countWithVersion, .initialized RX2, .code yX2_countWithVersion cX2_countWithVersion 4 (some .int), .fieldLink RX2 15 "Migrationledger$Table" "versions" "[I"] ++ wsX30 ++ wsX20 ++ (vx_atS RX3 126 "java/lang/IllegalArgumentException" ["java/lang/RuntimeException", "java/lang/Exception"]).filter goodWord)
def wsX3_bringTried_r1 : List Cond := [Cond.fieldLink RX3 10 "Migrationledger" "list" "LMigrationledger$ChangeList;", Cond.fieldLink RX3 30 "Migrationledger" "tried" "[I", Cond.methodLink RX3 239 yX0_applyTo, Cond.instanceMethod yX0_applyTo, Cond.selects RX0 yX0_applyTo yX0_applyTo, Cond.initialized RX0, Cond.code yX0_applyTo cX0_applyTo 7 (some .boolean), Cond.fieldLink RX0 15 "Migrationledger$ChangeList" "columns" "[I", Cond.fieldLink RX0 18 "Migrationledger$ChangeList" "operands" "[I", Cond.fieldLink RX0 9 "Migrationledger$ChangeList" "kinds" "[I", Cond.methodLink RX0 41 yX0_putResult, Cond.static yX0_putResult, Cond.code yX0_putResult cX0_putResult 4 (some .boolean), Cond.static yX3_isTableValue, Cond.initialized RX3, Cond.code yX3_isTableValue cX3_isTableValue 2 (some .boolean), Cond.constantLong RX3 246 (-1000000000), Cond.constantLong RX3 248 (1000000000), Cond.methodLink RX0 45 yX0_exchange, Cond.static yX0_exchange, Cond.code yX0_exchange cX0_exchange 4 (some .boolean), Cond.methodLink RX3 243 yX0_undoOn, Cond.instanceMethod yX0_undoOn, Cond.selects RX0 yX0_undoOn yX0_undoOn]
def wsX3_bringTried_r2 : List Cond := [Cond.code yX0_undoOn cX0_undoOn 7 (some .boolean)]
def wsX3_bringTried : List Cond := .code yX3_bringTried cX3_bringTried 4 (some .boolean) :: ((wsX3_bringTried_r1 ++ wsX3_bringTried_r2) ++ wsX30 ++ wsX00)
def wsX3_valueAt_r1 : List Cond := [Cond.classLink RX3 122 "java/lang/IllegalArgumentException", Cond.initialized "java/lang/IllegalArgumentException", Cond.classLink RX3 46 "java/lang/IllegalStateException", Cond.initialized "java/lang/IllegalStateException", Cond.fieldLink RX3 10 "Migrationledger" "list" "LMigrationledger$ChangeList;", Cond.fieldLink RX3 19 "Migrationledger" "table" "LMigrationledger$Table;", Cond.fieldLink RX3 30 "Migrationledger" "tried" "[I", Cond.methodLink RX3 87 yX3_requireId, Cond.static yX3_requireId, Cond.initialized RX3, Cond.code yX3_requireId cX3_requireId 1 none, Cond.methodLink RX3 109 yX3_requireColumn, Cond.static yX3_requireColumn, Cond.code yX3_requireColumn cX3_requireColumn 1 none, Cond.methodLink RX3 250 yX3_isColumn, Cond.static yX3_isColumn, Cond.code yX3_isColumn cX3_isColumn 1 (some .boolean), Cond.methodLink RX3 78 yX0_count, Cond.instanceMethod yX0_count, Cond.selects RX0 yX0_count yX0_count, Cond.initialized RX0, Cond.code yX0_count cX0_count 1 (some .int), Cond.fieldLink RX0 24 "Migrationledger$ChangeList" "count" "I", Cond.methodLink RX3 112 yX3_requirePresent]
def wsX3_valueAt_r2 : List Cond := [Cond.instanceMethod yX3_requirePresent, Cond.selects RX3 yX3_requirePresent yX3_requirePresent, Cond.code yX3_requirePresent cX3_requirePresent 2 none, Cond.classLink RX3 276 "java/lang/IndexOutOfBoundsException", Cond.initialized "java/lang/IndexOutOfBoundsException", Cond.methodLink RX3 93 yX2_isPresent, Cond.instanceMethod yX2_isPresent, Cond.selects RX2 yX2_isPresent yX2_isPresent, Cond.initialized RX2, Cond.code yX2_isPresent cX2_isPresent 2 (some .boolean), Cond.fieldLink RX2 15 "Migrationledger$Table" "versions" "[I", Cond.methodLink RX3 132 yX2_copyRow, Cond.instanceMethod yX2_copyRow, Cond.selects RX2 yX2_copyRow yX2_copyRow, Cond.code yX2_copyRow cX2_copyRow 4 none, Cond.methodLink RX2 18 yX2_cell, Cond.instanceMethod yX2_cell, Cond.selects RX2 yX2_cell yX2_cell, Cond.code yX2_cell cX2_cell 3 (some .int), Cond.fieldLink RX2 9 "Migrationledger$Table" "cells" "[I", Cond.methodLink RX3 119 yX2_versionOf, Cond.instanceMethod yX2_versionOf, Cond.selects RX2 yX2_versionOf yX2_versionOf, Cond.code yX2_versionOf cX2_versionOf 2 (some .int)]
def wsX3_valueAt_r3 : List Cond := [Cond.methodLink RX3 136 yX3_bringTried, Cond.instanceMethod yX3_bringTried, Cond.selects RX3 yX3_bringTried yX3_bringTried, Cond.code yX3_bringTried cX3_bringTried 4 (some .boolean), Cond.methodLink RX3 239 yX0_applyTo, Cond.instanceMethod yX0_applyTo, Cond.selects RX0 yX0_applyTo yX0_applyTo, Cond.code yX0_applyTo cX0_applyTo 7 (some .boolean), Cond.fieldLink RX0 15 "Migrationledger$ChangeList" "columns" "[I", Cond.fieldLink RX0 18 "Migrationledger$ChangeList" "operands" "[I", Cond.fieldLink RX0 9 "Migrationledger$ChangeList" "kinds" "[I", Cond.methodLink RX0 41 yX0_putResult, Cond.static yX0_putResult, Cond.code yX0_putResult cX0_putResult 4 (some .boolean), Cond.static yX3_isTableValue, Cond.code yX3_isTableValue cX3_isTableValue 2 (some .boolean), Cond.constantLong RX3 246 (-1000000000), Cond.constantLong RX3 248 (1000000000), Cond.methodLink RX0 45 yX0_exchange, Cond.static yX0_exchange, Cond.code yX0_exchange cX0_exchange 4 (some .boolean), Cond.methodLink RX3 243 yX0_undoOn, Cond.instanceMethod yX0_undoOn, Cond.selects RX0 yX0_undoOn yX0_undoOn]
def wsX3_valueAt_r4 : List Cond := [Cond.code yX0_undoOn cX0_undoOn 7 (some .boolean)]
def wsX3_valueAt : List Cond := .code yX3_valueAt cX3_valueAt 4 (some .int) :: ((wsX3_valueAt_r1 ++ (wsX3_valueAt_r2 ++ (wsX3_valueAt_r3 ++ wsX3_valueAt_r4))) ++ wsX30 ++ wsX00 ++ wsX20 ++ (vx_atS RX3 126 "java/lang/IllegalArgumentException" ["java/lang/RuntimeException", "java/lang/Exception"]).filter goodWord ++ (vx_atS RX3 50 "java/lang/IllegalStateException" ["java/lang/RuntimeException", "java/lang/Exception"]).filter goodWord ++ (vx_atS RX3 280 "java/lang/IndexOutOfBoundsException" ["java/lang/RuntimeException", "java/lang/Exception"]).filter goodWord)
def wsX3_requireWorker : List Cond := .code yX3_requireWorker cX3_requireWorker 1 none :: ([.classLink RX3 122 "java/lang/IllegalArgumentException", .initialized "java/lang/IllegalArgumentException"] ++ (vx_atS RX3 126 "java/lang/IllegalArgumentException" ["java/lang/RuntimeException", "java/lang/Exception"]).filter goodWord)
def wsX3_requireNotCrashed : List Cond := .code yX3_requireNotCrashed cX3_requireNotCrashed 2 none :: ([.classLink RX3 46 "java/lang/IllegalStateException", .initialized "java/lang/IllegalStateException", .fieldLink RX3 26 "Migrationledger" "lock" "LMigrationledger$Lock;", .methodLink RX3 164 yX1_hasCrashed, .instanceMethod yX1_hasCrashed, .selects RX1 yX1_hasCrashed yX1_hasCrashed, .initialized RX1, .code yX1_hasCrashed cX1_hasCrashed 2 (some .boolean), .fieldLink RX1 9 "Migrationledger$Lock" "crashed" "[Z"] ++ wsX30 ++ wsX10 ++ (vx_atS RX3 50 "java/lang/IllegalStateException" ["java/lang/RuntimeException", "java/lang/Exception"]).filter goodWord)
def wsX3_take_r1 : List Cond := [Cond.classLink RX3 122 "java/lang/IllegalArgumentException", Cond.initialized "java/lang/IllegalArgumentException", Cond.classLink RX3 46 "java/lang/IllegalStateException", Cond.initialized "java/lang/IllegalStateException", Cond.fieldLink RX3 26 "Migrationledger" "lock" "LMigrationledger$Lock;", Cond.methodLink RX3 142 yX3_requireWorker, Cond.static yX3_requireWorker, Cond.initialized RX3, Cond.code yX3_requireWorker cX3_requireWorker 1 none, Cond.methodLink RX3 147 yX3_requireNotCrashed, Cond.instanceMethod yX3_requireNotCrashed, Cond.selects RX3 yX3_requireNotCrashed yX3_requireNotCrashed, Cond.code yX3_requireNotCrashed cX3_requireNotCrashed 2 none, Cond.methodLink RX3 164 yX1_hasCrashed, Cond.instanceMethod yX1_hasCrashed, Cond.selects RX1 yX1_hasCrashed yX1_hasCrashed, Cond.initialized RX1, Cond.code yX1_hasCrashed cX1_hasCrashed 2 (some .boolean), Cond.fieldLink RX1 9 "Migrationledger$Lock" "crashed" "[Z", Cond.methodLink RX3 150 yX1_owner, Cond.instanceMethod yX1_owner, Cond.selects RX1 yX1_owner yX1_owner, Cond.code yX1_owner cX1_owner 1 (some .int), Cond.fieldLink RX1 19 "Migrationledger$Lock" "time" "I"]
def wsX3_take_r2 : List Cond := [Cond.fieldLink RX1 22 "Migrationledger$Lock" "leaseEnd" "I", Cond.fieldLink RX1 15 "Migrationledger$Lock" "taker" "I", Cond.methodLink RX3 155 yX1_grant, Cond.instanceMethod yX1_grant, Cond.selects RX1 yX1_grant yX1_grant, Cond.code yX1_grant cX1_grant 3 (some .int)]
def wsX3_take : List Cond := .code yX3_take cX3_take 4 (some .int) :: ((wsX3_take_r1 ++ wsX3_take_r2) ++ wsX30 ++ wsX10 ++ (vx_atS RX3 126 "java/lang/IllegalArgumentException" ["java/lang/RuntimeException", "java/lang/Exception"]).filter goodWord ++ (vx_atS RX3 50 "java/lang/IllegalStateException" ["java/lang/RuntimeException", "java/lang/Exception"]).filter goodWord)
def wsX3_requireAtWork : List Cond := .code yX3_requireAtWork cX3_requireAtWork 2 none :: ([.classLink RX3 46 "java/lang/IllegalStateException", .initialized "java/lang/IllegalStateException", .fieldLink RX3 26 "Migrationledger" "lock" "LMigrationledger$Lock;", .methodLink RX3 147 yX3_requireNotCrashed, .instanceMethod yX3_requireNotCrashed, .selects RX3 yX3_requireNotCrashed yX3_requireNotCrashed, .initialized RX3, .code yX3_requireNotCrashed cX3_requireNotCrashed 2 none, .methodLink RX3 164 yX1_hasCrashed, .instanceMethod yX1_hasCrashed, .selects RX1 yX1_hasCrashed yX1_hasCrashed, .initialized RX1, .code yX1_hasCrashed cX1_hasCrashed 2 (some .boolean), .fieldLink RX1 9 "Migrationledger$Lock" "crashed" "[Z", .methodLink RX3 150 yX1_owner, .instanceMethod yX1_owner, .selects RX1 yX1_owner yX1_owner, .code yX1_owner cX1_owner 1 (some .int), .fieldLink RX1 19 "Migrationledger$Lock" "time" "I", .fieldLink RX1 22 "Migrationledger$Lock" "leaseEnd" "I", .fieldLink RX1 15 "Migrationledger$Lock" "taker" "I"] ++ wsX30 ++ wsX10 ++ (vx_atS RX3 50 "java/lang/IllegalStateException" ["java/lang/RuntimeException", "java/lang/Exception"]).filter goodWord)
def wsX3_giveBack_r1 : List Cond := [Cond.fieldLink RX3 26 "Migrationledger" "lock" "LMigrationledger$Lock;", Cond.methodLink RX3 142 yX3_requireWorker, Cond.static yX3_requireWorker, Cond.initialized RX3, Cond.code yX3_requireWorker cX3_requireWorker 1 none, Cond.classLink RX3 122 "java/lang/IllegalArgumentException", Cond.initialized "java/lang/IllegalArgumentException", Cond.methodLink RX3 158 yX3_requireAtWork, Cond.instanceMethod yX3_requireAtWork, Cond.selects RX3 yX3_requireAtWork yX3_requireAtWork, Cond.code yX3_requireAtWork cX3_requireAtWork 2 none, Cond.classLink RX3 46 "java/lang/IllegalStateException", Cond.initialized "java/lang/IllegalStateException", Cond.methodLink RX3 147 yX3_requireNotCrashed, Cond.instanceMethod yX3_requireNotCrashed, Cond.selects RX3 yX3_requireNotCrashed yX3_requireNotCrashed, Cond.code yX3_requireNotCrashed cX3_requireNotCrashed 2 none, Cond.methodLink RX3 164 yX1_hasCrashed, Cond.instanceMethod yX1_hasCrashed, Cond.selects RX1 yX1_hasCrashed yX1_hasCrashed, Cond.initialized RX1, Cond.code yX1_hasCrashed cX1_hasCrashed 2 (some .boolean), Cond.fieldLink RX1 9 "Migrationledger$Lock" "crashed" "[Z", Cond.methodLink RX3 150 yX1_owner]
def wsX3_giveBack_r2 : List Cond := [Cond.instanceMethod yX1_owner, Cond.selects RX1 yX1_owner yX1_owner, Cond.code yX1_owner cX1_owner 1 (some .int), Cond.fieldLink RX1 19 "Migrationledger$Lock" "time" "I", Cond.fieldLink RX1 22 "Migrationledger$Lock" "leaseEnd" "I", Cond.fieldLink RX1 15 "Migrationledger$Lock" "taker" "I", Cond.methodLink RX3 161 yX1_release, Cond.instanceMethod yX1_release, Cond.selects RX1 yX1_release yX1_release, Cond.code yX1_release cX1_release 1 none]
def wsX3_giveBack : List Cond := .code yX3_giveBack cX3_giveBack 2 none :: ((wsX3_giveBack_r1 ++ wsX3_giveBack_r2) ++ wsX30 ++ wsX10 ++ (vx_atS RX3 126 "java/lang/IllegalArgumentException" ["java/lang/RuntimeException", "java/lang/Exception"]).filter goodWord ++ (vx_atS RX3 50 "java/lang/IllegalStateException" ["java/lang/RuntimeException", "java/lang/Exception"]).filter goodWord)
def wsX3_holder : List Cond := .code yX3_holder cX3_holder 1 (some .int) :: ([.fieldLink RX3 26 "Migrationledger" "lock" "LMigrationledger$Lock;", .methodLink RX3 150 yX1_owner, .instanceMethod yX1_owner, .selects RX1 yX1_owner yX1_owner, .initialized RX1, .code yX1_owner cX1_owner 1 (some .int), .fieldLink RX1 19 "Migrationledger$Lock" "time" "I", .fieldLink RX1 22 "Migrationledger$Lock" "leaseEnd" "I", .fieldLink RX1 15 "Migrationledger$Lock" "taker" "I"] ++ wsX30 ++ wsX10)
def wsX3_restart_r1 : List Cond := [Cond.classLink RX3 46 "java/lang/IllegalStateException", Cond.initialized "java/lang/IllegalStateException", Cond.fieldLink RX3 26 "Migrationledger" "lock" "LMigrationledger$Lock;", Cond.methodLink RX3 142 yX3_requireWorker, Cond.static yX3_requireWorker, Cond.initialized RX3, Cond.code yX3_requireWorker cX3_requireWorker 1 none, Cond.classLink RX3 122 "java/lang/IllegalArgumentException", Cond.initialized "java/lang/IllegalArgumentException", Cond.methodLink RX3 164 yX1_hasCrashed, Cond.instanceMethod yX1_hasCrashed, Cond.selects RX1 yX1_hasCrashed yX1_hasCrashed, Cond.initialized RX1, Cond.code yX1_hasCrashed cX1_hasCrashed 2 (some .boolean), Cond.fieldLink RX1 9 "Migrationledger$Lock" "crashed" "[Z", Cond.methodLink RX3 169 yX1_setCrashed, Cond.instanceMethod yX1_setCrashed, Cond.selects RX1 yX1_setCrashed yX1_setCrashed, Cond.code yX1_setCrashed cX1_setCrashed 3 none, Cond.methodLink RX3 150 yX1_owner, Cond.instanceMethod yX1_owner, Cond.selects RX1 yX1_owner yX1_owner, Cond.code yX1_owner cX1_owner 1 (some .int), Cond.fieldLink RX1 19 "Migrationledger$Lock" "time" "I"]
def wsX3_restart_r2 : List Cond := [Cond.fieldLink RX1 22 "Migrationledger$Lock" "leaseEnd" "I", Cond.fieldLink RX1 15 "Migrationledger$Lock" "taker" "I"]
def wsX3_restart : List Cond := .code yX3_restart cX3_restart 2 (some .boolean) :: ((wsX3_restart_r1 ++ wsX3_restart_r2) ++ wsX30 ++ wsX10 ++ (vx_atS RX3 50 "java/lang/IllegalStateException" ["java/lang/RuntimeException", "java/lang/Exception"]).filter goodWord ++ (vx_atS RX3 126 "java/lang/IllegalArgumentException" ["java/lang/RuntimeException", "java/lang/Exception"]).filter goodWord)
def wsX3_pass : List Cond := .code yX3_pass cX3_pass 2 (some .int) :: ([.classLink RX3 122 "java/lang/IllegalArgumentException", .initialized "java/lang/IllegalArgumentException", .fieldLink RX3 26 "Migrationledger" "lock" "LMigrationledger$Lock;", .methodLink RX3 175 yX1_advance, .instanceMethod yX1_advance, .selects RX1 yX1_advance yX1_advance, .initialized RX1, .code yX1_advance cX1_advance 2 (some .int), .fieldLink RX1 19 "Migrationledger$Lock" "time" "I"] ++ wsX30 ++ wsX10 ++ (vx_atS RX3 126 "java/lang/IllegalArgumentException" ["java/lang/RuntimeException", "java/lang/Exception"]).filter goodWord)
def wsX3_begin_r1 : List Cond := [Cond.classLink RX3 46 "java/lang/IllegalStateException", Cond.initialized "java/lang/IllegalStateException", Cond.fieldLink RX3 10 "Migrationledger" "list" "LMigrationledger$ChangeList;", Cond.fieldLink RX3 81 "Migrationledger" "done" "I", Cond.fieldLink RX3 34 "Migrationledger" "phase" "I", Cond.fieldLink RX3 184 "Migrationledger" "position" "I", Cond.methodLink RX3 142 yX3_requireWorker, Cond.static yX3_requireWorker, Cond.initialized RX3, Cond.code yX3_requireWorker cX3_requireWorker 1 none, Cond.classLink RX3 122 "java/lang/IllegalArgumentException", Cond.initialized "java/lang/IllegalArgumentException", Cond.methodLink RX3 158 yX3_requireAtWork, Cond.instanceMethod yX3_requireAtWork, Cond.selects RX3 yX3_requireAtWork yX3_requireAtWork, Cond.code yX3_requireAtWork cX3_requireAtWork 2 none, Cond.fieldLink RX3 26 "Migrationledger" "lock" "LMigrationledger$Lock;", Cond.methodLink RX3 147 yX3_requireNotCrashed, Cond.instanceMethod yX3_requireNotCrashed, Cond.selects RX3 yX3_requireNotCrashed yX3_requireNotCrashed, Cond.code yX3_requireNotCrashed cX3_requireNotCrashed 2 none, Cond.methodLink RX3 164 yX1_hasCrashed, Cond.instanceMethod yX1_hasCrashed, Cond.selects RX1 yX1_hasCrashed yX1_hasCrashed]
def wsX3_begin_r2 : List Cond := [Cond.initialized RX1, Cond.code yX1_hasCrashed cX1_hasCrashed 2 (some .boolean), Cond.fieldLink RX1 9 "Migrationledger$Lock" "crashed" "[Z", Cond.methodLink RX3 150 yX1_owner, Cond.instanceMethod yX1_owner, Cond.selects RX1 yX1_owner yX1_owner, Cond.code yX1_owner cX1_owner 1 (some .int), Cond.fieldLink RX1 19 "Migrationledger$Lock" "time" "I", Cond.fieldLink RX1 22 "Migrationledger$Lock" "leaseEnd" "I", Cond.fieldLink RX1 15 "Migrationledger$Lock" "taker" "I", Cond.methodLink RX3 61 yX3_isActive, Cond.instanceMethod yX3_isActive, Cond.selects RX3 yX3_isActive yX3_isActive, Cond.code yX3_isActive cX3_isActive 1 (some .boolean), Cond.methodLink RX3 84 yX0_firstDrifted, Cond.instanceMethod yX0_firstDrifted, Cond.selects RX0 yX0_firstDrifted yX0_firstDrifted, Cond.initialized RX0, Cond.code yX0_firstDrifted cX0_firstDrifted 3 (some .int), Cond.methodLink RX0 37 yX0_hasDrifted, Cond.instanceMethod yX0_hasDrifted, Cond.selects RX0 yX0_hasDrifted yX0_hasDrifted, Cond.code yX0_hasDrifted cX0_hasDrifted 2 (some .boolean), Cond.fieldLink RX0 21 "Migrationledger$ChangeList" "recorded" "[I"]
def wsX3_begin_r3 : List Cond := [Cond.methodLink RX0 33 yX0_checksumOf, Cond.instanceMethod yX0_checksumOf, Cond.selects RX0 yX0_checksumOf yX0_checksumOf, Cond.code yX0_checksumOf cX0_checksumOf 4 (some .int), Cond.fieldLink RX0 9 "Migrationledger$ChangeList" "kinds" "[I", Cond.fieldLink RX0 15 "Migrationledger$ChangeList" "columns" "[I", Cond.fieldLink RX0 18 "Migrationledger$ChangeList" "operands" "[I", Cond.constant RX0 32 (65521), Cond.methodLink RX3 78 yX0_count, Cond.instanceMethod yX0_count, Cond.selects RX0 yX0_count yX0_count, Cond.code yX0_count cX0_count 1 (some .int), Cond.fieldLink RX0 24 "Migrationledger$ChangeList" "count" "I", Cond.methodLink RX3 64 yX3_activeNumber, Cond.instanceMethod yX3_activeNumber, Cond.selects RX3 yX3_activeNumber yX3_activeNumber, Cond.code yX3_activeNumber cX3_activeNumber 1 (some .int), Cond.methodLink RX3 187 yX0_recordChecksum, Cond.instanceMethod yX0_recordChecksum, Cond.selects RX0 yX0_recordChecksum yX0_recordChecksum, Cond.code yX0_recordChecksum cX0_recordChecksum 2 none]
def wsX3_begin : List Cond := .code yX3_begin cX3_begin 2 (some .int) :: ((wsX3_begin_r1 ++ (wsX3_begin_r2 ++ wsX3_begin_r3)) ++ wsX30 ++ wsX10 ++ wsX00 ++ (vx_atS RX3 50 "java/lang/IllegalStateException" ["java/lang/RuntimeException", "java/lang/Exception"]).filter goodWord ++ (vx_atS RX3 126 "java/lang/IllegalArgumentException" ["java/lang/RuntimeException", "java/lang/Exception"]).filter goodWord)
def wsX3_requireUndoableDone : List Cond := .code yX3_requireUndoableDone cX3_requireUndoableDone 1 none :: ([.classLink RX3 46 "java/lang/IllegalStateException", .initialized "java/lang/IllegalStateException", .fieldLink RX3 81 "Migrationledger" "done" "I", .fieldLink RX3 10 "Migrationledger" "list" "LMigrationledger$ChangeList;", .methodLink RX3 291 yX0_hasDrifted, .instanceMethod yX0_hasDrifted, .selects RX0 yX0_hasDrifted yX0_hasDrifted, .initialized RX0, .code yX0_hasDrifted cX0_hasDrifted 2 (some .boolean), .fieldLink RX0 21 "Migrationledger$ChangeList" "recorded" "[I", .methodLink RX0 33 yX0_checksumOf, .instanceMethod yX0_checksumOf, .selects RX0 yX0_checksumOf yX0_checksumOf, .code yX0_checksumOf cX0_checksumOf 4 (some .int), .fieldLink RX0 9 "Migrationledger$ChangeList" "kinds" "[I", .fieldLink RX0 15 "Migrationledger$ChangeList" "columns" "[I", .fieldLink RX0 18 "Migrationledger$ChangeList" "operands" "[I", .constant RX0 32 (65521)] ++ wsX30 ++ wsX00 ++ (vx_atS RX3 50 "java/lang/IllegalStateException" ["java/lang/RuntimeException", "java/lang/Exception"]).filter goodWord)
def wsX3_undo_r1 : List Cond := [Cond.classLink RX3 46 "java/lang/IllegalStateException", Cond.initialized "java/lang/IllegalStateException", Cond.fieldLink RX3 34 "Migrationledger" "phase" "I", Cond.fieldLink RX3 81 "Migrationledger" "done" "I", Cond.fieldLink RX3 184 "Migrationledger" "position" "I", Cond.methodLink RX3 142 yX3_requireWorker, Cond.static yX3_requireWorker, Cond.initialized RX3, Cond.code yX3_requireWorker cX3_requireWorker 1 none, Cond.classLink RX3 122 "java/lang/IllegalArgumentException", Cond.initialized "java/lang/IllegalArgumentException", Cond.methodLink RX3 158 yX3_requireAtWork, Cond.instanceMethod yX3_requireAtWork, Cond.selects RX3 yX3_requireAtWork yX3_requireAtWork, Cond.code yX3_requireAtWork cX3_requireAtWork 2 none, Cond.fieldLink RX3 26 "Migrationledger" "lock" "LMigrationledger$Lock;", Cond.methodLink RX3 147 yX3_requireNotCrashed, Cond.instanceMethod yX3_requireNotCrashed, Cond.selects RX3 yX3_requireNotCrashed yX3_requireNotCrashed, Cond.code yX3_requireNotCrashed cX3_requireNotCrashed 2 none, Cond.methodLink RX3 164 yX1_hasCrashed, Cond.instanceMethod yX1_hasCrashed, Cond.selects RX1 yX1_hasCrashed yX1_hasCrashed, Cond.initialized RX1]
def wsX3_undo_r2 : List Cond := [Cond.code yX1_hasCrashed cX1_hasCrashed 2 (some .boolean), Cond.fieldLink RX1 9 "Migrationledger$Lock" "crashed" "[Z", Cond.methodLink RX3 150 yX1_owner, Cond.instanceMethod yX1_owner, Cond.selects RX1 yX1_owner yX1_owner, Cond.code yX1_owner cX1_owner 1 (some .int), Cond.fieldLink RX1 19 "Migrationledger$Lock" "time" "I", Cond.fieldLink RX1 22 "Migrationledger$Lock" "leaseEnd" "I", Cond.fieldLink RX1 15 "Migrationledger$Lock" "taker" "I", Cond.methodLink RX3 192 yX3_requireUndoableDone, Cond.instanceMethod yX3_requireUndoableDone, Cond.selects RX3 yX3_requireUndoableDone yX3_requireUndoableDone, Cond.code yX3_requireUndoableDone cX3_requireUndoableDone 1 none, Cond.fieldLink RX3 10 "Migrationledger" "list" "LMigrationledger$ChangeList;", Cond.methodLink RX3 291 yX0_hasDrifted, Cond.instanceMethod yX0_hasDrifted, Cond.selects RX0 yX0_hasDrifted yX0_hasDrifted, Cond.initialized RX0, Cond.code yX0_hasDrifted cX0_hasDrifted 2 (some .boolean), Cond.fieldLink RX0 21 "Migrationledger$ChangeList" "recorded" "[I", Cond.methodLink RX0 33 yX0_checksumOf, Cond.instanceMethod yX0_checksumOf, Cond.selects RX0 yX0_checksumOf yX0_checksumOf, Cond.code yX0_checksumOf cX0_checksumOf 4 (some .int)]
def wsX3_undo_r3 : List Cond := [Cond.fieldLink RX0 9 "Migrationledger$ChangeList" "kinds" "[I", Cond.fieldLink RX0 15 "Migrationledger$ChangeList" "columns" "[I", Cond.fieldLink RX0 18 "Migrationledger$ChangeList" "operands" "[I", Cond.constant RX0 32 (65521), Cond.methodLink RX3 64 yX3_activeNumber, Cond.instanceMethod yX3_activeNumber, Cond.selects RX3 yX3_activeNumber yX3_activeNumber, Cond.code yX3_activeNumber cX3_activeNumber 1 (some .int)]
def wsX3_undo : List Cond := .code yX3_undo cX3_undo 2 (some .int) :: ((wsX3_undo_r1 ++ (wsX3_undo_r2 ++ wsX3_undo_r3)) ++ wsX30 ++ wsX10 ++ wsX00 ++ (vx_atS RX3 50 "java/lang/IllegalStateException" ["java/lang/RuntimeException", "java/lang/Exception"]).filter goodWord ++ (vx_atS RX3 126 "java/lang/IllegalArgumentException" ["java/lang/RuntimeException", "java/lang/Exception"]).filter goodWord)
def wsX3_requireActive : List Cond := .code yX3_requireActive cX3_requireActive 1 none :: ([.classLink RX3 46 "java/lang/IllegalStateException", .initialized "java/lang/IllegalStateException", .methodLink RX3 61 yX3_isActive, .instanceMethod yX3_isActive, .selects RX3 yX3_isActive yX3_isActive, .initialized RX3, .code yX3_isActive cX3_isActive 1 (some .boolean), .fieldLink RX3 34 "Migrationledger" "phase" "I"] ++ wsX30 ++ (vx_atS RX3 50 "java/lang/IllegalStateException" ["java/lang/RuntimeException", "java/lang/Exception"]).filter goodWord)
def wsX3_idsLeft : List Cond := .code yX3_idsLeft cX3_idsLeft 1 (some .int) :: ([.fieldLink RX3 34 "Migrationledger" "phase" "I", .fieldLink RX3 184 "Migrationledger" "position" "I"] ++ wsX30)
def wsX3_idBehind : List Cond := .code yX3_idBehind cX3_idBehind 2 (some .int) :: ([.fieldLink RX3 34 "Migrationledger" "phase" "I", .fieldLink RX3 184 "Migrationledger" "position" "I"] ++ wsX30)
def wsX3_isToBeChanged : List Cond := .code yX3_isToBeChanged cX3_isToBeChanged 3 (some .boolean) :: ([.fieldLink RX3 19 "Migrationledger" "table" "LMigrationledger$Table;", .fieldLink RX3 34 "Migrationledger" "phase" "I", .methodLink RX3 93 yX2_isPresent, .instanceMethod yX2_isPresent, .selects RX2 yX2_isPresent yX2_isPresent, .initialized RX2, .code yX2_isPresent cX2_isPresent 2 (some .boolean), .fieldLink RX2 15 "Migrationledger$Table" "versions" "[I", .methodLink RX3 119 yX2_versionOf, .instanceMethod yX2_versionOf, .selects RX2 yX2_versionOf yX2_versionOf, .code yX2_versionOf cX2_versionOf 2 (some .int), .methodLink RX3 64 yX3_activeNumber, .instanceMethod yX3_activeNumber, .selects RX3 yX3_activeNumber yX3_activeNumber, .initialized RX3, .code yX3_activeNumber cX3_activeNumber 1 (some .int), .fieldLink RX3 81 "Migrationledger" "done" "I"] ++ wsX30 ++ wsX20)
def wsX3_changeRow_r1 : List Cond := [Cond.fieldLink RX3 19 "Migrationledger" "table" "LMigrationledger$Table;", Cond.fieldLink RX3 34 "Migrationledger" "phase" "I", Cond.fieldLink RX3 30 "Migrationledger" "tried" "[I", Cond.methodLink RX3 119 yX2_versionOf, Cond.instanceMethod yX2_versionOf, Cond.selects RX2 yX2_versionOf yX2_versionOf, Cond.initialized RX2, Cond.code yX2_versionOf cX2_versionOf 2 (some .int), Cond.fieldLink RX2 15 "Migrationledger$Table" "versions" "[I", Cond.methodLink RX3 132 yX2_copyRow, Cond.instanceMethod yX2_copyRow, Cond.selects RX2 yX2_copyRow yX2_copyRow, Cond.code yX2_copyRow cX2_copyRow 4 none, Cond.methodLink RX2 18 yX2_cell, Cond.instanceMethod yX2_cell, Cond.selects RX2 yX2_cell yX2_cell, Cond.code yX2_cell cX2_cell 3 (some .int), Cond.fieldLink RX2 9 "Migrationledger$Table" "cells" "[I", Cond.methodLink RX3 136 yX3_bringTried, Cond.instanceMethod yX3_bringTried, Cond.selects RX3 yX3_bringTried yX3_bringTried, Cond.initialized RX3, Cond.code yX3_bringTried cX3_bringTried 4 (some .boolean), Cond.fieldLink RX3 10 "Migrationledger" "list" "LMigrationledger$ChangeList;"]
def wsX3_changeRow_r2 : List Cond := [Cond.methodLink RX3 239 yX0_applyTo, Cond.instanceMethod yX0_applyTo, Cond.selects RX0 yX0_applyTo yX0_applyTo, Cond.initialized RX0, Cond.code yX0_applyTo cX0_applyTo 7 (some .boolean), Cond.fieldLink RX0 15 "Migrationledger$ChangeList" "columns" "[I", Cond.fieldLink RX0 18 "Migrationledger$ChangeList" "operands" "[I", Cond.fieldLink RX0 9 "Migrationledger$ChangeList" "kinds" "[I", Cond.methodLink RX0 41 yX0_putResult, Cond.static yX0_putResult, Cond.code yX0_putResult cX0_putResult 4 (some .boolean), Cond.static yX3_isTableValue, Cond.code yX3_isTableValue cX3_isTableValue 2 (some .boolean), Cond.constantLong RX3 246 (-1000000000), Cond.constantLong RX3 248 (1000000000), Cond.methodLink RX0 45 yX0_exchange, Cond.static yX0_exchange, Cond.code yX0_exchange cX0_exchange 4 (some .boolean), Cond.methodLink RX3 243 yX0_undoOn, Cond.instanceMethod yX0_undoOn, Cond.selects RX0 yX0_undoOn yX0_undoOn, Cond.code yX0_undoOn cX0_undoOn 7 (some .boolean), Cond.methodLink RX3 236 yX2_storeRow, Cond.instanceMethod yX2_storeRow]
def wsX3_changeRow_r3 : List Cond := [Cond.selects RX2 yX2_storeRow yX2_storeRow, Cond.code yX2_storeRow cX2_storeRow 4 none, Cond.methodLink RX2 22 yX2_setCell, Cond.instanceMethod yX2_setCell, Cond.selects RX2 yX2_setCell yX2_setCell, Cond.code yX2_setCell cX2_setCell 4 none, Cond.methodLink RX3 105 yX2_setVersion, Cond.instanceMethod yX2_setVersion, Cond.selects RX2 yX2_setVersion yX2_setVersion, Cond.code yX2_setVersion cX2_setVersion 3 none]
def wsX3_changeRow : List Cond := .code yX3_changeRow cX3_changeRow 4 (some .boolean) :: ((wsX3_changeRow_r1 ++ (wsX3_changeRow_r2 ++ wsX3_changeRow_r3)) ++ wsX30 ++ wsX20 ++ wsX00)
def wsX3_positionBehind : List Cond := .code yX3_positionBehind cX3_positionBehind 2 (some .int) :: ([.fieldLink RX3 34 "Migrationledger" "phase" "I", .fieldLink RX3 184 "Migrationledger" "position" "I"] ++ wsX30)
def wsX3_endIfAllPassed : List Cond := .code yX3_endIfAllPassed cX3_endIfAllPassed 1 none :: ([.fieldLink RX3 34 "Migrationledger" "phase" "I", .fieldLink RX3 81 "Migrationledger" "done" "I", .methodLink RX3 202 yX3_idsLeft, .instanceMethod yX3_idsLeft, .selects RX3 yX3_idsLeft yX3_idsLeft, .initialized RX3, .code yX3_idsLeft cX3_idsLeft 1 (some .int), .fieldLink RX3 184 "Migrationledger" "position" "I"] ++ wsX30)
def wsX3_goThrough_r1 : List Cond := [Cond.fieldLink RX3 184 "Migrationledger" "position" "I", Cond.fieldLink RX3 26 "Migrationledger" "lock" "LMigrationledger$Lock;", Cond.methodLink RX3 221 yX3_idBehind, Cond.instanceMethod yX3_idBehind, Cond.selects RX3 yX3_idBehind yX3_idBehind, Cond.initialized RX3, Cond.code yX3_idBehind cX3_idBehind 2 (some .int), Cond.fieldLink RX3 34 "Migrationledger" "phase" "I", Cond.methodLink RX3 224 yX3_isToBeChanged, Cond.instanceMethod yX3_isToBeChanged, Cond.selects RX3 yX3_isToBeChanged yX3_isToBeChanged, Cond.code yX3_isToBeChanged cX3_isToBeChanged 3 (some .boolean), Cond.fieldLink RX3 19 "Migrationledger" "table" "LMigrationledger$Table;", Cond.methodLink RX3 93 yX2_isPresent, Cond.instanceMethod yX2_isPresent, Cond.selects RX2 yX2_isPresent yX2_isPresent, Cond.initialized RX2, Cond.code yX2_isPresent cX2_isPresent 2 (some .boolean), Cond.fieldLink RX2 15 "Migrationledger$Table" "versions" "[I", Cond.methodLink RX3 119 yX2_versionOf, Cond.instanceMethod yX2_versionOf, Cond.selects RX2 yX2_versionOf yX2_versionOf, Cond.code yX2_versionOf cX2_versionOf 2 (some .int), Cond.methodLink RX3 64 yX3_activeNumber]
def wsX3_goThrough_r2 : List Cond := [Cond.instanceMethod yX3_activeNumber, Cond.selects RX3 yX3_activeNumber yX3_activeNumber, Cond.code yX3_activeNumber cX3_activeNumber 1 (some .int), Cond.fieldLink RX3 81 "Migrationledger" "done" "I", Cond.methodLink RX3 227 yX3_changeRow, Cond.instanceMethod yX3_changeRow, Cond.selects RX3 yX3_changeRow yX3_changeRow, Cond.code yX3_changeRow cX3_changeRow 4 (some .boolean), Cond.fieldLink RX3 30 "Migrationledger" "tried" "[I", Cond.methodLink RX3 132 yX2_copyRow, Cond.instanceMethod yX2_copyRow, Cond.selects RX2 yX2_copyRow yX2_copyRow, Cond.code yX2_copyRow cX2_copyRow 4 none, Cond.methodLink RX2 18 yX2_cell, Cond.instanceMethod yX2_cell, Cond.selects RX2 yX2_cell yX2_cell, Cond.code yX2_cell cX2_cell 3 (some .int), Cond.fieldLink RX2 9 "Migrationledger$Table" "cells" "[I", Cond.methodLink RX3 136 yX3_bringTried, Cond.instanceMethod yX3_bringTried, Cond.selects RX3 yX3_bringTried yX3_bringTried, Cond.code yX3_bringTried cX3_bringTried 4 (some .boolean), Cond.fieldLink RX3 10 "Migrationledger" "list" "LMigrationledger$ChangeList;", Cond.methodLink RX3 239 yX0_applyTo]
def wsX3_goThrough_r3 : List Cond := [Cond.instanceMethod yX0_applyTo, Cond.selects RX0 yX0_applyTo yX0_applyTo, Cond.initialized RX0, Cond.code yX0_applyTo cX0_applyTo 7 (some .boolean), Cond.fieldLink RX0 15 "Migrationledger$ChangeList" "columns" "[I", Cond.fieldLink RX0 18 "Migrationledger$ChangeList" "operands" "[I", Cond.fieldLink RX0 9 "Migrationledger$ChangeList" "kinds" "[I", Cond.methodLink RX0 41 yX0_putResult, Cond.static yX0_putResult, Cond.code yX0_putResult cX0_putResult 4 (some .boolean), Cond.static yX3_isTableValue, Cond.code yX3_isTableValue cX3_isTableValue 2 (some .boolean), Cond.constantLong RX3 246 (-1000000000), Cond.constantLong RX3 248 (1000000000), Cond.methodLink RX0 45 yX0_exchange, Cond.static yX0_exchange, Cond.code yX0_exchange cX0_exchange 4 (some .boolean), Cond.methodLink RX3 243 yX0_undoOn, Cond.instanceMethod yX0_undoOn, Cond.selects RX0 yX0_undoOn yX0_undoOn, Cond.code yX0_undoOn cX0_undoOn 7 (some .boolean), Cond.methodLink RX3 236 yX2_storeRow, Cond.instanceMethod yX2_storeRow, Cond.selects RX2 yX2_storeRow yX2_storeRow]
def wsX3_goThrough_r4 : List Cond := [Cond.code yX2_storeRow cX2_storeRow 4 none, Cond.methodLink RX2 22 yX2_setCell, Cond.instanceMethod yX2_setCell, Cond.selects RX2 yX2_setCell yX2_setCell, Cond.code yX2_setCell cX2_setCell 4 none, Cond.methodLink RX3 105 yX2_setVersion, Cond.instanceMethod yX2_setVersion, Cond.selects RX2 yX2_setVersion yX2_setVersion, Cond.code yX2_setVersion cX2_setVersion 3 none, Cond.methodLink RX3 230 yX3_positionBehind, Cond.instanceMethod yX3_positionBehind, Cond.selects RX3 yX3_positionBehind yX3_positionBehind, Cond.code yX3_positionBehind cX3_positionBehind 2 (some .int), Cond.methodLink RX3 169 yX1_setCrashed, Cond.instanceMethod yX1_setCrashed, Cond.selects RX1 yX1_setCrashed yX1_setCrashed, Cond.initialized RX1, Cond.code yX1_setCrashed cX1_setCrashed 3 none, Cond.fieldLink RX1 9 "Migrationledger$Lock" "crashed" "[Z", Cond.methodLink RX3 233 yX3_endIfAllPassed, Cond.instanceMethod yX3_endIfAllPassed, Cond.selects RX3 yX3_endIfAllPassed yX3_endIfAllPassed, Cond.code yX3_endIfAllPassed cX3_endIfAllPassed 1 none, Cond.methodLink RX3 202 yX3_idsLeft]
def wsX3_goThrough_r5 : List Cond := [Cond.instanceMethod yX3_idsLeft, Cond.selects RX3 yX3_idsLeft yX3_idsLeft, Cond.code yX3_idsLeft cX3_idsLeft 1 (some .int)]
def wsX3_goThrough : List Cond := .code yX3_goThrough cX3_goThrough 7 (some .int) :: ((wsX3_goThrough_r1 ++ (wsX3_goThrough_r2 ++ (wsX3_goThrough_r3 ++ (wsX3_goThrough_r4 ++ wsX3_goThrough_r5)))) ++ wsX30 ++ wsX20 ++ wsX00 ++ wsX10)
def wsX3_step_r1 : List Cond := [Cond.classLink RX3 122 "java/lang/IllegalArgumentException", Cond.initialized "java/lang/IllegalArgumentException", Cond.methodLink RX3 205 Lib.Math.min.name, Cond.static Lib.Math.min.name, Cond.initialized "java/lang/Math", Cond.code Lib.Math.min.name Lib.Math.min.code 2 (some .int), Cond.methodLink RX3 142 yX3_requireWorker, Cond.static yX3_requireWorker, Cond.initialized RX3, Cond.code yX3_requireWorker cX3_requireWorker 1 none, Cond.methodLink RX3 158 yX3_requireAtWork, Cond.instanceMethod yX3_requireAtWork, Cond.selects RX3 yX3_requireAtWork yX3_requireAtWork, Cond.code yX3_requireAtWork cX3_requireAtWork 2 none, Cond.classLink RX3 46 "java/lang/IllegalStateException", Cond.initialized "java/lang/IllegalStateException", Cond.fieldLink RX3 26 "Migrationledger" "lock" "LMigrationledger$Lock;", Cond.methodLink RX3 147 yX3_requireNotCrashed, Cond.instanceMethod yX3_requireNotCrashed, Cond.selects RX3 yX3_requireNotCrashed yX3_requireNotCrashed, Cond.code yX3_requireNotCrashed cX3_requireNotCrashed 2 none, Cond.methodLink RX3 164 yX1_hasCrashed, Cond.instanceMethod yX1_hasCrashed, Cond.selects RX1 yX1_hasCrashed yX1_hasCrashed]
def wsX3_step_r2 : List Cond := [Cond.initialized RX1, Cond.code yX1_hasCrashed cX1_hasCrashed 2 (some .boolean), Cond.fieldLink RX1 9 "Migrationledger$Lock" "crashed" "[Z", Cond.methodLink RX3 150 yX1_owner, Cond.instanceMethod yX1_owner, Cond.selects RX1 yX1_owner yX1_owner, Cond.code yX1_owner cX1_owner 1 (some .int), Cond.fieldLink RX1 19 "Migrationledger$Lock" "time" "I", Cond.fieldLink RX1 22 "Migrationledger$Lock" "leaseEnd" "I", Cond.fieldLink RX1 15 "Migrationledger$Lock" "taker" "I", Cond.methodLink RX3 199 yX3_requireActive, Cond.instanceMethod yX3_requireActive, Cond.selects RX3 yX3_requireActive yX3_requireActive, Cond.code yX3_requireActive cX3_requireActive 1 none, Cond.methodLink RX3 61 yX3_isActive, Cond.instanceMethod yX3_isActive, Cond.selects RX3 yX3_isActive yX3_isActive, Cond.code yX3_isActive cX3_isActive 1 (some .boolean), Cond.fieldLink RX3 34 "Migrationledger" "phase" "I", Cond.methodLink RX3 202 yX3_idsLeft, Cond.instanceMethod yX3_idsLeft, Cond.selects RX3 yX3_idsLeft yX3_idsLeft, Cond.code yX3_idsLeft cX3_idsLeft 1 (some .int), Cond.fieldLink RX3 184 "Migrationledger" "position" "I"]
def wsX3_step_r3 : List Cond := [Cond.methodLink RX3 210 yX3_goThrough, Cond.instanceMethod yX3_goThrough, Cond.selects RX3 yX3_goThrough yX3_goThrough, Cond.code yX3_goThrough cX3_goThrough 7 (some .int), Cond.methodLink RX3 221 yX3_idBehind, Cond.instanceMethod yX3_idBehind, Cond.selects RX3 yX3_idBehind yX3_idBehind, Cond.code yX3_idBehind cX3_idBehind 2 (some .int), Cond.methodLink RX3 224 yX3_isToBeChanged, Cond.instanceMethod yX3_isToBeChanged, Cond.selects RX3 yX3_isToBeChanged yX3_isToBeChanged, Cond.code yX3_isToBeChanged cX3_isToBeChanged 3 (some .boolean), Cond.fieldLink RX3 19 "Migrationledger" "table" "LMigrationledger$Table;", Cond.methodLink RX3 93 yX2_isPresent, Cond.instanceMethod yX2_isPresent, Cond.selects RX2 yX2_isPresent yX2_isPresent, Cond.initialized RX2, Cond.code yX2_isPresent cX2_isPresent 2 (some .boolean), Cond.fieldLink RX2 15 "Migrationledger$Table" "versions" "[I", Cond.methodLink RX3 119 yX2_versionOf, Cond.instanceMethod yX2_versionOf, Cond.selects RX2 yX2_versionOf yX2_versionOf, Cond.code yX2_versionOf cX2_versionOf 2 (some .int), Cond.methodLink RX3 64 yX3_activeNumber]
def wsX3_step_r4 : List Cond := [Cond.instanceMethod yX3_activeNumber, Cond.selects RX3 yX3_activeNumber yX3_activeNumber, Cond.code yX3_activeNumber cX3_activeNumber 1 (some .int), Cond.fieldLink RX3 81 "Migrationledger" "done" "I", Cond.methodLink RX3 227 yX3_changeRow, Cond.instanceMethod yX3_changeRow, Cond.selects RX3 yX3_changeRow yX3_changeRow, Cond.code yX3_changeRow cX3_changeRow 4 (some .boolean), Cond.fieldLink RX3 30 "Migrationledger" "tried" "[I", Cond.methodLink RX3 132 yX2_copyRow, Cond.instanceMethod yX2_copyRow, Cond.selects RX2 yX2_copyRow yX2_copyRow, Cond.code yX2_copyRow cX2_copyRow 4 none, Cond.methodLink RX2 18 yX2_cell, Cond.instanceMethod yX2_cell, Cond.selects RX2 yX2_cell yX2_cell, Cond.code yX2_cell cX2_cell 3 (some .int), Cond.fieldLink RX2 9 "Migrationledger$Table" "cells" "[I", Cond.methodLink RX3 136 yX3_bringTried, Cond.instanceMethod yX3_bringTried, Cond.selects RX3 yX3_bringTried yX3_bringTried, Cond.code yX3_bringTried cX3_bringTried 4 (some .boolean), Cond.fieldLink RX3 10 "Migrationledger" "list" "LMigrationledger$ChangeList;", Cond.methodLink RX3 239 yX0_applyTo]
def wsX3_step_r5 : List Cond := [Cond.instanceMethod yX0_applyTo, Cond.selects RX0 yX0_applyTo yX0_applyTo, Cond.initialized RX0, Cond.code yX0_applyTo cX0_applyTo 7 (some .boolean), Cond.fieldLink RX0 15 "Migrationledger$ChangeList" "columns" "[I", Cond.fieldLink RX0 18 "Migrationledger$ChangeList" "operands" "[I", Cond.fieldLink RX0 9 "Migrationledger$ChangeList" "kinds" "[I", Cond.methodLink RX0 41 yX0_putResult, Cond.static yX0_putResult, Cond.code yX0_putResult cX0_putResult 4 (some .boolean), Cond.static yX3_isTableValue, Cond.code yX3_isTableValue cX3_isTableValue 2 (some .boolean), Cond.constantLong RX3 246 (-1000000000), Cond.constantLong RX3 248 (1000000000), Cond.methodLink RX0 45 yX0_exchange, Cond.static yX0_exchange, Cond.code yX0_exchange cX0_exchange 4 (some .boolean), Cond.methodLink RX3 243 yX0_undoOn, Cond.instanceMethod yX0_undoOn, Cond.selects RX0 yX0_undoOn yX0_undoOn, Cond.code yX0_undoOn cX0_undoOn 7 (some .boolean), Cond.methodLink RX3 236 yX2_storeRow, Cond.instanceMethod yX2_storeRow, Cond.selects RX2 yX2_storeRow yX2_storeRow]
def wsX3_step_r6 : List Cond := [Cond.code yX2_storeRow cX2_storeRow 4 none, Cond.methodLink RX2 22 yX2_setCell, Cond.instanceMethod yX2_setCell, Cond.selects RX2 yX2_setCell yX2_setCell, Cond.code yX2_setCell cX2_setCell 4 none, Cond.methodLink RX3 105 yX2_setVersion, Cond.instanceMethod yX2_setVersion, Cond.selects RX2 yX2_setVersion yX2_setVersion, Cond.code yX2_setVersion cX2_setVersion 3 none, Cond.methodLink RX3 230 yX3_positionBehind, Cond.instanceMethod yX3_positionBehind, Cond.selects RX3 yX3_positionBehind yX3_positionBehind, Cond.code yX3_positionBehind cX3_positionBehind 2 (some .int), Cond.methodLink RX3 169 yX1_setCrashed, Cond.instanceMethod yX1_setCrashed, Cond.selects RX1 yX1_setCrashed yX1_setCrashed, Cond.code yX1_setCrashed cX1_setCrashed 3 none, Cond.methodLink RX3 233 yX3_endIfAllPassed, Cond.instanceMethod yX3_endIfAllPassed, Cond.selects RX3 yX3_endIfAllPassed yX3_endIfAllPassed, Cond.code yX3_endIfAllPassed cX3_endIfAllPassed 1 none]
def wsX3_step : List Cond := .code yX3_step cX3_step 4 (some .int) :: ((wsX3_step_r1 ++ (wsX3_step_r2 ++ (wsX3_step_r3 ++ (wsX3_step_r4 ++ (wsX3_step_r5 ++ wsX3_step_r6))))) ++ wsX30 ++ wsX10 ++ wsX20 ++ wsX00 ++ (vx_atS RX3 126 "java/lang/IllegalArgumentException" ["java/lang/RuntimeException", "java/lang/Exception"]).filter goodWord ++ (vx_atS RX3 50 "java/lang/IllegalStateException" ["java/lang/RuntimeException", "java/lang/Exception"]).filter goodWord)
def wsX3_cursor : List Cond := .code yX3_cursor cX3_cursor 1 (some .int) :: ([.fieldLink RX3 184 "Migrationledger" "position" "I", .methodLink RX3 199 yX3_requireActive, .instanceMethod yX3_requireActive, .selects RX3 yX3_requireActive yX3_requireActive, .initialized RX3, .code yX3_requireActive cX3_requireActive 1 none, .classLink RX3 46 "java/lang/IllegalStateException", .initialized "java/lang/IllegalStateException", .methodLink RX3 61 yX3_isActive, .instanceMethod yX3_isActive, .selects RX3 yX3_isActive yX3_isActive, .code yX3_isActive cX3_isActive 1 (some .boolean), .fieldLink RX3 34 "Migrationledger" "phase" "I"] ++ wsX30 ++ (vx_atS RX3 50 "java/lang/IllegalStateException" ["java/lang/RuntimeException", "java/lang/Exception"]).filter goodWord)
def wsJ9_min_7cf53 : List Cond := .code yJ9_min_7cf53 cJ9_min_7cf53 2 (some .int) :: ([])
def wsL_adds_r1 : List Cond := [Cond.classLink RL 13 "java/lang/IllegalArgumentException", Cond.classLink RL 16 "java/lang/IllegalStateException", Cond.constant RL 15 (-2000000002), Cond.constant RL 18 (-2000000003), Cond.methodLink RL 7 yX3_addChange, Cond.instanceMethod yX3_addChange, Cond.selects RX3 yX3_addChange yX3_addChange, Cond.initialized RX3, Cond.code yX3_addChange cX3_addChange 4 (some .int), Cond.classLink RX3 46 "java/lang/IllegalStateException", Cond.initialized "java/lang/IllegalStateException", Cond.fieldLink RX3 10 "Migrationledger" "list" "LMigrationledger$ChangeList;", Cond.methodLink RX3 38 yX3_requireChangeParts, Cond.static yX3_requireChangeParts, Cond.code yX3_requireChangeParts cX3_requireChangeParts 3 none, Cond.classLink RX3 122 "java/lang/IllegalArgumentException", Cond.initialized "java/lang/IllegalArgumentException", Cond.methodLink RX3 109 yX3_requireColumn, Cond.static yX3_requireColumn, Cond.code yX3_requireColumn cX3_requireColumn 1 none, Cond.methodLink RX3 250 yX3_isColumn, Cond.static yX3_isColumn, Cond.code yX3_isColumn cX3_isColumn 1 (some .boolean), Cond.methodLink RX3 255 yX3_isOperand]
def wsL_adds_r2 : List Cond := [Cond.static yX3_isOperand, Cond.code yX3_isOperand cX3_isOperand 3 (some .boolean), Cond.methodLink RX3 42 yX0_isFull, Cond.instanceMethod yX0_isFull, Cond.selects RX0 yX0_isFull yX0_isFull, Cond.initialized RX0, Cond.code yX0_isFull cX0_isFull 1 (some .boolean), Cond.fieldLink RX0 24 "Migrationledger$ChangeList" "count" "I", Cond.methodLink RX3 53 yX0_append, Cond.instanceMethod yX0_append, Cond.selects RX0 yX0_append yX0_append, Cond.code yX0_append cX0_append 4 (some .int), Cond.methodLink RX0 28 yX0_put, Cond.instanceMethod yX0_put, Cond.selects RX0 yX0_put yX0_put, Cond.code yX0_put cX0_put 5 none, Cond.fieldLink RX0 9 "Migrationledger$ChangeList" "kinds" "[I", Cond.fieldLink RX0 15 "Migrationledger$ChangeList" "columns" "[I", Cond.fieldLink RX0 18 "Migrationledger$ChangeList" "operands" "[I"]
def wsL_adds : List Cond := .codeWith yL_adds cL_adds 5 (some .int) [(0, 7, 8, 13), (0, 7, 13, 16)] :: ((wsL_adds_r1 ++ wsL_adds_r2) ++ wsX30 ++ wsX00 ++ (vx_atS RX3 50 "java/lang/IllegalStateException" ["java/lang/RuntimeException", "java/lang/Exception"]).filter goodWord ++ (vx_atS RX3 126 "java/lang/IllegalArgumentException" ["java/lang/RuntimeException", "java/lang/Exception"]).filter goodWord)
def wsL_edits_r1 : List Cond := [Cond.classLink RL 13 "java/lang/IllegalArgumentException", Cond.classLink RL 23 "java/lang/IndexOutOfBoundsException", Cond.classLink RL 16 "java/lang/IllegalStateException", Cond.constant RL 15 (-2000000002), Cond.constant RL 25 (-2000000001), Cond.constant RL 18 (-2000000003), Cond.methodLink RL 19 yX3_edit, Cond.instanceMethod yX3_edit, Cond.selects RX3 yX3_edit yX3_edit, Cond.initialized RX3, Cond.code yX3_edit cX3_edit 5 (some .int), Cond.classLink RX3 46 "java/lang/IllegalStateException", Cond.initialized "java/lang/IllegalStateException", Cond.fieldLink RX3 10 "Migrationledger" "list" "LMigrationledger$ChangeList;", Cond.methodLink RX3 38 yX3_requireChangeParts, Cond.static yX3_requireChangeParts, Cond.code yX3_requireChangeParts cX3_requireChangeParts 3 none, Cond.classLink RX3 122 "java/lang/IllegalArgumentException", Cond.initialized "java/lang/IllegalArgumentException", Cond.methodLink RX3 109 yX3_requireColumn, Cond.static yX3_requireColumn, Cond.code yX3_requireColumn cX3_requireColumn 1 none, Cond.methodLink RX3 250 yX3_isColumn, Cond.static yX3_isColumn]
def wsL_edits_r2 : List Cond := [Cond.code yX3_isColumn cX3_isColumn 1 (some .boolean), Cond.methodLink RX3 255 yX3_isOperand, Cond.static yX3_isOperand, Cond.code yX3_isOperand cX3_isOperand 3 (some .boolean), Cond.methodLink RX3 57 yX3_requireListed, Cond.instanceMethod yX3_requireListed, Cond.selects RX3 yX3_requireListed yX3_requireListed, Cond.code yX3_requireListed cX3_requireListed 2 none, Cond.classLink RX3 276 "java/lang/IndexOutOfBoundsException", Cond.initialized "java/lang/IndexOutOfBoundsException", Cond.methodLink RX3 273 yX0_contains, Cond.instanceMethod yX0_contains, Cond.selects RX0 yX0_contains yX0_contains, Cond.initialized RX0, Cond.code yX0_contains cX0_contains 2 (some .boolean), Cond.fieldLink RX0 24 "Migrationledger$ChangeList" "count" "I", Cond.methodLink RX3 61 yX3_isActive, Cond.instanceMethod yX3_isActive, Cond.selects RX3 yX3_isActive yX3_isActive, Cond.code yX3_isActive cX3_isActive 1 (some .boolean), Cond.fieldLink RX3 34 "Migrationledger" "phase" "I", Cond.methodLink RX3 64 yX3_activeNumber, Cond.instanceMethod yX3_activeNumber, Cond.selects RX3 yX3_activeNumber yX3_activeNumber]
def wsL_edits_r3 : List Cond := [Cond.code yX3_activeNumber cX3_activeNumber 1 (some .int), Cond.fieldLink RX3 81 "Migrationledger" "done" "I", Cond.methodLink RX3 70 yX0_put, Cond.instanceMethod yX0_put, Cond.selects RX0 yX0_put yX0_put, Cond.code yX0_put cX0_put 5 none, Cond.fieldLink RX0 9 "Migrationledger$ChangeList" "kinds" "[I", Cond.fieldLink RX0 15 "Migrationledger$ChangeList" "columns" "[I", Cond.fieldLink RX0 18 "Migrationledger$ChangeList" "operands" "[I", Cond.methodLink RX3 74 yX0_checksumOf, Cond.instanceMethod yX0_checksumOf, Cond.selects RX0 yX0_checksumOf yX0_checksumOf, Cond.code yX0_checksumOf cX0_checksumOf 4 (some .int), Cond.constant RX0 32 (65521)]
def wsL_edits : List Cond := .codeWith yL_edits cL_edits 6 (some .int) [(0, 9, 10, 13), (0, 9, 15, 23), (0, 9, 20, 16)] :: ((wsL_edits_r1 ++ (wsL_edits_r2 ++ wsL_edits_r3)) ++ wsX30 ++ wsX00 ++ (vx_atS RX3 50 "java/lang/IllegalStateException" ["java/lang/RuntimeException", "java/lang/Exception"]).filter goodWord ++ (vx_atS RX3 126 "java/lang/IllegalArgumentException" ["java/lang/RuntimeException", "java/lang/Exception"]).filter goodWord ++ (vx_atS RX3 280 "java/lang/IndexOutOfBoundsException" ["java/lang/RuntimeException", "java/lang/Exception"]).filter goodWord)
def wsL_sum_r1 : List Cond := [Cond.classLink RL 23 "java/lang/IndexOutOfBoundsException", Cond.constant RL 25 (-2000000001), Cond.methodLink RL 26 yX3_checksum, Cond.instanceMethod yX3_checksum, Cond.selects RX3 yX3_checksum yX3_checksum, Cond.initialized RX3, Cond.code yX3_checksum cX3_checksum 2 (some .int), Cond.fieldLink RX3 10 "Migrationledger" "list" "LMigrationledger$ChangeList;", Cond.methodLink RX3 57 yX3_requireListed, Cond.instanceMethod yX3_requireListed, Cond.selects RX3 yX3_requireListed yX3_requireListed, Cond.code yX3_requireListed cX3_requireListed 2 none, Cond.classLink RX3 276 "java/lang/IndexOutOfBoundsException", Cond.initialized "java/lang/IndexOutOfBoundsException", Cond.methodLink RX3 273 yX0_contains, Cond.instanceMethod yX0_contains, Cond.selects RX0 yX0_contains yX0_contains, Cond.initialized RX0, Cond.code yX0_contains cX0_contains 2 (some .boolean), Cond.fieldLink RX0 24 "Migrationledger$ChangeList" "count" "I", Cond.methodLink RX3 74 yX0_checksumOf, Cond.instanceMethod yX0_checksumOf, Cond.selects RX0 yX0_checksumOf yX0_checksumOf, Cond.code yX0_checksumOf cX0_checksumOf 4 (some .int)]
def wsL_sum_r2 : List Cond := [Cond.fieldLink RX0 9 "Migrationledger$ChangeList" "kinds" "[I", Cond.fieldLink RX0 15 "Migrationledger$ChangeList" "columns" "[I", Cond.fieldLink RX0 18 "Migrationledger$ChangeList" "operands" "[I", Cond.constant RX0 32 (65521)]
def wsL_sum : List Cond := .codeWith yL_sum cL_sum 3 (some .int) [(0, 5, 6, 23)] :: ((wsL_sum_r1 ++ wsL_sum_r2) ++ wsX30 ++ wsX00 ++ (vx_atS RX3 280 "java/lang/IndexOutOfBoundsException" ["java/lang/RuntimeException", "java/lang/Exception"]).filter goodWord)
def wsL_state_r1 : List Cond := [Cond.classLink RL 23 "java/lang/IndexOutOfBoundsException", Cond.constant RL 25 (-2000000001), Cond.methodLink RL 30 yX3_state, Cond.instanceMethod yX3_state, Cond.selects RX3 yX3_state yX3_state, Cond.initialized RX3, Cond.code yX3_state cX3_state 2 (some .int), Cond.fieldLink RX3 81 "Migrationledger" "done" "I", Cond.fieldLink RX3 34 "Migrationledger" "phase" "I", Cond.methodLink RX3 57 yX3_requireListed, Cond.instanceMethod yX3_requireListed, Cond.selects RX3 yX3_requireListed yX3_requireListed, Cond.code yX3_requireListed cX3_requireListed 2 none, Cond.classLink RX3 276 "java/lang/IndexOutOfBoundsException", Cond.initialized "java/lang/IndexOutOfBoundsException", Cond.fieldLink RX3 10 "Migrationledger" "list" "LMigrationledger$ChangeList;", Cond.methodLink RX3 273 yX0_contains, Cond.instanceMethod yX0_contains, Cond.selects RX0 yX0_contains yX0_contains, Cond.initialized RX0, Cond.code yX0_contains cX0_contains 2 (some .boolean), Cond.fieldLink RX0 24 "Migrationledger$ChangeList" "count" "I", Cond.methodLink RX3 64 yX3_activeNumber, Cond.instanceMethod yX3_activeNumber]
def wsL_state_r2 : List Cond := [Cond.selects RX3 yX3_activeNumber yX3_activeNumber, Cond.code yX3_activeNumber cX3_activeNumber 1 (some .int)]
def wsL_state : List Cond := .codeWith yL_state cL_state 3 (some .int) [(0, 5, 6, 23)] :: ((wsL_state_r1 ++ wsL_state_r2) ++ wsX30 ++ wsX00 ++ (vx_atS RX3 280 "java/lang/IndexOutOfBoundsException" ["java/lang/RuntimeException", "java/lang/Exception"]).filter goodWord)
def wsL_inserts_r1 : List Cond := [Cond.classLink RL 13 "java/lang/IllegalArgumentException", Cond.classLink RL 16 "java/lang/IllegalStateException", Cond.constant RL 15 (-2000000002), Cond.constant RL 18 (-2000000003), Cond.methodLink RL 33 yX3_insert, Cond.instanceMethod yX3_insert, Cond.selects RX3 yX3_insert yX3_insert, Cond.initialized RX3, Cond.code yX3_insert cX3_insert 6 (some .int), Cond.classLink RX3 46 "java/lang/IllegalStateException", Cond.initialized "java/lang/IllegalStateException", Cond.fieldLink RX3 19 "Migrationledger" "table" "LMigrationledger$Table;", Cond.methodLink RX3 87 yX3_requireId, Cond.static yX3_requireId, Cond.code yX3_requireId cX3_requireId 1 none, Cond.classLink RX3 122 "java/lang/IllegalArgumentException", Cond.initialized "java/lang/IllegalArgumentException", Cond.methodLink RX3 90 yX3_requireTableValue, Cond.static yX3_requireTableValue, Cond.code yX3_requireTableValue cX3_requireTableValue 1 none, Cond.methodLink RX3 265 yX3_isTableValue, Cond.static yX3_isTableValue, Cond.code yX3_isTableValue cX3_isTableValue 2 (some .boolean), Cond.constantLong RX3 246 (-1000000000)]
def wsL_inserts_r2 : List Cond := [Cond.constantLong RX3 248 (1000000000), Cond.methodLink RX3 93 yX2_isPresent, Cond.instanceMethod yX2_isPresent, Cond.selects RX2 yX2_isPresent yX2_isPresent, Cond.initialized RX2, Cond.code yX2_isPresent cX2_isPresent 2 (some .boolean), Cond.fieldLink RX2 15 "Migrationledger$Table" "versions" "[I", Cond.methodLink RX3 99 yX3_versionForNewRow, Cond.instanceMethod yX3_versionForNewRow, Cond.selects RX3 yX3_versionForNewRow yX3_versionForNewRow, Cond.code yX3_versionForNewRow cX3_versionForNewRow 2 (some .int), Cond.fieldLink RX3 184 "Migrationledger" "position" "I", Cond.fieldLink RX3 81 "Migrationledger" "done" "I", Cond.methodLink RX3 61 yX3_isActive, Cond.instanceMethod yX3_isActive, Cond.selects RX3 yX3_isActive yX3_isActive, Cond.code yX3_isActive cX3_isActive 1 (some .boolean), Cond.fieldLink RX3 34 "Migrationledger" "phase" "I", Cond.methodLink RX3 64 yX3_activeNumber, Cond.instanceMethod yX3_activeNumber, Cond.selects RX3 yX3_activeNumber yX3_activeNumber, Cond.code yX3_activeNumber cX3_activeNumber 1 (some .int), Cond.methodLink RX3 102 yX2_setCell, Cond.instanceMethod yX2_setCell]
def wsL_inserts_r3 : List Cond := [Cond.selects RX2 yX2_setCell yX2_setCell, Cond.code yX2_setCell cX2_setCell 4 none, Cond.fieldLink RX2 9 "Migrationledger$Table" "cells" "[I", Cond.methodLink RX3 105 yX2_setVersion, Cond.instanceMethod yX2_setVersion, Cond.selects RX2 yX2_setVersion yX2_setVersion, Cond.code yX2_setVersion cX2_setVersion 3 none]
def wsL_inserts : List Cond := .codeWith yL_inserts cL_inserts 6 (some .int) [(0, 9, 10, 13), (0, 9, 15, 16)] :: ((wsL_inserts_r1 ++ (wsL_inserts_r2 ++ wsL_inserts_r3)) ++ wsX30 ++ wsX20 ++ (vx_atS RX3 50 "java/lang/IllegalStateException" ["java/lang/RuntimeException", "java/lang/Exception"]).filter goodWord ++ (vx_atS RX3 126 "java/lang/IllegalArgumentException" ["java/lang/RuntimeException", "java/lang/Exception"]).filter goodWord)
def wsL_writes_r1 : List Cond := [Cond.classLink RL 13 "java/lang/IllegalArgumentException", Cond.classLink RL 23 "java/lang/IndexOutOfBoundsException", Cond.constant RL 15 (-2000000002), Cond.constant RL 25 (-2000000001), Cond.methodLink RL 36 yX3_write, Cond.instanceMethod yX3_write, Cond.selects RX3 yX3_write yX3_write, Cond.initialized RX3, Cond.code yX3_write cX3_write 5 (some .int), Cond.fieldLink RX3 19 "Migrationledger" "table" "LMigrationledger$Table;", Cond.methodLink RX3 87 yX3_requireId, Cond.static yX3_requireId, Cond.code yX3_requireId cX3_requireId 1 none, Cond.classLink RX3 122 "java/lang/IllegalArgumentException", Cond.initialized "java/lang/IllegalArgumentException", Cond.methodLink RX3 109 yX3_requireColumn, Cond.static yX3_requireColumn, Cond.code yX3_requireColumn cX3_requireColumn 1 none, Cond.methodLink RX3 250 yX3_isColumn, Cond.static yX3_isColumn, Cond.code yX3_isColumn cX3_isColumn 1 (some .boolean), Cond.methodLink RX3 90 yX3_requireTableValue, Cond.static yX3_requireTableValue, Cond.code yX3_requireTableValue cX3_requireTableValue 1 none]
def wsL_writes_r2 : List Cond := [Cond.methodLink RX3 265 yX3_isTableValue, Cond.static yX3_isTableValue, Cond.code yX3_isTableValue cX3_isTableValue 2 (some .boolean), Cond.constantLong RX3 246 (-1000000000), Cond.constantLong RX3 248 (1000000000), Cond.methodLink RX3 112 yX3_requirePresent, Cond.instanceMethod yX3_requirePresent, Cond.selects RX3 yX3_requirePresent yX3_requirePresent, Cond.code yX3_requirePresent cX3_requirePresent 2 none, Cond.classLink RX3 276 "java/lang/IndexOutOfBoundsException", Cond.initialized "java/lang/IndexOutOfBoundsException", Cond.methodLink RX3 93 yX2_isPresent, Cond.instanceMethod yX2_isPresent, Cond.selects RX2 yX2_isPresent yX2_isPresent, Cond.initialized RX2, Cond.code yX2_isPresent cX2_isPresent 2 (some .boolean), Cond.fieldLink RX2 15 "Migrationledger$Table" "versions" "[I", Cond.methodLink RX3 115 yX2_cell, Cond.instanceMethod yX2_cell, Cond.selects RX2 yX2_cell yX2_cell, Cond.code yX2_cell cX2_cell 3 (some .int), Cond.fieldLink RX2 9 "Migrationledger$Table" "cells" "[I", Cond.methodLink RX3 102 yX2_setCell, Cond.instanceMethod yX2_setCell]
def wsL_writes_r3 : List Cond := [Cond.selects RX2 yX2_setCell yX2_setCell, Cond.code yX2_setCell cX2_setCell 4 none]
def wsL_writes : List Cond := .codeWith yL_writes cL_writes 5 (some .int) [(0, 7, 8, 13), (0, 7, 13, 23)] :: ((wsL_writes_r1 ++ (wsL_writes_r2 ++ wsL_writes_r3)) ++ wsX30 ++ wsX20 ++ (vx_atS RX3 126 "java/lang/IllegalArgumentException" ["java/lang/RuntimeException", "java/lang/Exception"]).filter goodWord ++ (vx_atS RX3 280 "java/lang/IndexOutOfBoundsException" ["java/lang/RuntimeException", "java/lang/Exception"]).filter goodWord)
def wsL_deletes_r1 : List Cond := [Cond.classLink RL 13 "java/lang/IllegalArgumentException", Cond.classLink RL 23 "java/lang/IndexOutOfBoundsException", Cond.constant RL 15 (-2000000002), Cond.constant RL 25 (-2000000001), Cond.methodLink RL 39 yX3_delete, Cond.instanceMethod yX3_delete, Cond.selects RX3 yX3_delete yX3_delete, Cond.initialized RX3, Cond.code yX3_delete cX3_delete 3 (some .int), Cond.fieldLink RX3 19 "Migrationledger" "table" "LMigrationledger$Table;", Cond.methodLink RX3 87 yX3_requireId, Cond.static yX3_requireId, Cond.code yX3_requireId cX3_requireId 1 none, Cond.classLink RX3 122 "java/lang/IllegalArgumentException", Cond.initialized "java/lang/IllegalArgumentException", Cond.methodLink RX3 112 yX3_requirePresent, Cond.instanceMethod yX3_requirePresent, Cond.selects RX3 yX3_requirePresent yX3_requirePresent, Cond.code yX3_requirePresent cX3_requirePresent 2 none, Cond.classLink RX3 276 "java/lang/IndexOutOfBoundsException", Cond.initialized "java/lang/IndexOutOfBoundsException", Cond.methodLink RX3 93 yX2_isPresent, Cond.instanceMethod yX2_isPresent, Cond.selects RX2 yX2_isPresent yX2_isPresent]
def wsL_deletes_r2 : List Cond := [Cond.initialized RX2, Cond.code yX2_isPresent cX2_isPresent 2 (some .boolean), Cond.fieldLink RX2 15 "Migrationledger$Table" "versions" "[I", Cond.methodLink RX3 119 yX2_versionOf, Cond.instanceMethod yX2_versionOf, Cond.selects RX2 yX2_versionOf yX2_versionOf, Cond.code yX2_versionOf cX2_versionOf 2 (some .int), Cond.methodLink RX3 105 yX2_setVersion, Cond.instanceMethod yX2_setVersion, Cond.selects RX2 yX2_setVersion yX2_setVersion, Cond.code yX2_setVersion cX2_setVersion 3 none]
def wsL_deletes : List Cond := .codeWith yL_deletes cL_deletes 3 (some .int) [(0, 5, 6, 13), (0, 5, 10, 23)] :: ((wsL_deletes_r1 ++ wsL_deletes_r2) ++ wsX30 ++ wsX20 ++ (vx_atS RX3 126 "java/lang/IllegalArgumentException" ["java/lang/RuntimeException", "java/lang/Exception"]).filter goodWord ++ (vx_atS RX3 280 "java/lang/IndexOutOfBoundsException" ["java/lang/RuntimeException", "java/lang/Exception"]).filter goodWord)
def wsL_value_r1 : List Cond := [Cond.classLink RL 13 "java/lang/IllegalArgumentException", Cond.classLink RL 23 "java/lang/IndexOutOfBoundsException", Cond.constant RL 15 (-2000000002), Cond.constant RL 25 (-2000000001), Cond.methodLink RL 42 yX3_value, Cond.instanceMethod yX3_value, Cond.selects RX3 yX3_value yX3_value, Cond.initialized RX3, Cond.code yX3_value cX3_value 3 (some .int), Cond.fieldLink RX3 19 "Migrationledger" "table" "LMigrationledger$Table;", Cond.methodLink RX3 87 yX3_requireId, Cond.static yX3_requireId, Cond.code yX3_requireId cX3_requireId 1 none, Cond.classLink RX3 122 "java/lang/IllegalArgumentException", Cond.initialized "java/lang/IllegalArgumentException", Cond.methodLink RX3 109 yX3_requireColumn, Cond.static yX3_requireColumn, Cond.code yX3_requireColumn cX3_requireColumn 1 none, Cond.methodLink RX3 250 yX3_isColumn, Cond.static yX3_isColumn, Cond.code yX3_isColumn cX3_isColumn 1 (some .boolean), Cond.methodLink RX3 112 yX3_requirePresent, Cond.instanceMethod yX3_requirePresent, Cond.selects RX3 yX3_requirePresent yX3_requirePresent]
def wsL_value_r2 : List Cond := [Cond.code yX3_requirePresent cX3_requirePresent 2 none, Cond.classLink RX3 276 "java/lang/IndexOutOfBoundsException", Cond.initialized "java/lang/IndexOutOfBoundsException", Cond.methodLink RX3 93 yX2_isPresent, Cond.instanceMethod yX2_isPresent, Cond.selects RX2 yX2_isPresent yX2_isPresent, Cond.initialized RX2, Cond.code yX2_isPresent cX2_isPresent 2 (some .boolean), Cond.fieldLink RX2 15 "Migrationledger$Table" "versions" "[I", Cond.methodLink RX3 115 yX2_cell, Cond.instanceMethod yX2_cell, Cond.selects RX2 yX2_cell yX2_cell, Cond.code yX2_cell cX2_cell 3 (some .int), Cond.fieldLink RX2 9 "Migrationledger$Table" "cells" "[I"]
def wsL_value : List Cond := .codeWith yL_value cL_value 4 (some .int) [(0, 6, 7, 13), (0, 6, 11, 23)] :: ((wsL_value_r1 ++ wsL_value_r2) ++ wsX30 ++ wsX20 ++ (vx_atS RX3 126 "java/lang/IllegalArgumentException" ["java/lang/RuntimeException", "java/lang/Exception"]).filter goodWord ++ (vx_atS RX3 280 "java/lang/IndexOutOfBoundsException" ["java/lang/RuntimeException", "java/lang/Exception"]).filter goodWord)
def wsL_version : List Cond := .codeWith yL_version cL_version 3 (some .int) [(0, 5, 6, 13)] :: ([.classLink RL 13 "java/lang/IllegalArgumentException", .constant RL 15 (-2000000002), .methodLink RL 46 yX3_version, .instanceMethod yX3_version, .selects RX3 yX3_version yX3_version, .initialized RX3, .code yX3_version cX3_version 2 (some .int), .fieldLink RX3 19 "Migrationledger" "table" "LMigrationledger$Table;", .methodLink RX3 87 yX3_requireId, .static yX3_requireId, .code yX3_requireId cX3_requireId 1 none, .classLink RX3 122 "java/lang/IllegalArgumentException", .initialized "java/lang/IllegalArgumentException", .methodLink RX3 119 yX2_versionOf, .instanceMethod yX2_versionOf, .selects RX2 yX2_versionOf yX2_versionOf, .initialized RX2, .code yX2_versionOf cX2_versionOf 2 (some .int), .fieldLink RX2 15 "Migrationledger$Table" "versions" "[I"] ++ wsX30 ++ wsX20 ++ (vx_atS RX3 126 "java/lang/IllegalArgumentException" ["java/lang/RuntimeException", "java/lang/Exception"]).filter goodWord)
def wsL_rowsAt : List Cond := .codeWith yL_rowsAt cL_rowsAt 3 (some .int) [(0, 5, 6, 13)] :: ([.classLink RL 13 "java/lang/IllegalArgumentException", .constant RL 15 (-2000000002), .methodLink RL 49 yX3_rowsAt, .instanceMethod yX3_rowsAt, .selects RX3 yX3_rowsAt yX3_rowsAt, .initialized RX3, .code yX3_rowsAt cX3_rowsAt 2 (some .int), .classLink RX3 122 "java/lang/IllegalArgumentException", .initialized "java/lang/IllegalArgumentException", .fieldLink RX3 19 "Migrationledger" "table" "LMigrationledger$Table;", .methodLink RX3 127 yX2_countWithVersion, .instanceMethod yX2_countWithVersion, .selects RX2 yX2_countWithVersion yX2_countWithVersion, .initialized RX2, .code yX2_countWithVersion cX2_countWithVersion 4 (some .int), .fieldLink RX2 15 "Migrationledger$Table" "versions" "[I"] ++ wsX30 ++ wsX20 ++ (vx_atS RX3 126 "java/lang/IllegalArgumentException" ["java/lang/RuntimeException", "java/lang/Exception"]).filter goodWord)
def wsL_valueAt_r1 : List Cond := [Cond.classLink RL 13 "java/lang/IllegalArgumentException", Cond.classLink RL 23 "java/lang/IndexOutOfBoundsException", Cond.classLink RL 16 "java/lang/IllegalStateException", Cond.constant RL 15 (-2000000002), Cond.constant RL 25 (-2000000001), Cond.constant RL 18 (-2000000003), Cond.methodLink RL 52 yX3_valueAt, Cond.instanceMethod yX3_valueAt, Cond.selects RX3 yX3_valueAt yX3_valueAt, Cond.initialized RX3, Cond.code yX3_valueAt cX3_valueAt 4 (some .int), Cond.classLink RX3 122 "java/lang/IllegalArgumentException", Cond.initialized "java/lang/IllegalArgumentException", Cond.classLink RX3 46 "java/lang/IllegalStateException", Cond.initialized "java/lang/IllegalStateException", Cond.fieldLink RX3 10 "Migrationledger" "list" "LMigrationledger$ChangeList;", Cond.fieldLink RX3 19 "Migrationledger" "table" "LMigrationledger$Table;", Cond.fieldLink RX3 30 "Migrationledger" "tried" "[I", Cond.methodLink RX3 87 yX3_requireId, Cond.static yX3_requireId, Cond.code yX3_requireId cX3_requireId 1 none, Cond.methodLink RX3 109 yX3_requireColumn, Cond.static yX3_requireColumn, Cond.code yX3_requireColumn cX3_requireColumn 1 none]
def wsL_valueAt_r2 : List Cond := [Cond.methodLink RX3 250 yX3_isColumn, Cond.static yX3_isColumn, Cond.code yX3_isColumn cX3_isColumn 1 (some .boolean), Cond.methodLink RX3 78 yX0_count, Cond.instanceMethod yX0_count, Cond.selects RX0 yX0_count yX0_count, Cond.initialized RX0, Cond.code yX0_count cX0_count 1 (some .int), Cond.fieldLink RX0 24 "Migrationledger$ChangeList" "count" "I", Cond.methodLink RX3 112 yX3_requirePresent, Cond.instanceMethod yX3_requirePresent, Cond.selects RX3 yX3_requirePresent yX3_requirePresent, Cond.code yX3_requirePresent cX3_requirePresent 2 none, Cond.classLink RX3 276 "java/lang/IndexOutOfBoundsException", Cond.initialized "java/lang/IndexOutOfBoundsException", Cond.methodLink RX3 93 yX2_isPresent, Cond.instanceMethod yX2_isPresent, Cond.selects RX2 yX2_isPresent yX2_isPresent, Cond.initialized RX2, Cond.code yX2_isPresent cX2_isPresent 2 (some .boolean), Cond.fieldLink RX2 15 "Migrationledger$Table" "versions" "[I", Cond.methodLink RX3 132 yX2_copyRow, Cond.instanceMethod yX2_copyRow, Cond.selects RX2 yX2_copyRow yX2_copyRow]
def wsL_valueAt_r3 : List Cond := [Cond.code yX2_copyRow cX2_copyRow 4 none, Cond.methodLink RX2 18 yX2_cell, Cond.instanceMethod yX2_cell, Cond.selects RX2 yX2_cell yX2_cell, Cond.code yX2_cell cX2_cell 3 (some .int), Cond.fieldLink RX2 9 "Migrationledger$Table" "cells" "[I", Cond.methodLink RX3 119 yX2_versionOf, Cond.instanceMethod yX2_versionOf, Cond.selects RX2 yX2_versionOf yX2_versionOf, Cond.code yX2_versionOf cX2_versionOf 2 (some .int), Cond.methodLink RX3 136 yX3_bringTried, Cond.instanceMethod yX3_bringTried, Cond.selects RX3 yX3_bringTried yX3_bringTried, Cond.code yX3_bringTried cX3_bringTried 4 (some .boolean), Cond.methodLink RX3 239 yX0_applyTo, Cond.instanceMethod yX0_applyTo, Cond.selects RX0 yX0_applyTo yX0_applyTo, Cond.code yX0_applyTo cX0_applyTo 7 (some .boolean), Cond.fieldLink RX0 15 "Migrationledger$ChangeList" "columns" "[I", Cond.fieldLink RX0 18 "Migrationledger$ChangeList" "operands" "[I", Cond.fieldLink RX0 9 "Migrationledger$ChangeList" "kinds" "[I", Cond.methodLink RX0 41 yX0_putResult, Cond.static yX0_putResult, Cond.code yX0_putResult cX0_putResult 4 (some .boolean)]
def wsL_valueAt_r4 : List Cond := [Cond.static yX3_isTableValue, Cond.code yX3_isTableValue cX3_isTableValue 2 (some .boolean), Cond.constantLong RX3 246 (-1000000000), Cond.constantLong RX3 248 (1000000000), Cond.methodLink RX0 45 yX0_exchange, Cond.static yX0_exchange, Cond.code yX0_exchange cX0_exchange 4 (some .boolean), Cond.methodLink RX3 243 yX0_undoOn, Cond.instanceMethod yX0_undoOn, Cond.selects RX0 yX0_undoOn yX0_undoOn, Cond.code yX0_undoOn cX0_undoOn 7 (some .boolean)]
def wsL_valueAt : List Cond := .codeWith yL_valueAt cL_valueAt 5 (some .int) [(0, 7, 8, 13), (0, 7, 13, 23), (0, 7, 18, 16)] :: ((wsL_valueAt_r1 ++ (wsL_valueAt_r2 ++ (wsL_valueAt_r3 ++ wsL_valueAt_r4))) ++ wsX30 ++ wsX00 ++ wsX20 ++ (vx_atS RX3 126 "java/lang/IllegalArgumentException" ["java/lang/RuntimeException", "java/lang/Exception"]).filter goodWord ++ (vx_atS RX3 50 "java/lang/IllegalStateException" ["java/lang/RuntimeException", "java/lang/Exception"]).filter goodWord ++ (vx_atS RX3 280 "java/lang/IndexOutOfBoundsException" ["java/lang/RuntimeException", "java/lang/Exception"]).filter goodWord)
def wsL_takes_r1 : List Cond := [Cond.classLink RL 13 "java/lang/IllegalArgumentException", Cond.classLink RL 16 "java/lang/IllegalStateException", Cond.constant RL 15 (-2000000002), Cond.constant RL 18 (-2000000003), Cond.methodLink RL 55 yX3_take, Cond.instanceMethod yX3_take, Cond.selects RX3 yX3_take yX3_take, Cond.initialized RX3, Cond.code yX3_take cX3_take 4 (some .int), Cond.classLink RX3 122 "java/lang/IllegalArgumentException", Cond.initialized "java/lang/IllegalArgumentException", Cond.classLink RX3 46 "java/lang/IllegalStateException", Cond.initialized "java/lang/IllegalStateException", Cond.fieldLink RX3 26 "Migrationledger" "lock" "LMigrationledger$Lock;", Cond.methodLink RX3 142 yX3_requireWorker, Cond.static yX3_requireWorker, Cond.code yX3_requireWorker cX3_requireWorker 1 none, Cond.methodLink RX3 147 yX3_requireNotCrashed, Cond.instanceMethod yX3_requireNotCrashed, Cond.selects RX3 yX3_requireNotCrashed yX3_requireNotCrashed, Cond.code yX3_requireNotCrashed cX3_requireNotCrashed 2 none, Cond.methodLink RX3 164 yX1_hasCrashed, Cond.instanceMethod yX1_hasCrashed, Cond.selects RX1 yX1_hasCrashed yX1_hasCrashed]
def wsL_takes_r2 : List Cond := [Cond.initialized RX1, Cond.code yX1_hasCrashed cX1_hasCrashed 2 (some .boolean), Cond.fieldLink RX1 9 "Migrationledger$Lock" "crashed" "[Z", Cond.methodLink RX3 150 yX1_owner, Cond.instanceMethod yX1_owner, Cond.selects RX1 yX1_owner yX1_owner, Cond.code yX1_owner cX1_owner 1 (some .int), Cond.fieldLink RX1 19 "Migrationledger$Lock" "time" "I", Cond.fieldLink RX1 22 "Migrationledger$Lock" "leaseEnd" "I", Cond.fieldLink RX1 15 "Migrationledger$Lock" "taker" "I", Cond.methodLink RX3 155 yX1_grant, Cond.instanceMethod yX1_grant, Cond.selects RX1 yX1_grant yX1_grant, Cond.code yX1_grant cX1_grant 3 (some .int)]
def wsL_takes : List Cond := .codeWith yL_takes cL_takes 4 (some .int) [(0, 6, 7, 13), (0, 6, 11, 16)] :: ((wsL_takes_r1 ++ wsL_takes_r2) ++ wsX30 ++ wsX10 ++ (vx_atS RX3 126 "java/lang/IllegalArgumentException" ["java/lang/RuntimeException", "java/lang/Exception"]).filter goodWord ++ (vx_atS RX3 50 "java/lang/IllegalStateException" ["java/lang/RuntimeException", "java/lang/Exception"]).filter goodWord)
def wsL_gives_r1 : List Cond := [Cond.classLink RL 13 "java/lang/IllegalArgumentException", Cond.classLink RL 16 "java/lang/IllegalStateException", Cond.constant RL 15 (-2000000002), Cond.constant RL 18 (-2000000003), Cond.methodLink RL 58 yX3_giveBack, Cond.instanceMethod yX3_giveBack, Cond.selects RX3 yX3_giveBack yX3_giveBack, Cond.initialized RX3, Cond.code yX3_giveBack cX3_giveBack 2 none, Cond.fieldLink RX3 26 "Migrationledger" "lock" "LMigrationledger$Lock;", Cond.methodLink RX3 142 yX3_requireWorker, Cond.static yX3_requireWorker, Cond.code yX3_requireWorker cX3_requireWorker 1 none, Cond.classLink RX3 122 "java/lang/IllegalArgumentException", Cond.initialized "java/lang/IllegalArgumentException", Cond.methodLink RX3 158 yX3_requireAtWork, Cond.instanceMethod yX3_requireAtWork, Cond.selects RX3 yX3_requireAtWork yX3_requireAtWork, Cond.code yX3_requireAtWork cX3_requireAtWork 2 none, Cond.classLink RX3 46 "java/lang/IllegalStateException", Cond.initialized "java/lang/IllegalStateException", Cond.methodLink RX3 147 yX3_requireNotCrashed, Cond.instanceMethod yX3_requireNotCrashed, Cond.selects RX3 yX3_requireNotCrashed yX3_requireNotCrashed]
def wsL_gives_r2 : List Cond := [Cond.code yX3_requireNotCrashed cX3_requireNotCrashed 2 none, Cond.methodLink RX3 164 yX1_hasCrashed, Cond.instanceMethod yX1_hasCrashed, Cond.selects RX1 yX1_hasCrashed yX1_hasCrashed, Cond.initialized RX1, Cond.code yX1_hasCrashed cX1_hasCrashed 2 (some .boolean), Cond.fieldLink RX1 9 "Migrationledger$Lock" "crashed" "[Z", Cond.methodLink RX3 150 yX1_owner, Cond.instanceMethod yX1_owner, Cond.selects RX1 yX1_owner yX1_owner, Cond.code yX1_owner cX1_owner 1 (some .int), Cond.fieldLink RX1 19 "Migrationledger$Lock" "time" "I", Cond.fieldLink RX1 22 "Migrationledger$Lock" "leaseEnd" "I", Cond.fieldLink RX1 15 "Migrationledger$Lock" "taker" "I", Cond.methodLink RX3 161 yX1_release, Cond.instanceMethod yX1_release, Cond.selects RX1 yX1_release yX1_release, Cond.code yX1_release cX1_release 1 none]
def wsL_gives : List Cond := .codeWith yL_gives cL_gives 3 (some .int) [(0, 5, 8, 13), (0, 5, 12, 16)] :: ((wsL_gives_r1 ++ wsL_gives_r2) ++ wsX30 ++ wsX10 ++ (vx_atS RX3 126 "java/lang/IllegalArgumentException" ["java/lang/RuntimeException", "java/lang/Exception"]).filter goodWord ++ (vx_atS RX3 50 "java/lang/IllegalStateException" ["java/lang/RuntimeException", "java/lang/Exception"]).filter goodWord)
def wsL_restarts_r1 : List Cond := [Cond.classLink RL 13 "java/lang/IllegalArgumentException", Cond.classLink RL 16 "java/lang/IllegalStateException", Cond.constant RL 15 (-2000000002), Cond.constant RL 18 (-2000000003), Cond.methodLink RL 62 yX3_restart, Cond.instanceMethod yX3_restart, Cond.selects RX3 yX3_restart yX3_restart, Cond.initialized RX3, Cond.code yX3_restart cX3_restart 2 (some .boolean), Cond.classLink RX3 46 "java/lang/IllegalStateException", Cond.initialized "java/lang/IllegalStateException", Cond.fieldLink RX3 26 "Migrationledger" "lock" "LMigrationledger$Lock;", Cond.methodLink RX3 142 yX3_requireWorker, Cond.static yX3_requireWorker, Cond.code yX3_requireWorker cX3_requireWorker 1 none, Cond.classLink RX3 122 "java/lang/IllegalArgumentException", Cond.initialized "java/lang/IllegalArgumentException", Cond.methodLink RX3 164 yX1_hasCrashed, Cond.instanceMethod yX1_hasCrashed, Cond.selects RX1 yX1_hasCrashed yX1_hasCrashed, Cond.initialized RX1, Cond.code yX1_hasCrashed cX1_hasCrashed 2 (some .boolean), Cond.fieldLink RX1 9 "Migrationledger$Lock" "crashed" "[Z", Cond.methodLink RX3 169 yX1_setCrashed]
def wsL_restarts_r2 : List Cond := [Cond.instanceMethod yX1_setCrashed, Cond.selects RX1 yX1_setCrashed yX1_setCrashed, Cond.code yX1_setCrashed cX1_setCrashed 3 none, Cond.methodLink RX3 150 yX1_owner, Cond.instanceMethod yX1_owner, Cond.selects RX1 yX1_owner yX1_owner, Cond.code yX1_owner cX1_owner 1 (some .int), Cond.fieldLink RX1 19 "Migrationledger$Lock" "time" "I", Cond.fieldLink RX1 22 "Migrationledger$Lock" "leaseEnd" "I", Cond.fieldLink RX1 15 "Migrationledger$Lock" "taker" "I"]
def wsL_restarts : List Cond := .codeWith yL_restarts cL_restarts 3 (some .int) [(0, 13, 14, 13), (0, 13, 18, 16)] :: ((wsL_restarts_r1 ++ wsL_restarts_r2) ++ wsX30 ++ wsX10 ++ (vx_atS RX3 50 "java/lang/IllegalStateException" ["java/lang/RuntimeException", "java/lang/Exception"]).filter goodWord ++ (vx_atS RX3 126 "java/lang/IllegalArgumentException" ["java/lang/RuntimeException", "java/lang/Exception"]).filter goodWord)
def wsL_passes : List Cond := .codeWith yL_passes cL_passes 3 (some .int) [(0, 5, 6, 13)] :: ([.classLink RL 13 "java/lang/IllegalArgumentException", .constant RL 15 (-2000000002), .methodLink RL 66 yX3_pass, .instanceMethod yX3_pass, .selects RX3 yX3_pass yX3_pass, .initialized RX3, .code yX3_pass cX3_pass 2 (some .int), .classLink RX3 122 "java/lang/IllegalArgumentException", .initialized "java/lang/IllegalArgumentException", .fieldLink RX3 26 "Migrationledger" "lock" "LMigrationledger$Lock;", .methodLink RX3 175 yX1_advance, .instanceMethod yX1_advance, .selects RX1 yX1_advance yX1_advance, .initialized RX1, .code yX1_advance cX1_advance 2 (some .int), .fieldLink RX1 19 "Migrationledger$Lock" "time" "I"] ++ wsX30 ++ wsX10 ++ (vx_atS RX3 126 "java/lang/IllegalArgumentException" ["java/lang/RuntimeException", "java/lang/Exception"]).filter goodWord)
def wsL_begins_r1 : List Cond := [Cond.classLink RL 13 "java/lang/IllegalArgumentException", Cond.classLink RL 16 "java/lang/IllegalStateException", Cond.constant RL 15 (-2000000002), Cond.constant RL 18 (-2000000003), Cond.methodLink RL 69 yX3_begin, Cond.instanceMethod yX3_begin, Cond.selects RX3 yX3_begin yX3_begin, Cond.initialized RX3, Cond.code yX3_begin cX3_begin 2 (some .int), Cond.classLink RX3 46 "java/lang/IllegalStateException", Cond.initialized "java/lang/IllegalStateException", Cond.fieldLink RX3 10 "Migrationledger" "list" "LMigrationledger$ChangeList;", Cond.fieldLink RX3 81 "Migrationledger" "done" "I", Cond.fieldLink RX3 34 "Migrationledger" "phase" "I", Cond.fieldLink RX3 184 "Migrationledger" "position" "I", Cond.methodLink RX3 142 yX3_requireWorker, Cond.static yX3_requireWorker, Cond.code yX3_requireWorker cX3_requireWorker 1 none, Cond.classLink RX3 122 "java/lang/IllegalArgumentException", Cond.initialized "java/lang/IllegalArgumentException", Cond.methodLink RX3 158 yX3_requireAtWork, Cond.instanceMethod yX3_requireAtWork, Cond.selects RX3 yX3_requireAtWork yX3_requireAtWork, Cond.code yX3_requireAtWork cX3_requireAtWork 2 none]
def wsL_begins_r2 : List Cond := [Cond.fieldLink RX3 26 "Migrationledger" "lock" "LMigrationledger$Lock;", Cond.methodLink RX3 147 yX3_requireNotCrashed, Cond.instanceMethod yX3_requireNotCrashed, Cond.selects RX3 yX3_requireNotCrashed yX3_requireNotCrashed, Cond.code yX3_requireNotCrashed cX3_requireNotCrashed 2 none, Cond.methodLink RX3 164 yX1_hasCrashed, Cond.instanceMethod yX1_hasCrashed, Cond.selects RX1 yX1_hasCrashed yX1_hasCrashed, Cond.initialized RX1, Cond.code yX1_hasCrashed cX1_hasCrashed 2 (some .boolean), Cond.fieldLink RX1 9 "Migrationledger$Lock" "crashed" "[Z", Cond.methodLink RX3 150 yX1_owner, Cond.instanceMethod yX1_owner, Cond.selects RX1 yX1_owner yX1_owner, Cond.code yX1_owner cX1_owner 1 (some .int), Cond.fieldLink RX1 19 "Migrationledger$Lock" "time" "I", Cond.fieldLink RX1 22 "Migrationledger$Lock" "leaseEnd" "I", Cond.fieldLink RX1 15 "Migrationledger$Lock" "taker" "I", Cond.methodLink RX3 61 yX3_isActive, Cond.instanceMethod yX3_isActive, Cond.selects RX3 yX3_isActive yX3_isActive, Cond.code yX3_isActive cX3_isActive 1 (some .boolean), Cond.methodLink RX3 84 yX0_firstDrifted, Cond.instanceMethod yX0_firstDrifted]
def wsL_begins_r3 : List Cond := [Cond.selects RX0 yX0_firstDrifted yX0_firstDrifted, Cond.initialized RX0, Cond.code yX0_firstDrifted cX0_firstDrifted 3 (some .int), Cond.methodLink RX0 37 yX0_hasDrifted, Cond.instanceMethod yX0_hasDrifted, Cond.selects RX0 yX0_hasDrifted yX0_hasDrifted, Cond.code yX0_hasDrifted cX0_hasDrifted 2 (some .boolean), Cond.fieldLink RX0 21 "Migrationledger$ChangeList" "recorded" "[I", Cond.methodLink RX0 33 yX0_checksumOf, Cond.instanceMethod yX0_checksumOf, Cond.selects RX0 yX0_checksumOf yX0_checksumOf, Cond.code yX0_checksumOf cX0_checksumOf 4 (some .int), Cond.fieldLink RX0 9 "Migrationledger$ChangeList" "kinds" "[I", Cond.fieldLink RX0 15 "Migrationledger$ChangeList" "columns" "[I", Cond.fieldLink RX0 18 "Migrationledger$ChangeList" "operands" "[I", Cond.constant RX0 32 (65521), Cond.methodLink RX3 78 yX0_count, Cond.instanceMethod yX0_count, Cond.selects RX0 yX0_count yX0_count, Cond.code yX0_count cX0_count 1 (some .int), Cond.fieldLink RX0 24 "Migrationledger$ChangeList" "count" "I", Cond.methodLink RX3 64 yX3_activeNumber, Cond.instanceMethod yX3_activeNumber, Cond.selects RX3 yX3_activeNumber yX3_activeNumber]
def wsL_begins_r4 : List Cond := [Cond.code yX3_activeNumber cX3_activeNumber 1 (some .int), Cond.methodLink RX3 187 yX0_recordChecksum, Cond.instanceMethod yX0_recordChecksum, Cond.selects RX0 yX0_recordChecksum yX0_recordChecksum, Cond.code yX0_recordChecksum cX0_recordChecksum 2 none]
def wsL_begins : List Cond := .codeWith yL_begins cL_begins 3 (some .int) [(0, 5, 6, 13), (0, 5, 10, 16)] :: ((wsL_begins_r1 ++ (wsL_begins_r2 ++ (wsL_begins_r3 ++ wsL_begins_r4))) ++ wsX30 ++ wsX10 ++ wsX00 ++ (vx_atS RX3 50 "java/lang/IllegalStateException" ["java/lang/RuntimeException", "java/lang/Exception"]).filter goodWord ++ (vx_atS RX3 126 "java/lang/IllegalArgumentException" ["java/lang/RuntimeException", "java/lang/Exception"]).filter goodWord)
def wsL_undoes_r1 : List Cond := [Cond.classLink RL 13 "java/lang/IllegalArgumentException", Cond.classLink RL 16 "java/lang/IllegalStateException", Cond.constant RL 15 (-2000000002), Cond.constant RL 18 (-2000000003), Cond.methodLink RL 72 yX3_undo, Cond.instanceMethod yX3_undo, Cond.selects RX3 yX3_undo yX3_undo, Cond.initialized RX3, Cond.code yX3_undo cX3_undo 2 (some .int), Cond.classLink RX3 46 "java/lang/IllegalStateException", Cond.initialized "java/lang/IllegalStateException", Cond.fieldLink RX3 34 "Migrationledger" "phase" "I", Cond.fieldLink RX3 81 "Migrationledger" "done" "I", Cond.fieldLink RX3 184 "Migrationledger" "position" "I", Cond.methodLink RX3 142 yX3_requireWorker, Cond.static yX3_requireWorker, Cond.code yX3_requireWorker cX3_requireWorker 1 none, Cond.classLink RX3 122 "java/lang/IllegalArgumentException", Cond.initialized "java/lang/IllegalArgumentException", Cond.methodLink RX3 158 yX3_requireAtWork, Cond.instanceMethod yX3_requireAtWork, Cond.selects RX3 yX3_requireAtWork yX3_requireAtWork, Cond.code yX3_requireAtWork cX3_requireAtWork 2 none, Cond.fieldLink RX3 26 "Migrationledger" "lock" "LMigrationledger$Lock;"]
def wsL_undoes_r2 : List Cond := [Cond.methodLink RX3 147 yX3_requireNotCrashed, Cond.instanceMethod yX3_requireNotCrashed, Cond.selects RX3 yX3_requireNotCrashed yX3_requireNotCrashed, Cond.code yX3_requireNotCrashed cX3_requireNotCrashed 2 none, Cond.methodLink RX3 164 yX1_hasCrashed, Cond.instanceMethod yX1_hasCrashed, Cond.selects RX1 yX1_hasCrashed yX1_hasCrashed, Cond.initialized RX1, Cond.code yX1_hasCrashed cX1_hasCrashed 2 (some .boolean), Cond.fieldLink RX1 9 "Migrationledger$Lock" "crashed" "[Z", Cond.methodLink RX3 150 yX1_owner, Cond.instanceMethod yX1_owner, Cond.selects RX1 yX1_owner yX1_owner, Cond.code yX1_owner cX1_owner 1 (some .int), Cond.fieldLink RX1 19 "Migrationledger$Lock" "time" "I", Cond.fieldLink RX1 22 "Migrationledger$Lock" "leaseEnd" "I", Cond.fieldLink RX1 15 "Migrationledger$Lock" "taker" "I", Cond.methodLink RX3 192 yX3_requireUndoableDone, Cond.instanceMethod yX3_requireUndoableDone, Cond.selects RX3 yX3_requireUndoableDone yX3_requireUndoableDone, Cond.code yX3_requireUndoableDone cX3_requireUndoableDone 1 none, Cond.fieldLink RX3 10 "Migrationledger" "list" "LMigrationledger$ChangeList;", Cond.methodLink RX3 291 yX0_hasDrifted, Cond.instanceMethod yX0_hasDrifted]
def wsL_undoes_r3 : List Cond := [Cond.selects RX0 yX0_hasDrifted yX0_hasDrifted, Cond.initialized RX0, Cond.code yX0_hasDrifted cX0_hasDrifted 2 (some .boolean), Cond.fieldLink RX0 21 "Migrationledger$ChangeList" "recorded" "[I", Cond.methodLink RX0 33 yX0_checksumOf, Cond.instanceMethod yX0_checksumOf, Cond.selects RX0 yX0_checksumOf yX0_checksumOf, Cond.code yX0_checksumOf cX0_checksumOf 4 (some .int), Cond.fieldLink RX0 9 "Migrationledger$ChangeList" "kinds" "[I", Cond.fieldLink RX0 15 "Migrationledger$ChangeList" "columns" "[I", Cond.fieldLink RX0 18 "Migrationledger$ChangeList" "operands" "[I", Cond.constant RX0 32 (65521), Cond.methodLink RX3 64 yX3_activeNumber, Cond.instanceMethod yX3_activeNumber, Cond.selects RX3 yX3_activeNumber yX3_activeNumber, Cond.code yX3_activeNumber cX3_activeNumber 1 (some .int)]
def wsL_undoes : List Cond := .codeWith yL_undoes cL_undoes 3 (some .int) [(0, 5, 6, 13), (0, 5, 10, 16)] :: ((wsL_undoes_r1 ++ (wsL_undoes_r2 ++ wsL_undoes_r3)) ++ wsX30 ++ wsX10 ++ wsX00 ++ (vx_atS RX3 50 "java/lang/IllegalStateException" ["java/lang/RuntimeException", "java/lang/Exception"]).filter goodWord ++ (vx_atS RX3 126 "java/lang/IllegalArgumentException" ["java/lang/RuntimeException", "java/lang/Exception"]).filter goodWord)
def wsL_steps_r1 : List Cond := [Cond.classLink RL 13 "java/lang/IllegalArgumentException", Cond.classLink RL 16 "java/lang/IllegalStateException", Cond.constant RL 15 (-2000000002), Cond.constant RL 18 (-2000000003), Cond.methodLink RL 75 yX3_step, Cond.instanceMethod yX3_step, Cond.selects RX3 yX3_step yX3_step, Cond.initialized RX3, Cond.code yX3_step cX3_step 4 (some .int), Cond.classLink RX3 122 "java/lang/IllegalArgumentException", Cond.initialized "java/lang/IllegalArgumentException", Cond.methodLink RX3 205 Lib.Math.min.name, Cond.static Lib.Math.min.name, Cond.initialized "java/lang/Math", Cond.code Lib.Math.min.name Lib.Math.min.code 2 (some .int), Cond.methodLink RX3 142 yX3_requireWorker, Cond.static yX3_requireWorker, Cond.code yX3_requireWorker cX3_requireWorker 1 none, Cond.methodLink RX3 158 yX3_requireAtWork, Cond.instanceMethod yX3_requireAtWork, Cond.selects RX3 yX3_requireAtWork yX3_requireAtWork, Cond.code yX3_requireAtWork cX3_requireAtWork 2 none, Cond.classLink RX3 46 "java/lang/IllegalStateException", Cond.initialized "java/lang/IllegalStateException"]
def wsL_steps_r2 : List Cond := [Cond.fieldLink RX3 26 "Migrationledger" "lock" "LMigrationledger$Lock;", Cond.methodLink RX3 147 yX3_requireNotCrashed, Cond.instanceMethod yX3_requireNotCrashed, Cond.selects RX3 yX3_requireNotCrashed yX3_requireNotCrashed, Cond.code yX3_requireNotCrashed cX3_requireNotCrashed 2 none, Cond.methodLink RX3 164 yX1_hasCrashed, Cond.instanceMethod yX1_hasCrashed, Cond.selects RX1 yX1_hasCrashed yX1_hasCrashed, Cond.initialized RX1, Cond.code yX1_hasCrashed cX1_hasCrashed 2 (some .boolean), Cond.fieldLink RX1 9 "Migrationledger$Lock" "crashed" "[Z", Cond.methodLink RX3 150 yX1_owner, Cond.instanceMethod yX1_owner, Cond.selects RX1 yX1_owner yX1_owner, Cond.code yX1_owner cX1_owner 1 (some .int), Cond.fieldLink RX1 19 "Migrationledger$Lock" "time" "I", Cond.fieldLink RX1 22 "Migrationledger$Lock" "leaseEnd" "I", Cond.fieldLink RX1 15 "Migrationledger$Lock" "taker" "I", Cond.methodLink RX3 199 yX3_requireActive, Cond.instanceMethod yX3_requireActive, Cond.selects RX3 yX3_requireActive yX3_requireActive, Cond.code yX3_requireActive cX3_requireActive 1 none, Cond.methodLink RX3 61 yX3_isActive, Cond.instanceMethod yX3_isActive]
def wsL_steps_r3 : List Cond := [Cond.selects RX3 yX3_isActive yX3_isActive, Cond.code yX3_isActive cX3_isActive 1 (some .boolean), Cond.fieldLink RX3 34 "Migrationledger" "phase" "I", Cond.methodLink RX3 202 yX3_idsLeft, Cond.instanceMethod yX3_idsLeft, Cond.selects RX3 yX3_idsLeft yX3_idsLeft, Cond.code yX3_idsLeft cX3_idsLeft 1 (some .int), Cond.fieldLink RX3 184 "Migrationledger" "position" "I", Cond.methodLink RX3 210 yX3_goThrough, Cond.instanceMethod yX3_goThrough, Cond.selects RX3 yX3_goThrough yX3_goThrough, Cond.code yX3_goThrough cX3_goThrough 7 (some .int), Cond.methodLink RX3 221 yX3_idBehind, Cond.instanceMethod yX3_idBehind, Cond.selects RX3 yX3_idBehind yX3_idBehind, Cond.code yX3_idBehind cX3_idBehind 2 (some .int), Cond.methodLink RX3 224 yX3_isToBeChanged, Cond.instanceMethod yX3_isToBeChanged, Cond.selects RX3 yX3_isToBeChanged yX3_isToBeChanged, Cond.code yX3_isToBeChanged cX3_isToBeChanged 3 (some .boolean), Cond.fieldLink RX3 19 "Migrationledger" "table" "LMigrationledger$Table;", Cond.methodLink RX3 93 yX2_isPresent, Cond.instanceMethod yX2_isPresent, Cond.selects RX2 yX2_isPresent yX2_isPresent]
def wsL_steps_r4 : List Cond := [Cond.initialized RX2, Cond.code yX2_isPresent cX2_isPresent 2 (some .boolean), Cond.fieldLink RX2 15 "Migrationledger$Table" "versions" "[I", Cond.methodLink RX3 119 yX2_versionOf, Cond.instanceMethod yX2_versionOf, Cond.selects RX2 yX2_versionOf yX2_versionOf, Cond.code yX2_versionOf cX2_versionOf 2 (some .int), Cond.methodLink RX3 64 yX3_activeNumber, Cond.instanceMethod yX3_activeNumber, Cond.selects RX3 yX3_activeNumber yX3_activeNumber, Cond.code yX3_activeNumber cX3_activeNumber 1 (some .int), Cond.fieldLink RX3 81 "Migrationledger" "done" "I", Cond.methodLink RX3 227 yX3_changeRow, Cond.instanceMethod yX3_changeRow, Cond.selects RX3 yX3_changeRow yX3_changeRow, Cond.code yX3_changeRow cX3_changeRow 4 (some .boolean), Cond.fieldLink RX3 30 "Migrationledger" "tried" "[I", Cond.methodLink RX3 132 yX2_copyRow, Cond.instanceMethod yX2_copyRow, Cond.selects RX2 yX2_copyRow yX2_copyRow, Cond.code yX2_copyRow cX2_copyRow 4 none, Cond.methodLink RX2 18 yX2_cell, Cond.instanceMethod yX2_cell, Cond.selects RX2 yX2_cell yX2_cell]
def wsL_steps_r5 : List Cond := [Cond.code yX2_cell cX2_cell 3 (some .int), Cond.fieldLink RX2 9 "Migrationledger$Table" "cells" "[I", Cond.methodLink RX3 136 yX3_bringTried, Cond.instanceMethod yX3_bringTried, Cond.selects RX3 yX3_bringTried yX3_bringTried, Cond.code yX3_bringTried cX3_bringTried 4 (some .boolean), Cond.fieldLink RX3 10 "Migrationledger" "list" "LMigrationledger$ChangeList;", Cond.methodLink RX3 239 yX0_applyTo, Cond.instanceMethod yX0_applyTo, Cond.selects RX0 yX0_applyTo yX0_applyTo, Cond.initialized RX0, Cond.code yX0_applyTo cX0_applyTo 7 (some .boolean), Cond.fieldLink RX0 15 "Migrationledger$ChangeList" "columns" "[I", Cond.fieldLink RX0 18 "Migrationledger$ChangeList" "operands" "[I", Cond.fieldLink RX0 9 "Migrationledger$ChangeList" "kinds" "[I", Cond.methodLink RX0 41 yX0_putResult, Cond.static yX0_putResult, Cond.code yX0_putResult cX0_putResult 4 (some .boolean), Cond.static yX3_isTableValue, Cond.code yX3_isTableValue cX3_isTableValue 2 (some .boolean), Cond.constantLong RX3 246 (-1000000000), Cond.constantLong RX3 248 (1000000000), Cond.methodLink RX0 45 yX0_exchange, Cond.static yX0_exchange]
def wsL_steps_r6 : List Cond := [Cond.code yX0_exchange cX0_exchange 4 (some .boolean), Cond.methodLink RX3 243 yX0_undoOn, Cond.instanceMethod yX0_undoOn, Cond.selects RX0 yX0_undoOn yX0_undoOn, Cond.code yX0_undoOn cX0_undoOn 7 (some .boolean), Cond.methodLink RX3 236 yX2_storeRow, Cond.instanceMethod yX2_storeRow, Cond.selects RX2 yX2_storeRow yX2_storeRow, Cond.code yX2_storeRow cX2_storeRow 4 none, Cond.methodLink RX2 22 yX2_setCell, Cond.instanceMethod yX2_setCell, Cond.selects RX2 yX2_setCell yX2_setCell, Cond.code yX2_setCell cX2_setCell 4 none, Cond.methodLink RX3 105 yX2_setVersion, Cond.instanceMethod yX2_setVersion, Cond.selects RX2 yX2_setVersion yX2_setVersion, Cond.code yX2_setVersion cX2_setVersion 3 none, Cond.methodLink RX3 230 yX3_positionBehind, Cond.instanceMethod yX3_positionBehind, Cond.selects RX3 yX3_positionBehind yX3_positionBehind, Cond.code yX3_positionBehind cX3_positionBehind 2 (some .int), Cond.methodLink RX3 169 yX1_setCrashed, Cond.instanceMethod yX1_setCrashed, Cond.selects RX1 yX1_setCrashed yX1_setCrashed]
def wsL_steps_r7 : List Cond := [Cond.code yX1_setCrashed cX1_setCrashed 3 none, Cond.methodLink RX3 233 yX3_endIfAllPassed, Cond.instanceMethod yX3_endIfAllPassed, Cond.selects RX3 yX3_endIfAllPassed yX3_endIfAllPassed, Cond.code yX3_endIfAllPassed cX3_endIfAllPassed 1 none]
def wsL_steps : List Cond := .codeWith yL_steps cL_steps 5 (some .int) [(0, 7, 8, 13), (0, 7, 13, 16)] :: ((wsL_steps_r1 ++ (wsL_steps_r2 ++ (wsL_steps_r3 ++ (wsL_steps_r4 ++ (wsL_steps_r5 ++ (wsL_steps_r6 ++ wsL_steps_r7)))))) ++ wsX30 ++ wsX10 ++ wsX20 ++ wsX00 ++ (vx_atS RX3 126 "java/lang/IllegalArgumentException" ["java/lang/RuntimeException", "java/lang/Exception"]).filter goodWord ++ (vx_atS RX3 50 "java/lang/IllegalStateException" ["java/lang/RuntimeException", "java/lang/Exception"]).filter goodWord)
def wsL_cursor : List Cond := .codeWith yL_cursor cL_cursor 2 (some .int) [(0, 4, 5, 16)] :: ([.classLink RL 16 "java/lang/IllegalStateException", .constant RL 18 (-2000000003), .methodLink RL 78 yX3_cursor, .instanceMethod yX3_cursor, .selects RX3 yX3_cursor yX3_cursor, .initialized RX3, .code yX3_cursor cX3_cursor 1 (some .int), .fieldLink RX3 184 "Migrationledger" "position" "I", .methodLink RX3 199 yX3_requireActive, .instanceMethod yX3_requireActive, .selects RX3 yX3_requireActive yX3_requireActive, .code yX3_requireActive cX3_requireActive 1 none, .classLink RX3 46 "java/lang/IllegalStateException", .initialized "java/lang/IllegalStateException", .methodLink RX3 61 yX3_isActive, .instanceMethod yX3_isActive, .selects RX3 yX3_isActive yX3_isActive, .code yX3_isActive cX3_isActive 1 (some .boolean), .fieldLink RX3 34 "Migrationledger" "phase" "I"] ++ wsX30 ++ (vx_atS RX3 50 "java/lang/IllegalStateException" ["java/lang/RuntimeException", "java/lang/Exception"]).filter goodWord)
def wsL_drawn : List Cond := .code yL_drawn cL_drawn 2 (some .int) :: ([.constant RL 87 (15522853), .constant RL 88 (2147483647)])
def wsL_refuses_r1 : List Cond := [Cond.constant RL 15 (-2000000002), Cond.constant RL 18 (-2000000003), Cond.constant RL 25 (-2000000001), Cond.constant RL 111 (1000000001), Cond.constant RL 112 (-1000000001), Cond.methodLink RL 89 yX3_changes, Cond.instanceMethod yX3_changes, Cond.selects RX3 yX3_changes yX3_changes, Cond.initialized RX3, Cond.code yX3_changes cX3_changes 1 (some .int), Cond.fieldLink RX3 10 "Migrationledger" "list" "LMigrationledger$ChangeList;", Cond.methodLink RX3 78 yX0_count, Cond.instanceMethod yX0_count, Cond.selects RX0 yX0_count yX0_count, Cond.initialized RX0, Cond.code yX0_count cX0_count 1 (some .int), Cond.fieldLink RX0 24 "Migrationledger$ChangeList" "count" "I", Cond.methodLink RL 92 yL_adds, Cond.static yL_adds, Cond.initialized RL, Cond.codeWith yL_adds cL_adds 5 (some .int) [(0, 7, 8, 13), (0, 7, 13, 16)], Cond.classLink RL 13 "java/lang/IllegalArgumentException", Cond.classLink RL 16 "java/lang/IllegalStateException", Cond.methodLink RL 7 yX3_addChange]
def wsL_refuses_r2 : List Cond := [Cond.instanceMethod yX3_addChange, Cond.selects RX3 yX3_addChange yX3_addChange, Cond.code yX3_addChange cX3_addChange 4 (some .int), Cond.classLink RX3 46 "java/lang/IllegalStateException", Cond.initialized "java/lang/IllegalStateException", Cond.methodLink RX3 38 yX3_requireChangeParts, Cond.static yX3_requireChangeParts, Cond.code yX3_requireChangeParts cX3_requireChangeParts 3 none, Cond.classLink RX3 122 "java/lang/IllegalArgumentException", Cond.initialized "java/lang/IllegalArgumentException", Cond.methodLink RX3 109 yX3_requireColumn, Cond.static yX3_requireColumn, Cond.code yX3_requireColumn cX3_requireColumn 1 none, Cond.methodLink RX3 250 yX3_isColumn, Cond.static yX3_isColumn, Cond.code yX3_isColumn cX3_isColumn 1 (some .boolean), Cond.methodLink RX3 255 yX3_isOperand, Cond.static yX3_isOperand, Cond.code yX3_isOperand cX3_isOperand 3 (some .boolean), Cond.methodLink RX3 42 yX0_isFull, Cond.instanceMethod yX0_isFull, Cond.selects RX0 yX0_isFull yX0_isFull, Cond.code yX0_isFull cX0_isFull 1 (some .boolean), Cond.methodLink RX3 53 yX0_append]
def wsL_refuses_r3 : List Cond := [Cond.instanceMethod yX0_append, Cond.selects RX0 yX0_append yX0_append, Cond.code yX0_append cX0_append 4 (some .int), Cond.methodLink RX0 28 yX0_put, Cond.instanceMethod yX0_put, Cond.selects RX0 yX0_put yX0_put, Cond.code yX0_put cX0_put 5 none, Cond.fieldLink RX0 9 "Migrationledger$ChangeList" "kinds" "[I", Cond.fieldLink RX0 15 "Migrationledger$ChangeList" "columns" "[I", Cond.fieldLink RX0 18 "Migrationledger$ChangeList" "operands" "[I", Cond.methodLink RL 98 yL_edits, Cond.static yL_edits, Cond.codeWith yL_edits cL_edits 6 (some .int) [(0, 9, 10, 13), (0, 9, 15, 23), (0, 9, 20, 16)], Cond.classLink RL 23 "java/lang/IndexOutOfBoundsException", Cond.methodLink RL 19 yX3_edit, Cond.instanceMethod yX3_edit, Cond.selects RX3 yX3_edit yX3_edit, Cond.code yX3_edit cX3_edit 5 (some .int), Cond.methodLink RX3 57 yX3_requireListed, Cond.instanceMethod yX3_requireListed, Cond.selects RX3 yX3_requireListed yX3_requireListed, Cond.code yX3_requireListed cX3_requireListed 2 none, Cond.classLink RX3 276 "java/lang/IndexOutOfBoundsException", Cond.initialized "java/lang/IndexOutOfBoundsException"]
def wsL_refuses_r4 : List Cond := [Cond.methodLink RX3 273 yX0_contains, Cond.instanceMethod yX0_contains, Cond.selects RX0 yX0_contains yX0_contains, Cond.code yX0_contains cX0_contains 2 (some .boolean), Cond.methodLink RX3 61 yX3_isActive, Cond.instanceMethod yX3_isActive, Cond.selects RX3 yX3_isActive yX3_isActive, Cond.code yX3_isActive cX3_isActive 1 (some .boolean), Cond.fieldLink RX3 34 "Migrationledger" "phase" "I", Cond.methodLink RX3 64 yX3_activeNumber, Cond.instanceMethod yX3_activeNumber, Cond.selects RX3 yX3_activeNumber yX3_activeNumber, Cond.code yX3_activeNumber cX3_activeNumber 1 (some .int), Cond.fieldLink RX3 81 "Migrationledger" "done" "I", Cond.methodLink RX3 70 yX0_put, Cond.methodLink RX3 74 yX0_checksumOf, Cond.instanceMethod yX0_checksumOf, Cond.selects RX0 yX0_checksumOf yX0_checksumOf, Cond.code yX0_checksumOf cX0_checksumOf 4 (some .int), Cond.constant RX0 32 (65521), Cond.methodLink RL 102 yL_sum, Cond.static yL_sum, Cond.codeWith yL_sum cL_sum 3 (some .int) [(0, 5, 6, 23)], Cond.methodLink RL 26 yX3_checksum]
def wsL_refuses_r5 : List Cond := [Cond.instanceMethod yX3_checksum, Cond.selects RX3 yX3_checksum yX3_checksum, Cond.code yX3_checksum cX3_checksum 2 (some .int), Cond.methodLink RL 106 yL_state, Cond.static yL_state, Cond.codeWith yL_state cL_state 3 (some .int) [(0, 5, 6, 23)], Cond.methodLink RL 30 yX3_state, Cond.instanceMethod yX3_state, Cond.selects RX3 yX3_state yX3_state, Cond.code yX3_state cX3_state 2 (some .int), Cond.methodLink RL 108 yL_inserts, Cond.static yL_inserts, Cond.codeWith yL_inserts cL_inserts 6 (some .int) [(0, 9, 10, 13), (0, 9, 15, 16)], Cond.methodLink RL 33 yX3_insert, Cond.instanceMethod yX3_insert, Cond.selects RX3 yX3_insert yX3_insert, Cond.code yX3_insert cX3_insert 6 (some .int), Cond.fieldLink RX3 19 "Migrationledger" "table" "LMigrationledger$Table;", Cond.methodLink RX3 87 yX3_requireId, Cond.static yX3_requireId, Cond.code yX3_requireId cX3_requireId 1 none, Cond.methodLink RX3 90 yX3_requireTableValue, Cond.static yX3_requireTableValue, Cond.code yX3_requireTableValue cX3_requireTableValue 1 none]
def wsL_refuses_r6 : List Cond := [Cond.methodLink RX3 265 yX3_isTableValue, Cond.static yX3_isTableValue, Cond.code yX3_isTableValue cX3_isTableValue 2 (some .boolean), Cond.constantLong RX3 246 (-1000000000), Cond.constantLong RX3 248 (1000000000), Cond.methodLink RX3 93 yX2_isPresent, Cond.instanceMethod yX2_isPresent, Cond.selects RX2 yX2_isPresent yX2_isPresent, Cond.initialized RX2, Cond.code yX2_isPresent cX2_isPresent 2 (some .boolean), Cond.fieldLink RX2 15 "Migrationledger$Table" "versions" "[I", Cond.methodLink RX3 99 yX3_versionForNewRow, Cond.instanceMethod yX3_versionForNewRow, Cond.selects RX3 yX3_versionForNewRow yX3_versionForNewRow, Cond.code yX3_versionForNewRow cX3_versionForNewRow 2 (some .int), Cond.fieldLink RX3 184 "Migrationledger" "position" "I", Cond.methodLink RX3 102 yX2_setCell, Cond.instanceMethod yX2_setCell, Cond.selects RX2 yX2_setCell yX2_setCell, Cond.code yX2_setCell cX2_setCell 4 none, Cond.fieldLink RX2 9 "Migrationledger$Table" "cells" "[I", Cond.methodLink RX3 105 yX2_setVersion, Cond.instanceMethod yX2_setVersion, Cond.selects RX2 yX2_setVersion yX2_setVersion]
def wsL_refuses_r7 : List Cond := [Cond.code yX2_setVersion cX2_setVersion 3 none, Cond.methodLink RL 113 yL_writes, Cond.static yL_writes, Cond.codeWith yL_writes cL_writes 5 (some .int) [(0, 7, 8, 13), (0, 7, 13, 23)], Cond.methodLink RL 36 yX3_write, Cond.instanceMethod yX3_write, Cond.selects RX3 yX3_write yX3_write, Cond.code yX3_write cX3_write 5 (some .int), Cond.methodLink RX3 112 yX3_requirePresent, Cond.instanceMethod yX3_requirePresent, Cond.selects RX3 yX3_requirePresent yX3_requirePresent, Cond.code yX3_requirePresent cX3_requirePresent 2 none, Cond.methodLink RX3 115 yX2_cell, Cond.instanceMethod yX2_cell, Cond.selects RX2 yX2_cell yX2_cell, Cond.code yX2_cell cX2_cell 3 (some .int), Cond.methodLink RL 116 yL_deletes, Cond.static yL_deletes, Cond.codeWith yL_deletes cL_deletes 3 (some .int) [(0, 5, 6, 13), (0, 5, 10, 23)], Cond.methodLink RL 39 yX3_delete, Cond.instanceMethod yX3_delete, Cond.selects RX3 yX3_delete yX3_delete, Cond.code yX3_delete cX3_delete 3 (some .int), Cond.methodLink RX3 119 yX2_versionOf]
def wsL_refuses_r8 : List Cond := [Cond.instanceMethod yX2_versionOf, Cond.selects RX2 yX2_versionOf yX2_versionOf, Cond.code yX2_versionOf cX2_versionOf 2 (some .int), Cond.methodLink RL 119 yL_value, Cond.static yL_value, Cond.codeWith yL_value cL_value 4 (some .int) [(0, 6, 7, 13), (0, 6, 11, 23)], Cond.methodLink RL 42 yX3_value, Cond.instanceMethod yX3_value, Cond.selects RX3 yX3_value yX3_value, Cond.code yX3_value cX3_value 3 (some .int), Cond.methodLink RL 122 yL_version, Cond.static yL_version, Cond.codeWith yL_version cL_version 3 (some .int) [(0, 5, 6, 13)], Cond.methodLink RL 46 yX3_version, Cond.instanceMethod yX3_version, Cond.selects RX3 yX3_version yX3_version, Cond.code yX3_version cX3_version 2 (some .int), Cond.methodLink RL 124 yL_rowsAt, Cond.static yL_rowsAt, Cond.codeWith yL_rowsAt cL_rowsAt 3 (some .int) [(0, 5, 6, 13)], Cond.methodLink RL 49 yX3_rowsAt, Cond.instanceMethod yX3_rowsAt, Cond.selects RX3 yX3_rowsAt yX3_rowsAt, Cond.code yX3_rowsAt cX3_rowsAt 2 (some .int)]
def wsL_refuses_r9 : List Cond := [Cond.methodLink RX3 127 yX2_countWithVersion, Cond.instanceMethod yX2_countWithVersion, Cond.selects RX2 yX2_countWithVersion yX2_countWithVersion, Cond.code yX2_countWithVersion cX2_countWithVersion 4 (some .int), Cond.methodLink RL 126 yL_valueAt, Cond.static yL_valueAt, Cond.codeWith yL_valueAt cL_valueAt 5 (some .int) [(0, 7, 8, 13), (0, 7, 13, 23), (0, 7, 18, 16)], Cond.methodLink RL 52 yX3_valueAt, Cond.instanceMethod yX3_valueAt, Cond.selects RX3 yX3_valueAt yX3_valueAt, Cond.code yX3_valueAt cX3_valueAt 4 (some .int), Cond.fieldLink RX3 30 "Migrationledger" "tried" "[I", Cond.methodLink RX3 132 yX2_copyRow, Cond.instanceMethod yX2_copyRow, Cond.selects RX2 yX2_copyRow yX2_copyRow, Cond.code yX2_copyRow cX2_copyRow 4 none, Cond.methodLink RX2 18 yX2_cell, Cond.methodLink RX3 136 yX3_bringTried, Cond.instanceMethod yX3_bringTried, Cond.selects RX3 yX3_bringTried yX3_bringTried, Cond.code yX3_bringTried cX3_bringTried 4 (some .boolean), Cond.methodLink RX3 239 yX0_applyTo, Cond.instanceMethod yX0_applyTo, Cond.selects RX0 yX0_applyTo yX0_applyTo]
def wsL_refuses_r10 : List Cond := [Cond.code yX0_applyTo cX0_applyTo 7 (some .boolean), Cond.methodLink RX0 41 yX0_putResult, Cond.static yX0_putResult, Cond.code yX0_putResult cX0_putResult 4 (some .boolean), Cond.methodLink RX0 45 yX0_exchange, Cond.static yX0_exchange, Cond.code yX0_exchange cX0_exchange 4 (some .boolean), Cond.methodLink RX3 243 yX0_undoOn, Cond.instanceMethod yX0_undoOn, Cond.selects RX0 yX0_undoOn yX0_undoOn, Cond.code yX0_undoOn cX0_undoOn 7 (some .boolean), Cond.methodLink RL 128 yL_takes, Cond.static yL_takes, Cond.codeWith yL_takes cL_takes 4 (some .int) [(0, 6, 7, 13), (0, 6, 11, 16)], Cond.methodLink RL 55 yX3_take, Cond.instanceMethod yX3_take, Cond.selects RX3 yX3_take yX3_take, Cond.code yX3_take cX3_take 4 (some .int), Cond.fieldLink RX3 26 "Migrationledger" "lock" "LMigrationledger$Lock;", Cond.methodLink RX3 142 yX3_requireWorker, Cond.static yX3_requireWorker, Cond.code yX3_requireWorker cX3_requireWorker 1 none, Cond.methodLink RX3 147 yX3_requireNotCrashed, Cond.instanceMethod yX3_requireNotCrashed]
def wsL_refuses_r11 : List Cond := [Cond.selects RX3 yX3_requireNotCrashed yX3_requireNotCrashed, Cond.code yX3_requireNotCrashed cX3_requireNotCrashed 2 none, Cond.methodLink RX3 164 yX1_hasCrashed, Cond.instanceMethod yX1_hasCrashed, Cond.selects RX1 yX1_hasCrashed yX1_hasCrashed, Cond.initialized RX1, Cond.code yX1_hasCrashed cX1_hasCrashed 2 (some .boolean), Cond.fieldLink RX1 9 "Migrationledger$Lock" "crashed" "[Z", Cond.methodLink RX3 150 yX1_owner, Cond.instanceMethod yX1_owner, Cond.selects RX1 yX1_owner yX1_owner, Cond.code yX1_owner cX1_owner 1 (some .int), Cond.fieldLink RX1 19 "Migrationledger$Lock" "time" "I", Cond.fieldLink RX1 22 "Migrationledger$Lock" "leaseEnd" "I", Cond.fieldLink RX1 15 "Migrationledger$Lock" "taker" "I", Cond.methodLink RX3 155 yX1_grant, Cond.instanceMethod yX1_grant, Cond.selects RX1 yX1_grant yX1_grant, Cond.code yX1_grant cX1_grant 3 (some .int), Cond.methodLink RL 131 yL_gives, Cond.static yL_gives, Cond.codeWith yL_gives cL_gives 3 (some .int) [(0, 5, 8, 13), (0, 5, 12, 16)], Cond.methodLink RL 58 yX3_giveBack, Cond.instanceMethod yX3_giveBack]
def wsL_refuses_r12 : List Cond := [Cond.selects RX3 yX3_giveBack yX3_giveBack, Cond.code yX3_giveBack cX3_giveBack 2 none, Cond.methodLink RX3 158 yX3_requireAtWork, Cond.instanceMethod yX3_requireAtWork, Cond.selects RX3 yX3_requireAtWork yX3_requireAtWork, Cond.code yX3_requireAtWork cX3_requireAtWork 2 none, Cond.methodLink RX3 161 yX1_release, Cond.instanceMethod yX1_release, Cond.selects RX1 yX1_release yX1_release, Cond.code yX1_release cX1_release 1 none, Cond.methodLink RL 134 yL_restarts, Cond.static yL_restarts, Cond.codeWith yL_restarts cL_restarts 3 (some .int) [(0, 13, 14, 13), (0, 13, 18, 16)], Cond.methodLink RL 62 yX3_restart, Cond.instanceMethod yX3_restart, Cond.selects RX3 yX3_restart yX3_restart, Cond.code yX3_restart cX3_restart 2 (some .boolean), Cond.methodLink RX3 169 yX1_setCrashed, Cond.instanceMethod yX1_setCrashed, Cond.selects RX1 yX1_setCrashed yX1_setCrashed, Cond.code yX1_setCrashed cX1_setCrashed 3 none, Cond.methodLink RL 137 yL_passes, Cond.static yL_passes, Cond.codeWith yL_passes cL_passes 3 (some .int) [(0, 5, 6, 13)]]
def wsL_refuses_r13 : List Cond := [Cond.methodLink RL 66 yX3_pass, Cond.instanceMethod yX3_pass, Cond.selects RX3 yX3_pass yX3_pass, Cond.code yX3_pass cX3_pass 2 (some .int), Cond.methodLink RX3 175 yX1_advance, Cond.instanceMethod yX1_advance, Cond.selects RX1 yX1_advance yX1_advance, Cond.code yX1_advance cX1_advance 2 (some .int), Cond.methodLink RL 140 yL_begins, Cond.static yL_begins, Cond.codeWith yL_begins cL_begins 3 (some .int) [(0, 5, 6, 13), (0, 5, 10, 16)], Cond.methodLink RL 69 yX3_begin, Cond.instanceMethod yX3_begin, Cond.selects RX3 yX3_begin yX3_begin, Cond.code yX3_begin cX3_begin 2 (some .int), Cond.methodLink RX3 84 yX0_firstDrifted, Cond.instanceMethod yX0_firstDrifted, Cond.selects RX0 yX0_firstDrifted yX0_firstDrifted, Cond.code yX0_firstDrifted cX0_firstDrifted 3 (some .int), Cond.methodLink RX0 37 yX0_hasDrifted, Cond.instanceMethod yX0_hasDrifted, Cond.selects RX0 yX0_hasDrifted yX0_hasDrifted, Cond.code yX0_hasDrifted cX0_hasDrifted 2 (some .boolean), Cond.fieldLink RX0 21 "Migrationledger$ChangeList" "recorded" "[I"]
def wsL_refuses_r14 : List Cond := [Cond.methodLink RX0 33 yX0_checksumOf, Cond.methodLink RX3 187 yX0_recordChecksum, Cond.instanceMethod yX0_recordChecksum, Cond.selects RX0 yX0_recordChecksum yX0_recordChecksum, Cond.code yX0_recordChecksum cX0_recordChecksum 2 none, Cond.methodLink RL 143 yL_undoes, Cond.static yL_undoes, Cond.codeWith yL_undoes cL_undoes 3 (some .int) [(0, 5, 6, 13), (0, 5, 10, 16)], Cond.methodLink RL 72 yX3_undo, Cond.instanceMethod yX3_undo, Cond.selects RX3 yX3_undo yX3_undo, Cond.code yX3_undo cX3_undo 2 (some .int), Cond.methodLink RX3 192 yX3_requireUndoableDone, Cond.instanceMethod yX3_requireUndoableDone, Cond.selects RX3 yX3_requireUndoableDone yX3_requireUndoableDone, Cond.code yX3_requireUndoableDone cX3_requireUndoableDone 1 none, Cond.methodLink RX3 291 yX0_hasDrifted, Cond.methodLink RL 146 yL_steps, Cond.static yL_steps, Cond.codeWith yL_steps cL_steps 5 (some .int) [(0, 7, 8, 13), (0, 7, 13, 16)], Cond.methodLink RL 75 yX3_step, Cond.instanceMethod yX3_step, Cond.selects RX3 yX3_step yX3_step, Cond.code yX3_step cX3_step 4 (some .int)]
def wsL_refuses_r15 : List Cond := [Cond.methodLink RX3 205 Lib.Math.min.name, Cond.static Lib.Math.min.name, Cond.initialized "java/lang/Math", Cond.code Lib.Math.min.name Lib.Math.min.code 2 (some .int), Cond.methodLink RX3 199 yX3_requireActive, Cond.instanceMethod yX3_requireActive, Cond.selects RX3 yX3_requireActive yX3_requireActive, Cond.code yX3_requireActive cX3_requireActive 1 none, Cond.methodLink RX3 202 yX3_idsLeft, Cond.instanceMethod yX3_idsLeft, Cond.selects RX3 yX3_idsLeft yX3_idsLeft, Cond.code yX3_idsLeft cX3_idsLeft 1 (some .int), Cond.methodLink RX3 210 yX3_goThrough, Cond.instanceMethod yX3_goThrough, Cond.selects RX3 yX3_goThrough yX3_goThrough, Cond.code yX3_goThrough cX3_goThrough 7 (some .int), Cond.methodLink RX3 221 yX3_idBehind, Cond.instanceMethod yX3_idBehind, Cond.selects RX3 yX3_idBehind yX3_idBehind, Cond.code yX3_idBehind cX3_idBehind 2 (some .int), Cond.methodLink RX3 224 yX3_isToBeChanged, Cond.instanceMethod yX3_isToBeChanged, Cond.selects RX3 yX3_isToBeChanged yX3_isToBeChanged, Cond.code yX3_isToBeChanged cX3_isToBeChanged 3 (some .boolean)]
def wsL_refuses_r16 : List Cond := [Cond.methodLink RX3 227 yX3_changeRow, Cond.instanceMethod yX3_changeRow, Cond.selects RX3 yX3_changeRow yX3_changeRow, Cond.code yX3_changeRow cX3_changeRow 4 (some .boolean), Cond.methodLink RX3 236 yX2_storeRow, Cond.instanceMethod yX2_storeRow, Cond.selects RX2 yX2_storeRow yX2_storeRow, Cond.code yX2_storeRow cX2_storeRow 4 none, Cond.methodLink RX2 22 yX2_setCell, Cond.methodLink RX3 230 yX3_positionBehind, Cond.instanceMethod yX3_positionBehind, Cond.selects RX3 yX3_positionBehind yX3_positionBehind, Cond.code yX3_positionBehind cX3_positionBehind 2 (some .int), Cond.methodLink RX3 233 yX3_endIfAllPassed, Cond.instanceMethod yX3_endIfAllPassed, Cond.selects RX3 yX3_endIfAllPassed yX3_endIfAllPassed, Cond.code yX3_endIfAllPassed cX3_endIfAllPassed 1 none, Cond.methodLink RL 149 yX3_holder, Cond.instanceMethod yX3_holder, Cond.selects RX3 yX3_holder yX3_holder, Cond.code yX3_holder cX3_holder 1 (some .int)]
def wsL_refuses : List Cond := .code yL_refuses cL_refuses 9 (some .boolean) :: ((wsL_refuses_r1 ++ (wsL_refuses_r2 ++ (wsL_refuses_r3 ++ (wsL_refuses_r4 ++ (wsL_refuses_r5 ++ (wsL_refuses_r6 ++ (wsL_refuses_r7 ++ (wsL_refuses_r8 ++ (wsL_refuses_r9 ++ (wsL_refuses_r10 ++ (wsL_refuses_r11 ++ (wsL_refuses_r12 ++ (wsL_refuses_r13 ++ (wsL_refuses_r14 ++ (wsL_refuses_r15 ++ wsL_refuses_r16))))))))))))))) ++ wsX30 ++ wsX00 ++ wsX20 ++ wsX10 ++ (vx_atS RX3 50 "java/lang/IllegalStateException" ["java/lang/RuntimeException", "java/lang/Exception"]).filter goodWord ++ (vx_atS RX3 126 "java/lang/IllegalArgumentException" ["java/lang/RuntimeException", "java/lang/Exception"]).filter goodWord ++ (vx_atS RX3 280 "java/lang/IndexOutOfBoundsException" ["java/lang/RuntimeException", "java/lang/Exception"]).filter goodWord)
def wsL_alike_r1 : List Cond := [Cond.methodLink RL 152 yX3_level, Cond.instanceMethod yX3_level, Cond.selects RX3 yX3_level yX3_level, Cond.initialized RX3, Cond.code yX3_level cX3_level 1 (some .int), Cond.fieldLink RX3 81 "Migrationledger" "done" "I", Cond.methodLink RL 89 yX3_changes, Cond.instanceMethod yX3_changes, Cond.selects RX3 yX3_changes yX3_changes, Cond.code yX3_changes cX3_changes 1 (some .int), Cond.fieldLink RX3 10 "Migrationledger" "list" "LMigrationledger$ChangeList;", Cond.methodLink RX3 78 yX0_count, Cond.instanceMethod yX0_count, Cond.selects RX0 yX0_count yX0_count, Cond.initialized RX0, Cond.code yX0_count cX0_count 1 (some .int), Cond.fieldLink RX0 24 "Migrationledger$ChangeList" "count" "I", Cond.methodLink RL 155 yX3_drifted, Cond.instanceMethod yX3_drifted, Cond.selects RX3 yX3_drifted yX3_drifted, Cond.code yX3_drifted cX3_drifted 1 (some .int), Cond.methodLink RX3 84 yX0_firstDrifted, Cond.instanceMethod yX0_firstDrifted, Cond.selects RX0 yX0_firstDrifted yX0_firstDrifted]
def wsL_alike_r2 : List Cond := [Cond.code yX0_firstDrifted cX0_firstDrifted 3 (some .int), Cond.methodLink RX0 37 yX0_hasDrifted, Cond.instanceMethod yX0_hasDrifted, Cond.selects RX0 yX0_hasDrifted yX0_hasDrifted, Cond.code yX0_hasDrifted cX0_hasDrifted 2 (some .boolean), Cond.fieldLink RX0 21 "Migrationledger$ChangeList" "recorded" "[I", Cond.methodLink RX0 33 yX0_checksumOf, Cond.instanceMethod yX0_checksumOf, Cond.selects RX0 yX0_checksumOf yX0_checksumOf, Cond.code yX0_checksumOf cX0_checksumOf 4 (some .int), Cond.fieldLink RX0 9 "Migrationledger$ChangeList" "kinds" "[I", Cond.fieldLink RX0 15 "Migrationledger$ChangeList" "columns" "[I", Cond.fieldLink RX0 18 "Migrationledger$ChangeList" "operands" "[I", Cond.constant RX0 32 (65521), Cond.methodLink RL 122 yL_version, Cond.static yL_version, Cond.initialized RL, Cond.codeWith yL_version cL_version 3 (some .int) [(0, 5, 6, 13)], Cond.classLink RL 13 "java/lang/IllegalArgumentException", Cond.constant RL 15 (-2000000002), Cond.methodLink RL 46 yX3_version, Cond.instanceMethod yX3_version, Cond.selects RX3 yX3_version yX3_version, Cond.code yX3_version cX3_version 2 (some .int)]
def wsL_alike_r3 : List Cond := [Cond.fieldLink RX3 19 "Migrationledger" "table" "LMigrationledger$Table;", Cond.methodLink RX3 87 yX3_requireId, Cond.static yX3_requireId, Cond.code yX3_requireId cX3_requireId 1 none, Cond.classLink RX3 122 "java/lang/IllegalArgumentException", Cond.initialized "java/lang/IllegalArgumentException", Cond.methodLink RX3 119 yX2_versionOf, Cond.instanceMethod yX2_versionOf, Cond.selects RX2 yX2_versionOf yX2_versionOf, Cond.initialized RX2, Cond.code yX2_versionOf cX2_versionOf 2 (some .int), Cond.fieldLink RX2 15 "Migrationledger$Table" "versions" "[I", Cond.methodLink RL 119 yL_value, Cond.static yL_value, Cond.codeWith yL_value cL_value 4 (some .int) [(0, 6, 7, 13), (0, 6, 11, 23)], Cond.classLink RL 23 "java/lang/IndexOutOfBoundsException", Cond.constant RL 25 (-2000000001), Cond.methodLink RL 42 yX3_value, Cond.instanceMethod yX3_value, Cond.selects RX3 yX3_value yX3_value, Cond.code yX3_value cX3_value 3 (some .int), Cond.methodLink RX3 109 yX3_requireColumn, Cond.static yX3_requireColumn, Cond.code yX3_requireColumn cX3_requireColumn 1 none]
def wsL_alike_r4 : List Cond := [Cond.methodLink RX3 250 yX3_isColumn, Cond.static yX3_isColumn, Cond.code yX3_isColumn cX3_isColumn 1 (some .boolean), Cond.methodLink RX3 112 yX3_requirePresent, Cond.instanceMethod yX3_requirePresent, Cond.selects RX3 yX3_requirePresent yX3_requirePresent, Cond.code yX3_requirePresent cX3_requirePresent 2 none, Cond.classLink RX3 276 "java/lang/IndexOutOfBoundsException", Cond.initialized "java/lang/IndexOutOfBoundsException", Cond.methodLink RX3 93 yX2_isPresent, Cond.instanceMethod yX2_isPresent, Cond.selects RX2 yX2_isPresent yX2_isPresent, Cond.code yX2_isPresent cX2_isPresent 2 (some .boolean), Cond.methodLink RX3 115 yX2_cell, Cond.instanceMethod yX2_cell, Cond.selects RX2 yX2_cell yX2_cell, Cond.code yX2_cell cX2_cell 3 (some .int), Cond.fieldLink RX2 9 "Migrationledger$Table" "cells" "[I"]
def wsL_alike : List Cond := .code yL_alike cL_alike 4 (some .boolean) :: ((wsL_alike_r1 ++ (wsL_alike_r2 ++ (wsL_alike_r3 ++ wsL_alike_r4))) ++ wsX30 ++ wsX00 ++ wsX20 ++ (vx_atS RX3 126 "java/lang/IllegalArgumentException" ["java/lang/RuntimeException", "java/lang/Exception"]).filter goodWord ++ (vx_atS RX3 280 "java/lang/IndexOutOfBoundsException" ["java/lang/RuntimeException", "java/lang/Exception"]).filter goodWord)
def wsL_comes_r1 : List Cond := [Cond.constant RL 18 (-2000000003), Cond.constant RL 88 (2147483647), Cond.constant RL 161 (131072), Cond.methodLink RL 158 yL_cursor, Cond.static yL_cursor, Cond.initialized RL, Cond.codeWith yL_cursor cL_cursor 2 (some .int) [(0, 4, 5, 16)], Cond.classLink RL 16 "java/lang/IllegalStateException", Cond.methodLink RL 78 yX3_cursor, Cond.instanceMethod yX3_cursor, Cond.selects RX3 yX3_cursor yX3_cursor, Cond.initialized RX3, Cond.code yX3_cursor cX3_cursor 1 (some .int), Cond.fieldLink RX3 184 "Migrationledger" "position" "I", Cond.methodLink RX3 199 yX3_requireActive, Cond.instanceMethod yX3_requireActive, Cond.selects RX3 yX3_requireActive yX3_requireActive, Cond.code yX3_requireActive cX3_requireActive 1 none, Cond.classLink RX3 46 "java/lang/IllegalStateException", Cond.initialized "java/lang/IllegalStateException", Cond.methodLink RX3 61 yX3_isActive, Cond.instanceMethod yX3_isActive, Cond.selects RX3 yX3_isActive yX3_isActive, Cond.code yX3_isActive cX3_isActive 1 (some .boolean)]
def wsL_comes_r2 : List Cond := [Cond.fieldLink RX3 34 "Migrationledger" "phase" "I", Cond.methodLink RL 149 yX3_holder, Cond.instanceMethod yX3_holder, Cond.selects RX3 yX3_holder yX3_holder, Cond.code yX3_holder cX3_holder 1 (some .int), Cond.fieldLink RX3 26 "Migrationledger" "lock" "LMigrationledger$Lock;", Cond.methodLink RX3 150 yX1_owner, Cond.instanceMethod yX1_owner, Cond.selects RX1 yX1_owner yX1_owner, Cond.initialized RX1, Cond.code yX1_owner cX1_owner 1 (some .int), Cond.fieldLink RX1 19 "Migrationledger$Lock" "time" "I", Cond.fieldLink RX1 22 "Migrationledger$Lock" "leaseEnd" "I", Cond.fieldLink RX1 15 "Migrationledger$Lock" "taker" "I", Cond.methodLink RL 134 yL_restarts, Cond.static yL_restarts, Cond.codeWith yL_restarts cL_restarts 3 (some .int) [(0, 13, 14, 13), (0, 13, 18, 16)], Cond.classLink RL 13 "java/lang/IllegalArgumentException", Cond.constant RL 15 (-2000000002), Cond.methodLink RL 62 yX3_restart, Cond.instanceMethod yX3_restart, Cond.selects RX3 yX3_restart yX3_restart, Cond.code yX3_restart cX3_restart 2 (some .boolean), Cond.methodLink RX3 142 yX3_requireWorker]
def wsL_comes_r3 : List Cond := [Cond.static yX3_requireWorker, Cond.code yX3_requireWorker cX3_requireWorker 1 none, Cond.classLink RX3 122 "java/lang/IllegalArgumentException", Cond.initialized "java/lang/IllegalArgumentException", Cond.methodLink RX3 164 yX1_hasCrashed, Cond.instanceMethod yX1_hasCrashed, Cond.selects RX1 yX1_hasCrashed yX1_hasCrashed, Cond.code yX1_hasCrashed cX1_hasCrashed 2 (some .boolean), Cond.fieldLink RX1 9 "Migrationledger$Lock" "crashed" "[Z", Cond.methodLink RX3 169 yX1_setCrashed, Cond.instanceMethod yX1_setCrashed, Cond.selects RX1 yX1_setCrashed yX1_setCrashed, Cond.code yX1_setCrashed cX1_setCrashed 3 none, Cond.methodLink RL 128 yL_takes, Cond.static yL_takes, Cond.codeWith yL_takes cL_takes 4 (some .int) [(0, 6, 7, 13), (0, 6, 11, 16)], Cond.methodLink RL 55 yX3_take, Cond.instanceMethod yX3_take, Cond.selects RX3 yX3_take yX3_take, Cond.code yX3_take cX3_take 4 (some .int), Cond.methodLink RX3 147 yX3_requireNotCrashed, Cond.instanceMethod yX3_requireNotCrashed, Cond.selects RX3 yX3_requireNotCrashed yX3_requireNotCrashed, Cond.code yX3_requireNotCrashed cX3_requireNotCrashed 2 none]
def wsL_comes_r4 : List Cond := [Cond.methodLink RX3 155 yX1_grant, Cond.instanceMethod yX1_grant, Cond.selects RX1 yX1_grant yX1_grant, Cond.code yX1_grant cX1_grant 3 (some .int), Cond.methodLink RL 146 yL_steps, Cond.static yL_steps, Cond.codeWith yL_steps cL_steps 5 (some .int) [(0, 7, 8, 13), (0, 7, 13, 16)], Cond.methodLink RL 75 yX3_step, Cond.instanceMethod yX3_step, Cond.selects RX3 yX3_step yX3_step, Cond.code yX3_step cX3_step 4 (some .int), Cond.methodLink RX3 205 Lib.Math.min.name, Cond.static Lib.Math.min.name, Cond.initialized "java/lang/Math", Cond.code Lib.Math.min.name Lib.Math.min.code 2 (some .int), Cond.methodLink RX3 158 yX3_requireAtWork, Cond.instanceMethod yX3_requireAtWork, Cond.selects RX3 yX3_requireAtWork yX3_requireAtWork, Cond.code yX3_requireAtWork cX3_requireAtWork 2 none, Cond.methodLink RX3 202 yX3_idsLeft, Cond.instanceMethod yX3_idsLeft, Cond.selects RX3 yX3_idsLeft yX3_idsLeft, Cond.code yX3_idsLeft cX3_idsLeft 1 (some .int), Cond.methodLink RX3 210 yX3_goThrough]
def wsL_comes_r5 : List Cond := [Cond.instanceMethod yX3_goThrough, Cond.selects RX3 yX3_goThrough yX3_goThrough, Cond.code yX3_goThrough cX3_goThrough 7 (some .int), Cond.methodLink RX3 221 yX3_idBehind, Cond.instanceMethod yX3_idBehind, Cond.selects RX3 yX3_idBehind yX3_idBehind, Cond.code yX3_idBehind cX3_idBehind 2 (some .int), Cond.methodLink RX3 224 yX3_isToBeChanged, Cond.instanceMethod yX3_isToBeChanged, Cond.selects RX3 yX3_isToBeChanged yX3_isToBeChanged, Cond.code yX3_isToBeChanged cX3_isToBeChanged 3 (some .boolean), Cond.fieldLink RX3 19 "Migrationledger" "table" "LMigrationledger$Table;", Cond.methodLink RX3 93 yX2_isPresent, Cond.instanceMethod yX2_isPresent, Cond.selects RX2 yX2_isPresent yX2_isPresent, Cond.initialized RX2, Cond.code yX2_isPresent cX2_isPresent 2 (some .boolean), Cond.fieldLink RX2 15 "Migrationledger$Table" "versions" "[I", Cond.methodLink RX3 119 yX2_versionOf, Cond.instanceMethod yX2_versionOf, Cond.selects RX2 yX2_versionOf yX2_versionOf, Cond.code yX2_versionOf cX2_versionOf 2 (some .int), Cond.methodLink RX3 64 yX3_activeNumber, Cond.instanceMethod yX3_activeNumber]
def wsL_comes_r6 : List Cond := [Cond.selects RX3 yX3_activeNumber yX3_activeNumber, Cond.code yX3_activeNumber cX3_activeNumber 1 (some .int), Cond.fieldLink RX3 81 "Migrationledger" "done" "I", Cond.methodLink RX3 227 yX3_changeRow, Cond.instanceMethod yX3_changeRow, Cond.selects RX3 yX3_changeRow yX3_changeRow, Cond.code yX3_changeRow cX3_changeRow 4 (some .boolean), Cond.fieldLink RX3 30 "Migrationledger" "tried" "[I", Cond.methodLink RX3 132 yX2_copyRow, Cond.instanceMethod yX2_copyRow, Cond.selects RX2 yX2_copyRow yX2_copyRow, Cond.code yX2_copyRow cX2_copyRow 4 none, Cond.methodLink RX2 18 yX2_cell, Cond.instanceMethod yX2_cell, Cond.selects RX2 yX2_cell yX2_cell, Cond.code yX2_cell cX2_cell 3 (some .int), Cond.fieldLink RX2 9 "Migrationledger$Table" "cells" "[I", Cond.methodLink RX3 136 yX3_bringTried, Cond.instanceMethod yX3_bringTried, Cond.selects RX3 yX3_bringTried yX3_bringTried, Cond.code yX3_bringTried cX3_bringTried 4 (some .boolean), Cond.fieldLink RX3 10 "Migrationledger" "list" "LMigrationledger$ChangeList;", Cond.methodLink RX3 239 yX0_applyTo, Cond.instanceMethod yX0_applyTo]
def wsL_comes_r7 : List Cond := [Cond.selects RX0 yX0_applyTo yX0_applyTo, Cond.initialized RX0, Cond.code yX0_applyTo cX0_applyTo 7 (some .boolean), Cond.fieldLink RX0 15 "Migrationledger$ChangeList" "columns" "[I", Cond.fieldLink RX0 18 "Migrationledger$ChangeList" "operands" "[I", Cond.fieldLink RX0 9 "Migrationledger$ChangeList" "kinds" "[I", Cond.methodLink RX0 41 yX0_putResult, Cond.static yX0_putResult, Cond.code yX0_putResult cX0_putResult 4 (some .boolean), Cond.static yX3_isTableValue, Cond.code yX3_isTableValue cX3_isTableValue 2 (some .boolean), Cond.constantLong RX3 246 (-1000000000), Cond.constantLong RX3 248 (1000000000), Cond.methodLink RX0 45 yX0_exchange, Cond.static yX0_exchange, Cond.code yX0_exchange cX0_exchange 4 (some .boolean), Cond.methodLink RX3 243 yX0_undoOn, Cond.instanceMethod yX0_undoOn, Cond.selects RX0 yX0_undoOn yX0_undoOn, Cond.code yX0_undoOn cX0_undoOn 7 (some .boolean), Cond.methodLink RX3 236 yX2_storeRow, Cond.instanceMethod yX2_storeRow, Cond.selects RX2 yX2_storeRow yX2_storeRow, Cond.code yX2_storeRow cX2_storeRow 4 none]
def wsL_comes_r8 : List Cond := [Cond.methodLink RX2 22 yX2_setCell, Cond.instanceMethod yX2_setCell, Cond.selects RX2 yX2_setCell yX2_setCell, Cond.code yX2_setCell cX2_setCell 4 none, Cond.methodLink RX3 105 yX2_setVersion, Cond.instanceMethod yX2_setVersion, Cond.selects RX2 yX2_setVersion yX2_setVersion, Cond.code yX2_setVersion cX2_setVersion 3 none, Cond.methodLink RX3 230 yX3_positionBehind, Cond.instanceMethod yX3_positionBehind, Cond.selects RX3 yX3_positionBehind yX3_positionBehind, Cond.code yX3_positionBehind cX3_positionBehind 2 (some .int), Cond.methodLink RX3 233 yX3_endIfAllPassed, Cond.instanceMethod yX3_endIfAllPassed, Cond.selects RX3 yX3_endIfAllPassed yX3_endIfAllPassed, Cond.code yX3_endIfAllPassed cX3_endIfAllPassed 1 none, Cond.methodLink RL 137 yL_passes, Cond.static yL_passes, Cond.codeWith yL_passes cL_passes 3 (some .int) [(0, 5, 6, 13)], Cond.methodLink RL 66 yX3_pass, Cond.instanceMethod yX3_pass, Cond.selects RX3 yX3_pass yX3_pass, Cond.code yX3_pass cX3_pass 2 (some .int), Cond.methodLink RX3 175 yX1_advance]
def wsL_comes_r9 : List Cond := [Cond.instanceMethod yX1_advance, Cond.selects RX1 yX1_advance yX1_advance, Cond.code yX1_advance cX1_advance 2 (some .int)]
def wsL_comes : List Cond := .code yL_comes cL_comes 15 (some .int) :: ((wsL_comes_r1 ++ (wsL_comes_r2 ++ (wsL_comes_r3 ++ (wsL_comes_r4 ++ (wsL_comes_r5 ++ (wsL_comes_r6 ++ (wsL_comes_r7 ++ (wsL_comes_r8 ++ wsL_comes_r9)))))))) ++ wsX30 ++ wsX10 ++ wsX20 ++ wsX00 ++ (vx_atS RX3 50 "java/lang/IllegalStateException" ["java/lang/RuntimeException", "java/lang/Exception"]).filter goodWord ++ (vx_atS RX3 126 "java/lang/IllegalArgumentException" ["java/lang/RuntimeException", "java/lang/Exception"]).filter goodWord)
def wsL_ledgerWorker_r1 : List Cond := [Cond.methodLink RL 149 yX3_holder, Cond.instanceMethod yX3_holder, Cond.selects RX3 yX3_holder yX3_holder, Cond.initialized RX3, Cond.code yX3_holder cX3_holder 1 (some .int), Cond.fieldLink RX3 26 "Migrationledger" "lock" "LMigrationledger$Lock;", Cond.methodLink RX3 150 yX1_owner, Cond.instanceMethod yX1_owner, Cond.selects RX1 yX1_owner yX1_owner, Cond.initialized RX1, Cond.code yX1_owner cX1_owner 1 (some .int), Cond.fieldLink RX1 19 "Migrationledger$Lock" "time" "I", Cond.fieldLink RX1 22 "Migrationledger$Lock" "leaseEnd" "I", Cond.fieldLink RX1 15 "Migrationledger$Lock" "taker" "I", Cond.methodLink RL 134 yL_restarts, Cond.static yL_restarts, Cond.initialized RL, Cond.codeWith yL_restarts cL_restarts 3 (some .int) [(0, 13, 14, 13), (0, 13, 18, 16)], Cond.classLink RL 13 "java/lang/IllegalArgumentException", Cond.classLink RL 16 "java/lang/IllegalStateException", Cond.constant RL 15 (-2000000002), Cond.constant RL 18 (-2000000003), Cond.methodLink RL 62 yX3_restart, Cond.instanceMethod yX3_restart]
def wsL_ledgerWorker_r2 : List Cond := [Cond.selects RX3 yX3_restart yX3_restart, Cond.code yX3_restart cX3_restart 2 (some .boolean), Cond.classLink RX3 46 "java/lang/IllegalStateException", Cond.initialized "java/lang/IllegalStateException", Cond.methodLink RX3 142 yX3_requireWorker, Cond.static yX3_requireWorker, Cond.code yX3_requireWorker cX3_requireWorker 1 none, Cond.classLink RX3 122 "java/lang/IllegalArgumentException", Cond.initialized "java/lang/IllegalArgumentException", Cond.methodLink RX3 164 yX1_hasCrashed, Cond.instanceMethod yX1_hasCrashed, Cond.selects RX1 yX1_hasCrashed yX1_hasCrashed, Cond.code yX1_hasCrashed cX1_hasCrashed 2 (some .boolean), Cond.fieldLink RX1 9 "Migrationledger$Lock" "crashed" "[Z", Cond.methodLink RX3 169 yX1_setCrashed, Cond.instanceMethod yX1_setCrashed, Cond.selects RX1 yX1_setCrashed yX1_setCrashed, Cond.code yX1_setCrashed cX1_setCrashed 3 none, Cond.methodLink RL 128 yL_takes, Cond.static yL_takes, Cond.codeWith yL_takes cL_takes 4 (some .int) [(0, 6, 7, 13), (0, 6, 11, 16)], Cond.methodLink RL 55 yX3_take, Cond.instanceMethod yX3_take, Cond.selects RX3 yX3_take yX3_take]
def wsL_ledgerWorker_r3 : List Cond := [Cond.code yX3_take cX3_take 4 (some .int), Cond.methodLink RX3 147 yX3_requireNotCrashed, Cond.instanceMethod yX3_requireNotCrashed, Cond.selects RX3 yX3_requireNotCrashed yX3_requireNotCrashed, Cond.code yX3_requireNotCrashed cX3_requireNotCrashed 2 none, Cond.methodLink RX3 155 yX1_grant, Cond.instanceMethod yX1_grant, Cond.selects RX1 yX1_grant yX1_grant, Cond.code yX1_grant cX1_grant 3 (some .int)]
def wsL_ledgerWorker : List Cond := .code yL_ledgerWorker cL_ledgerWorker 3 (some .int) :: ((wsL_ledgerWorker_r1 ++ (wsL_ledgerWorker_r2 ++ wsL_ledgerWorker_r3)) ++ wsX30 ++ wsX10 ++ (vx_atS RX3 50 "java/lang/IllegalStateException" ["java/lang/RuntimeException", "java/lang/Exception"]).filter goodWord ++ (vx_atS RX3 126 "java/lang/IllegalArgumentException" ["java/lang/RuntimeException", "java/lang/Exception"]).filter goodWord)
abbrev vwCl : List vw_C := [(RX0, TX0, 5), (RX1, TX1, 4), (RX2, TX2, 2), (RX3, TX3, 7)]
