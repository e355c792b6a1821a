theorem lw_pre_spec {args : Array Value} {s : State} (h : (Jvm.Cond.and given_1 narrow_1).before args s = true) (hr : rest_1_c.before args s = true) : ∃ (b : Addr) (xs : List Int32), lw_P b xs args s := by
  have hs := flat_of_before _ h
  have hq := flat_of_before _ hr
  have hc : (Cond.count 1).before args s = true := hs _ (by decide +kernel)
  have harr : (Cond.arrayOf (.arg 0) .int).before args s = true := hs _ (by decide +kernel)
  have hle : (Cond.le (.length (.arg 0)) (.int 260)).before args s = true := hs _ (by decide +kernel)
  have hlen : (Cond.isInt (.length (.arg 0))).before args s = true := hq _ (by decide +kernel)
  have hall : (Cond.all (.arg 0) (.isInt (.elem (.arg 0) (.index 0)))).before args s = true := hq _ (by decide +kernel)
  obtain ⟨b, xs, hb, hx⟩ := State.ints_of_pre rfl harr hlen hall
  have hsm : xs.length < 2 ^ 31 := hx.choose_spec.2.2.2
  have hev : (Term.length (.arg 0)).eval args s none [] s = some (.int xs.length.toInt32) := hx.length_eval hb
  have hv := Cond.le_ints hev (show (Term.int 260).eval args s none [] s = some (.int 260) from rfl)
  have hd : xs.length.toInt32 ≤ 260 := by
    simpa [Cond.before, Cond.holds, hv] using hle
  have hN : xs.length ≤ 260 := (Int32.ofNat_le_ofNat hsm (by decide)).mp (show Int32.ofNat xs.length ≤ Int32.ofNat 260 from hd)
  exact ⟨b, xs, Cond.one_arg hc (show args[0]? = some (.ref b) from hb), hx, hN, h⟩
/-! THE STATEMENT IS FALSE: its room is 159 cells, and the law makes more -/
set_option maxHeartbeats 4000000 in
/-- from the invocation: far (the entry as in the library's MetFree.of_bodySF, the start as in lw_walk) -/
theorem far_reach {l : Launch} (hflags : l.flags = flags0) {p : Program} {e : Env} {s : State} {m : MethodId} {args : Array Value} {below : List Frame} (ha : l.admits e) (hc : FairCas e.choices) (hk : FairClock e.choices)
    (hf : s.frames = .invoking m args :: below) (happ : (headSpec (Cond.code x code maxLocals ret :: tables_1) room_1).appliesLoose x e.platform s = true) (hroom : s.hasRoom e.platform R9 = true)
    {b9 : Addr} {xs : List Int32} (hx : lw_P b9 xs args s) (hL0 : 0 < xs.length) (hx0 : xs.getD 0 0 = -49) : ∃ t, Steps p.tables e below s t ∧ far_Q below s t := by
  obtain ⟨hrun, hable, halone, hname, hhears, hinit, -, hpre⟩ := (Spec.appliesLoose_iff hf).mp happ
  have hts0 : ∀ w ∈ (Cond.code x code maxLocals ret :: tables_1), w.before args s = true := atoms_spec (ws := Cond.code x code maxLocals ret :: tables_1) hpre
  obtain ⟨meth, c, hmeth, hcode, hbytes, hlocals, hret, hlocks, -, -⟩ := Cond.code_spec hname (hts0 _ List.mem_cons_self)
  have hcur := State.cur_lt_of_frames hf
  have hf1 : (s.setFrames (.java (entryFrame m args maxLocals) :: below)).frames = .java (entryFrame m args maxLocals) :: below :=
    State.frames_setFrames _ hcur
  have ht1 := State.topJava?_of_frames hf1
  have hplain : (s.setFrames (.java (entryFrame m args maxLocals) :: below)).plainMethod m := State.plainMethod.of_named (s := s) (plainFor_of_name (by decide)) hname hmeth
  have hAt : At (s.setFrames (.java (entryFrame m args maxLocals) :: below)) m c below :=
    ⟨by rw [ht1]; rfl, ⟨[], by rw [hf1]; rfl⟩, hrun, by simpa using hable, by simpa using halone,
      by rw [State.code?_eq]; simp [State.setFrames, hmeth, hcode], hplain⟩
  have hstep : (stepThread p.tables e s).1 = (s.setFrames (.java (entryFrame m args maxLocals) :: below)).setTop (entryFrame m args maxLocals) := by
    have hfull : e.platform.stackFull (s.setFrames below).me (s.setFrames below).frames c.maxLocals = false := by
      obtain ⟨-, h1, -, h2⟩ := State.hasRoom_stack hroom
      rw [hf, List.length_cons] at h1
      rw [State.localsInUse_invoking hf hmeth hcode] at h2
      have hw := stackUse_le_stackWeight below
      rw [State.frames_setFrames _ hcur]
      exact Platform.stackFull_eq_false (by rw [State.stackLimits_setFrames]; omega) (by rw [State.stackLimits_setFrames]; omega)
    rw [stepThread_invoking hf, (doInvoke_java (s := s.setFrames below) (e := e) (meth := meth) (code := c) hmeth hcode hlocks hfull).1, State.setTop_self ht1]
    simp only [State.pushFrame, State.frames_setFrames _ hcur, State.setFrames_setFrames, hlocals, entryFrame]
  obtain ⟨s₁, hs₁⟩ : ∃ s₁, s₁ = s.setFrames (.java (entryFrame m args maxLocals) :: below) := ⟨_, rfl⟩
  have B : BodyLoose p l x (headSpec (Cond.code x code maxLocals ret :: tables_1) R9) code maxLocals ret e s m args below meth c s₁ :=
    ⟨ha, hc, hk, by cases p <;> rfl, hf, hname, hhears, hinit, hroom, hpre, hmeth, hret, hlocks, hbytes, hs₁, by rw [hs₁]; exact hAt⟩
  obtain ⟨rfl, hxs, hbd, hgv⟩ := hx
  obtain ⟨scr, harrAt, hlist, hof, hsmall⟩ := hxs
  obtain ⟨hcb, hkn, -, -⟩ := State.arrayAt?_spec harrAt
  have hown : s.vm.findClass R_law = some m.cls := findClass_of_methodNamed B.named
  have hts : ∀ w ∈ lw_tbl, w.before #[Value.ref b9] s = true := k2_hts_sels lw_privs (fun w hw => hts0 w (List.mem_cons_of_mem _ hw)) lw_privs_ok
  have hml : c.maxLocals = 16 := hlocals
  have X₀ : Stand p l e R9 s m #[Value.ref b9] below meth c s₁ [] 0 0 := Stand.of_body B
  have hh0 : s₁.heap = s.heap := by rw [B.state]; rfl
  have hsz : scr.slots.size = xs.length := by rw [← Array.length_toList, hlist, List.length_map]
  have hval : ∀ j : Nat, j < xs.length → scr.slots[j]? = some (.int (xs.getD j 0)) := fun j hj => by
    rw [← Array.getElem?_toList, hlist]
    simp [hj]
  have hbl : b9 < s.heap.size := (Array.getElem?_eq_some_iff.mp hcb).1
  have hX : va_X b9 xs.length (fun j => xs.getD j 0) s s.heap := ⟨scr, hcb, hof, hkn, hsz, hval⟩
  have K : W p l e R9 s m #[Value.ref b9] below meth c s₁.heap [] 0 0 (far_Q below s) (entryFrame m ([Value.ref b9] : List Value).toArray 16) := by
    rw [hh0]
    exact whole_far l hflags hbd ⟨B.exec, B.bytes, B.returns, hml, hown, hts, hX, hbl, B.notSynchronized, hgv⟩ hL0 hx0
  obtain ⟨t, a1, b1⟩ := K s₁ rfl X₀
  refine ⟨t, Steps.head (tb := p.tables) (e := e) ⟨hrun, hable, halone⟩ ⟨[.invoking m #[Value.ref b9]], hf, by simp, by simp⟩ ?_, b1⟩
  rw [hstep, ← hs₁]
  exact a1
set_option maxHeartbeats 4000000 in
/-- at every start that the Statement allows, with a wide room and a script that begins with -49, it is false -/
theorem false_at {l : Launch} (hflags : l.flags = flags0) {p : Program} {e : Env} {s : State} {m : MethodId} {args : Array Value} {below : List Frame}
    (hA : AtStart classFile x code maxLocals ret World_1 tables_1 room_1 Calls_1 rest_1 Pre_1 l p e s m args below) (hroom : s.hasRoom e.platform R9 = true)
    {b9 : Addr} {scr : Cell} (hargs : args[0]? = some (.ref b9)) (hscr : s.heap[b9]? = some scr) (h0 : scr.slots[0]? = some (.int (-49))) : ¬ (Claimed_1_1 ∧ Claimed_1_2) := by
  intro hC
  obtain ⟨hLi, hW, had, -, hcas, hclk, hfr, hfit, hheap, happ, hcalls, hrest, hpre⟩ := hA
  obtain ⟨k, o, hin, -, hend, hpost, hfrm⟩ := hC.1 l hflags hLi hW p e had hcas hclk s m args below hfr hfit hheap happ ⟨hcalls, hrest, hpre⟩
  obtain ⟨k2, o2, hin2, -, hend2, hpost2, -⟩ := hC.2 l hflags hLi hW p e had hcas hclk s m args below hfr hfit hheap happ ⟨hcalls, hrest, hpre⟩
  obtain ⟨b8, xs, hP⟩ := lw_pre_spec hpre hrest
  have hb : b8 = b9 := by
    obtain ⟨rfl, -⟩ := hP
    exact Value.ref.inj (Option.some.inj (show some (Value.ref b8) = some (Value.ref b9) from hargs))
  subst hb
  obtain ⟨hL0, hx0⟩ : 0 < xs.length ∧ xs.getD 0 0 = -49 := by
    obtain ⟨-, ⟨scr2, harrAt, hlist, -, -⟩, -, -⟩ := id hP
    obtain ⟨hcb, -, -, -⟩ := State.arrayAt?_spec harrAt
    obtain rfl : scr = scr2 := Option.some.inj (hscr.symm.trans hcb)
    rw [← Array.getElem?_toList, hlist] at h0
    cases xs with
    | nil => simp at h0
    | cons y ys =>
      simp at h0
      exact ⟨Nat.succ_pos _, by simpa using h0⟩
  obtain ⟨t, ⟨n, hn, hw⟩, hq⟩ := far_reach hflags had hcas hclk hfr ((Spec.applies_iff_loose hfr).mp happ).1 hroom hP hL0 hx0
  rcases hq with hbig | ⟨o3, -, hend3, ho3⟩
  · have hnk : n ≤ k := Nat.le_of_not_lt fun q => hend.not_within (hw k q)
    have h1 := (stepsAlone_heap_grows_add p.tables e n (k - n) s).1
    rw [Nat.add_sub_cancel' hnk, hn] at h1
    have h2 := hfrm.2.2.2.2.1
    have h3 : (stepsAlone p.tables e k s).heap.size ≤ s.heap.size + 159 := h2
    omega
  · rw [← hn] at hend3
    have hk : n = k2 := by
      rcases Nat.lt_trichotomy n k2 with h | h | h
      · exact absurd (hin2 n h) hend3.not_within
      · exact h
      · exact absurd (hw k2 h) hend2.not_within
    subst hk
    have he := hend3.outcome_unique hend2
    subst he
    subst ho3
    have h9 : limb_1_2.after args s (.returned (some (.int 0))) (stepsAlone p.tables e n s) = true := hpost2
    rw [Cond.after_iff, show limb_1_2 = Cond.eq .result (.int 1) from rfl, Cond.eq_ints (x := 0) (y := 1) rfl rfl] at h9
    exact absurd h9 (by decide)
