/-! calls over a part of the world: the rest stays; how far the heap has grown goes along -/
/-- the world behind a call, and how many cells are new at the least -/
def ml_BZ {σ : Type} (G : va_G) (cy : Nat → ClassId) (A : Nat → Prop) (w : σ → va_W) (sz : Nat) (k : σ → Nat) : σ → State → Prop := fun u t => ml_B G cy A w u t ∧ sz + k u ≤ t.heap.size
/-- what a helper of the law answers: the call's own answer, or the sign of its refusal -/
def hRr (q : Rs) (c1 c2 c3 r : Int32) : Prop := (q.1 = 0 → r = q.2.1) ∧ (q.1 = 1 → r = c1) ∧ (q.1 = 2 → r = c2) ∧ (q.1 = 3 → r = c3)
/-- a refusal makes a cell -/
noncomputable def gw (q : Rs) : Nat := cif (q.1 = 0) 0 1
theorem gw_0 {q : Rs} (h : q.1 = 0) : gw q = 0 := cif_t h
theorem gw_1 {q : Rs} (h : q.1 ≠ 0) : gw q = 1 := cif_f h
theorem gw_le {q : Rs} : gw q ≤ 1 := by
  by_cases h : q.1 = 0
  · rw [gw_0 h]; exact Nat.zero_le 1
  · rw [gw_1 h]; exact Nat.le_refl 1
theorem hRr_0 {q : Rs} {c1 c2 c3 r : Int32} (h0 : q.1 = 0) (h : q.2.1 = r) : hRr q c1 c2 c3 r :=
  ⟨fun _ => h.symm, fun e => absurd (h0.symm.trans e) (by decide), fun e => absurd (h0.symm.trans e) (by decide), fun e => absurd (h0.symm.trans e) (by decide)⟩
theorem hRr_1 {q : Rs} {c1 c2 c3 : Int32} {T : TS} (e : q = (1, 0, T)) : hRr q c1 c2 c3 c1 := by
  subst e
  exact ⟨fun e => absurd (show (1 : Int32) = 0 from e) (by decide), fun _ => rfl, fun e => absurd (show (1 : Int32) = 2 from e) (by decide), fun e => absurd (show (1 : Int32) = 3 from e) (by decide)⟩
theorem hRr_2 {q : Rs} {c1 c2 c3 : Int32} {T : TS} (e : q = (2, 0, T)) : hRr q c1 c2 c3 c2 := by
  subst e
  exact ⟨fun e => absurd (show (2 : Int32) = 0 from e) (by decide), fun e => absurd (show (2 : Int32) = 1 from e) (by decide), fun _ => rfl, fun e => absurd (show (2 : Int32) = 3 from e) (by decide)⟩
theorem hRr_3 {q : Rs} {c1 c2 c3 : Int32} {T : TS} (e : q = (3, 0, T)) : hRr q c1 c2 c3 c3 := by
  subst e
  exact ⟨fun e => absurd (show (3 : Int32) = 0 from e) (by decide), fun e => absurd (show (3 : Int32) = 1 from e) (by decide), fun e => absurd (show (3 : Int32) = 2 from e) (by decide), fun _ => rfl⟩
theorem gv_0 {T : TS} {w : Int32} : (sp_giveBack T w).2.1 = 0 := by
  unfold sp_giveBack
  by_cases h : ¬ inR w 0 3
  · rw [cif_t h]
  · rw [cif_f h]
    by_cases h2 : crd T w ∨ ¬ has T w
    · rw [cif_t h2]
    · rw [cif_f h2]
theorem rs_01 {T : TS} {w : Int32} : (sp_restart T w).2.1 = 0 ∨ (sp_restart T w).2.1 = 1 := by
  unfold sp_restart
  by_cases h : ¬ inR w 0 3
  · rw [cif_t h]; exact Or.inl rfl
  · rw [cif_f h]
    by_cases h2 : ¬ crd T w
    · rw [cif_t h2]; exact Or.inl rfl
    · rw [cif_f h2]
      by_cases h3 : has T w
      · exact Or.inr (b2i_t h3)
      · exact Or.inl (b2i_f h3)
section MOC
variable {p : Program} {l : Launch} {e : Env} {R : Room} {s : State} {m : MethodId} {args : Array Value} {below : List Frame} {meth : Method} {c : Code} {H : Heap} {locs : List Loc} {cells slots : Nat} {Q : State → Prop}
variable {pc : Nat} {ls : Array Slot} {rest st0 : List Value} {a : Array Value} {A : Nat → Prop} {mc ms : Nat}
variable {G : va_G} {cy : Nat → ClassId} {ws wc wr : va_W} {cc bytes : ByteArray} {maxL nL n index : Nat} {ret : Option FieldType} {wy Ts : List Cond} {rm : Room} {own C : String} {y : MethodName} {b : Addr} {As : List Value} {hh : List (Nat × Nat × Nat × Nat)}
theorem mo_calle {σ : Type} {post : Int32 → σ → Prop} {w : σ → va_W} (hr : va_Run p l e R s m args below meth c H locs cells slots mc ms (F0 m pc ls st0) rest (va_Qi post (ml_B G cy (va_A wc H.size) w) (va_A wc H.size) a) (va_A wc H.size)) (hPc : va_P G vwCl wc H) (hDc : va_D A wc) (hP : va_P G vwCl ws H) (hK : va_K G vwCl (tyA cy) s) (hD : va_D A ws) (hS : va_S A s.heap H locs) (hA : ∀ q, s.heap.size ≤ q → A q) (isC isR : List Nat) (hC : isC.map (fun i => ws[i]?) = wc.map some) (hR : isR.map (fun i => ws[i]?) = wr.map some) (hnd : va_nd isR = true) (hdis : ∀ i ∈ isR, i ∉ isC)
    (kk : ∀ (r : Int32) (u : σ) (H1 : Heap) (locs1 : List Loc), post r u → va_P G vwCl (wr ++ w u) H1 → va_D A (wr ++ w u) → va_S A s.heap H1 locs1 → H.size ≤ H1.size → W p l e R s m args below meth c H1 locs1 (cells + mc) (slots + ms) Q (F0 m (pc + 3) ls (.int r :: rest))) : W p l e R s m args below meth c H locs cells slots Q (F0 m pc ls st0) := by
  have hF := va_free (wc := wc) hD hS hA isC hC
  refine va_calli hr hS (fun q _ h => hF q h) hF (fun r u t H1 locs1 ht hvm hw hB hz1 hk1 hS1 => ?_)
  obtain ⟨hP1, hK1, hD1⟩ := hB
  have hz8 : H.size ≤ H1.size := hz1
  rw [ht] at hP1
  obtain ⟨hP2, hD2⟩ := va_join hP hD isC isR hC hR hnd hdis hk1 hF hP1 hD1
  exact kk r u H1 locs1 hw hP2 hD2 hS1 hz8
theorem mo_callz {σ : Type} {post : Int32 → σ → Prop} {w : σ → va_W} {k : σ → Nat} (hr : va_Run p l e R s m args below meth c H locs cells slots mc ms (F0 m pc ls st0) rest (va_Qi post (ml_BZ G cy (va_A wc H.size) w H.size k) (va_A wc H.size) a) (va_A wc H.size)) (hPc : va_P G vwCl wc H) (hDc : va_D A wc) (hP : va_P G vwCl ws H) (hK : va_K G vwCl (tyA cy) s) (hD : va_D A ws) (hS : va_S A s.heap H locs) (hA : ∀ q, s.heap.size ≤ q → A q) (isC isR : List Nat) (hC : isC.map (fun i => ws[i]?) = wc.map some) (hR : isR.map (fun i => ws[i]?) = wr.map some) (hnd : va_nd isR = true) (hdis : ∀ i ∈ isR, i ∉ isC)
    (kk : ∀ (r : Int32) (u : σ) (H1 : Heap) (locs1 : List Loc), post r u → va_P G vwCl (wr ++ w u) H1 → va_D A (wr ++ w u) → va_S A s.heap H1 locs1 → H.size + k u ≤ H1.size → W p l e R s m args below meth c H1 locs1 (cells + mc) (slots + ms) Q (F0 m (pc + 3) ls (.int r :: rest))) : W p l e R s m args below meth c H locs cells slots Q (F0 m pc ls st0) := by
  have hF := va_free (wc := wc) hD hS hA isC hC
  refine va_calli hr hS (fun q _ h => hF q h) hF (fun r u t H1 locs1 ht hvm hw hB hz1 hk1 hS1 => ?_)
  obtain ⟨⟨hP1, hK1, hD1⟩, hz9⟩ := hB
  have hz8 : H.size + k u ≤ H1.size := (by rw [← ht]; exact hz9)
  rw [ht] at hP1
  obtain ⟨hP2, hD2⟩ := va_join hP hD isC isR hC hR hnd hdis hk1 hF hP1 hD1
  exact kk r u H1 locs1 hw hP2 hD2 hS1 hz8
theorem mo_Ve {σ : Type} {post : Int32 → σ → Prop} {w : σ → va_W} (S : CallFix p m c cc nL s args Ts own) (hM : Met l y wy rm (ml_P G cy (.ref b :: As) wc H.size) (va_Qi post (ml_B G cy (va_A wc H.size) w) (va_A wc H.size)) mc ms (va_A wc H.size)) (cw : CallW R s args own C index y bytes maxL ret wy rm mc ms n) (hrv : ∃ cell : Cell, H[b]? = some cell ∧ cell.vm.isStatics = false ∧ s.vm.findClass C = some cell.cls) (hPc : va_P G vwCl wc H) (hDc : va_D A wc) (hP : va_P G vwCl ws H) (hK : va_K G vwCl (tyA cy) s) (hD : va_D A ws) (hS : va_S A s.heap H locs) (hA : ∀ q, s.heap.size ≤ q → A q) (isC isR : List Nat) (hC : isC.map (fun i => ws[i]?) = wc.map some) (hR : isR.map (fun i => ws[i]?) = wr.map some) (hnd : va_nd isR = true) (hdis : ∀ i ∈ isR, i ∉ isC) (hN : ml_N s) (hn : As.length = n) (hsize : ls.size = nL) (hW : (rest.map fun v => v.category).sum ≤ 8) (hdg : decode cc pc = .ok (.invokevirtual index, 3)) (hf : cells + mc ≤ R.cells ∧ slots + ms ≤ R.slots)
    (kk : ∀ (r : Int32) (u : σ) (H1 : Heap) (locs1 : List Loc), post r u → va_P G vwCl (wr ++ w u) H1 → va_D A (wr ++ w u) → va_S A s.heap H1 locs1 → H.size ≤ H1.size → W p l e R s m args below meth c H1 locs1 (cells + mc) (slots + ms) Q (F0 m (pc + 3) ls (.int r :: rest))) : W p l e R s m args below meth c H locs cells slots Q (F0 m pc ls (As.reverse ++ .ref b :: rest)) :=
  mo_calle (va_runV S hM cw ⟨(ml_pre (As := .ref b :: As) hPc hK hDc hN).1, hrv, (ml_pre (As := .ref b :: As) hPc hK hDc hN).2⟩ rfl hn hsize rfl (lv_room hW) hdg hf) hPc hDc hP hK hD hS hA isC isR hC hR hnd hdis kk
theorem mo_SWz {σ : Type} {post : Int32 → σ → Prop} {w : σ → va_W} {k : σ → Nat} (S : CallFix p m c cc nL s args Ts own) (hM : Met l y wy rm (ml_PX G cy As wc H.size) (va_Qi post (ml_BZ G cy (va_A wc H.size) w H.size k) (va_A wc H.size)) mc ms (va_A wc H.size)) (cw : vx_CSW R s args own index y bytes maxL ret hh wy rm mc ms n) (hPc : va_P G vwCl wc H) (hDc : va_D A wc) (hP : va_P G vwCl ws H) (hK : va_K G vwCl (tyA cy) s) (hD : va_D A ws) (hS : va_S A s.heap H locs) (hA : ∀ q, s.heap.size ≤ q → A q) (isC isR : List Nat) (hC : isC.map (fun i => ws[i]?) = wc.map some) (hR : isR.map (fun i => ws[i]?) = wr.map some) (hnd : va_nd isR = true) (hdis : ∀ i ∈ isR, i ∉ isC) (hN : ml_N s) (hE : ml_eX A s s.heap) (hn : As.length = n) (hsize : ls.size = nL) (hW : (rest.map fun v => v.category).sum ≤ 8) (hdg : decode cc pc = .ok (.invokestatic index, 3)) (hf : cells + mc ≤ R.cells ∧ slots + ms ≤ R.slots)
    (kk : ∀ (r : Int32) (u : σ) (H1 : Heap) (locs1 : List Loc), post r u → va_P G vwCl (wr ++ w u) H1 → va_D A (wr ++ w u) → va_S A s.heap H1 locs1 → H.size + k u ≤ H1.size → W p l e R s m args below meth c H1 locs1 (cells + mc) (slots + ms) Q (F0 m (pc + 3) ls (.int r :: rest))) : W p l e R s m args below meth c H locs cells slots Q (F0 m pc ls (As.reverse ++ rest)) :=
  mo_callz (vx_runSW S hM cw (ml_preX hPc hK hDc hN hE hS (va_free (wc := wc) hD hS hA isC hC)) rfl hn hsize rfl (lv_room hW) hdg hf) hPc hDc hP hK hD hS hA isC isR hC hR hnd hdis kk
theorem mo_Sz {σ : Type} {post : Int32 → σ → Prop} {w : σ → va_W} {k : σ → Nat} (S : CallFix p m c cc nL s args Ts own) (hM : Met l y wy rm (ml_PX G cy As wc H.size) (va_Qi post (ml_BZ G cy (va_A wc H.size) w H.size k) (va_A wc H.size)) mc ms (va_A wc H.size)) (cw : CallB R s args own index y bytes maxL ret wy rm mc ms n ∧ (Cond.static y).before args s = true) (hPc : va_P G vwCl wc H) (hDc : va_D A wc) (hP : va_P G vwCl ws H) (hK : va_K G vwCl (tyA cy) s) (hD : va_D A ws) (hS : va_S A s.heap H locs) (hA : ∀ q, s.heap.size ≤ q → A q) (isC isR : List Nat) (hC : isC.map (fun i => ws[i]?) = wc.map some) (hR : isR.map (fun i => ws[i]?) = wr.map some) (hnd : va_nd isR = true) (hdis : ∀ i ∈ isR, i ∉ isC) (hN : ml_N s) (hE : ml_eX A s s.heap) (hn : As.length = n) (hsize : ls.size = nL) (hW : (rest.map fun v => v.category).sum ≤ 8) (hdg : decode cc pc = .ok (.invokestatic index, 3)) (hf : cells + mc ≤ R.cells ∧ slots + ms ≤ R.slots)
    (kk : ∀ (r : Int32) (u : σ) (H1 : Heap) (locs1 : List Loc), post r u → va_P G vwCl (wr ++ w u) H1 → va_D A (wr ++ w u) → va_S A s.heap H1 locs1 → H.size + k u ≤ H1.size → W p l e R s m args below meth c H1 locs1 (cells + mc) (slots + ms) Q (F0 m (pc + 3) ls (.int r :: rest))) : W p l e R s m args below meth c H locs cells slots Q (F0 m pc ls (As.reverse ++ rest)) :=
  mo_callz (va_runS S hM cw (ml_preX hPc hK hDc hN hE hS (va_free (wc := wc) hD hS hA isC hC)) rfl hn hsize rfl (lv_room hW) hdg hf) hPc hDc hP hK hD hS hA isC isR hC hR hnd hdis kk
theorem mo_xcalli {σ σx : Type} {post : Int32 → σ → Prop} {w : σ → va_W} {wx : σx → va_W} {px : String → Prop} (hr : vy_Run p l e R s m args below meth c H locs cells slots mc ms (F0 m pc ls st0) rest (va_Qi post (ml_B G cy (va_A ws H.size) w) (va_A ws H.size) a) (ml_XE G cy (va_A ws H.size) wx px) (va_A ws H.size)) (hD : va_D A ws) (hS : va_S A s.heap H locs) (hA : ∀ q, s.heap.size ≤ q → A q)
    (kx : ∀ (E : String) (ce : Cell) (q9 : Addr) (H1 : Heap) (locs1 : List Loc) (u : σx), H.size < H1.size → px E → va_P G vwCl (wx u) H1 → va_D A (wx u) → va_S A s.heap H1 locs1 → H1[q9]? = some ce → ce.vm = .none → s.vm.findClass E = some ce.cls → vx_W p l e R s m args below meth c H1 locs1 (cells + mc) (slots + ms) Q (F0 m pc ls rest) q9)
    (kk : ∀ (r : Int32) (u : σ) (H1 : Heap) (locs1 : List Loc), post r u → va_P G vwCl (w u) H1 → va_D A (w u) → va_S A s.heap H1 locs1 → W p l e R s m args below meth c H1 locs1 cells slots Q (F0 m (pc + 3) ls (.int r :: rest))) : W p l e R s m args below meth c H locs cells slots Q (F0 m pc ls st0) := by
  have hF := ml_free hD hS hA
  intro T hT X
  rcases hr T hT X with ⟨v, st₀, t, T', L, h0, X', hL, e1, e2, ⟨⟨r, u, hv, hp, hb⟩, hFr⟩, st⟩ | ⟨q, st₀, t, T', L, E, ce, h0, X', hL, e1, e2, ⟨hp, ⟨u, hP1, hD1⟩, hK1, hFr, hz9⟩, hce, hcv, hcl, st⟩
  · cases hv
    obtain ⟨k1, k2, k3⟩ := vx_keep h0 e1 hS (fun q _ h => hF q h) hF hL hFr
    obtain ⟨hP1, hK1, hD1⟩ := hb
    obtain ⟨t2, a1, b1⟩ := kk r u T'.heap (locs ++ L) hp (by rw [e1]; exact hP1) (hD1.weaken (fun _ q _ h => hF q.1 h)) k3 T' rfl X'
    exact ⟨t2, st t2 a1, b1⟩
  · obtain ⟨k1, k2, k3⟩ := vx_keep h0 e1 hS (fun q _ h => hF q h) hF hL hFr
    obtain ⟨t2, a1, b1⟩ := kx E ce q T'.heap (locs ++ L) u (by rw [e1, ← h0]; exact hz9) hp (by rw [e1]; exact hP1) (hD1.weaken (fun _ q _ h => hF q.1 h)) k3 (by rw [e1]; exact hce) hcv hcl T' rfl X'
    exact ⟨t2, st.trans a1, b1⟩
theorem mo_xVi {σ σx : Type} {post : Int32 → σ → Prop} {w : σ → va_W} {wx : σx → va_W} {px : String → Prop} (S : CallFix p m c cc nL s args Ts own) (hM : vy_Met l y wy rm (ml_PX G cy (.ref b :: As) ws H.size) (va_Qi post (ml_B G cy (va_A ws H.size) w) (va_A ws H.size)) (ml_XE G cy (va_A ws H.size) wx px) mc ms (va_A ws H.size)) (cw : CallW R s args own C index y bytes maxL ret wy rm mc ms n) (hrv : ∃ cell : Cell, H[b]? = some cell ∧ cell.vm.isStatics = false ∧ s.vm.findClass C = some cell.cls) (hP : va_P G vwCl ws H) (hK : va_K G vwCl (tyA cy) s) (hD : va_D A ws) (hS : va_S A s.heap H locs) (hA : ∀ q, s.heap.size ≤ q → A q) (hN : ml_N s) (hE : ml_eX A s s.heap) (hn : As.length = n) (hsize : ls.size = nL) (hW : (rest.map fun v => v.category).sum ≤ 8) (hdg : decode cc pc = .ok (.invokevirtual index, 3)) (hf : cells + mc ≤ R.cells ∧ slots + ms ≤ R.slots)
    (kx : ∀ (E : String) (ce : Cell) (q9 : Addr) (H1 : Heap) (locs1 : List Loc) (u : σx), H.size < H1.size → px E → va_P G vwCl (wx u) H1 → va_D A (wx u) → va_S A s.heap H1 locs1 → H1[q9]? = some ce → ce.vm = .none → s.vm.findClass E = some ce.cls → vx_W p l e R s m args below meth c H1 locs1 (cells + mc) (slots + ms) Q (F0 m pc ls rest) q9)
    (kk : ∀ (r : Int32) (u : σ) (H1 : Heap) (locs1 : List Loc), post r u → va_P G vwCl (w u) H1 → va_D A (w u) → va_S A s.heap H1 locs1 → W p l e R s m args below meth c H1 locs1 cells slots Q (F0 m (pc + 3) ls (.int r :: rest))) : W p l e R s m args below meth c H locs cells slots Q (F0 m pc ls (As.reverse ++ .ref b :: rest)) :=
  mo_xcalli (vy_runV S hM cw ⟨(ml_preX (As := .ref b :: As) hP hK hD hN hE hS (ml_free hD hS hA)).1, hrv, (ml_preX (As := .ref b :: As) hP hK hD hN hE hS (ml_free hD hS hA)).2⟩ rfl hn hsize rfl (lv_room hW) hdg hf) hD hS hA kx kk
theorem mo_xcallv {σ σx : Type} {post : σ → Prop} {w : σ → va_W} {wx : σx → va_W} {px : String → Prop} (hr : vy_Run p l e R s m args below meth c H locs cells slots mc ms (F0 m pc ls st0) rest (va_Qv post (ml_B G cy (va_A ws H.size) w) (va_A ws H.size) a) (ml_XE G cy (va_A ws H.size) wx px) (va_A ws H.size)) (hD : va_D A ws) (hS : va_S A s.heap H locs) (hA : ∀ q, s.heap.size ≤ q → A q)
    (kx : ∀ (E : String) (ce : Cell) (q9 : Addr) (H1 : Heap) (locs1 : List Loc) (u : σx), H.size < H1.size → px E → va_P G vwCl (wx u) H1 → va_D A (wx u) → va_S A s.heap H1 locs1 → H1[q9]? = some ce → ce.vm = .none → s.vm.findClass E = some ce.cls → vx_W p l e R s m args below meth c H1 locs1 (cells + mc) (slots + ms) Q (F0 m pc ls rest) q9)
    (kk : ∀ (u : σ) (H1 : Heap) (locs1 : List Loc), post u → va_P G vwCl (w u) H1 → va_D A (w u) → va_S A s.heap H1 locs1 → W p l e R s m args below meth c H1 locs1 cells slots Q (F0 m (pc + 3) ls (rest))) : W p l e R s m args below meth c H locs cells slots Q (F0 m pc ls st0) := by
  have hF := ml_free hD hS hA
  intro T hT X
  rcases hr T hT X with ⟨v, st₀, t, T', L, h0, X', hL, e1, e2, ⟨⟨u, hv, hp, hb⟩, hFr⟩, st⟩ | ⟨q, st₀, t, T', L, E, ce, h0, X', hL, e1, e2, ⟨hp, ⟨u, hP1, hD1⟩, hK1, hFr, hz9⟩, hce, hcv, hcl, st⟩
  · cases hv
    obtain ⟨k1, k2, k3⟩ := vx_keep h0 e1 hS (fun q _ h => hF q h) hF hL hFr
    obtain ⟨hP1, hK1, hD1⟩ := hb
    obtain ⟨t2, a1, b1⟩ := kk u T'.heap (locs ++ L) hp (by rw [e1]; exact hP1) (hD1.weaken (fun _ q _ h => hF q.1 h)) k3 T' rfl X'
    exact ⟨t2, st t2 a1, b1⟩
  · obtain ⟨k1, k2, k3⟩ := vx_keep h0 e1 hS (fun q _ h => hF q h) hF hL hFr
    obtain ⟨t2, a1, b1⟩ := kx E ce q T'.heap (locs ++ L) u (by rw [e1, ← h0]; exact hz9) hp (by rw [e1]; exact hP1) (hD1.weaken (fun _ q _ h => hF q.1 h)) k3 (by rw [e1]; exact hce) hcv hcl T' rfl X'
    exact ⟨t2, st.trans a1, b1⟩
theorem mo_xVv {σ σx : Type} {post : σ → Prop} {w : σ → va_W} {wx : σx → va_W} {px : String → Prop} (S : CallFix p m c cc nL s args Ts own) (hM : vy_Met l y wy rm (ml_PX G cy (.ref b :: As) ws H.size) (va_Qv post (ml_B G cy (va_A ws H.size) w) (va_A ws H.size)) (ml_XE G cy (va_A ws H.size) wx px) mc ms (va_A ws H.size)) (cw : CallW R s args own C index y bytes maxL ret wy rm mc ms n) (hrv : ∃ cell : Cell, H[b]? = some cell ∧ cell.vm.isStatics = false ∧ s.vm.findClass C = some cell.cls) (hP : va_P G vwCl ws H) (hK : va_K G vwCl (tyA cy) s) (hD : va_D A ws) (hS : va_S A s.heap H locs) (hA : ∀ q, s.heap.size ≤ q → A q) (hN : ml_N s) (hE : ml_eX A s s.heap) (hn : As.length = n) (hsize : ls.size = nL) (hW : (rest.map fun v => v.category).sum ≤ 8) (hdg : decode cc pc = .ok (.invokevirtual index, 3)) (hf : cells + mc ≤ R.cells ∧ slots + ms ≤ R.slots)
    (kx : ∀ (E : String) (ce : Cell) (q9 : Addr) (H1 : Heap) (locs1 : List Loc) (u : σx), H.size < H1.size → px E → va_P G vwCl (wx u) H1 → va_D A (wx u) → va_S A s.heap H1 locs1 → H1[q9]? = some ce → ce.vm = .none → s.vm.findClass E = some ce.cls → vx_W p l e R s m args below meth c H1 locs1 (cells + mc) (slots + ms) Q (F0 m pc ls rest) q9)
    (kk : ∀ (u : σ) (H1 : Heap) (locs1 : List Loc), post u → va_P G vwCl (w u) H1 → va_D A (w u) → va_S A s.heap H1 locs1 → W p l e R s m args below meth c H1 locs1 cells slots Q (F0 m (pc + 3) ls (rest))) : W p l e R s m args below meth c H locs cells slots Q (F0 m pc ls (As.reverse ++ .ref b :: rest)) :=
  mo_xcallv (vy_runV S hM cw ⟨(ml_preX (As := .ref b :: As) hP hK hD hN hE hS (ml_free hD hS hA)).1, hrv, (ml_preX (As := .ref b :: As) hP hK hD hN hE hS (ml_free hD hS hA)).2⟩ rfl hn hsize rfl (lv_room hW) hdg hf) hD hS hA kx kk
theorem ml_riz {σ : Type} {w1 : va_W} {post : Int32 → σ → Prop} {w : σ → va_W} {k : σ → Nat} {v : Int32} (u : σ) (hx : p.tables.exec = Jvm.exec) (hb : c.code = cc) (hr : meth.sig.returnType = some .int) (hlocks : meth.locks = false) (hP : va_P G vwCl w1 H) (hK : va_K G vwCl (tyA cy) s) (hD : va_D A w1) (hS : va_S A s.heap H locs) (hw : w u = w1) (hp : post v u) (hz : s.heap.size + k u ≤ H.size) (hdg : decode cc pc = .ok (.ireturn, 1)) :
    W p l e R s m args below meth c H locs cells slots (MQ below (va_Qi post (ml_BZ G cy A w s.heap.size k) A) args s cells slots A) (F0 m pc ls [.int v]) :=
  W.iret hx hb hr (fun t ht hW => ⟨⟨v, u, rfl, hp, ⟨by rw [ht, hw]; exact hP, va_K.moved hW.alike hK, by rw [hw]; exact hD⟩, by rw [ht]; exact hz⟩, hS.F ht⟩) hS.2.2 hdg hlocks
theorem ml_rzz {σ : Type} {w1 : va_W} {post : Int32 → σ → Prop} {w : σ → va_W} {k : σ → Nat} {v : Int32} (u : σ) (hx : p.tables.exec = Jvm.exec) (hb : c.code = cc) (hr : meth.sig.returnType = some .boolean) (hlocks : meth.locks = false) (hP : va_P G vwCl w1 H) (hK : va_K G vwCl (tyA cy) s) (hD : va_D A w1) (hS : va_S A s.heap H locs) (hn : narrow .boolean (.int v) = .int v) (hw : w u = w1) (hp : post v u) (hz : s.heap.size + k u ≤ H.size) (hdg : decode cc pc = .ok (.ireturn, 1)) :
    W p l e R s m args below meth c H locs cells slots (MQ below (va_Qi post (ml_BZ G cy A w s.heap.size k) A) args s cells slots A) (F0 m pc ls [.int v]) :=
  W.zret hx hb hr hn (fun t ht hW => ⟨⟨v, u, rfl, hp, ⟨by rw [ht, hw]; exact hP, va_K.moved hW.alike hK, by rw [hw]; exact hD⟩, by rw [ht]; exact hz⟩, hS.F ht⟩) hS.2.2 hdg hlocks
end MOC
set_option maxHeartbeats 4000000 in
set_option maxRecDepth 100000 in
theorem c_L_adds (l : Launch) (hlt : l.stackTraces = false) (G : va_G) (cy : Nat → ClassId) (a : Nat → Nat) (sz : Nat) (T : TS) (tr : Nat → Int32) (x : Int32) (y : Int32) (z : Int32) (hI : Inv T) : Met l yL_adds wsL_adds ({ frames := 9, cells := 1, slots := 6, locals := 147 } : Room) (ml_PX G cy [.ref (a 0), .int x, .int y, .int z] (wC a cy T tr) sz) (va_Qi (fun (r : Int32) (u : Nat → Int32) => hRr (sp_addChange T x y z) (-2000000002) (-2000000003) 0 r) (ml_BZ G cy (va_A (wC a cy T tr) sz) (fun u : Nat → Int32 => (wC a cy (sp_addChange T x y z).2.2 u)) sz (fun _ => gw (sp_addChange T x y z))) (va_A (wC a cy T tr) sz)) 1 6 (va_A (wC a cy T tr) sz) := by
  refine va_MetW (cc := cL_adds) (maxL := 5) (ret := some .int) (hh := [(0, 7, 8, 13), (0, 7, 13, 16)]) (by decide) rfl ?_
  intro p e s m args below meth c s₁ B hml hv
  obtain ⟨rfl, hsz, hP, hK, hD0, hN, hE⟩ := hv
  have hx := B.exec
  have hb := B.bytes
  have hr := B.returns
  have hts := atoms_spec (ws := wsL_adds) B.pre
  have hTb : c.exceptionTable.toList = tableOf [(0, 7, 8, 13), (0, 7, 13, 16)] := vx_table (x := yL_adds) B (hts _ List.mem_cons_self)
  have hown : s.vm.findClass RL = some m.cls := findClass_of_methodNamed B.named
  have hlocks := B.notSynchronized
  have hca := hE.2.2.2
  subst hsz
  have hD := hD0.self (sz := s.heap.size)
  generalize hAe : va_A (wC a cy T tr) s.heap.size = A at hD hE ⊢
  have hA : ∀ q : Nat, s.heap.size ≤ q → A q := fun q h => by rw [← hAe]; exact Or.inr h
  have hS : va_S A s.heap s.heap [] := va_S.rf
  have hP : va_P G vwCl (wC a cy T tr) s.heap := hP
  have hl := lv_entry ([.ref (a 0), .int x, .int y, .int z]) (n := 5) (Nat.le_of_ble_eq_true rfl)
  rw [lg_entry_eq]
  generalize (lg_sl ([.ref (a 0), .int x, .int y, .int z]) ++ List.replicate (5 - (lg_sl ([.ref (a 0), .int x, .int y, .int z])).length) Slot.unset).toArray = ls at hl ⊢
  have hl : lv_has ls 5 [(0, .ref (a 0)), (1, .int x), (2, .int y), (3, .int z)] := hl
  refine lv_aload_n hx hb dL_adds_0 rfl (lv_at hl 0 rfl) ?_
  refine lv_iload_n hx hb dL_adds_1 rfl (lv_at hl 1 rfl) ?_
  refine lv_iload_n hx hb dL_adds_2 rfl (lv_at hl 2 rfl) ?_
  refine lv_iload_n hx hb dL_adds_3 rfl (lv_at hl 3 rfl) ?_
  refine mo_xVi (G := G) (As := [.int x, .int y, .int z]) (rest := []) ⟨hx, hb, hml, hown, hts⟩ (c_X3_addChange l hlt G cy a s.heap.size T tr x y z hI) (cwV 3 hts gL_adds_X3_addChange rfl rfl rfl (by decide +kernel) ⟨Nat.le_of_ble_eq_true rfl, Nat.le_of_ble_eq_true rfl⟩) (va_recv hK hP (ci := 3) (q0 := 0) rfl rfl) hP hK hD hS hA hN hE rfl hl.1 (Nat.le_of_ble_eq_true rfl) dL_adds_4 ⟨Nat.le_of_ble_eq_true rfl, Nat.le_of_ble_eq_true rfl⟩ (fun E ce q9 H locs tr9 hz9 hpx hP hD hS hc1 hc2 hc3 => ?_) (fun r u H locs hw hP hD hS => ?_)
  · have hP : va_P G vwCl (wC a cy T tr9) H := hP
    have hD : va_D A (wC a cy T tr9) := hD
    rcases hpx with ⟨rfl, e9⟩ | ⟨rfl, e9⟩
    · refine vx_catch (own := RL) (name := eIA) hown [] ⟨0, 7, 8, 13⟩ [⟨0, 7, 13, 16⟩] hTb (fun z hz => absurd hz List.not_mem_nil) (by decide) (by decide) (hts (.classLink RL 13 eIA) (by decide +kernel)) (va_Nw.use rfl hca.1.1) hc1 hc2 hc3 ?_
      refine lv_astore (lv' := [(4, .ref q9), (0, .ref (a 0)), (1, .int x), (2, .int y), (3, .int z)]) hx hb dL_adds_8 hl (by decide) rfl (fun ls hl => ?_)
      refine lv_ldc hx hb hown (hts (.constant RL 15 (-2000000002)) (by decide +kernel)) dL_adds_10 ?_
      exact ml_riz tr9 hx hb hr hlocks hP hK hD hS (by rw [e9]) (hRr_1 e9) (by rw [gw_1 (by rw [e9]; show ¬ ((1 : Int32) = 0); decide)]; exact hz9) dL_adds_12
    · refine vx_catch (own := RL) (name := eIS) hown [⟨0, 7, 8, 13⟩] ⟨0, 7, 13, 16⟩ [] hTb (fun z hz => by obtain rfl := List.mem_singleton.mp hz; exact Or.inr ⟨by decide, eIA, hts (.classLink RL 13 eIA) (by decide +kernel), hca.2.1.1⟩) (by decide) (by decide) (hts (.classLink RL 16 eIS) (by decide +kernel)) (va_Nw.use rfl hca.1.2.1) hc1 hc2 hc3 ?_
      refine lv_astore (lv' := [(4, .ref q9), (0, .ref (a 0)), (1, .int x), (2, .int y), (3, .int z)]) hx hb dL_adds_13 hl (by decide) rfl (fun ls hl => ?_)
      refine lv_ldc hx hb hown (hts (.constant RL 18 (-2000000003)) (by decide +kernel)) dL_adds_15 ?_
      exact ml_riz tr9 hx hb hr hlocks hP hK hD hS (by rw [e9]) (hRr_2 e9) (by rw [gw_1 (by rw [e9]; show ¬ ((2 : Int32) = 0); decide)]; exact hz9) dL_adds_17
  · have hP : va_P G vwCl (wC a cy ((sp_addChange T x y z).2.2) u) H := hP
    have hD : va_D A (wC a cy ((sp_addChange T x y z).2.2) u) := hD
    refine W.widen (k := 1) (n := 6) (Nat.le_of_ble_eq_true rfl) (Nat.le_of_ble_eq_true rfl) ?_
    exact ml_riz u hx hb hr hlocks hP hK hD hS rfl (hRr_0 hw.1 hw.2) (by rw [gw_0 hw.1]; exact hS.1) dL_adds_7
set_option maxHeartbeats 4000000 in
set_option maxRecDepth 100000 in
theorem c_L_edits (l : Launch) (hlt : l.stackTraces = false) (G : va_G) (cy : Nat → ClassId) (a : Nat → Nat) (sz : Nat) (T : TS) (tr : Nat → Int32) (h : Int32) (x : Int32) (y : Int32) (z : Int32) (hI : Inv T) : Met l yL_edits wsL_edits ({ frames := 9, cells := 1, slots := 6, locals := 148 } : Room) (ml_PX G cy [.ref (a 0), .int h, .int x, .int y, .int z] (wC a cy T tr) sz) (va_Qi (fun (r : Int32) (u : Nat → Int32) => hRr (sp_edit T h x y z) (-2000000002) (-2000000001) (-2000000003) r) (ml_BZ G cy (va_A (wC a cy T tr) sz) (fun u : Nat → Int32 => (wC a cy (sp_edit T h x y z).2.2 u)) sz (fun _ => gw (sp_edit T h x y z))) (va_A (wC a cy T tr) sz)) 1 6 (va_A (wC a cy T tr) sz) := by
  refine va_MetW (cc := cL_edits) (maxL := 6) (ret := some .int) (hh := [(0, 9, 10, 13), (0, 9, 15, 23), (0, 9, 20, 16)]) (by decide) rfl ?_
  intro p e s m args below meth c s₁ B hml hv
  obtain ⟨rfl, hsz, hP, hK, hD0, hN, hE⟩ := hv
  have hx := B.exec
  have hb := B.bytes
  have hr := B.returns
  have hts := atoms_spec (ws := wsL_edits) B.pre
  have hTb : c.exceptionTable.toList = tableOf [(0, 9, 10, 13), (0, 9, 15, 23), (0, 9, 20, 16)] := vx_table (x := yL_edits) B (hts _ List.mem_cons_self)
  have hown : s.vm.findClass RL = some m.cls := findClass_of_methodNamed B.named
  have hlocks := B.notSynchronized
  have hca := hE.2.2.2
  subst hsz
  have hD := hD0.self (sz := s.heap.size)
  generalize hAe : va_A (wC a cy T tr) s.heap.size = A at hD hE ⊢
  have hA : ∀ q : Nat, s.heap.size ≤ q → A q := fun q h => by rw [← hAe]; exact Or.inr h
  have hS : va_S A s.heap s.heap [] := va_S.rf
  have hP : va_P G vwCl (wC a cy T tr) s.heap := hP
  have hl := lv_entry ([.ref (a 0), .int h, .int x, .int y, .int z]) (n := 6) (Nat.le_of_ble_eq_true rfl)
  rw [lg_entry_eq]
  generalize (lg_sl ([.ref (a 0), .int h, .int x, .int y, .int z]) ++ List.replicate (6 - (lg_sl ([.ref (a 0), .int h, .int x, .int y, .int z])).length) Slot.unset).toArray = ls at hl ⊢
  have hl : lv_has ls 6 [(0, .ref (a 0)), (1, .int h), (2, .int x), (3, .int y), (4, .int z)] := hl
  refine lv_aload_n hx hb dL_edits_0 rfl (lv_at hl 0 rfl) ?_
  refine lv_iload_n hx hb dL_edits_1 rfl (lv_at hl 1 rfl) ?_
  refine lv_iload_n hx hb dL_edits_2 rfl (lv_at hl 2 rfl) ?_
  refine lv_iload_n hx hb dL_edits_3 rfl (lv_at hl 3 rfl) ?_
  refine lv_iload hx hb dL_edits_4 (lv_at hl 4 rfl) ?_
  refine mo_xVi (G := G) (As := [.int h, .int x, .int y, .int z]) (rest := []) ⟨hx, hb, hml, hown, hts⟩ (c_X3_edit l hlt G cy a s.heap.size T tr h x y z hI) (cwV 4 hts gL_edits_X3_edit rfl rfl rfl (by decide +kernel) ⟨Nat.le_of_ble_eq_true rfl, Nat.le_of_ble_eq_true rfl⟩) (va_recv hK hP (ci := 3) (q0 := 0) rfl rfl) hP hK hD hS hA hN hE rfl hl.1 (Nat.le_of_ble_eq_true rfl) dL_edits_6 ⟨Nat.le_of_ble_eq_true rfl, Nat.le_of_ble_eq_true rfl⟩ (fun E ce q9 H locs tr9 hz9 hpx hP hD hS hc1 hc2 hc3 => ?_) (fun r u H locs hw hP hD hS => ?_)
  · have hP : va_P G vwCl (wC a cy T tr9) H := hP
    have hD : va_D A (wC a cy T tr9) := hD
    rcases hpx with ⟨rfl, e9⟩ | ⟨rfl, e9⟩ | ⟨rfl, e9⟩
    · refine vx_catch (own := RL) (name := eIA) hown [] ⟨0, 9, 10, 13⟩ [⟨0, 9, 15, 23⟩, ⟨0, 9, 20, 16⟩] hTb (fun z hz => absurd hz List.not_mem_nil) (by decide) (by decide) (hts (.classLink RL 13 eIA) (by decide +kernel)) (va_Nw.use rfl hca.1.1) hc1 hc2 hc3 ?_
      refine lv_astore (lv' := [(5, .ref q9), (0, .ref (a 0)), (1, .int h), (2, .int x), (3, .int y), (4, .int z)]) hx hb dL_edits_10 hl (by decide) rfl (fun ls hl => ?_)
      refine lv_ldc hx hb hown (hts (.constant RL 15 (-2000000002)) (by decide +kernel)) dL_edits_12 ?_
      exact ml_riz tr9 hx hb hr hlocks hP hK hD hS (by rw [e9]) (hRr_1 e9) (by rw [gw_1 (by rw [e9]; show ¬ ((1 : Int32) = 0); decide)]; exact hz9) dL_edits_14
    · refine vx_catch (own := RL) (name := eIB) hown [⟨0, 9, 10, 13⟩] ⟨0, 9, 15, 23⟩ [⟨0, 9, 20, 16⟩] hTb (fun z hz => by obtain rfl := List.mem_singleton.mp hz; exact Or.inr ⟨by decide, eIA, hts (.classLink RL 13 eIA) (by decide +kernel), hca.2.1.2.1⟩) (by decide) (by decide) (hts (.classLink RL 23 eIB) (by decide +kernel)) (va_Nw.use rfl hca.1.2.2) hc1 hc2 hc3 ?_
      refine lv_astore (lv' := [(5, .ref q9), (0, .ref (a 0)), (1, .int h), (2, .int x), (3, .int y), (4, .int z)]) hx hb dL_edits_15 hl (by decide) rfl (fun ls hl => ?_)
      refine lv_ldc hx hb hown (hts (.constant RL 25 (-2000000001)) (by decide +kernel)) dL_edits_17 ?_
      exact ml_riz tr9 hx hb hr hlocks hP hK hD hS (by rw [e9]) (hRr_2 e9) (by rw [gw_1 (by rw [e9]; show ¬ ((2 : Int32) = 0); decide)]; exact hz9) dL_edits_19
    · refine vx_catch (own := RL) (name := eIS) hown [⟨0, 9, 10, 13⟩, ⟨0, 9, 15, 23⟩] ⟨0, 9, 20, 16⟩ [] hTb (fun z hz => by rcases List.mem_cons.mp hz with rfl | hz; exact Or.inr ⟨by decide, eIA, hts (.classLink RL 13 eIA) (by decide +kernel), hca.2.1.1⟩; obtain rfl := List.mem_singleton.mp hz; exact Or.inr ⟨by decide, eIB, hts (.classLink RL 23 eIB) (by decide +kernel), hca.2.1.2.2.1⟩) (by decide) (by decide) (hts (.classLink RL 16 eIS) (by decide +kernel)) (va_Nw.use rfl hca.1.2.1) hc1 hc2 hc3 ?_
      refine lv_astore (lv' := [(5, .ref q9), (0, .ref (a 0)), (1, .int h), (2, .int x), (3, .int y), (4, .int z)]) hx hb dL_edits_20 hl (by decide) rfl (fun ls hl => ?_)
      refine lv_ldc hx hb hown (hts (.constant RL 18 (-2000000003)) (by decide +kernel)) dL_edits_22 ?_
      exact ml_riz tr9 hx hb hr hlocks hP hK hD hS (by rw [e9]) (hRr_3 e9) (by rw [gw_1 (by rw [e9]; show ¬ ((3 : Int32) = 0); decide)]; exact hz9) dL_edits_24
  · have hP : va_P G vwCl (wC a cy ((sp_edit T h x y z).2.2) u) H := hP
    have hD : va_D A (wC a cy ((sp_edit T h x y z).2.2) u) := hD
    refine W.widen (k := 1) (n := 6) (Nat.le_of_ble_eq_true rfl) (Nat.le_of_ble_eq_true rfl) ?_
    exact ml_riz u hx hb hr hlocks hP hK hD hS rfl (hRr_0 hw.1 hw.2) (by rw [gw_0 hw.1]; exact hS.1) dL_edits_9
set_option maxHeartbeats 4000000 in
set_option maxRecDepth 100000 in
theorem c_L_sum (l : Launch) (hlt : l.stackTraces = false) (G : va_G) (cy : Nat → ClassId) (a : Nat → Nat) (sz : Nat) (T : TS) (tr : Nat → Int32) (x : Int32) (hI : Inv T) : Met l yL_sum wsL_sum ({ frames := 8, cells := 1, slots := 6, locals := 124 } : Room) (ml_PX G cy [.ref (a 0), .int x] (wC a cy T tr) sz) (va_Qi (fun (r : Int32) (u : Nat → Int32) => hRr (sp_checksum T x) (-2000000001) 0 0 r) (ml_BZ G cy (va_A (wC a cy T tr) sz) (fun u : Nat → Int32 => (wC a cy (sp_checksum T x).2.2 u)) sz (fun _ => gw (sp_checksum T x))) (va_A (wC a cy T tr) sz)) 1 6 (va_A (wC a cy T tr) sz) := by
  refine va_MetW (cc := cL_sum) (maxL := 3) (ret := some .int) (hh := [(0, 5, 6, 23)]) (by decide) rfl ?_
  intro p e s m args below meth c s₁ B hml hv
  obtain ⟨rfl, hsz, hP, hK, hD0, hN, hE⟩ := hv
  have hx := B.exec
  have hb := B.bytes
  have hr := B.returns
  have hts := atoms_spec (ws := wsL_sum) B.pre
  have hTb : c.exceptionTable.toList = tableOf [(0, 5, 6, 23)] := vx_table (x := yL_sum) B (hts _ List.mem_cons_self)
  have hown : s.vm.findClass RL = some m.cls := findClass_of_methodNamed B.named
  have hlocks := B.notSynchronized
  have hca := hE.2.2.2
  subst hsz
  have hD := hD0.self (sz := s.heap.size)
  generalize hAe : va_A (wC a cy T tr) s.heap.size = A at hD hE ⊢
  have hA : ∀ q : Nat, s.heap.size ≤ q → A q := fun q h => by rw [← hAe]; exact Or.inr h
  have hS : va_S A s.heap s.heap [] := va_S.rf
  have hP : va_P G vwCl (wC a cy T tr) s.heap := hP
  have hl := lv_entry ([.ref (a 0), .int x]) (n := 3) (Nat.le_of_ble_eq_true rfl)
  rw [lg_entry_eq]
  generalize (lg_sl ([.ref (a 0), .int x]) ++ List.replicate (3 - (lg_sl ([.ref (a 0), .int x])).length) Slot.unset).toArray = ls at hl ⊢
  have hl : lv_has ls 3 [(0, .ref (a 0)), (1, .int x)] := hl
  refine lv_aload_n hx hb dL_sum_0 rfl (lv_at hl 0 rfl) ?_
  refine lv_iload_n hx hb dL_sum_1 rfl (lv_at hl 1 rfl) ?_
  refine mo_xVi (G := G) (As := [.int x]) (rest := []) ⟨hx, hb, hml, hown, hts⟩ (c_X3_checksum l hlt G cy a s.heap.size T tr x hI) (cwV 1 hts gL_sum_X3_checksum rfl rfl rfl (by decide +kernel) ⟨Nat.le_of_ble_eq_true rfl, Nat.le_of_ble_eq_true rfl⟩) (va_recv hK hP (ci := 3) (q0 := 0) rfl rfl) hP hK hD hS hA hN hE rfl hl.1 (Nat.le_of_ble_eq_true rfl) dL_sum_2 ⟨Nat.le_of_ble_eq_true rfl, Nat.le_of_ble_eq_true rfl⟩ (fun E ce q9 H locs tr9 hz9 hpx hP hD hS hc1 hc2 hc3 => ?_) (fun r u H locs hw hP hD hS => ?_)
  · have hP : va_P G vwCl (wC a cy T tr9) H := hP
    have hD : va_D A (wC a cy T tr9) := hD
    obtain ⟨rfl, e9⟩ := hpx
    refine vx_catch (own := RL) (name := eIB) hown [] ⟨0, 5, 6, 23⟩ [] hTb (fun z hz => absurd hz List.not_mem_nil) (by decide) (by decide) (hts (.classLink RL 23 eIB) (by decide +kernel)) (va_Nw.use rfl hca.1.2.2) hc1 hc2 hc3 ?_
    refine lv_astore_n (lv' := [(2, .ref q9), (0, .ref (a 0)), (1, .int x)]) hx hb dL_sum_6 rfl hl (by decide) rfl (fun ls hl => ?_)
    refine lv_ldc hx hb hown (hts (.constant RL 25 (-2000000001)) (by decide +kernel)) dL_sum_7 ?_
    exact ml_riz tr9 hx hb hr hlocks hP hK hD hS (by rw [e9]) (hRr_1 e9) (by rw [gw_1 (by rw [e9]; show ¬ ((1 : Int32) = 0); decide)]; exact hz9) dL_sum_9
  · have hP : va_P G vwCl (wC a cy ((sp_checksum T x).2.2) u) H := hP
    have hD : va_D A (wC a cy ((sp_checksum T x).2.2) u) := hD
    refine W.widen (k := 1) (n := 6) (Nat.le_of_ble_eq_true rfl) (Nat.le_of_ble_eq_true rfl) ?_
    exact ml_riz u hx hb hr hlocks hP hK hD hS rfl (hRr_0 hw.1 hw.2) (by rw [gw_0 hw.1]; exact hS.1) dL_sum_5
set_option maxHeartbeats 4000000 in
set_option maxRecDepth 100000 in
theorem c_L_state (l : Launch) (hlt : l.stackTraces = false) (G : va_G) (cy : Nat → ClassId) (a : Nat → Nat) (sz : Nat) (T : TS) (tr : Nat → Int32) (x : Int32) (hI : Inv T) : Met l yL_state wsL_state ({ frames := 8, cells := 1, slots := 6, locals := 124 } : Room) (ml_PX G cy [.ref (a 0), .int x] (wC a cy T tr) sz) (va_Qi (fun (r : Int32) (u : Nat → Int32) => hRr (sp_state T x) (-2000000001) 0 0 r) (ml_BZ G cy (va_A (wC a cy T tr) sz) (fun u : Nat → Int32 => (wC a cy (sp_state T x).2.2 u)) sz (fun _ => gw (sp_state T x))) (va_A (wC a cy T tr) sz)) 1 6 (va_A (wC a cy T tr) sz) := by
  refine va_MetW (cc := cL_state) (maxL := 3) (ret := some .int) (hh := [(0, 5, 6, 23)]) (by decide) rfl ?_
  intro p e s m args below meth c s₁ B hml hv
  obtain ⟨rfl, hsz, hP, hK, hD0, hN, hE⟩ := hv
  have hx := B.exec
  have hb := B.bytes
  have hr := B.returns
  have hts := atoms_spec (ws := wsL_state) B.pre
  have hTb : c.exceptionTable.toList = tableOf [(0, 5, 6, 23)] := vx_table (x := yL_state) B (hts _ List.mem_cons_self)
  have hown : s.vm.findClass RL = some m.cls := findClass_of_methodNamed B.named
  have hlocks := B.notSynchronized
  have hca := hE.2.2.2
  subst hsz
  have hD := hD0.self (sz := s.heap.size)
  generalize hAe : va_A (wC a cy T tr) s.heap.size = A at hD hE ⊢
  have hA : ∀ q : Nat, s.heap.size ≤ q → A q := fun q h => by rw [← hAe]; exact Or.inr h
  have hS : va_S A s.heap s.heap [] := va_S.rf
  have hP : va_P G vwCl (wC a cy T tr) s.heap := hP
  have hl := lv_entry ([.ref (a 0), .int x]) (n := 3) (Nat.le_of_ble_eq_true rfl)
  rw [lg_entry_eq]
  generalize (lg_sl ([.ref (a 0), .int x]) ++ List.replicate (3 - (lg_sl ([.ref (a 0), .int x])).length) Slot.unset).toArray = ls at hl ⊢
  have hl : lv_has ls 3 [(0, .ref (a 0)), (1, .int x)] := hl
  refine lv_aload_n hx hb dL_state_0 rfl (lv_at hl 0 rfl) ?_
  refine lv_iload_n hx hb dL_state_1 rfl (lv_at hl 1 rfl) ?_
  refine mo_xVi (G := G) (As := [.int x]) (rest := []) ⟨hx, hb, hml, hown, hts⟩ (c_X3_state l hlt G cy a s.heap.size T tr x hI) (cwV 1 hts gL_state_X3_state rfl rfl rfl (by decide +kernel) ⟨Nat.le_of_ble_eq_true rfl, Nat.le_of_ble_eq_true rfl⟩) (va_recv hK hP (ci := 3) (q0 := 0) rfl rfl) hP hK hD hS hA hN hE rfl hl.1 (Nat.le_of_ble_eq_true rfl) dL_state_2 ⟨Nat.le_of_ble_eq_true rfl, Nat.le_of_ble_eq_true rfl⟩ (fun E ce q9 H locs tr9 hz9 hpx hP hD hS hc1 hc2 hc3 => ?_) (fun r u H locs hw hP hD hS => ?_)
  · have hP : va_P G vwCl (wC a cy T tr9) H := hP
    have hD : va_D A (wC a cy T tr9) := hD
    obtain ⟨rfl, e9⟩ := hpx
    refine vx_catch (own := RL) (name := eIB) hown [] ⟨0, 5, 6, 23⟩ [] hTb (fun z hz => absurd hz List.not_mem_nil) (by decide) (by decide) (hts (.classLink RL 23 eIB) (by decide +kernel)) (va_Nw.use rfl hca.1.2.2) hc1 hc2 hc3 ?_
    refine lv_astore_n (lv' := [(2, .ref q9), (0, .ref (a 0)), (1, .int x)]) hx hb dL_state_6 rfl hl (by decide) rfl (fun ls hl => ?_)
    refine lv_ldc hx hb hown (hts (.constant RL 25 (-2000000001)) (by decide +kernel)) dL_state_7 ?_
    exact ml_riz tr9 hx hb hr hlocks hP hK hD hS (by rw [e9]) (hRr_1 e9) (by rw [gw_1 (by rw [e9]; show ¬ ((1 : Int32) = 0); decide)]; exact hz9) dL_state_9
  · have hP : va_P G vwCl (wC a cy ((sp_state T x).2.2) u) H := hP
    have hD : va_D A (wC a cy ((sp_state T x).2.2) u) := hD
    refine W.widen (k := 1) (n := 6) (Nat.le_of_ble_eq_true rfl) (Nat.le_of_ble_eq_true rfl) ?_
    exact ml_riz u hx hb hr hlocks hP hK hD hS rfl (hRr_0 hw.1 hw.2) (by rw [gw_0 hw.1]; exact hS.1) dL_state_5
set_option maxHeartbeats 4000000 in
set_option maxRecDepth 100000 in
theorem c_L_inserts (l : Launch) (hlt : l.stackTraces = false) (G : va_G) (cy : Nat → ClassId) (a : Nat → Nat) (sz : Nat) (T : TS) (tr : Nat → Int32) (h : Int32) (x : Int32) (y : Int32) (z : Int32) (hI : Inv T) : Met l yL_inserts wsL_inserts ({ frames := 8, cells := 1, slots := 6, locals := 127 } : Room) (ml_PX G cy [.ref (a 0), .int h, .int x, .int y, .int z] (wC a cy T tr) sz) (va_Qi (fun (r : Int32) (u : Nat → Int32) => hRr (sp_insert T h x y z) (-2000000002) (-2000000003) 0 r) (ml_BZ G cy (va_A (wC a cy T tr) sz) (fun u : Nat → Int32 => (wC a cy (sp_insert T h x y z).2.2 u)) sz (fun _ => gw (sp_insert T h x y z))) (va_A (wC a cy T tr) sz)) 1 6 (va_A (wC a cy T tr) sz) := by
  refine va_MetW (cc := cL_inserts) (maxL := 6) (ret := some .int) (hh := [(0, 9, 10, 13), (0, 9, 15, 16)]) (by decide) rfl ?_
  intro p e s m args below meth c s₁ B hml hv
  obtain ⟨rfl, hsz, hP, hK, hD0, hN, hE⟩ := hv
  have hx := B.exec
  have hb := B.bytes
  have hr := B.returns
  have hts := atoms_spec (ws := wsL_inserts) B.pre
  have hTb : c.exceptionTable.toList = tableOf [(0, 9, 10, 13), (0, 9, 15, 16)] := vx_table (x := yL_inserts) B (hts _ List.mem_cons_self)
  have hown : s.vm.findClass RL = some m.cls := findClass_of_methodNamed B.named
  have hlocks := B.notSynchronized
  have hca := hE.2.2.2
  subst hsz
  have hD := hD0.self (sz := s.heap.size)
  generalize hAe : va_A (wC a cy T tr) s.heap.size = A at hD hE ⊢
  have hA : ∀ q : Nat, s.heap.size ≤ q → A q := fun q h => by rw [← hAe]; exact Or.inr h
  have hS : va_S A s.heap s.heap [] := va_S.rf
  have hP : va_P G vwCl (wC a cy T tr) s.heap := hP
  have hl := lv_entry ([.ref (a 0), .int h, .int x, .int y, .int z]) (n := 6) (Nat.le_of_ble_eq_true rfl)
  rw [lg_entry_eq]
  generalize (lg_sl ([.ref (a 0), .int h, .int x, .int y, .int z]) ++ List.replicate (6 - (lg_sl ([.ref (a 0), .int h, .int x, .int y, .int z])).length) Slot.unset).toArray = ls at hl ⊢
  have hl : lv_has ls 6 [(0, .ref (a 0)), (1, .int h), (2, .int x), (3, .int y), (4, .int z)] := hl
  refine lv_aload_n hx hb dL_inserts_0 rfl (lv_at hl 0 rfl) ?_
  refine lv_iload_n hx hb dL_inserts_1 rfl (lv_at hl 1 rfl) ?_
  refine lv_iload_n hx hb dL_inserts_2 rfl (lv_at hl 2 rfl) ?_
  refine lv_iload_n hx hb dL_inserts_3 rfl (lv_at hl 3 rfl) ?_
  refine lv_iload hx hb dL_inserts_4 (lv_at hl 4 rfl) ?_
  refine mo_xVi (G := G) (As := [.int h, .int x, .int y, .int z]) (rest := []) ⟨hx, hb, hml, hown, hts⟩ (c_X3_insert l hlt G cy a s.heap.size T tr h x y z hI) (cwV 4 hts gL_inserts_X3_insert rfl rfl rfl (by decide +kernel) ⟨Nat.le_of_ble_eq_true rfl, Nat.le_of_ble_eq_true rfl⟩) (va_recv hK hP (ci := 3) (q0 := 0) rfl rfl) hP hK hD hS hA hN hE rfl hl.1 (Nat.le_of_ble_eq_true rfl) dL_inserts_6 ⟨Nat.le_of_ble_eq_true rfl, Nat.le_of_ble_eq_true rfl⟩ (fun E ce q9 H locs tr9 hz9 hpx hP hD hS hc1 hc2 hc3 => ?_) (fun r u H locs hw hP hD hS => ?_)
  · have hP : va_P G vwCl (wC a cy T tr9) H := hP
    have hD : va_D A (wC a cy T tr9) := hD
    rcases hpx with ⟨rfl, e9⟩ | ⟨rfl, e9⟩
    · refine vx_catch (own := RL) (name := eIA) hown [] ⟨0, 9, 10, 13⟩ [⟨0, 9, 15, 16⟩] hTb (fun z hz => absurd hz List.not_mem_nil) (by decide) (by decide) (hts (.classLink RL 13 eIA) (by decide +kernel)) (va_Nw.use rfl hca.1.1) hc1 hc2 hc3 ?_
      refine lv_astore (lv' := [(5, .ref q9), (0, .ref (a 0)), (1, .int h), (2, .int x), (3, .int y), (4, .int z)]) hx hb dL_inserts_10 hl (by decide) rfl (fun ls hl => ?_)
      refine lv_ldc hx hb hown (hts (.constant RL 15 (-2000000002)) (by decide +kernel)) dL_inserts_12 ?_
      exact ml_riz tr9 hx hb hr hlocks hP hK hD hS (by rw [e9]) (hRr_1 e9) (by rw [gw_1 (by rw [e9]; show ¬ ((1 : Int32) = 0); decide)]; exact hz9) dL_inserts_14
    · refine vx_catch (own := RL) (name := eIS) hown [⟨0, 9, 10, 13⟩] ⟨0, 9, 15, 16⟩ [] hTb (fun z hz => by obtain rfl := List.mem_singleton.mp hz; exact Or.inr ⟨by decide, eIA, hts (.classLink RL 13 eIA) (by decide +kernel), hca.2.1.1⟩) (by decide) (by decide) (hts (.classLink RL 16 eIS) (by decide +kernel)) (va_Nw.use rfl hca.1.2.1) hc1 hc2 hc3 ?_
      refine lv_astore (lv' := [(5, .ref q9), (0, .ref (a 0)), (1, .int h), (2, .int x), (3, .int y), (4, .int z)]) hx hb dL_inserts_15 hl (by decide) rfl (fun ls hl => ?_)
      refine lv_ldc hx hb hown (hts (.constant RL 18 (-2000000003)) (by decide +kernel)) dL_inserts_17 ?_
      exact ml_riz tr9 hx hb hr hlocks hP hK hD hS (by rw [e9]) (hRr_2 e9) (by rw [gw_1 (by rw [e9]; show ¬ ((2 : Int32) = 0); decide)]; exact hz9) dL_inserts_19
  · have hP : va_P G vwCl (wC a cy ((sp_insert T h x y z).2.2) u) H := hP
    have hD : va_D A (wC a cy ((sp_insert T h x y z).2.2) u) := hD
    refine W.widen (k := 1) (n := 6) (Nat.le_of_ble_eq_true rfl) (Nat.le_of_ble_eq_true rfl) ?_
    exact ml_riz u hx hb hr hlocks hP hK hD hS rfl (hRr_0 hw.1 hw.2) (by rw [gw_0 hw.1]; exact hS.1) dL_inserts_9
set_option maxHeartbeats 4000000 in
set_option maxRecDepth 100000 in
theorem c_L_writes (l : Launch) (hlt : l.stackTraces = false) (G : va_G) (cy : Nat → ClassId) (a : Nat → Nat) (sz : Nat) (T : TS) (tr : Nat → Int32) (x : Int32) (y : Int32) (z : Int32) (hI : Inv T) : Met l yL_writes wsL_writes ({ frames := 8, cells := 1, slots := 6, locals := 127 } : Room) (ml_PX G cy [.ref (a 0), .int x, .int y, .int z] (wC a cy T tr) sz) (va_Qi (fun (r : Int32) (u : Nat → Int32) => hRr (sp_write T x y z) (-2000000002) (-2000000001) 0 r) (ml_BZ G cy (va_A (wC a cy T tr) sz) (fun u : Nat → Int32 => (wC a cy (sp_write T x y z).2.2 u)) sz (fun _ => gw (sp_write T x y z))) (va_A (wC a cy T tr) sz)) 1 6 (va_A (wC a cy T tr) sz) := by
  refine va_MetW (cc := cL_writes) (maxL := 5) (ret := some .int) (hh := [(0, 7, 8, 13), (0, 7, 13, 23)]) (by decide) rfl ?_
  intro p e s m args below meth c s₁ B hml hv
  obtain ⟨rfl, hsz, hP, hK, hD0, hN, hE⟩ := hv
  have hx := B.exec
  have hb := B.bytes
  have hr := B.returns
  have hts := atoms_spec (ws := wsL_writes) B.pre
  have hTb : c.exceptionTable.toList = tableOf [(0, 7, 8, 13), (0, 7, 13, 23)] := vx_table (x := yL_writes) B (hts _ List.mem_cons_self)
  have hown : s.vm.findClass RL = some m.cls := findClass_of_methodNamed B.named
  have hlocks := B.notSynchronized
  have hca := hE.2.2.2
  subst hsz
  have hD := hD0.self (sz := s.heap.size)
  generalize hAe : va_A (wC a cy T tr) s.heap.size = A at hD hE ⊢
  have hA : ∀ q : Nat, s.heap.size ≤ q → A q := fun q h => by rw [← hAe]; exact Or.inr h
  have hS : va_S A s.heap s.heap [] := va_S.rf
  have hP : va_P G vwCl (wC a cy T tr) s.heap := hP
  have hl := lv_entry ([.ref (a 0), .int x, .int y, .int z]) (n := 5) (Nat.le_of_ble_eq_true rfl)
  rw [lg_entry_eq]
  generalize (lg_sl ([.ref (a 0), .int x, .int y, .int z]) ++ List.replicate (5 - (lg_sl ([.ref (a 0), .int x, .int y, .int z])).length) Slot.unset).toArray = ls at hl ⊢
  have hl : lv_has ls 5 [(0, .ref (a 0)), (1, .int x), (2, .int y), (3, .int z)] := hl
  refine lv_aload_n hx hb dL_writes_0 rfl (lv_at hl 0 rfl) ?_
  refine lv_iload_n hx hb dL_writes_1 rfl (lv_at hl 1 rfl) ?_
  refine lv_iload_n hx hb dL_writes_2 rfl (lv_at hl 2 rfl) ?_
  refine lv_iload_n hx hb dL_writes_3 rfl (lv_at hl 3 rfl) ?_
  refine mo_xVi (G := G) (As := [.int x, .int y, .int z]) (rest := []) ⟨hx, hb, hml, hown, hts⟩ (c_X3_write l hlt G cy a s.heap.size T tr x y z hI) (cwV 3 hts gL_writes_X3_write rfl rfl rfl (by decide +kernel) ⟨Nat.le_of_ble_eq_true rfl, Nat.le_of_ble_eq_true rfl⟩) (va_recv hK hP (ci := 3) (q0 := 0) rfl rfl) hP hK hD hS hA hN hE rfl hl.1 (Nat.le_of_ble_eq_true rfl) dL_writes_4 ⟨Nat.le_of_ble_eq_true rfl, Nat.le_of_ble_eq_true rfl⟩ (fun E ce q9 H locs tr9 hz9 hpx hP hD hS hc1 hc2 hc3 => ?_) (fun r u H locs hw hP hD hS => ?_)
  · have hP : va_P G vwCl (wC a cy T tr9) H := hP
    have hD : va_D A (wC a cy T tr9) := hD
    rcases hpx with ⟨rfl, e9⟩ | ⟨rfl, e9⟩
    · refine vx_catch (own := RL) (name := eIA) hown [] ⟨0, 7, 8, 13⟩ [⟨0, 7, 13, 23⟩] hTb (fun z hz => absurd hz List.not_mem_nil) (by decide) (by decide) (hts (.classLink RL 13 eIA) (by decide +kernel)) (va_Nw.use rfl hca.1.1) hc1 hc2 hc3 ?_
      refine lv_astore (lv' := [(4, .ref q9), (0, .ref (a 0)), (1, .int x), (2, .int y), (3, .int z)]) hx hb dL_writes_8 hl (by decide) rfl (fun ls hl => ?_)
      refine lv_ldc hx hb hown (hts (.constant RL 15 (-2000000002)) (by decide +kernel)) dL_writes_10 ?_
      exact ml_riz tr9 hx hb hr hlocks hP hK hD hS (by rw [e9]) (hRr_1 e9) (by rw [gw_1 (by rw [e9]; show ¬ ((1 : Int32) = 0); decide)]; exact hz9) dL_writes_12
    · refine vx_catch (own := RL) (name := eIB) hown [⟨0, 7, 8, 13⟩] ⟨0, 7, 13, 23⟩ [] hTb (fun z hz => by obtain rfl := List.mem_singleton.mp hz; exact Or.inr ⟨by decide, eIA, hts (.classLink RL 13 eIA) (by decide +kernel), hca.2.1.2.1⟩) (by decide) (by decide) (hts (.classLink RL 23 eIB) (by decide +kernel)) (va_Nw.use rfl hca.1.2.2) hc1 hc2 hc3 ?_
      refine lv_astore (lv' := [(4, .ref q9), (0, .ref (a 0)), (1, .int x), (2, .int y), (3, .int z)]) hx hb dL_writes_13 hl (by decide) rfl (fun ls hl => ?_)
      refine lv_ldc hx hb hown (hts (.constant RL 25 (-2000000001)) (by decide +kernel)) dL_writes_15 ?_
      exact ml_riz tr9 hx hb hr hlocks hP hK hD hS (by rw [e9]) (hRr_2 e9) (by rw [gw_1 (by rw [e9]; show ¬ ((2 : Int32) = 0); decide)]; exact hz9) dL_writes_17
  · have hP : va_P G vwCl (wC a cy ((sp_write T x y z).2.2) u) H := hP
    have hD : va_D A (wC a cy ((sp_write T x y z).2.2) u) := hD
    refine W.widen (k := 1) (n := 6) (Nat.le_of_ble_eq_true rfl) (Nat.le_of_ble_eq_true rfl) ?_
    exact ml_riz u hx hb hr hlocks hP hK hD hS rfl (hRr_0 hw.1 hw.2) (by rw [gw_0 hw.1]; exact hS.1) dL_writes_7
set_option maxHeartbeats 4000000 in
set_option maxRecDepth 100000 in
theorem c_L_deletes (l : Launch) (hlt : l.stackTraces = false) (G : va_G) (cy : Nat → ClassId) (a : Nat → Nat) (sz : Nat) (T : TS) (tr : Nat → Int32) (x : Int32) (hI : Inv T) : Met l yL_deletes wsL_deletes ({ frames := 8, cells := 1, slots := 6, locals := 125 } : Room) (ml_PX G cy [.ref (a 0), .int x] (wC a cy T tr) sz) (va_Qi (fun (r : Int32) (u : Nat → Int32) => hRr (sp_delete T x) (-2000000002) (-2000000001) 0 r) (ml_BZ G cy (va_A (wC a cy T tr) sz) (fun u : Nat → Int32 => (wC a cy (sp_delete T x).2.2 u)) sz (fun _ => gw (sp_delete T x))) (va_A (wC a cy T tr) sz)) 1 6 (va_A (wC a cy T tr) sz) := by
  refine va_MetW (cc := cL_deletes) (maxL := 3) (ret := some .int) (hh := [(0, 5, 6, 13), (0, 5, 10, 23)]) (by decide) rfl ?_
  intro p e s m args below meth c s₁ B hml hv
  obtain ⟨rfl, hsz, hP, hK, hD0, hN, hE⟩ := hv
  have hx := B.exec
  have hb := B.bytes
  have hr := B.returns
  have hts := atoms_spec (ws := wsL_deletes) B.pre
  have hTb : c.exceptionTable.toList = tableOf [(0, 5, 6, 13), (0, 5, 10, 23)] := vx_table (x := yL_deletes) B (hts _ List.mem_cons_self)
  have hown : s.vm.findClass RL = some m.cls := findClass_of_methodNamed B.named
  have hlocks := B.notSynchronized
  have hca := hE.2.2.2
  subst hsz
  have hD := hD0.self (sz := s.heap.size)
  generalize hAe : va_A (wC a cy T tr) s.heap.size = A at hD hE ⊢
  have hA : ∀ q : Nat, s.heap.size ≤ q → A q := fun q h => by rw [← hAe]; exact Or.inr h
  have hS : va_S A s.heap s.heap [] := va_S.rf
  have hP : va_P G vwCl (wC a cy T tr) s.heap := hP
  have hl := lv_entry ([.ref (a 0), .int x]) (n := 3) (Nat.le_of_ble_eq_true rfl)
  rw [lg_entry_eq]
  generalize (lg_sl ([.ref (a 0), .int x]) ++ List.replicate (3 - (lg_sl ([.ref (a 0), .int x])).length) Slot.unset).toArray = ls at hl ⊢
  have hl : lv_has ls 3 [(0, .ref (a 0)), (1, .int x)] := hl
  refine lv_aload_n hx hb dL_deletes_0 rfl (lv_at hl 0 rfl) ?_
  refine lv_iload_n hx hb dL_deletes_1 rfl (lv_at hl 1 rfl) ?_
  refine mo_xVi (G := G) (As := [.int x]) (rest := []) ⟨hx, hb, hml, hown, hts⟩ (c_X3_delete l hlt G cy a s.heap.size T tr x hI) (cwV 1 hts gL_deletes_X3_delete rfl rfl rfl (by decide +kernel) ⟨Nat.le_of_ble_eq_true rfl, Nat.le_of_ble_eq_true rfl⟩) (va_recv hK hP (ci := 3) (q0 := 0) rfl rfl) hP hK hD hS hA hN hE rfl hl.1 (Nat.le_of_ble_eq_true rfl) dL_deletes_2 ⟨Nat.le_of_ble_eq_true rfl, Nat.le_of_ble_eq_true rfl⟩ (fun E ce q9 H locs tr9 hz9 hpx hP hD hS hc1 hc2 hc3 => ?_) (fun r u H locs hw hP hD hS => ?_)
  · have hP : va_P G vwCl (wC a cy T tr9) H := hP
    have hD : va_D A (wC a cy T tr9) := hD
    rcases hpx with ⟨rfl, e9⟩ | ⟨rfl, e9⟩
    · refine vx_catch (own := RL) (name := eIA) hown [] ⟨0, 5, 6, 13⟩ [⟨0, 5, 10, 23⟩] hTb (fun z hz => absurd hz List.not_mem_nil) (by decide) (by decide) (hts (.classLink RL 13 eIA) (by decide +kernel)) (va_Nw.use rfl hca.1.1) hc1 hc2 hc3 ?_
      refine lv_astore_n (lv' := [(2, .ref q9), (0, .ref (a 0)), (1, .int x)]) hx hb dL_deletes_6 rfl hl (by decide) rfl (fun ls hl => ?_)
      refine lv_ldc hx hb hown (hts (.constant RL 15 (-2000000002)) (by decide +kernel)) dL_deletes_7 ?_
      exact ml_riz tr9 hx hb hr hlocks hP hK hD hS (by rw [e9]) (hRr_1 e9) (by rw [gw_1 (by rw [e9]; show ¬ ((1 : Int32) = 0); decide)]; exact hz9) dL_deletes_9
    · refine vx_catch (own := RL) (name := eIB) hown [⟨0, 5, 6, 13⟩] ⟨0, 5, 10, 23⟩ [] hTb (fun z hz => by obtain rfl := List.mem_singleton.mp hz; exact Or.inr ⟨by decide, eIA, hts (.classLink RL 13 eIA) (by decide +kernel), hca.2.1.2.1⟩) (by decide) (by decide) (hts (.classLink RL 23 eIB) (by decide +kernel)) (va_Nw.use rfl hca.1.2.2) hc1 hc2 hc3 ?_
      refine lv_astore_n (lv' := [(2, .ref q9), (0, .ref (a 0)), (1, .int x)]) hx hb dL_deletes_10 rfl hl (by decide) rfl (fun ls hl => ?_)
      refine lv_ldc hx hb hown (hts (.constant RL 25 (-2000000001)) (by decide +kernel)) dL_deletes_11 ?_
      exact ml_riz tr9 hx hb hr hlocks hP hK hD hS (by rw [e9]) (hRr_2 e9) (by rw [gw_1 (by rw [e9]; show ¬ ((2 : Int32) = 0); decide)]; exact hz9) dL_deletes_13
  · have hP : va_P G vwCl (wC a cy ((sp_delete T x).2.2) u) H := hP
    have hD : va_D A (wC a cy ((sp_delete T x).2.2) u) := hD
    refine W.widen (k := 1) (n := 6) (Nat.le_of_ble_eq_true rfl) (Nat.le_of_ble_eq_true rfl) ?_
    exact ml_riz u hx hb hr hlocks hP hK hD hS rfl (hRr_0 hw.1 hw.2) (by rw [gw_0 hw.1]; exact hS.1) dL_deletes_5
set_option maxHeartbeats 4000000 in
set_option maxRecDepth 100000 in
theorem c_L_value (l : Launch) (hlt : l.stackTraces = false) (G : va_G) (cy : Nat → ClassId) (a : Nat → Nat) (sz : Nat) (T : TS) (tr : Nat → Int32) (x : Int32) (y : Int32) (hI : Inv T) : Met l yL_value wsL_value ({ frames := 8, cells := 1, slots := 6, locals := 125 } : Room) (ml_PX G cy [.ref (a 0), .int x, .int y] (wC a cy T tr) sz) (va_Qi (fun (r : Int32) (u : Nat → Int32) => hRr (sp_value T x y) (-2000000002) (-2000000001) 0 r) (ml_BZ G cy (va_A (wC a cy T tr) sz) (fun u : Nat → Int32 => (wC a cy (sp_value T x y).2.2 u)) sz (fun _ => gw (sp_value T x y))) (va_A (wC a cy T tr) sz)) 1 6 (va_A (wC a cy T tr) sz) := by
  refine va_MetW (cc := cL_value) (maxL := 4) (ret := some .int) (hh := [(0, 6, 7, 13), (0, 6, 11, 23)]) (by decide) rfl ?_
  intro p e s m args below meth c s₁ B hml hv
  obtain ⟨rfl, hsz, hP, hK, hD0, hN, hE⟩ := hv
  have hx := B.exec
  have hb := B.bytes
  have hr := B.returns
  have hts := atoms_spec (ws := wsL_value) B.pre
  have hTb : c.exceptionTable.toList = tableOf [(0, 6, 7, 13), (0, 6, 11, 23)] := vx_table (x := yL_value) B (hts _ List.mem_cons_self)
  have hown : s.vm.findClass RL = some m.cls := findClass_of_methodNamed B.named
  have hlocks := B.notSynchronized
  have hca := hE.2.2.2
  subst hsz
  have hD := hD0.self (sz := s.heap.size)
  generalize hAe : va_A (wC a cy T tr) s.heap.size = A at hD hE ⊢
  have hA : ∀ q : Nat, s.heap.size ≤ q → A q := fun q h => by rw [← hAe]; exact Or.inr h
  have hS : va_S A s.heap s.heap [] := va_S.rf
  have hP : va_P G vwCl (wC a cy T tr) s.heap := hP
  have hl := lv_entry ([.ref (a 0), .int x, .int y]) (n := 4) (Nat.le_of_ble_eq_true rfl)
  rw [lg_entry_eq]
  generalize (lg_sl ([.ref (a 0), .int x, .int y]) ++ List.replicate (4 - (lg_sl ([.ref (a 0), .int x, .int y])).length) Slot.unset).toArray = ls at hl ⊢
  have hl : lv_has ls 4 [(0, .ref (a 0)), (1, .int x), (2, .int y)] := hl
  refine lv_aload_n hx hb dL_value_0 rfl (lv_at hl 0 rfl) ?_
  refine lv_iload_n hx hb dL_value_1 rfl (lv_at hl 1 rfl) ?_
  refine lv_iload_n hx hb dL_value_2 rfl (lv_at hl 2 rfl) ?_
  refine mo_xVi (G := G) (As := [.int x, .int y]) (rest := []) ⟨hx, hb, hml, hown, hts⟩ (c_X3_value l hlt G cy a s.heap.size T tr x y hI) (cwV 2 hts gL_value_X3_value rfl rfl rfl (by decide +kernel) ⟨Nat.le_of_ble_eq_true rfl, Nat.le_of_ble_eq_true rfl⟩) (va_recv hK hP (ci := 3) (q0 := 0) rfl rfl) hP hK hD hS hA hN hE rfl hl.1 (Nat.le_of_ble_eq_true rfl) dL_value_3 ⟨Nat.le_of_ble_eq_true rfl, Nat.le_of_ble_eq_true rfl⟩ (fun E ce q9 H locs tr9 hz9 hpx hP hD hS hc1 hc2 hc3 => ?_) (fun r u H locs hw hP hD hS => ?_)
  · have hP : va_P G vwCl (wC a cy T tr9) H := hP
    have hD : va_D A (wC a cy T tr9) := hD
    rcases hpx with ⟨rfl, e9⟩ | ⟨rfl, e9⟩
    · refine vx_catch (own := RL) (name := eIA) hown [] ⟨0, 6, 7, 13⟩ [⟨0, 6, 11, 23⟩] hTb (fun z hz => absurd hz List.not_mem_nil) (by decide) (by decide) (hts (.classLink RL 13 eIA) (by decide +kernel)) (va_Nw.use rfl hca.1.1) hc1 hc2 hc3 ?_
      refine lv_astore_n (lv' := [(3, .ref q9), (0, .ref (a 0)), (1, .int x), (2, .int y)]) hx hb dL_value_7 rfl hl (by decide) rfl (fun ls hl => ?_)
      refine lv_ldc hx hb hown (hts (.constant RL 15 (-2000000002)) (by decide +kernel)) dL_value_8 ?_
      exact ml_riz tr9 hx hb hr hlocks hP hK hD hS (by rw [e9]) (hRr_1 e9) (by rw [gw_1 (by rw [e9]; show ¬ ((1 : Int32) = 0); decide)]; exact hz9) dL_value_10
    · refine vx_catch (own := RL) (name := eIB) hown [⟨0, 6, 7, 13⟩] ⟨0, 6, 11, 23⟩ [] hTb (fun z hz => by obtain rfl := List.mem_singleton.mp hz; exact Or.inr ⟨by decide, eIA, hts (.classLink RL 13 eIA) (by decide +kernel), hca.2.1.2.1⟩) (by decide) (by decide) (hts (.classLink RL 23 eIB) (by decide +kernel)) (va_Nw.use rfl hca.1.2.2) hc1 hc2 hc3 ?_
      refine lv_astore_n (lv' := [(3, .ref q9), (0, .ref (a 0)), (1, .int x), (2, .int y)]) hx hb dL_value_11 rfl hl (by decide) rfl (fun ls hl => ?_)
      refine lv_ldc hx hb hown (hts (.constant RL 25 (-2000000001)) (by decide +kernel)) dL_value_12 ?_
      exact ml_riz tr9 hx hb hr hlocks hP hK hD hS (by rw [e9]) (hRr_2 e9) (by rw [gw_1 (by rw [e9]; show ¬ ((2 : Int32) = 0); decide)]; exact hz9) dL_value_14
  · have hP : va_P G vwCl (wC a cy ((sp_value T x y).2.2) u) H := hP
    have hD : va_D A (wC a cy ((sp_value T x y).2.2) u) := hD
    refine W.widen (k := 1) (n := 6) (Nat.le_of_ble_eq_true rfl) (Nat.le_of_ble_eq_true rfl) ?_
    exact ml_riz u hx hb hr hlocks hP hK hD hS rfl (hRr_0 hw.1 hw.2) (by rw [gw_0 hw.1]; exact hS.1) dL_value_6
set_option maxHeartbeats 4000000 in
set_option maxRecDepth 100000 in
theorem c_L_version (l : Launch) (hlt : l.stackTraces = false) (G : va_G) (cy : Nat → ClassId) (a : Nat → Nat) (sz : Nat) (T : TS) (tr : Nat → Int32) (x : Int32) (hI : Inv T) : Met l yL_version wsL_version ({ frames := 8, cells := 1, slots := 6, locals := 123 } : Room) (ml_PX G cy [.ref (a 0), .int x] (wC a cy T tr) sz) (va_Qi (fun (r : Int32) (u : Nat → Int32) => hRr (sp_version T x) (-2000000002) 0 0 r) (ml_BZ G cy (va_A (wC a cy T tr) sz) (fun u : Nat → Int32 => (wC a cy (sp_version T x).2.2 u)) sz (fun _ => gw (sp_version T x))) (va_A (wC a cy T tr) sz)) 1 6 (va_A (wC a cy T tr) sz) := by
  refine va_MetW (cc := cL_version) (maxL := 3) (ret := some .int) (hh := [(0, 5, 6, 13)]) (by decide) rfl ?_
  intro p e s m args below meth c s₁ B hml hv
  obtain ⟨rfl, hsz, hP, hK, hD0, hN, hE⟩ := hv
  have hx := B.exec
  have hb := B.bytes
  have hr := B.returns
  have hts := atoms_spec (ws := wsL_version) B.pre
  have hTb : c.exceptionTable.toList = tableOf [(0, 5, 6, 13)] := vx_table (x := yL_version) B (hts _ List.mem_cons_self)
  have hown : s.vm.findClass RL = some m.cls := findClass_of_methodNamed B.named
  have hlocks := B.notSynchronized
  have hca := hE.2.2.2
  subst hsz
  have hD := hD0.self (sz := s.heap.size)
  generalize hAe : va_A (wC a cy T tr) s.heap.size = A at hD hE ⊢
  have hA : ∀ q : Nat, s.heap.size ≤ q → A q := fun q h => by rw [← hAe]; exact Or.inr h
  have hS : va_S A s.heap s.heap [] := va_S.rf
  have hP : va_P G vwCl (wC a cy T tr) s.heap := hP
  have hl := lv_entry ([.ref (a 0), .int x]) (n := 3) (Nat.le_of_ble_eq_true rfl)
  rw [lg_entry_eq]
  generalize (lg_sl ([.ref (a 0), .int x]) ++ List.replicate (3 - (lg_sl ([.ref (a 0), .int x])).length) Slot.unset).toArray = ls at hl ⊢
  have hl : lv_has ls 3 [(0, .ref (a 0)), (1, .int x)] := hl
  refine lv_aload_n hx hb dL_version_0 rfl (lv_at hl 0 rfl) ?_
  refine lv_iload_n hx hb dL_version_1 rfl (lv_at hl 1 rfl) ?_
  refine mo_xVi (G := G) (As := [.int x]) (rest := []) ⟨hx, hb, hml, hown, hts⟩ (c_X3_version l hlt G cy a s.heap.size T tr x hI) (cwV 1 hts gL_version_X3_version rfl rfl rfl (by decide +kernel) ⟨Nat.le_of_ble_eq_true rfl, Nat.le_of_ble_eq_true rfl⟩) (va_recv hK hP (ci := 3) (q0 := 0) rfl rfl) hP hK hD hS hA hN hE rfl hl.1 (Nat.le_of_ble_eq_true rfl) dL_version_2 ⟨Nat.le_of_ble_eq_true rfl, Nat.le_of_ble_eq_true rfl⟩ (fun E ce q9 H locs tr9 hz9 hpx hP hD hS hc1 hc2 hc3 => ?_) (fun r u H locs hw hP hD hS => ?_)
  · have hP : va_P G vwCl (wC a cy T tr9) H := hP
    have hD : va_D A (wC a cy T tr9) := hD
    obtain ⟨rfl, e9⟩ := hpx
    refine vx_catch (own := RL) (name := eIA) hown [] ⟨0, 5, 6, 13⟩ [] hTb (fun z hz => absurd hz List.not_mem_nil) (by decide) (by decide) (hts (.classLink RL 13 eIA) (by decide +kernel)) (va_Nw.use rfl hca.1.1) hc1 hc2 hc3 ?_
    refine lv_astore_n (lv' := [(2, .ref q9), (0, .ref (a 0)), (1, .int x)]) hx hb dL_version_6 rfl hl (by decide) rfl (fun ls hl => ?_)
    refine lv_ldc hx hb hown (hts (.constant RL 15 (-2000000002)) (by decide +kernel)) dL_version_7 ?_
    exact ml_riz tr9 hx hb hr hlocks hP hK hD hS (by rw [e9]) (hRr_1 e9) (by rw [gw_1 (by rw [e9]; show ¬ ((1 : Int32) = 0); decide)]; exact hz9) dL_version_9
  · have hP : va_P G vwCl (wC a cy ((sp_version T x).2.2) u) H := hP
    have hD : va_D A (wC a cy ((sp_version T x).2.2) u) := hD
    refine W.widen (k := 1) (n := 6) (Nat.le_of_ble_eq_true rfl) (Nat.le_of_ble_eq_true rfl) ?_
    exact ml_riz u hx hb hr hlocks hP hK hD hS rfl (hRr_0 hw.1 hw.2) (by rw [gw_0 hw.1]; exact hS.1) dL_version_5
set_option maxHeartbeats 4000000 in
set_option maxRecDepth 100000 in
theorem c_L_rowsAt (l : Launch) (hlt : l.stackTraces = false) (G : va_G) (cy : Nat → ClassId) (a : Nat → Nat) (sz : Nat) (T : TS) (tr : Nat → Int32) (x : Int32) (hI : Inv T) : Met l yL_rowsAt wsL_rowsAt ({ frames := 7, cells := 1, slots := 6, locals := 103 } : Room) (ml_PX G cy [.ref (a 0), .int x] (wC a cy T tr) sz) (va_Qi (fun (r : Int32) (u : Nat → Int32) => hRr (sp_rowsAt T x) (-2000000002) 0 0 r) (ml_BZ G cy (va_A (wC a cy T tr) sz) (fun u : Nat → Int32 => (wC a cy (sp_rowsAt T x).2.2 u)) sz (fun _ => gw (sp_rowsAt T x))) (va_A (wC a cy T tr) sz)) 1 6 (va_A (wC a cy T tr) sz) := by
  refine va_MetW (cc := cL_rowsAt) (maxL := 3) (ret := some .int) (hh := [(0, 5, 6, 13)]) (by decide) rfl ?_
  intro p e s m args below meth c s₁ B hml hv
  obtain ⟨rfl, hsz, hP, hK, hD0, hN, hE⟩ := hv
  have hx := B.exec
  have hb := B.bytes
  have hr := B.returns
  have hts := atoms_spec (ws := wsL_rowsAt) B.pre
  have hTb : c.exceptionTable.toList = tableOf [(0, 5, 6, 13)] := vx_table (x := yL_rowsAt) B (hts _ List.mem_cons_self)
  have hown : s.vm.findClass RL = some m.cls := findClass_of_methodNamed B.named
  have hlocks := B.notSynchronized
  have hca := hE.2.2.2
  subst hsz
  have hD := hD0.self (sz := s.heap.size)
  generalize hAe : va_A (wC a cy T tr) s.heap.size = A at hD hE ⊢
  have hA : ∀ q : Nat, s.heap.size ≤ q → A q := fun q h => by rw [← hAe]; exact Or.inr h
  have hS : va_S A s.heap s.heap [] := va_S.rf
  have hP : va_P G vwCl (wC a cy T tr) s.heap := hP
  have hl := lv_entry ([.ref (a 0), .int x]) (n := 3) (Nat.le_of_ble_eq_true rfl)
  rw [lg_entry_eq]
  generalize (lg_sl ([.ref (a 0), .int x]) ++ List.replicate (3 - (lg_sl ([.ref (a 0), .int x])).length) Slot.unset).toArray = ls at hl ⊢
  have hl : lv_has ls 3 [(0, .ref (a 0)), (1, .int x)] := hl
  refine lv_aload_n hx hb dL_rowsAt_0 rfl (lv_at hl 0 rfl) ?_
  refine lv_iload_n hx hb dL_rowsAt_1 rfl (lv_at hl 1 rfl) ?_
  refine mo_xVi (G := G) (As := [.int x]) (rest := []) ⟨hx, hb, hml, hown, hts⟩ (c_X3_rowsAt l hlt G cy a s.heap.size T tr x hI) (cwV 1 hts gL_rowsAt_X3_rowsAt rfl rfl rfl (by decide +kernel) ⟨Nat.le_of_ble_eq_true rfl, Nat.le_of_ble_eq_true rfl⟩) (va_recv hK hP (ci := 3) (q0 := 0) rfl rfl) hP hK hD hS hA hN hE rfl hl.1 (Nat.le_of_ble_eq_true rfl) dL_rowsAt_2 ⟨Nat.le_of_ble_eq_true rfl, Nat.le_of_ble_eq_true rfl⟩ (fun E ce q9 H locs tr9 hz9 hpx hP hD hS hc1 hc2 hc3 => ?_) (fun r u H locs hw hP hD hS => ?_)
  · have hP : va_P G vwCl (wC a cy T tr9) H := hP
    have hD : va_D A (wC a cy T tr9) := hD
    obtain ⟨rfl, e9⟩ := hpx
    refine vx_catch (own := RL) (name := eIA) hown [] ⟨0, 5, 6, 13⟩ [] hTb (fun z hz => absurd hz List.not_mem_nil) (by decide) (by decide) (hts (.classLink RL 13 eIA) (by decide +kernel)) (va_Nw.use rfl hca.1.1) hc1 hc2 hc3 ?_
    refine lv_astore_n (lv' := [(2, .ref q9), (0, .ref (a 0)), (1, .int x)]) hx hb dL_rowsAt_6 rfl hl (by decide) rfl (fun ls hl => ?_)
    refine lv_ldc hx hb hown (hts (.constant RL 15 (-2000000002)) (by decide +kernel)) dL_rowsAt_7 ?_
    exact ml_riz tr9 hx hb hr hlocks hP hK hD hS (by rw [e9]) (hRr_1 e9) (by rw [gw_1 (by rw [e9]; show ¬ ((1 : Int32) = 0); decide)]; exact hz9) dL_rowsAt_9
  · have hP : va_P G vwCl (wC a cy ((sp_rowsAt T x).2.2) u) H := hP
    have hD : va_D A (wC a cy ((sp_rowsAt T x).2.2) u) := hD
    refine W.widen (k := 1) (n := 6) (Nat.le_of_ble_eq_true rfl) (Nat.le_of_ble_eq_true rfl) ?_
    exact ml_riz u hx hb hr hlocks hP hK hD hS rfl (hRr_0 hw.1 hw.2) (by rw [gw_0 hw.1]; exact hS.1) dL_rowsAt_5
set_option maxHeartbeats 4000000 in
set_option maxRecDepth 100000 in
theorem c_L_valueAt (l : Launch) (hlt : l.stackTraces = false) (G : va_G) (cy : Nat → ClassId) (a : Nat → Nat) (sz : Nat) (T : TS) (tr : Nat → Int32) (x : Int32) (y : Int32) (z : Int32) (hI : Inv T) : Met l yL_valueAt wsL_valueAt ({ frames := 8, cells := 1, slots := 6, locals := 126 } : Room) (ml_PX G cy [.ref (a 0), .int x, .int y, .int z] (wC a cy T tr) sz) (va_Qi (fun (r : Int32) (u : Nat → Int32) => hRr (sp_valueAt T x y z) (-2000000002) (-2000000001) (-2000000003) r) (ml_BZ G cy (va_A (wC a cy T tr) sz) (fun u : Nat → Int32 => (wC a cy (sp_valueAt T x y z).2.2 u)) sz (fun _ => gw (sp_valueAt T x y z))) (va_A (wC a cy T tr) sz)) 1 6 (va_A (wC a cy T tr) sz) := by
  refine va_MetW (cc := cL_valueAt) (maxL := 5) (ret := some .int) (hh := [(0, 7, 8, 13), (0, 7, 13, 23), (0, 7, 18, 16)]) (by decide) rfl ?_
  intro p e s m args below meth c s₁ B hml hv
  obtain ⟨rfl, hsz, hP, hK, hD0, hN, hE⟩ := hv
  have hx := B.exec
  have hb := B.bytes
  have hr := B.returns
  have hts := atoms_spec (ws := wsL_valueAt) B.pre
  have hTb : c.exceptionTable.toList = tableOf [(0, 7, 8, 13), (0, 7, 13, 23), (0, 7, 18, 16)] := vx_table (x := yL_valueAt) B (hts _ List.mem_cons_self)
  have hown : s.vm.findClass RL = some m.cls := findClass_of_methodNamed B.named
  have hlocks := B.notSynchronized
  have hca := hE.2.2.2
  subst hsz
  have hD := hD0.self (sz := s.heap.size)
  generalize hAe : va_A (wC a cy T tr) s.heap.size = A at hD hE ⊢
  have hA : ∀ q : Nat, s.heap.size ≤ q → A q := fun q h => by rw [← hAe]; exact Or.inr h
  have hS : va_S A s.heap s.heap [] := va_S.rf
  have hP : va_P G vwCl (wC a cy T tr) s.heap := hP
  have hl := lv_entry ([.ref (a 0), .int x, .int y, .int z]) (n := 5) (Nat.le_of_ble_eq_true rfl)
  rw [lg_entry_eq]
  generalize (lg_sl ([.ref (a 0), .int x, .int y, .int z]) ++ List.replicate (5 - (lg_sl ([.ref (a 0), .int x, .int y, .int z])).length) Slot.unset).toArray = ls at hl ⊢
  have hl : lv_has ls 5 [(0, .ref (a 0)), (1, .int x), (2, .int y), (3, .int z)] := hl
  refine lv_aload_n hx hb dL_valueAt_0 rfl (lv_at hl 0 rfl) ?_
  refine lv_iload_n hx hb dL_valueAt_1 rfl (lv_at hl 1 rfl) ?_
  refine lv_iload_n hx hb dL_valueAt_2 rfl (lv_at hl 2 rfl) ?_
  refine lv_iload_n hx hb dL_valueAt_3 rfl (lv_at hl 3 rfl) ?_
  refine mo_xVi (G := G) (As := [.int x, .int y, .int z]) (rest := []) ⟨hx, hb, hml, hown, hts⟩ (c_X3_valueAt l hlt G cy a s.heap.size T tr x y z hI) (cwV 3 hts gL_valueAt_X3_valueAt rfl rfl rfl (by decide +kernel) ⟨Nat.le_of_ble_eq_true rfl, Nat.le_of_ble_eq_true rfl⟩) (va_recv hK hP (ci := 3) (q0 := 0) rfl rfl) hP hK hD hS hA hN hE rfl hl.1 (Nat.le_of_ble_eq_true rfl) dL_valueAt_4 ⟨Nat.le_of_ble_eq_true rfl, Nat.le_of_ble_eq_true rfl⟩ (fun E ce q9 H locs tr9 hz9 hpx hP hD hS hc1 hc2 hc3 => ?_) (fun r u H locs hw hP hD hS => ?_)
  · have hP : va_P G vwCl (wC a cy T tr9) H := hP
    have hD : va_D A (wC a cy T tr9) := hD
    rcases hpx with ⟨rfl, e9⟩ | ⟨rfl, e9⟩ | ⟨rfl, e9⟩
    · refine vx_catch (own := RL) (name := eIA) hown [] ⟨0, 7, 8, 13⟩ [⟨0, 7, 13, 23⟩, ⟨0, 7, 18, 16⟩] hTb (fun z hz => absurd hz List.not_mem_nil) (by decide) (by decide) (hts (.classLink RL 13 eIA) (by decide +kernel)) (va_Nw.use rfl hca.1.1) hc1 hc2 hc3 ?_
      refine lv_astore (lv' := [(4, .ref q9), (0, .ref (a 0)), (1, .int x), (2, .int y), (3, .int z)]) hx hb dL_valueAt_8 hl (by decide) rfl (fun ls hl => ?_)
      refine lv_ldc hx hb hown (hts (.constant RL 15 (-2000000002)) (by decide +kernel)) dL_valueAt_10 ?_
      exact ml_riz tr9 hx hb hr hlocks hP hK hD hS (by rw [e9]) (hRr_1 e9) (by rw [gw_1 (by rw [e9]; show ¬ ((1 : Int32) = 0); decide)]; exact hz9) dL_valueAt_12
    · refine vx_catch (own := RL) (name := eIB) hown [⟨0, 7, 8, 13⟩] ⟨0, 7, 13, 23⟩ [⟨0, 7, 18, 16⟩] hTb (fun z hz => by obtain rfl := List.mem_singleton.mp hz; exact Or.inr ⟨by decide, eIA, hts (.classLink RL 13 eIA) (by decide +kernel), hca.2.1.2.1⟩) (by decide) (by decide) (hts (.classLink RL 23 eIB) (by decide +kernel)) (va_Nw.use rfl hca.1.2.2) hc1 hc2 hc3 ?_
      refine lv_astore (lv' := [(4, .ref q9), (0, .ref (a 0)), (1, .int x), (2, .int y), (3, .int z)]) hx hb dL_valueAt_13 hl (by decide) rfl (fun ls hl => ?_)
      refine lv_ldc hx hb hown (hts (.constant RL 25 (-2000000001)) (by decide +kernel)) dL_valueAt_15 ?_
      exact ml_riz tr9 hx hb hr hlocks hP hK hD hS (by rw [e9]) (hRr_2 e9) (by rw [gw_1 (by rw [e9]; show ¬ ((2 : Int32) = 0); decide)]; exact hz9) dL_valueAt_17
    · refine vx_catch (own := RL) (name := eIS) hown [⟨0, 7, 8, 13⟩, ⟨0, 7, 13, 23⟩] ⟨0, 7, 18, 16⟩ [] hTb (fun z hz => by rcases List.mem_cons.mp hz with rfl | hz; exact Or.inr ⟨by decide, eIA, hts (.classLink RL 13 eIA) (by decide +kernel), hca.2.1.1⟩; obtain rfl := List.mem_singleton.mp hz; exact Or.inr ⟨by decide, eIB, hts (.classLink RL 23 eIB) (by decide +kernel), hca.2.1.2.2.1⟩) (by decide) (by decide) (hts (.classLink RL 16 eIS) (by decide +kernel)) (va_Nw.use rfl hca.1.2.1) hc1 hc2 hc3 ?_
      refine lv_astore (lv' := [(4, .ref q9), (0, .ref (a 0)), (1, .int x), (2, .int y), (3, .int z)]) hx hb dL_valueAt_18 hl (by decide) rfl (fun ls hl => ?_)
      refine lv_ldc hx hb hown (hts (.constant RL 18 (-2000000003)) (by decide +kernel)) dL_valueAt_20 ?_
      exact ml_riz tr9 hx hb hr hlocks hP hK hD hS (by rw [e9]) (hRr_3 e9) (by rw [gw_1 (by rw [e9]; show ¬ ((3 : Int32) = 0); decide)]; exact hz9) dL_valueAt_22
  · have hP : va_P G vwCl (wC a cy ((sp_valueAt T x y z).2.2) u) H := hP
    have hD : va_D A (wC a cy ((sp_valueAt T x y z).2.2) u) := hD
    refine W.widen (k := 1) (n := 6) (Nat.le_of_ble_eq_true rfl) (Nat.le_of_ble_eq_true rfl) ?_
    exact ml_riz u hx hb hr hlocks hP hK hD hS rfl (hRr_0 hw.1 hw.2) (by rw [gw_0 hw.1]; exact hS.1) dL_valueAt_7
set_option maxHeartbeats 4000000 in
set_option maxRecDepth 100000 in
theorem c_L_takes (l : Launch) (hlt : l.stackTraces = false) (G : va_G) (cy : Nat → ClassId) (a : Nat → Nat) (sz : Nat) (T : TS) (tr : Nat → Int32) (x : Int32) (y : Int32) (hI : Inv T) : Met l yL_takes wsL_takes ({ frames := 8, cells := 1, slots := 6, locals := 126 } : Room) (ml_PX G cy [.ref (a 0), .int x, .int y] (wC a cy T tr) sz) (va_Qi (fun (r : Int32) (u : Nat → Int32) => hRr (sp_take T x y) (-2000000002) (-2000000003) 0 r) (ml_BZ G cy (va_A (wC a cy T tr) sz) (fun u : Nat → Int32 => (wC a cy (sp_take T x y).2.2 u)) sz (fun _ => gw (sp_take T x y))) (va_A (wC a cy T tr) sz)) 1 6 (va_A (wC a cy T tr) sz) := by
  refine va_MetW (cc := cL_takes) (maxL := 4) (ret := some .int) (hh := [(0, 6, 7, 13), (0, 6, 11, 16)]) (by decide) rfl ?_
  intro p e s m args below meth c s₁ B hml hv
  obtain ⟨rfl, hsz, hP, hK, hD0, hN, hE⟩ := hv
  have hx := B.exec
  have hb := B.bytes
  have hr := B.returns
  have hts := atoms_spec (ws := wsL_takes) B.pre
  have hTb : c.exceptionTable.toList = tableOf [(0, 6, 7, 13), (0, 6, 11, 16)] := vx_table (x := yL_takes) B (hts _ List.mem_cons_self)
  have hown : s.vm.findClass RL = some m.cls := findClass_of_methodNamed B.named
  have hlocks := B.notSynchronized
  have hca := hE.2.2.2
  subst hsz
  have hD := hD0.self (sz := s.heap.size)
  generalize hAe : va_A (wC a cy T tr) s.heap.size = A at hD hE ⊢
  have hA : ∀ q : Nat, s.heap.size ≤ q → A q := fun q h => by rw [← hAe]; exact Or.inr h
  have hS : va_S A s.heap s.heap [] := va_S.rf
  have hP : va_P G vwCl (wC a cy T tr) s.heap := hP
  have hl := lv_entry ([.ref (a 0), .int x, .int y]) (n := 4) (Nat.le_of_ble_eq_true rfl)
  rw [lg_entry_eq]
  generalize (lg_sl ([.ref (a 0), .int x, .int y]) ++ List.replicate (4 - (lg_sl ([.ref (a 0), .int x, .int y])).length) Slot.unset).toArray = ls at hl ⊢
  have hl : lv_has ls 4 [(0, .ref (a 0)), (1, .int x), (2, .int y)] := hl
  refine lv_aload_n hx hb dL_takes_0 rfl (lv_at hl 0 rfl) ?_
  refine lv_iload_n hx hb dL_takes_1 rfl (lv_at hl 1 rfl) ?_
  refine lv_iload_n hx hb dL_takes_2 rfl (lv_at hl 2 rfl) ?_
  refine mo_xVi (G := G) (As := [.int x, .int y]) (rest := []) ⟨hx, hb, hml, hown, hts⟩ (c_X3_take l hlt G cy a s.heap.size T tr x y hI) (cwV 2 hts gL_takes_X3_take rfl rfl rfl (by decide +kernel) ⟨Nat.le_of_ble_eq_true rfl, Nat.le_of_ble_eq_true rfl⟩) (va_recv hK hP (ci := 3) (q0 := 0) rfl rfl) hP hK hD hS hA hN hE rfl hl.1 (Nat.le_of_ble_eq_true rfl) dL_takes_3 ⟨Nat.le_of_ble_eq_true rfl, Nat.le_of_ble_eq_true rfl⟩ (fun E ce q9 H locs tr9 hz9 hpx hP hD hS hc1 hc2 hc3 => ?_) (fun r u H locs hw hP hD hS => ?_)
  · have hP : va_P G vwCl (wC a cy T tr9) H := hP
    have hD : va_D A (wC a cy T tr9) := hD
    rcases hpx with ⟨rfl, e9⟩ | ⟨rfl, e9⟩
    · refine vx_catch (own := RL) (name := eIA) hown [] ⟨0, 6, 7, 13⟩ [⟨0, 6, 11, 16⟩] hTb (fun z hz => absurd hz List.not_mem_nil) (by decide) (by decide) (hts (.classLink RL 13 eIA) (by decide +kernel)) (va_Nw.use rfl hca.1.1) hc1 hc2 hc3 ?_
      refine lv_astore_n (lv' := [(3, .ref q9), (0, .ref (a 0)), (1, .int x), (2, .int y)]) hx hb dL_takes_7 rfl hl (by decide) rfl (fun ls hl => ?_)
      refine lv_ldc hx hb hown (hts (.constant RL 15 (-2000000002)) (by decide +kernel)) dL_takes_8 ?_
      exact ml_riz tr9 hx hb hr hlocks hP hK hD hS (by rw [e9]) (hRr_1 e9) (by rw [gw_1 (by rw [e9]; show ¬ ((1 : Int32) = 0); decide)]; exact hz9) dL_takes_10
    · refine vx_catch (own := RL) (name := eIS) hown [⟨0, 6, 7, 13⟩] ⟨0, 6, 11, 16⟩ [] hTb (fun z hz => by obtain rfl := List.mem_singleton.mp hz; exact Or.inr ⟨by decide, eIA, hts (.classLink RL 13 eIA) (by decide +kernel), hca.2.1.1⟩) (by decide) (by decide) (hts (.classLink RL 16 eIS) (by decide +kernel)) (va_Nw.use rfl hca.1.2.1) hc1 hc2 hc3 ?_
      refine lv_astore_n (lv' := [(3, .ref q9), (0, .ref (a 0)), (1, .int x), (2, .int y)]) hx hb dL_takes_11 rfl hl (by decide) rfl (fun ls hl => ?_)
      refine lv_ldc hx hb hown (hts (.constant RL 18 (-2000000003)) (by decide +kernel)) dL_takes_12 ?_
      exact ml_riz tr9 hx hb hr hlocks hP hK hD hS (by rw [e9]) (hRr_2 e9) (by rw [gw_1 (by rw [e9]; show ¬ ((2 : Int32) = 0); decide)]; exact hz9) dL_takes_14
  · have hP : va_P G vwCl (wC a cy ((sp_take T x y).2.2) u) H := hP
    have hD : va_D A (wC a cy ((sp_take T x y).2.2) u) := hD
    refine W.widen (k := 1) (n := 6) (Nat.le_of_ble_eq_true rfl) (Nat.le_of_ble_eq_true rfl) ?_
    exact ml_riz u hx hb hr hlocks hP hK hD hS rfl (hRr_0 hw.1 hw.2) (by rw [gw_0 hw.1]; exact hS.1) dL_takes_6
set_option maxHeartbeats 4000000 in
set_option maxRecDepth 100000 in
theorem c_L_gives (l : Launch) (hlt : l.stackTraces = false) (G : va_G) (cy : Nat → ClassId) (a : Nat → Nat) (sz : Nat) (T : TS) (tr : Nat → Int32) (x : Int32) (hI : Inv T) : Met l yL_gives wsL_gives ({ frames := 9, cells := 1, slots := 6, locals := 145 } : Room) (ml_PX G cy [.ref (a 0), .int x] (wC a cy T tr) sz) (va_Qi (fun (r : Int32) (u : Nat → Int32) => hRr (sp_giveBack T x) (-2000000002) (-2000000003) 0 r) (ml_BZ G cy (va_A (wC a cy T tr) sz) (fun u : Nat → Int32 => (wC a cy (sp_giveBack T x).2.2 u)) sz (fun _ => gw (sp_giveBack T x))) (va_A (wC a cy T tr) sz)) 1 6 (va_A (wC a cy T tr) sz) := by
  refine va_MetW (cc := cL_gives) (maxL := 3) (ret := some .int) (hh := [(0, 5, 8, 13), (0, 5, 12, 16)]) (by decide) rfl ?_
  intro p e s m args below meth c s₁ B hml hv
  obtain ⟨rfl, hsz, hP, hK, hD0, hN, hE⟩ := hv
  have hx := B.exec
  have hb := B.bytes
  have hr := B.returns
  have hts := atoms_spec (ws := wsL_gives) B.pre
  have hTb : c.exceptionTable.toList = tableOf [(0, 5, 8, 13), (0, 5, 12, 16)] := vx_table (x := yL_gives) B (hts _ List.mem_cons_self)
  have hown : s.vm.findClass RL = some m.cls := findClass_of_methodNamed B.named
  have hlocks := B.notSynchronized
  have hca := hE.2.2.2
  subst hsz
  have hD := hD0.self (sz := s.heap.size)
  generalize hAe : va_A (wC a cy T tr) s.heap.size = A at hD hE ⊢
  have hA : ∀ q : Nat, s.heap.size ≤ q → A q := fun q h => by rw [← hAe]; exact Or.inr h
  have hS : va_S A s.heap s.heap [] := va_S.rf
  have hP : va_P G vwCl (wC a cy T tr) s.heap := hP
  have hl := lv_entry ([.ref (a 0), .int x]) (n := 3) (Nat.le_of_ble_eq_true rfl)
  rw [lg_entry_eq]
  generalize (lg_sl ([.ref (a 0), .int x]) ++ List.replicate (3 - (lg_sl ([.ref (a 0), .int x])).length) Slot.unset).toArray = ls at hl ⊢
  have hl : lv_has ls 3 [(0, .ref (a 0)), (1, .int x)] := hl
  refine lv_aload_n hx hb dL_gives_0 rfl (lv_at hl 0 rfl) ?_
  refine lv_iload_n hx hb dL_gives_1 rfl (lv_at hl 1 rfl) ?_
  refine mo_xVv (G := G) (As := [.int x]) (rest := []) ⟨hx, hb, hml, hown, hts⟩ (c_X3_giveBack l hlt G cy a s.heap.size T tr x hI) (cwV 1 hts gL_gives_X3_giveBack rfl rfl rfl (by decide +kernel) ⟨Nat.le_of_ble_eq_true rfl, Nat.le_of_ble_eq_true rfl⟩) (va_recv hK hP (ci := 3) (q0 := 0) rfl rfl) hP hK hD hS hA hN hE rfl hl.1 (Nat.le_of_ble_eq_true rfl) dL_gives_2 ⟨Nat.le_of_ble_eq_true rfl, Nat.le_of_ble_eq_true rfl⟩ (fun E ce q9 H locs tr9 hz9 hpx hP hD hS hc1 hc2 hc3 => ?_) (fun u H locs hw hP hD hS => ?_)
  · have hP : va_P G vwCl (wC a cy T tr9) H := hP
    have hD : va_D A (wC a cy T tr9) := hD
    rcases hpx with ⟨rfl, e9⟩ | ⟨rfl, e9⟩
    · refine vx_catch (own := RL) (name := eIA) hown [] ⟨0, 5, 8, 13⟩ [⟨0, 5, 12, 16⟩] hTb (fun z hz => absurd hz List.not_mem_nil) (by decide) (by decide) (hts (.classLink RL 13 eIA) (by decide +kernel)) (va_Nw.use rfl hca.1.1) hc1 hc2 hc3 ?_
      refine lv_astore_n (lv' := [(2, .ref q9), (0, .ref (a 0)), (1, .int x)]) hx hb dL_gives_8 rfl hl (by decide) rfl (fun ls hl => ?_)
      refine lv_ldc hx hb hown (hts (.constant RL 15 (-2000000002)) (by decide +kernel)) dL_gives_9 ?_
      exact ml_riz tr9 hx hb hr hlocks hP hK hD hS (by rw [e9]) (hRr_1 e9) (by rw [gw_1 (by rw [e9]; show ¬ ((1 : Int32) = 0); decide)]; exact hz9) dL_gives_11
    · refine vx_catch (own := RL) (name := eIS) hown [⟨0, 5, 8, 13⟩] ⟨0, 5, 12, 16⟩ [] hTb (fun z hz => by obtain rfl := List.mem_singleton.mp hz; exact Or.inr ⟨by decide, eIA, hts (.classLink RL 13 eIA) (by decide +kernel), hca.2.1.1⟩) (by decide) (by decide) (hts (.classLink RL 16 eIS) (by decide +kernel)) (va_Nw.use rfl hca.1.2.1) hc1 hc2 hc3 ?_
      refine lv_astore_n (lv' := [(2, .ref q9), (0, .ref (a 0)), (1, .int x)]) hx hb dL_gives_12 rfl hl (by decide) rfl (fun ls hl => ?_)
      refine lv_ldc hx hb hown (hts (.constant RL 18 (-2000000003)) (by decide +kernel)) dL_gives_13 ?_
      exact ml_riz tr9 hx hb hr hlocks hP hK hD hS (by rw [e9]) (hRr_2 e9) (by rw [gw_1 (by rw [e9]; show ¬ ((2 : Int32) = 0); decide)]; exact hz9) dL_gives_15
  · have hP : va_P G vwCl (wC a cy ((sp_giveBack T x).2.2) u) H := hP
    have hD : va_D A (wC a cy ((sp_giveBack T x).2.2) u) := hD
    refine W.widen (k := 1) (n := 6) (Nat.le_of_ble_eq_true rfl) (Nat.le_of_ble_eq_true rfl) ?_
    refine lv_goto (tgt := 16) hx hb dL_gives_5 (by decide) ?_
    refine lv_iconst (v := 0) hx hb dL_gives_16 (by decide) ?_
    exact ml_riz u hx hb hr hlocks hP hK hD hS rfl (hRr_0 hw gv_0) (by rw [gw_0 hw]; exact hS.1) dL_gives_17
set_option maxHeartbeats 4000000 in
set_option maxRecDepth 100000 in
theorem c_L_restarts (l : Launch) (hlt : l.stackTraces = false) (G : va_G) (cy : Nat → ClassId) (a : Nat → Nat) (sz : Nat) (T : TS) (tr : Nat → Int32) (x : Int32) (hI : Inv T) : Met l yL_restarts wsL_restarts ({ frames := 8, cells := 1, slots := 6, locals := 123 } : Room) (ml_PX G cy [.ref (a 0), .int x] (wC a cy T tr) sz) (va_Qi (fun (r : Int32) (u : Nat → Int32) => hRr (sp_restart T x) (-2000000002) (-2000000003) 0 r) (ml_BZ G cy (va_A (wC a cy T tr) sz) (fun u : Nat → Int32 => (wC a cy (sp_restart T x).2.2 u)) sz (fun _ => gw (sp_restart T x))) (va_A (wC a cy T tr) sz)) 1 6 (va_A (wC a cy T tr) sz) := by
  refine va_MetW (cc := cL_restarts) (maxL := 3) (ret := some .int) (hh := [(0, 13, 14, 13), (0, 13, 18, 16)]) (by decide) rfl ?_
  intro p e s m args below meth c s₁ B hml hv
  obtain ⟨rfl, hsz, hP, hK, hD0, hN, hE⟩ := hv
  have hx := B.exec
  have hb := B.bytes
  have hr := B.returns
  have hts := atoms_spec (ws := wsL_restarts) B.pre
  have hTb : c.exceptionTable.toList = tableOf [(0, 13, 14, 13), (0, 13, 18, 16)] := vx_table (x := yL_restarts) B (hts _ List.mem_cons_self)
  have hown : s.vm.findClass RL = some m.cls := findClass_of_methodNamed B.named
  have hlocks := B.notSynchronized
  have hca := hE.2.2.2
  subst hsz
  have hD := hD0.self (sz := s.heap.size)
  generalize hAe : va_A (wC a cy T tr) s.heap.size = A at hD hE ⊢
  have hA : ∀ q : Nat, s.heap.size ≤ q → A q := fun q h => by rw [← hAe]; exact Or.inr h
  have hS : va_S A s.heap s.heap [] := va_S.rf
  have hP : va_P G vwCl (wC a cy T tr) s.heap := hP
  have hl := lv_entry ([.ref (a 0), .int x]) (n := 3) (Nat.le_of_ble_eq_true rfl)
  rw [lg_entry_eq]
  generalize (lg_sl ([.ref (a 0), .int x]) ++ List.replicate (3 - (lg_sl ([.ref (a 0), .int x])).length) Slot.unset).toArray = ls at hl ⊢
  have hl : lv_has ls 3 [(0, .ref (a 0)), (1, .int x)] := hl
  refine lv_aload_n hx hb dL_restarts_0 rfl (lv_at hl 0 rfl) ?_
  refine lv_iload_n hx hb dL_restarts_1 rfl (lv_at hl 1 rfl) ?_
  refine mo_xVi (G := G) (As := [.int x]) (rest := []) ⟨hx, hb, hml, hown, hts⟩ (c_X3_restart l hlt G cy a s.heap.size T tr x hI) (cwV 1 hts gL_restarts_X3_restart rfl rfl rfl (by decide +kernel) ⟨Nat.le_of_ble_eq_true rfl, Nat.le_of_ble_eq_true rfl⟩) (va_recv hK hP (ci := 3) (q0 := 0) rfl rfl) hP hK hD hS hA hN hE rfl hl.1 (Nat.le_of_ble_eq_true rfl) dL_restarts_2 ⟨Nat.le_of_ble_eq_true rfl, Nat.le_of_ble_eq_true rfl⟩ (fun E ce q9 H locs tr9 hz9 hpx hP hD hS hc1 hc2 hc3 => ?_) (fun r u H locs hw hP hD hS => ?_)
  · have hP : va_P G vwCl (wC a cy T tr9) H := hP
    have hD : va_D A (wC a cy T tr9) := hD
    rcases hpx with ⟨rfl, e9⟩ | ⟨rfl, e9⟩
    · refine vx_catch (own := RL) (name := eIA) hown [] ⟨0, 13, 14, 13⟩ [⟨0, 13, 18, 16⟩] hTb (fun z hz => absurd hz List.not_mem_nil) (by decide) (by decide) (hts (.classLink RL 13 eIA) (by decide +kernel)) (va_Nw.use rfl hca.1.1) hc1 hc2 hc3 ?_
      refine lv_astore_n (lv' := [(2, .ref q9), (0, .ref (a 0)), (1, .int x)]) hx hb dL_restarts_14 rfl hl (by decide) rfl (fun ls hl => ?_)
      refine lv_ldc hx hb hown (hts (.constant RL 15 (-2000000002)) (by decide +kernel)) dL_restarts_15 ?_
      exact ml_riz tr9 hx hb hr hlocks hP hK hD hS (by rw [e9]) (hRr_1 e9) (by rw [gw_1 (by rw [e9]; show ¬ ((1 : Int32) = 0); decide)]; exact hz9) dL_restarts_17
    · refine vx_catch (own := RL) (name := eIS) hown [⟨0, 13, 14, 13⟩] ⟨0, 13, 18, 16⟩ [] hTb (fun z hz => by obtain rfl := List.mem_singleton.mp hz; exact Or.inr ⟨by decide, eIA, hts (.classLink RL 13 eIA) (by decide +kernel), hca.2.1.1⟩) (by decide) (by decide) (hts (.classLink RL 16 eIS) (by decide +kernel)) (va_Nw.use rfl hca.1.2.1) hc1 hc2 hc3 ?_
      refine lv_astore_n (lv' := [(2, .ref q9), (0, .ref (a 0)), (1, .int x)]) hx hb dL_restarts_18 rfl hl (by decide) rfl (fun ls hl => ?_)
      refine lv_ldc hx hb hown (hts (.constant RL 18 (-2000000003)) (by decide +kernel)) dL_restarts_19 ?_
      exact ml_riz tr9 hx hb hr hlocks hP hK hD hS (by rw [e9]) (hRr_2 e9) (by rw [gw_1 (by rw [e9]; show ¬ ((2 : Int32) = 0); decide)]; exact hz9) dL_restarts_21
  · have hP : va_P G vwCl (wC a cy ((sp_restart T x).2.2) u) H := hP
    have hD : va_D A (wC a cy ((sp_restart T x).2.2) u) := hD
    refine W.widen (k := 1) (n := 6) (Nat.le_of_ble_eq_true rfl) (Nat.le_of_ble_eq_true rfl) ?_
    refine lv_if_eq (tgt := 12) hx hb dL_restarts_5 (by decide) (fun c_7 => ?_) (fun c_7 => ?_)
    · refine lv_iconst (v := 0) hx hb dL_restarts_12 (by decide) ?_
      exact ml_riz u hx hb hr hlocks hP hK hD hS rfl (hRr_0 hw.1 (hw.2.trans c_7)) (by rw [gw_0 hw.1]; exact hS.1) dL_restarts_13
    · refine lv_iconst (v := 1) hx hb dL_restarts_8 (by decide) ?_
      refine lv_goto (tgt := 13) hx hb dL_restarts_9 (by decide) ?_
      exact ml_riz u hx hb hr hlocks hP hK hD hS rfl (hRr_0 hw.1 (rs_01.resolve_left (fun h9 => c_7 (hw.2.symm.trans h9)))) (by rw [gw_0 hw.1]; exact hS.1) dL_restarts_13
set_option maxHeartbeats 4000000 in
set_option maxRecDepth 100000 in
theorem c_L_passes (l : Launch) (hlt : l.stackTraces = false) (G : va_G) (cy : Nat → ClassId) (a : Nat → Nat) (sz : Nat) (T : TS) (tr : Nat → Int32) (x : Int32) (hI : Inv T) : Met l yL_passes wsL_passes ({ frames := 7, cells := 1, slots := 6, locals := 103 } : Room) (ml_PX G cy [.ref (a 0), .int x] (wC a cy T tr) sz) (va_Qi (fun (r : Int32) (u : Nat → Int32) => hRr (sp_pass T x) (-2000000002) 0 0 r) (ml_BZ G cy (va_A (wC a cy T tr) sz) (fun u : Nat → Int32 => (wC a cy (sp_pass T x).2.2 u)) sz (fun _ => gw (sp_pass T x))) (va_A (wC a cy T tr) sz)) 1 6 (va_A (wC a cy T tr) sz) := by
  refine va_MetW (cc := cL_passes) (maxL := 3) (ret := some .int) (hh := [(0, 5, 6, 13)]) (by decide) rfl ?_
  intro p e s m args below meth c s₁ B hml hv
  obtain ⟨rfl, hsz, hP, hK, hD0, hN, hE⟩ := hv
  have hx := B.exec
  have hb := B.bytes
  have hr := B.returns
  have hts := atoms_spec (ws := wsL_passes) B.pre
  have hTb : c.exceptionTable.toList = tableOf [(0, 5, 6, 13)] := vx_table (x := yL_passes) B (hts _ List.mem_cons_self)
  have hown : s.vm.findClass RL = some m.cls := findClass_of_methodNamed B.named
  have hlocks := B.notSynchronized
  have hca := hE.2.2.2
  subst hsz
  have hD := hD0.self (sz := s.heap.size)
  generalize hAe : va_A (wC a cy T tr) s.heap.size = A at hD hE ⊢
  have hA : ∀ q : Nat, s.heap.size ≤ q → A q := fun q h => by rw [← hAe]; exact Or.inr h
  have hS : va_S A s.heap s.heap [] := va_S.rf
  have hP : va_P G vwCl (wC a cy T tr) s.heap := hP
  have hl := lv_entry ([.ref (a 0), .int x]) (n := 3) (Nat.le_of_ble_eq_true rfl)
  rw [lg_entry_eq]
  generalize (lg_sl ([.ref (a 0), .int x]) ++ List.replicate (3 - (lg_sl ([.ref (a 0), .int x])).length) Slot.unset).toArray = ls at hl ⊢
  have hl : lv_has ls 3 [(0, .ref (a 0)), (1, .int x)] := hl
  refine lv_aload_n hx hb dL_passes_0 rfl (lv_at hl 0 rfl) ?_
  refine lv_iload_n hx hb dL_passes_1 rfl (lv_at hl 1 rfl) ?_
  refine mo_xVi (G := G) (As := [.int x]) (rest := []) ⟨hx, hb, hml, hown, hts⟩ (c_X3_pass l hlt G cy a s.heap.size T tr x hI) (cwV 1 hts gL_passes_X3_pass rfl rfl rfl (by decide +kernel) ⟨Nat.le_of_ble_eq_true rfl, Nat.le_of_ble_eq_true rfl⟩) (va_recv hK hP (ci := 3) (q0 := 0) rfl rfl) hP hK hD hS hA hN hE rfl hl.1 (Nat.le_of_ble_eq_true rfl) dL_passes_2 ⟨Nat.le_of_ble_eq_true rfl, Nat.le_of_ble_eq_true rfl⟩ (fun E ce q9 H locs tr9 hz9 hpx hP hD hS hc1 hc2 hc3 => ?_) (fun r u H locs hw hP hD hS => ?_)
  · have hP : va_P G vwCl (wC a cy T tr9) H := hP
    have hD : va_D A (wC a cy T tr9) := hD
    obtain ⟨rfl, e9⟩ := hpx
    refine vx_catch (own := RL) (name := eIA) hown [] ⟨0, 5, 6, 13⟩ [] hTb (fun z hz => absurd hz List.not_mem_nil) (by decide) (by decide) (hts (.classLink RL 13 eIA) (by decide +kernel)) (va_Nw.use rfl hca.1.1) hc1 hc2 hc3 ?_
    refine lv_astore_n (lv' := [(2, .ref q9), (0, .ref (a 0)), (1, .int x)]) hx hb dL_passes_6 rfl hl (by decide) rfl (fun ls hl => ?_)
    refine lv_ldc hx hb hown (hts (.constant RL 15 (-2000000002)) (by decide +kernel)) dL_passes_7 ?_
    exact ml_riz tr9 hx hb hr hlocks hP hK hD hS (by rw [e9]) (hRr_1 e9) (by rw [gw_1 (by rw [e9]; show ¬ ((1 : Int32) = 0); decide)]; exact hz9) dL_passes_9
  · have hP : va_P G vwCl (wC a cy ((sp_pass T x).2.2) u) H := hP
    have hD : va_D A (wC a cy ((sp_pass T x).2.2) u) := hD
    refine W.widen (k := 1) (n := 6) (Nat.le_of_ble_eq_true rfl) (Nat.le_of_ble_eq_true rfl) ?_
    exact ml_riz u hx hb hr hlocks hP hK hD hS rfl (hRr_0 hw.1 hw.2) (by rw [gw_0 hw.1]; exact hS.1) dL_passes_5
set_option maxHeartbeats 4000000 in
set_option maxRecDepth 100000 in
theorem c_L_begins (l : Launch) (hlt : l.stackTraces = false) (G : va_G) (cy : Nat → ClassId) (a : Nat → Nat) (sz : Nat) (T : TS) (tr : Nat → Int32) (x : Int32) (hI : Inv T) : Met l yL_begins wsL_begins ({ frames := 9, cells := 1, slots := 6, locals := 145 } : Room) (ml_PX G cy [.ref (a 0), .int x] (wC a cy T tr) sz) (va_Qi (fun (r : Int32) (u : Nat → Int32) => hRr (sp_begin T x) (-2000000002) (-2000000003) 0 r) (ml_BZ G cy (va_A (wC a cy T tr) sz) (fun u : Nat → Int32 => (wC a cy (sp_begin T x).2.2 u)) sz (fun _ => gw (sp_begin T x))) (va_A (wC a cy T tr) sz)) 1 6 (va_A (wC a cy T tr) sz) := by
  refine va_MetW (cc := cL_begins) (maxL := 3) (ret := some .int) (hh := [(0, 5, 6, 13), (0, 5, 10, 16)]) (by decide) rfl ?_
  intro p e s m args below meth c s₁ B hml hv
  obtain ⟨rfl, hsz, hP, hK, hD0, hN, hE⟩ := hv
  have hx := B.exec
  have hb := B.bytes
  have hr := B.returns
  have hts := atoms_spec (ws := wsL_begins) B.pre
  have hTb : c.exceptionTable.toList = tableOf [(0, 5, 6, 13), (0, 5, 10, 16)] := vx_table (x := yL_begins) B (hts _ List.mem_cons_self)
  have hown : s.vm.findClass RL = some m.cls := findClass_of_methodNamed B.named
  have hlocks := B.notSynchronized
  have hca := hE.2.2.2
  subst hsz
  have hD := hD0.self (sz := s.heap.size)
  generalize hAe : va_A (wC a cy T tr) s.heap.size = A at hD hE ⊢
  have hA : ∀ q : Nat, s.heap.size ≤ q → A q := fun q h => by rw [← hAe]; exact Or.inr h
  have hS : va_S A s.heap s.heap [] := va_S.rf
  have hP : va_P G vwCl (wC a cy T tr) s.heap := hP
  have hl := lv_entry ([.ref (a 0), .int x]) (n := 3) (Nat.le_of_ble_eq_true rfl)
  rw [lg_entry_eq]
  generalize (lg_sl ([.ref (a 0), .int x]) ++ List.replicate (3 - (lg_sl ([.ref (a 0), .int x])).length) Slot.unset).toArray = ls at hl ⊢
  have hl : lv_has ls 3 [(0, .ref (a 0)), (1, .int x)] := hl
  refine lv_aload_n hx hb dL_begins_0 rfl (lv_at hl 0 rfl) ?_
  refine lv_iload_n hx hb dL_begins_1 rfl (lv_at hl 1 rfl) ?_
  refine mo_xVi (G := G) (As := [.int x]) (rest := []) ⟨hx, hb, hml, hown, hts⟩ (c_X3_begin l hlt G cy a s.heap.size T tr x hI) (cwV 1 hts gL_begins_X3_begin rfl rfl rfl (by decide +kernel) ⟨Nat.le_of_ble_eq_true rfl, Nat.le_of_ble_eq_true rfl⟩) (va_recv hK hP (ci := 3) (q0 := 0) rfl rfl) hP hK hD hS hA hN hE rfl hl.1 (Nat.le_of_ble_eq_true rfl) dL_begins_2 ⟨Nat.le_of_ble_eq_true rfl, Nat.le_of_ble_eq_true rfl⟩ (fun E ce q9 H locs tr9 hz9 hpx hP hD hS hc1 hc2 hc3 => ?_) (fun r u H locs hw hP hD hS => ?_)
  · have hP : va_P G vwCl (wC a cy T tr9) H := hP
    have hD : va_D A (wC a cy T tr9) := hD
    rcases hpx with ⟨rfl, e9⟩ | ⟨rfl, e9⟩
    · refine vx_catch (own := RL) (name := eIA) hown [] ⟨0, 5, 6, 13⟩ [⟨0, 5, 10, 16⟩] hTb (fun z hz => absurd hz List.not_mem_nil) (by decide) (by decide) (hts (.classLink RL 13 eIA) (by decide +kernel)) (va_Nw.use rfl hca.1.1) hc1 hc2 hc3 ?_
      refine lv_astore_n (lv' := [(2, .ref q9), (0, .ref (a 0)), (1, .int x)]) hx hb dL_begins_6 rfl hl (by decide) rfl (fun ls hl => ?_)
      refine lv_ldc hx hb hown (hts (.constant RL 15 (-2000000002)) (by decide +kernel)) dL_begins_7 ?_
      exact ml_riz tr9 hx hb hr hlocks hP hK hD hS (by rw [e9]) (hRr_1 e9) (by rw [gw_1 (by rw [e9]; show ¬ ((1 : Int32) = 0); decide)]; exact hz9) dL_begins_9
    · refine vx_catch (own := RL) (name := eIS) hown [⟨0, 5, 6, 13⟩] ⟨0, 5, 10, 16⟩ [] hTb (fun z hz => by obtain rfl := List.mem_singleton.mp hz; exact Or.inr ⟨by decide, eIA, hts (.classLink RL 13 eIA) (by decide +kernel), hca.2.1.1⟩) (by decide) (by decide) (hts (.classLink RL 16 eIS) (by decide +kernel)) (va_Nw.use rfl hca.1.2.1) hc1 hc2 hc3 ?_
      refine lv_astore_n (lv' := [(2, .ref q9), (0, .ref (a 0)), (1, .int x)]) hx hb dL_begins_10 rfl hl (by decide) rfl (fun ls hl => ?_)
      refine lv_ldc hx hb hown (hts (.constant RL 18 (-2000000003)) (by decide +kernel)) dL_begins_11 ?_
      exact ml_riz tr9 hx hb hr hlocks hP hK hD hS (by rw [e9]) (hRr_2 e9) (by rw [gw_1 (by rw [e9]; show ¬ ((2 : Int32) = 0); decide)]; exact hz9) dL_begins_13
  · have hP : va_P G vwCl (wC a cy ((sp_begin T x).2.2) u) H := hP
    have hD : va_D A (wC a cy ((sp_begin T x).2.2) u) := hD
    refine W.widen (k := 1) (n := 6) (Nat.le_of_ble_eq_true rfl) (Nat.le_of_ble_eq_true rfl) ?_
    exact ml_riz u hx hb hr hlocks hP hK hD hS rfl (hRr_0 hw.1 hw.2) (by rw [gw_0 hw.1]; exact hS.1) dL_begins_5
set_option maxHeartbeats 4000000 in
set_option maxRecDepth 100000 in
theorem c_L_undoes (l : Launch) (hlt : l.stackTraces = false) (G : va_G) (cy : Nat → ClassId) (a : Nat → Nat) (sz : Nat) (T : TS) (tr : Nat → Int32) (x : Int32) (hI : Inv T) : Met l yL_undoes wsL_undoes ({ frames := 9, cells := 1, slots := 6, locals := 145 } : Room) (ml_PX G cy [.ref (a 0), .int x] (wC a cy T tr) sz) (va_Qi (fun (r : Int32) (u : Nat → Int32) => hRr (sp_undo T x) (-2000000002) (-2000000003) 0 r) (ml_BZ G cy (va_A (wC a cy T tr) sz) (fun u : Nat → Int32 => (wC a cy (sp_undo T x).2.2 u)) sz (fun _ => gw (sp_undo T x))) (va_A (wC a cy T tr) sz)) 1 6 (va_A (wC a cy T tr) sz) := by
  refine va_MetW (cc := cL_undoes) (maxL := 3) (ret := some .int) (hh := [(0, 5, 6, 13), (0, 5, 10, 16)]) (by decide) rfl ?_
  intro p e s m args below meth c s₁ B hml hv
  obtain ⟨rfl, hsz, hP, hK, hD0, hN, hE⟩ := hv
  have hx := B.exec
  have hb := B.bytes
  have hr := B.returns
  have hts := atoms_spec (ws := wsL_undoes) B.pre
  have hTb : c.exceptionTable.toList = tableOf [(0, 5, 6, 13), (0, 5, 10, 16)] := vx_table (x := yL_undoes) B (hts _ List.mem_cons_self)
  have hown : s.vm.findClass RL = some m.cls := findClass_of_methodNamed B.named
  have hlocks := B.notSynchronized
  have hca := hE.2.2.2
  subst hsz
  have hD := hD0.self (sz := s.heap.size)
  generalize hAe : va_A (wC a cy T tr) s.heap.size = A at hD hE ⊢
  have hA : ∀ q : Nat, s.heap.size ≤ q → A q := fun q h => by rw [← hAe]; exact Or.inr h
  have hS : va_S A s.heap s.heap [] := va_S.rf
  have hP : va_P G vwCl (wC a cy T tr) s.heap := hP
  have hl := lv_entry ([.ref (a 0), .int x]) (n := 3) (Nat.le_of_ble_eq_true rfl)
  rw [lg_entry_eq]
  generalize (lg_sl ([.ref (a 0), .int x]) ++ List.replicate (3 - (lg_sl ([.ref (a 0), .int x])).length) Slot.unset).toArray = ls at hl ⊢
  have hl : lv_has ls 3 [(0, .ref (a 0)), (1, .int x)] := hl
  refine lv_aload_n hx hb dL_undoes_0 rfl (lv_at hl 0 rfl) ?_
  refine lv_iload_n hx hb dL_undoes_1 rfl (lv_at hl 1 rfl) ?_
  refine mo_xVi (G := G) (As := [.int x]) (rest := []) ⟨hx, hb, hml, hown, hts⟩ (c_X3_undo l hlt G cy a s.heap.size T tr x hI) (cwV 1 hts gL_undoes_X3_undo rfl rfl rfl (by decide +kernel) ⟨Nat.le_of_ble_eq_true rfl, Nat.le_of_ble_eq_true rfl⟩) (va_recv hK hP (ci := 3) (q0 := 0) rfl rfl) hP hK hD hS hA hN hE rfl hl.1 (Nat.le_of_ble_eq_true rfl) dL_undoes_2 ⟨Nat.le_of_ble_eq_true rfl, Nat.le_of_ble_eq_true rfl⟩ (fun E ce q9 H locs tr9 hz9 hpx hP hD hS hc1 hc2 hc3 => ?_) (fun r u H locs hw hP hD hS => ?_)
  · have hP : va_P G vwCl (wC a cy T tr9) H := hP
    have hD : va_D A (wC a cy T tr9) := hD
    rcases hpx with ⟨rfl, e9⟩ | ⟨rfl, e9⟩
    · refine vx_catch (own := RL) (name := eIA) hown [] ⟨0, 5, 6, 13⟩ [⟨0, 5, 10, 16⟩] hTb (fun z hz => absurd hz List.not_mem_nil) (by decide) (by decide) (hts (.classLink RL 13 eIA) (by decide +kernel)) (va_Nw.use rfl hca.1.1) hc1 hc2 hc3 ?_
      refine lv_astore_n (lv' := [(2, .ref q9), (0, .ref (a 0)), (1, .int x)]) hx hb dL_undoes_6 rfl hl (by decide) rfl (fun ls hl => ?_)
      refine lv_ldc hx hb hown (hts (.constant RL 15 (-2000000002)) (by decide +kernel)) dL_undoes_7 ?_
      exact ml_riz tr9 hx hb hr hlocks hP hK hD hS (by rw [e9]) (hRr_1 e9) (by rw [gw_1 (by rw [e9]; show ¬ ((1 : Int32) = 0); decide)]; exact hz9) dL_undoes_9
    · refine vx_catch (own := RL) (name := eIS) hown [⟨0, 5, 6, 13⟩] ⟨0, 5, 10, 16⟩ [] hTb (fun z hz => by obtain rfl := List.mem_singleton.mp hz; exact Or.inr ⟨by decide, eIA, hts (.classLink RL 13 eIA) (by decide +kernel), hca.2.1.1⟩) (by decide) (by decide) (hts (.classLink RL 16 eIS) (by decide +kernel)) (va_Nw.use rfl hca.1.2.1) hc1 hc2 hc3 ?_
      refine lv_astore_n (lv' := [(2, .ref q9), (0, .ref (a 0)), (1, .int x)]) hx hb dL_undoes_10 rfl hl (by decide) rfl (fun ls hl => ?_)
      refine lv_ldc hx hb hown (hts (.constant RL 18 (-2000000003)) (by decide +kernel)) dL_undoes_11 ?_
      exact ml_riz tr9 hx hb hr hlocks hP hK hD hS (by rw [e9]) (hRr_2 e9) (by rw [gw_1 (by rw [e9]; show ¬ ((2 : Int32) = 0); decide)]; exact hz9) dL_undoes_13
  · have hP : va_P G vwCl (wC a cy ((sp_undo T x).2.2) u) H := hP
    have hD : va_D A (wC a cy ((sp_undo T x).2.2) u) := hD
    refine W.widen (k := 1) (n := 6) (Nat.le_of_ble_eq_true rfl) (Nat.le_of_ble_eq_true rfl) ?_
    exact ml_riz u hx hb hr hlocks hP hK hD hS rfl (hRr_0 hw.1 hw.2) (by rw [gw_0 hw.1]; exact hS.1) dL_undoes_5
set_option maxHeartbeats 4000000 in
set_option maxRecDepth 100000 in
theorem c_L_steps (l : Launch) (hlt : l.stackTraces = false) (G : va_G) (cy : Nat → ClassId) (a : Nat → Nat) (sz : Nat) (T : TS) (tr : Nat → Int32) (x : Int32) (y : Int32) (z : Int32) (hI : Inv T) : Met l yL_steps wsL_steps ({ frames := 9, cells := 1, slots := 6, locals := 165 } : Room) (ml_PX G cy [.ref (a 0), .int x, .int y, .int z] (wC a cy T tr) sz) (va_Qi (fun (r : Int32) (u : Nat → Int32) => hRr (sp_step T x y z) (-2000000002) (-2000000003) 0 r) (ml_BZ G cy (va_A (wC a cy T tr) sz) (fun u : Nat → Int32 => (wC a cy (sp_step T x y z).2.2 u)) sz (fun _ => gw (sp_step T x y z))) (va_A (wC a cy T tr) sz)) 1 6 (va_A (wC a cy T tr) sz) := by
  refine va_MetW (cc := cL_steps) (maxL := 5) (ret := some .int) (hh := [(0, 7, 8, 13), (0, 7, 13, 16)]) (by decide) rfl ?_
  intro p e s m args below meth c s₁ B hml hv
  obtain ⟨rfl, hsz, hP, hK, hD0, hN, hE⟩ := hv
  have hx := B.exec
  have hb := B.bytes
  have hr := B.returns
  have hts := atoms_spec (ws := wsL_steps) B.pre
  have hTb : c.exceptionTable.toList = tableOf [(0, 7, 8, 13), (0, 7, 13, 16)] := vx_table (x := yL_steps) B (hts _ List.mem_cons_self)
  have hown : s.vm.findClass RL = some m.cls := findClass_of_methodNamed B.named
  have hlocks := B.notSynchronized
  have hca := hE.2.2.2
  subst hsz
  have hD := hD0.self (sz := s.heap.size)
  generalize hAe : va_A (wC a cy T tr) s.heap.size = A at hD hE ⊢
  have hA : ∀ q : Nat, s.heap.size ≤ q → A q := fun q h => by rw [← hAe]; exact Or.inr h
  have hS : va_S A s.heap s.heap [] := va_S.rf
  have hP : va_P G vwCl (wC a cy T tr) s.heap := hP
  have hl := lv_entry ([.ref (a 0), .int x, .int y, .int z]) (n := 5) (Nat.le_of_ble_eq_true rfl)
  rw [lg_entry_eq]
  generalize (lg_sl ([.ref (a 0), .int x, .int y, .int z]) ++ List.replicate (5 - (lg_sl ([.ref (a 0), .int x, .int y, .int z])).length) Slot.unset).toArray = ls at hl ⊢
  have hl : lv_has ls 5 [(0, .ref (a 0)), (1, .int x), (2, .int y), (3, .int z)] := hl
  refine lv_aload_n hx hb dL_steps_0 rfl (lv_at hl 0 rfl) ?_
  refine lv_iload_n hx hb dL_steps_1 rfl (lv_at hl 1 rfl) ?_
  refine lv_iload_n hx hb dL_steps_2 rfl (lv_at hl 2 rfl) ?_
  refine lv_iload_n hx hb dL_steps_3 rfl (lv_at hl 3 rfl) ?_
  refine mo_xVi (G := G) (As := [.int x, .int y, .int z]) (rest := []) ⟨hx, hb, hml, hown, hts⟩ (c_X3_step l hlt G cy a s.heap.size T tr x y z hI) (cwV 3 hts gL_steps_X3_step rfl rfl rfl (by decide +kernel) ⟨Nat.le_of_ble_eq_true rfl, Nat.le_of_ble_eq_true rfl⟩) (va_recv hK hP (ci := 3) (q0 := 0) rfl rfl) hP hK hD hS hA hN hE rfl hl.1 (Nat.le_of_ble_eq_true rfl) dL_steps_4 ⟨Nat.le_of_ble_eq_true rfl, Nat.le_of_ble_eq_true rfl⟩ (fun E ce q9 H locs tr9 hz9 hpx hP hD hS hc1 hc2 hc3 => ?_) (fun r u H locs hw hP hD hS => ?_)
  · have hP : va_P G vwCl (wC a cy T tr9) H := hP
    have hD : va_D A (wC a cy T tr9) := hD
    rcases hpx with ⟨rfl, e9⟩ | ⟨rfl, e9⟩
    · refine vx_catch (own := RL) (name := eIA) hown [] ⟨0, 7, 8, 13⟩ [⟨0, 7, 13, 16⟩] hTb (fun z hz => absurd hz List.not_mem_nil) (by decide) (by decide) (hts (.classLink RL 13 eIA) (by decide +kernel)) (va_Nw.use rfl hca.1.1) hc1 hc2 hc3 ?_
      refine lv_astore (lv' := [(4, .ref q9), (0, .ref (a 0)), (1, .int x), (2, .int y), (3, .int z)]) hx hb dL_steps_8 hl (by decide) rfl (fun ls hl => ?_)
      refine lv_ldc hx hb hown (hts (.constant RL 15 (-2000000002)) (by decide +kernel)) dL_steps_10 ?_
      exact ml_riz tr9 hx hb hr hlocks hP hK hD hS (by rw [e9]) (hRr_1 e9) (by rw [gw_1 (by rw [e9]; show ¬ ((1 : Int32) = 0); decide)]; exact hz9) dL_steps_12
    · refine vx_catch (own := RL) (name := eIS) hown [⟨0, 7, 8, 13⟩] ⟨0, 7, 13, 16⟩ [] hTb (fun z hz => by obtain rfl := List.mem_singleton.mp hz; exact Or.inr ⟨by decide, eIA, hts (.classLink RL 13 eIA) (by decide +kernel), hca.2.1.1⟩) (by decide) (by decide) (hts (.classLink RL 16 eIS) (by decide +kernel)) (va_Nw.use rfl hca.1.2.1) hc1 hc2 hc3 ?_
      refine lv_astore (lv' := [(4, .ref q9), (0, .ref (a 0)), (1, .int x), (2, .int y), (3, .int z)]) hx hb dL_steps_13 hl (by decide) rfl (fun ls hl => ?_)
      refine lv_ldc hx hb hown (hts (.constant RL 18 (-2000000003)) (by decide +kernel)) dL_steps_15 ?_
      exact ml_riz tr9 hx hb hr hlocks hP hK hD hS (by rw [e9]) (hRr_2 e9) (by rw [gw_1 (by rw [e9]; show ¬ ((2 : Int32) = 0); decide)]; exact hz9) dL_steps_17
  · have hP : va_P G vwCl (wC a cy ((sp_step T x y z).2.2) u) H := hP
    have hD : va_D A (wC a cy ((sp_step T x y z).2.2) u) := hD
    refine W.widen (k := 1) (n := 6) (Nat.le_of_ble_eq_true rfl) (Nat.le_of_ble_eq_true rfl) ?_
    exact ml_riz u hx hb hr hlocks hP hK hD hS rfl (hRr_0 hw.1 hw.2) (by rw [gw_0 hw.1]; exact hS.1) dL_steps_7
set_option maxHeartbeats 4000000 in
set_option maxRecDepth 100000 in
theorem c_L_cursor (l : Launch) (hlt : l.stackTraces = false) (G : va_G) (cy : Nat → ClassId) (a : Nat → Nat) (sz : Nat) (T : TS) (tr : Nat → Int32) (hI : Inv T) : Met l yL_cursor wsL_cursor ({ frames := 8, cells := 1, slots := 6, locals := 122 } : Room) (ml_PX G cy [.ref (a 0)] (wC a cy T tr) sz) (va_Qi (fun (r : Int32) (u : Nat → Int32) => hRr (sp_cursor T) (-2000000003) 0 0 r) (ml_BZ G cy (va_A (wC a cy T tr) sz) (fun u : Nat → Int32 => (wC a cy (sp_cursor T).2.2 u)) sz (fun _ => gw (sp_cursor T))) (va_A (wC a cy T tr) sz)) 1 6 (va_A (wC a cy T tr) sz) := by
  refine va_MetW (cc := cL_cursor) (maxL := 2) (ret := some .int) (hh := [(0, 4, 5, 16)]) (by decide) rfl ?_
  intro p e s m args below meth c s₁ B hml hv
  obtain ⟨rfl, hsz, hP, hK, hD0, hN, hE⟩ := hv
  have hx := B.exec
  have hb := B.bytes
  have hr := B.returns
  have hts := atoms_spec (ws := wsL_cursor) B.pre
  have hTb : c.exceptionTable.toList = tableOf [(0, 4, 5, 16)] := vx_table (x := yL_cursor) B (hts _ List.mem_cons_self)
  have hown : s.vm.findClass RL = some m.cls := findClass_of_methodNamed B.named
  have hlocks := B.notSynchronized
  have hca := hE.2.2.2
  subst hsz
  have hD := hD0.self (sz := s.heap.size)
  generalize hAe : va_A (wC a cy T tr) s.heap.size = A at hD hE ⊢
  have hA : ∀ q : Nat, s.heap.size ≤ q → A q := fun q h => by rw [← hAe]; exact Or.inr h
  have hS : va_S A s.heap s.heap [] := va_S.rf
  have hP : va_P G vwCl (wC a cy T tr) s.heap := hP
  have hl := lv_entry ([.ref (a 0)]) (n := 2) (Nat.le_of_ble_eq_true rfl)
  rw [lg_entry_eq]
  generalize (lg_sl ([.ref (a 0)]) ++ List.replicate (2 - (lg_sl ([.ref (a 0)])).length) Slot.unset).toArray = ls at hl ⊢
  have hl : lv_has ls 2 [(0, .ref (a 0))] := hl
  refine lv_aload_n hx hb dL_cursor_0 rfl (lv_at hl 0 rfl) ?_
  refine mo_xVi (G := G) (As := []) (rest := []) ⟨hx, hb, hml, hown, hts⟩ (c_X3_cursor l hlt G cy a s.heap.size T tr hI) (cwV 0 hts gL_cursor_X3_cursor rfl rfl rfl (by decide +kernel) ⟨Nat.le_of_ble_eq_true rfl, Nat.le_of_ble_eq_true rfl⟩) (va_recv hK hP (ci := 3) (q0 := 0) rfl rfl) hP hK hD hS hA hN hE rfl hl.1 (Nat.le_of_ble_eq_true rfl) dL_cursor_1 ⟨Nat.le_of_ble_eq_true rfl, Nat.le_of_ble_eq_true rfl⟩ (fun E ce q9 H locs tr9 hz9 hpx hP hD hS hc1 hc2 hc3 => ?_) (fun r u H locs hw hP hD hS => ?_)
  · have hP : va_P G vwCl (wC a cy T tr9) H := hP
    have hD : va_D A (wC a cy T tr9) := hD
    obtain ⟨rfl, e9⟩ := hpx
    refine vx_catch (own := RL) (name := eIS) hown [] ⟨0, 4, 5, 16⟩ [] hTb (fun z hz => absurd hz List.not_mem_nil) (by decide) (by decide) (hts (.classLink RL 16 eIS) (by decide +kernel)) (va_Nw.use rfl hca.1.2.1) hc1 hc2 hc3 ?_
    refine lv_astore_n (lv' := [(1, .ref q9), (0, .ref (a 0))]) hx hb dL_cursor_5 rfl hl (by decide) rfl (fun ls hl => ?_)
    refine lv_ldc hx hb hown (hts (.constant RL 18 (-2000000003)) (by decide +kernel)) dL_cursor_6 ?_
    exact ml_riz tr9 hx hb hr hlocks hP hK hD hS (by rw [e9]) (hRr_1 e9) (by rw [gw_1 (by rw [e9]; show ¬ ((1 : Int32) = 0); decide)]; exact hz9) dL_cursor_8
  · have hP : va_P G vwCl (wC a cy ((sp_cursor T).2.2) u) H := hP
    have hD : va_D A (wC a cy ((sp_cursor T).2.2) u) := hD
    refine W.widen (k := 1) (n := 6) (Nat.le_of_ble_eq_true rfl) (Nat.le_of_ble_eq_true rfl) ?_
    exact ml_riz u hx hb hr hlocks hP hK hD hS rfl (hRr_0 hw.1 hw.2) (by rw [gw_0 hw.1]; exact hS.1) dL_cursor_4
