/-! calls over a part of the world: the rest stays -/
section MOC
variable {p : Program} {l : Launch} {e : Env} {R : Room} {s : State} {m : MethodId} {args : Array Value} {below : List Frame} {meth : Method} {c : Code} {H : Heap} {locs : List Loc} {cells slots : Nat} {Q : State → Prop}
variable {pc : Nat} {ls : Array Slot} {rest st0 : List Value} {a : Array Value} {A : Nat → Prop} {mc ms : Nat}
variable {G : va_G} {cy : Nat → ClassId} {ws wc wr : va_W} {cc bytes : ByteArray} {maxL nL n index : Nat} {ret : Option FieldType} {wy Ts : List Cond} {rm : Room} {own C : String} {y : MethodName} {b : Addr} {As : List Value} {hh : List (Nat × Nat × Nat × Nat)}
theorem mo_calli {σ : Type} {post : Int32 → σ → Prop} {w : σ → va_W} (hr : va_Run p l e R s m args below meth c H locs cells slots mc ms (F0 m pc ls st0) rest (va_Qi post (ml_B G cy (va_A wc H.size) w) (va_A wc H.size) a) (va_A wc H.size)) (hPc : va_P G vwCl wc H) (hDc : va_D A wc) (hP : va_P G vwCl ws H) (hK : va_K G vwCl (tyA cy) s) (hD : va_D A ws) (hS : va_S A s.heap H locs) (hA : ∀ q, s.heap.size ≤ q → A q) (isC isR : List Nat) (hC : isC.map (fun i => ws[i]?) = wc.map some) (hR : isR.map (fun i => ws[i]?) = wr.map some) (hnd : va_nd isR = true) (hdis : ∀ i ∈ isR, i ∉ isC)
    (kk : ∀ (r : Int32) (u : σ) (H1 : Heap) (locs1 : List Loc), post r u → va_P G vwCl (wr ++ w u) H1 → va_D A (wr ++ w u) → va_S A s.heap H1 locs1 → W p l e R s m args below meth c H1 locs1 (cells + mc) (slots + ms) Q (F0 m (pc + 3) ls (.int r :: rest))) : W p l e R s m args below meth c H locs cells slots Q (F0 m pc ls st0) := by
  have hF := va_free (wc := wc) hD hS hA isC hC
  refine va_calli hr hS (fun q _ h => hF q h) hF (fun r u t H1 locs1 ht hvm hw hB hz1 hk1 hS1 => ?_)
  obtain ⟨hP1, hK1, hD1⟩ := hB
  rw [ht] at hP1
  obtain ⟨hP2, hD2⟩ := va_join hP hD isC isR hC hR hnd hdis hk1 hF hP1 hD1
  exact kk r u H1 locs1 hw hP2 hD2 hS1
theorem mo_xcalli {σ σx : Type} {post : Int32 → σ → Prop} {w : σ → va_W} {wx : σx → va_W} {px : String → Prop} (hr : vy_Run p l e R s m args below meth c H locs cells slots mc ms (F0 m pc ls st0) rest (va_Qi post (ml_B G cy (va_A wc H.size) w) (va_A wc H.size) a) (ml_XE G cy (va_A wc H.size) wx px) (va_A wc H.size)) (hPc : va_P G vwCl wc H) (hDc : va_D A wc) (hP : va_P G vwCl ws H) (hK : va_K G vwCl (tyA cy) s) (hD : va_D A ws) (hS : va_S A s.heap H locs) (hA : ∀ q, s.heap.size ≤ q → A q) (isC isR : List Nat) (hC : isC.map (fun i => ws[i]?) = wc.map some) (hR : isR.map (fun i => ws[i]?) = wr.map some) (hnd : va_nd isR = true) (hdis : ∀ i ∈ isR, i ∉ isC)
    (kx : ∀ (E : String) (ce : Cell) (q9 : Addr) (H1 : Heap) (locs1 : List Loc) (u : σx), px E → va_P G vwCl (wr ++ wx u) H1 → va_D A (wr ++ wx u) → va_S A s.heap H1 locs1 → H1[q9]? = some ce → ce.vm = .none → s.vm.findClass E = some ce.cls → vx_W p l e R s m args below meth c H1 locs1 (cells + mc) (slots + ms) Q (F0 m pc ls rest) q9)
    (kk : ∀ (r : Int32) (u : σ) (H1 : Heap) (locs1 : List Loc), post r u → va_P G vwCl (wr ++ w u) H1 → va_D A (wr ++ w u) → va_S A s.heap H1 locs1 → W p l e R s m args below meth c H1 locs1 cells slots Q (F0 m (pc + 3) ls (.int r :: rest))) : W p l e R s m args below meth c H locs cells slots Q (F0 m pc ls st0) := by
  have hF := va_free (wc := wc) hD hS hA isC hC
  intro T hT X
  rcases hr T hT X with ⟨v, st₀, t, T', L, h0, X', hL, e1, e2, ⟨⟨r, u, hv, hp, hb⟩, hFr⟩, st⟩ | ⟨q, st₀, t, T', L, E, ce, h0, X', hL, e1, e2, ⟨hp, ⟨u, hP1, hD1⟩, hK1, hFr⟩, hce, hcv, hcl, st⟩
  · cases hv
    obtain ⟨k1, k2, k3⟩ := vx_keep h0 e1 hS (fun q _ h => hF q h) hF hL hFr
    obtain ⟨hP1, hK1, hD1⟩ := hb
    obtain ⟨hP2, hD2⟩ := va_join hP hD isC isR hC hR hnd hdis k2 hF (by rw [e1]; exact hP1) hD1
    obtain ⟨t2, a1, b1⟩ := kk r u T'.heap (locs ++ L) hp hP2 hD2 k3 T' rfl X'
    exact ⟨t2, st t2 a1, b1⟩
  · obtain ⟨k1, k2, k3⟩ := vx_keep h0 e1 hS (fun q _ h => hF q h) hF hL hFr
    obtain ⟨hP2, hD2⟩ := va_join hP hD isC isR hC hR hnd hdis k2 hF (by rw [e1]; exact hP1) hD1
    obtain ⟨t2, a1, b1⟩ := kx E ce q T'.heap (locs ++ L) u hp hP2 hD2 k3 (by rw [e1]; exact hce) hcv hcl T' rfl X'
    exact ⟨t2, st.trans a1, b1⟩
theorem mo_Vi {σ : Type} {post : Int32 → σ → Prop} {w : σ → va_W} (S : CallFix p m c cc nL s args Ts own) (hM : Met l y wy rm (ml_P G cy (.ref b :: As) wc H.size) (va_Qi post (ml_B G cy (va_A wc H.size) w) (va_A wc H.size)) mc ms (va_A wc H.size)) (cw : CallW R s args own C index y bytes maxL ret wy rm mc ms n) (hrv : ∃ cell : Cell, H[b]? = some cell ∧ cell.vm.isStatics = false ∧ s.vm.findClass C = some cell.cls) (hPc : va_P G vwCl wc H) (hDc : va_D A wc) (hP : va_P G vwCl ws H) (hK : va_K G vwCl (tyA cy) s) (hD : va_D A ws) (hS : va_S A s.heap H locs) (hA : ∀ q, s.heap.size ≤ q → A q) (isC isR : List Nat) (hC : isC.map (fun i => ws[i]?) = wc.map some) (hR : isR.map (fun i => ws[i]?) = wr.map some) (hnd : va_nd isR = true) (hdis : ∀ i ∈ isR, i ∉ isC) (hN : ml_N s) (hn : As.length = n) (hsize : ls.size = nL) (hW : (rest.map fun v => v.category).sum ≤ 8) (hdg : decode cc pc = .ok (.invokevirtual index, 3)) (hf : cells + mc ≤ R.cells ∧ slots + ms ≤ R.slots)
    (kk : ∀ (r : Int32) (u : σ) (H1 : Heap) (locs1 : List Loc), post r u → va_P G vwCl (wr ++ w u) H1 → va_D A (wr ++ w u) → va_S A s.heap H1 locs1 → W p l e R s m args below meth c H1 locs1 (cells + mc) (slots + ms) Q (F0 m (pc + 3) ls (.int r :: rest))) : W p l e R s m args below meth c H locs cells slots Q (F0 m pc ls (As.reverse ++ .ref b :: rest)) :=
  mo_calli (va_runV S hM cw ⟨(ml_pre (As := .ref b :: As) hPc hK hDc hN).1, hrv, (ml_pre (As := .ref b :: As) hPc hK hDc hN).2⟩ rfl hn hsize rfl (lv_room hW) hdg hf) hPc hDc hP hK hD hS hA isC isR hC hR hnd hdis kk
theorem mo_xVi {σ σx : Type} {post : Int32 → σ → Prop} {w : σ → va_W} {wx : σx → va_W} {px : String → Prop} (S : CallFix p m c cc nL s args Ts own) (hM : vy_Met l y wy rm (ml_PX G cy (.ref b :: As) wc H.size) (va_Qi post (ml_B G cy (va_A wc H.size) w) (va_A wc H.size)) (ml_XE G cy (va_A wc H.size) wx px) mc ms (va_A wc H.size)) (cw : CallW R s args own C index y bytes maxL ret wy rm mc ms n) (hrv : ∃ cell : Cell, H[b]? = some cell ∧ cell.vm.isStatics = false ∧ s.vm.findClass C = some cell.cls) (hPc : va_P G vwCl wc H) (hDc : va_D A wc) (hP : va_P G vwCl ws H) (hK : va_K G vwCl (tyA cy) s) (hD : va_D A ws) (hS : va_S A s.heap H locs) (hA : ∀ q, s.heap.size ≤ q → A q) (isC isR : List Nat) (hC : isC.map (fun i => ws[i]?) = wc.map some) (hR : isR.map (fun i => ws[i]?) = wr.map some) (hnd : va_nd isR = true) (hdis : ∀ i ∈ isR, i ∉ isC) (hN : ml_N s) (hE : ml_eX A s s.heap) (hn : As.length = n) (hsize : ls.size = nL) (hW : (rest.map fun v => v.category).sum ≤ 8) (hdg : decode cc pc = .ok (.invokevirtual index, 3)) (hf : cells + mc ≤ R.cells ∧ slots + ms ≤ R.slots)
    (kx : ∀ (E : String) (ce : Cell) (q9 : Addr) (H1 : Heap) (locs1 : List Loc) (u : σx), px E → va_P G vwCl (wr ++ wx u) H1 → va_D A (wr ++ wx u) → va_S A s.heap H1 locs1 → H1[q9]? = some ce → ce.vm = .none → s.vm.findClass E = some ce.cls → vx_W p l e R s m args below meth c H1 locs1 (cells + mc) (slots + ms) Q (F0 m pc ls rest) q9)
    (kk : ∀ (r : Int32) (u : σ) (H1 : Heap) (locs1 : List Loc), post r u → va_P G vwCl (wr ++ w u) H1 → va_D A (wr ++ w u) → va_S A s.heap H1 locs1 → W p l e R s m args below meth c H1 locs1 cells slots Q (F0 m (pc + 3) ls (.int r :: rest))) : W p l e R s m args below meth c H locs cells slots Q (F0 m pc ls (As.reverse ++ .ref b :: rest)) :=
  mo_xcalli (vy_runV S hM cw ⟨(ml_preX (As := .ref b :: As) hPc hK hDc hN hE hS (va_free (wc := wc) hD hS hA isC hC)).1, hrv, (ml_preX (As := .ref b :: As) hPc hK hDc hN hE hS (va_free (wc := wc) hD hS hA isC hC)).2⟩ rfl hn hsize rfl (lv_room hW) hdg hf) hPc hDc hP hK hD hS hA isC isR hC hR hnd hdis kx kk
theorem mo_SWi {σ : Type} {post : Int32 → σ → Prop} {w : σ → va_W} (S : CallFix p m c cc nL s args Ts own) (hM : Met l y wy rm (ml_PX G cy As wc H.size) (va_Qi post (ml_B G cy (va_A wc H.size) w) (va_A wc H.size)) mc ms (va_A wc H.size)) (cw : vx_CSW R s args own index y bytes maxL ret hh wy rm mc ms n) (hPc : va_P G vwCl wc H) (hDc : va_D A wc) (hP : va_P G vwCl ws H) (hK : va_K G vwCl (tyA cy) s) (hD : va_D A ws) (hS : va_S A s.heap H locs) (hA : ∀ q, s.heap.size ≤ q → A q) (isC isR : List Nat) (hC : isC.map (fun i => ws[i]?) = wc.map some) (hR : isR.map (fun i => ws[i]?) = wr.map some) (hnd : va_nd isR = true) (hdis : ∀ i ∈ isR, i ∉ isC) (hN : ml_N s) (hE : ml_eX A s s.heap) (hn : As.length = n) (hsize : ls.size = nL) (hW : (rest.map fun v => v.category).sum ≤ 8) (hdg : decode cc pc = .ok (.invokestatic index, 3)) (hf : cells + mc ≤ R.cells ∧ slots + ms ≤ R.slots)
    (kk : ∀ (r : Int32) (u : σ) (H1 : Heap) (locs1 : List Loc), post r u → va_P G vwCl (wr ++ w u) H1 → va_D A (wr ++ w u) → va_S A s.heap H1 locs1 → W p l e R s m args below meth c H1 locs1 (cells + mc) (slots + ms) Q (F0 m (pc + 3) ls (.int r :: rest))) : W p l e R s m args below meth c H locs cells slots Q (F0 m pc ls (As.reverse ++ rest)) :=
  mo_calli (vx_runSW S hM cw (ml_preX hPc hK hDc hN hE hS (va_free (wc := wc) hD hS hA isC hC)) rfl hn hsize rfl (lv_room hW) hdg hf) hPc hDc hP hK hD hS hA isC isR hC hR hnd hdis kk
theorem mo_callf {σ : Type} {post : UInt32 → σ → Prop} {w : σ → va_W} (hr : va_Run p l e R s m args below meth c H locs cells slots mc ms (F0 m pc ls st0) rest (va_Qf post (ml_B G cy (va_A wc H.size) w) (va_A wc H.size) a) (va_A wc H.size)) (hPc : va_P G vwCl wc H) (hDc : va_D A wc) (hP : va_P G vwCl ws H) (hK : va_K G vwCl (tyA cy) s) (hD : va_D A ws) (hS : va_S A s.heap H locs) (hA : ∀ q, s.heap.size ≤ q → A q) (isC isR : List Nat) (hC : isC.map (fun i => ws[i]?) = wc.map some) (hR : isR.map (fun i => ws[i]?) = wr.map some) (hnd : va_nd isR = true) (hdis : ∀ i ∈ isR, i ∉ isC)
    (kk : ∀ (r : UInt32) (u : σ) (H1 : Heap) (locs1 : List Loc), post r u → va_P G vwCl (wr ++ w u) H1 → va_D A (wr ++ w u) → va_S A s.heap H1 locs1 → W p l e R s m args below meth c H1 locs1 (cells + mc) (slots + ms) Q (F0 m (pc + 3) ls (.float r :: rest))) : W p l e R s m args below meth c H locs cells slots Q (F0 m pc ls st0) := by
  have hF := va_free (wc := wc) hD hS hA isC hC
  refine va_callf hr hS (fun q _ h => hF q h) hF (fun r u t H1 locs1 ht hvm hw hB hz1 hk1 hS1 => ?_)
  obtain ⟨hP1, hK1, hD1⟩ := hB
  rw [ht] at hP1
  obtain ⟨hP2, hD2⟩ := va_join hP hD isC isR hC hR hnd hdis hk1 hF hP1 hD1
  exact kk r u H1 locs1 hw hP2 hD2 hS1
theorem mo_xcallf {σ σx : Type} {post : UInt32 → σ → Prop} {w : σ → va_W} {wx : σx → va_W} {px : String → Prop} (hr : vy_Run p l e R s m args below meth c H locs cells slots mc ms (F0 m pc ls st0) rest (va_Qf post (ml_B G cy (va_A wc H.size) w) (va_A wc H.size) a) (ml_XE G cy (va_A wc H.size) wx px) (va_A wc H.size)) (hPc : va_P G vwCl wc H) (hDc : va_D A wc) (hP : va_P G vwCl ws H) (hK : va_K G vwCl (tyA cy) s) (hD : va_D A ws) (hS : va_S A s.heap H locs) (hA : ∀ q, s.heap.size ≤ q → A q) (isC isR : List Nat) (hC : isC.map (fun i => ws[i]?) = wc.map some) (hR : isR.map (fun i => ws[i]?) = wr.map some) (hnd : va_nd isR = true) (hdis : ∀ i ∈ isR, i ∉ isC)
    (kx : ∀ (E : String) (ce : Cell) (q9 : Addr) (H1 : Heap) (locs1 : List Loc) (u : σx), px E → va_P G vwCl (wr ++ wx u) H1 → va_D A (wr ++ wx u) → va_S A s.heap H1 locs1 → H1[q9]? = some ce → ce.vm = .none → s.vm.findClass E = some ce.cls → vx_W p l e R s m args below meth c H1 locs1 (cells + mc) (slots + ms) Q (F0 m pc ls rest) q9)
    (kk : ∀ (r : UInt32) (u : σ) (H1 : Heap) (locs1 : List Loc), post r u → va_P G vwCl (wr ++ w u) H1 → va_D A (wr ++ w u) → va_S A s.heap H1 locs1 → W p l e R s m args below meth c H1 locs1 cells slots Q (F0 m (pc + 3) ls (.float r :: rest))) : W p l e R s m args below meth c H locs cells slots Q (F0 m pc ls st0) := by
  have hF := va_free (wc := wc) hD hS hA isC hC
  intro T hT X
  rcases hr T hT X with ⟨v, st₀, t, T', L, h0, X', hL, e1, e2, ⟨⟨r, u, hv, hp, hb⟩, hFr⟩, st⟩ | ⟨q, st₀, t, T', L, E, ce, h0, X', hL, e1, e2, ⟨hp, ⟨u, hP1, hD1⟩, hK1, hFr⟩, hce, hcv, hcl, st⟩
  · cases hv
    obtain ⟨k1, k2, k3⟩ := vx_keep h0 e1 hS (fun q _ h => hF q h) hF hL hFr
    obtain ⟨hP1, hK1, hD1⟩ := hb
    obtain ⟨hP2, hD2⟩ := va_join hP hD isC isR hC hR hnd hdis k2 hF (by rw [e1]; exact hP1) hD1
    obtain ⟨t2, a1, b1⟩ := kk r u T'.heap (locs ++ L) hp hP2 hD2 k3 T' rfl X'
    exact ⟨t2, st t2 a1, b1⟩
  · obtain ⟨k1, k2, k3⟩ := vx_keep h0 e1 hS (fun q _ h => hF q h) hF hL hFr
    obtain ⟨hP2, hD2⟩ := va_join hP hD isC isR hC hR hnd hdis k2 hF (by rw [e1]; exact hP1) hD1
    obtain ⟨t2, a1, b1⟩ := kx E ce q T'.heap (locs ++ L) u hp hP2 hD2 k3 (by rw [e1]; exact hce) hcv hcl T' rfl X'
    exact ⟨t2, st.trans a1, b1⟩
theorem mo_Vf {σ : Type} {post : UInt32 → σ → Prop} {w : σ → va_W} (S : CallFix p m c cc nL s args Ts own) (hM : Met l y wy rm (ml_P G cy (.ref b :: As) wc H.size) (va_Qf post (ml_B G cy (va_A wc H.size) w) (va_A wc H.size)) mc ms (va_A wc H.size)) (cw : CallW R s args own C index y bytes maxL ret wy rm mc ms n) (hrv : ∃ cell : Cell, H[b]? = some cell ∧ cell.vm.isStatics = false ∧ s.vm.findClass C = some cell.cls) (hPc : va_P G vwCl wc H) (hDc : va_D A wc) (hP : va_P G vwCl ws H) (hK : va_K G vwCl (tyA cy) s) (hD : va_D A ws) (hS : va_S A s.heap H locs) (hA : ∀ q, s.heap.size ≤ q → A q) (isC isR : List Nat) (hC : isC.map (fun i => ws[i]?) = wc.map some) (hR : isR.map (fun i => ws[i]?) = wr.map some) (hnd : va_nd isR = true) (hdis : ∀ i ∈ isR, i ∉ isC) (hN : ml_N s) (hn : As.length = n) (hsize : ls.size = nL) (hW : (rest.map fun v => v.category).sum ≤ 8) (hdg : decode cc pc = .ok (.invokevirtual index, 3)) (hf : cells + mc ≤ R.cells ∧ slots + ms ≤ R.slots)
    (kk : ∀ (r : UInt32) (u : σ) (H1 : Heap) (locs1 : List Loc), post r u → va_P G vwCl (wr ++ w u) H1 → va_D A (wr ++ w u) → va_S A s.heap H1 locs1 → W p l e R s m args below meth c H1 locs1 (cells + mc) (slots + ms) Q (F0 m (pc + 3) ls (.float r :: rest))) : W p l e R s m args below meth c H locs cells slots Q (F0 m pc ls (As.reverse ++ .ref b :: rest)) :=
  mo_callf (va_runV S hM cw ⟨(ml_pre (As := .ref b :: As) hPc hK hDc hN).1, hrv, (ml_pre (As := .ref b :: As) hPc hK hDc hN).2⟩ rfl hn hsize rfl (lv_room hW) hdg hf) hPc hDc hP hK hD hS hA isC isR hC hR hnd hdis kk
theorem mo_xVf {σ σx : Type} {post : UInt32 → σ → Prop} {w : σ → va_W} {wx : σx → va_W} {px : String → Prop} (S : CallFix p m c cc nL s args Ts own) (hM : vy_Met l y wy rm (ml_PX G cy (.ref b :: As) wc H.size) (va_Qf post (ml_B G cy (va_A wc H.size) w) (va_A wc H.size)) (ml_XE G cy (va_A wc H.size) wx px) mc ms (va_A wc H.size)) (cw : CallW R s args own C index y bytes maxL ret wy rm mc ms n) (hrv : ∃ cell : Cell, H[b]? = some cell ∧ cell.vm.isStatics = false ∧ s.vm.findClass C = some cell.cls) (hPc : va_P G vwCl wc H) (hDc : va_D A wc) (hP : va_P G vwCl ws H) (hK : va_K G vwCl (tyA cy) s) (hD : va_D A ws) (hS : va_S A s.heap H locs) (hA : ∀ q, s.heap.size ≤ q → A q) (isC isR : List Nat) (hC : isC.map (fun i => ws[i]?) = wc.map some) (hR : isR.map (fun i => ws[i]?) = wr.map some) (hnd : va_nd isR = true) (hdis : ∀ i ∈ isR, i ∉ isC) (hN : ml_N s) (hE : ml_eX A s s.heap) (hn : As.length = n) (hsize : ls.size = nL) (hW : (rest.map fun v => v.category).sum ≤ 8) (hdg : decode cc pc = .ok (.invokevirtual index, 3)) (hf : cells + mc ≤ R.cells ∧ slots + ms ≤ R.slots)
    (kx : ∀ (E : String) (ce : Cell) (q9 : Addr) (H1 : Heap) (locs1 : List Loc) (u : σx), px E → va_P G vwCl (wr ++ wx u) H1 → va_D A (wr ++ wx u) → va_S A s.heap H1 locs1 → H1[q9]? = some ce → ce.vm = .none → s.vm.findClass E = some ce.cls → vx_W p l e R s m args below meth c H1 locs1 (cells + mc) (slots + ms) Q (F0 m pc ls rest) q9)
    (kk : ∀ (r : UInt32) (u : σ) (H1 : Heap) (locs1 : List Loc), post r u → va_P G vwCl (wr ++ w u) H1 → va_D A (wr ++ w u) → va_S A s.heap H1 locs1 → W p l e R s m args below meth c H1 locs1 cells slots Q (F0 m (pc + 3) ls (.float r :: rest))) : W p l e R s m args below meth c H locs cells slots Q (F0 m pc ls (As.reverse ++ .ref b :: rest)) :=
  mo_xcallf (vy_runV S hM cw ⟨(ml_preX (As := .ref b :: As) hPc hK hDc hN hE hS (va_free (wc := wc) hD hS hA isC hC)).1, hrv, (ml_preX (As := .ref b :: As) hPc hK hDc hN hE hS (va_free (wc := wc) hD hS hA isC hC)).2⟩ rfl hn hsize rfl (lv_room hW) hdg hf) hPc hDc hP hK hD hS hA isC isR hC hR hnd hdis kx kk
theorem mo_callv {σ : Type} {post : σ → Prop} {w : σ → va_W} (hr : va_Run p l e R s m args below meth c H locs cells slots mc ms (F0 m pc ls st0) rest (va_Qv post (ml_B G cy (va_A wc H.size) w) (va_A wc H.size) a) (va_A wc H.size)) (hPc : va_P G vwCl wc H) (hDc : va_D A wc) (hP : va_P G vwCl ws H) (hK : va_K G vwCl (tyA cy) s) (hD : va_D A ws) (hS : va_S A s.heap H locs) (hA : ∀ q, s.heap.size ≤ q → A q) (isC isR : List Nat) (hC : isC.map (fun i => ws[i]?) = wc.map some) (hR : isR.map (fun i => ws[i]?) = wr.map some) (hnd : va_nd isR = true) (hdis : ∀ i ∈ isR, i ∉ isC)
    (kk : ∀ (u : σ) (H1 : Heap) (locs1 : List Loc), post u → va_P G vwCl (wr ++ w u) H1 → va_D A (wr ++ w u) → va_S A s.heap H1 locs1 → W p l e R s m args below meth c H1 locs1 (cells + mc) (slots + ms) Q (F0 m (pc + 3) ls (rest))) : W p l e R s m args below meth c H locs cells slots Q (F0 m pc ls st0) := by
  have hF := va_free (wc := wc) hD hS hA isC hC
  refine va_callv hr hS (fun q _ h => hF q h) hF (fun u t H1 locs1 ht hvm hw hB hz1 hk1 hS1 => ?_)
  obtain ⟨hP1, hK1, hD1⟩ := hB
  rw [ht] at hP1
  obtain ⟨hP2, hD2⟩ := va_join hP hD isC isR hC hR hnd hdis hk1 hF hP1 hD1
  exact kk u H1 locs1 hw hP2 hD2 hS1
theorem mo_xcallv {σ σx : Type} {post : σ → Prop} {w : σ → va_W} {wx : σx → va_W} {px : String → Prop} (hr : vy_Run p l e R s m args below meth c H locs cells slots mc ms (F0 m pc ls st0) rest (va_Qv post (ml_B G cy (va_A wc H.size) w) (va_A wc H.size) a) (ml_XE G cy (va_A wc H.size) wx px) (va_A wc H.size)) (hPc : va_P G vwCl wc H) (hDc : va_D A wc) (hP : va_P G vwCl ws H) (hK : va_K G vwCl (tyA cy) s) (hD : va_D A ws) (hS : va_S A s.heap H locs) (hA : ∀ q, s.heap.size ≤ q → A q) (isC isR : List Nat) (hC : isC.map (fun i => ws[i]?) = wc.map some) (hR : isR.map (fun i => ws[i]?) = wr.map some) (hnd : va_nd isR = true) (hdis : ∀ i ∈ isR, i ∉ isC)
    (kx : ∀ (E : String) (ce : Cell) (q9 : Addr) (H1 : Heap) (locs1 : List Loc) (u : σx), px E → va_P G vwCl (wr ++ wx u) H1 → va_D A (wr ++ wx u) → va_S A s.heap H1 locs1 → H1[q9]? = some ce → ce.vm = .none → s.vm.findClass E = some ce.cls → vx_W p l e R s m args below meth c H1 locs1 (cells + mc) (slots + ms) Q (F0 m pc ls rest) q9)
    (kk : ∀ (u : σ) (H1 : Heap) (locs1 : List Loc), post u → va_P G vwCl (wr ++ w u) H1 → va_D A (wr ++ w u) → va_S A s.heap H1 locs1 → W p l e R s m args below meth c H1 locs1 cells slots Q (F0 m (pc + 3) ls (rest))) : W p l e R s m args below meth c H locs cells slots Q (F0 m pc ls st0) := by
  have hF := va_free (wc := wc) hD hS hA isC hC
  intro T hT X
  rcases hr T hT X with ⟨v, st₀, t, T', L, h0, X', hL, e1, e2, ⟨⟨u, hv, hp, hb⟩, hFr⟩, st⟩ | ⟨q, st₀, t, T', L, E, ce, h0, X', hL, e1, e2, ⟨hp, ⟨u, hP1, hD1⟩, hK1, hFr⟩, hce, hcv, hcl, st⟩
  · cases hv
    obtain ⟨k1, k2, k3⟩ := vx_keep h0 e1 hS (fun q _ h => hF q h) hF hL hFr
    obtain ⟨hP1, hK1, hD1⟩ := hb
    obtain ⟨hP2, hD2⟩ := va_join hP hD isC isR hC hR hnd hdis k2 hF (by rw [e1]; exact hP1) hD1
    obtain ⟨t2, a1, b1⟩ := kk u T'.heap (locs ++ L) hp hP2 hD2 k3 T' rfl X'
    exact ⟨t2, st t2 a1, b1⟩
  · obtain ⟨k1, k2, k3⟩ := vx_keep h0 e1 hS (fun q _ h => hF q h) hF hL hFr
    obtain ⟨hP2, hD2⟩ := va_join hP hD isC isR hC hR hnd hdis k2 hF (by rw [e1]; exact hP1) hD1
    obtain ⟨t2, a1, b1⟩ := kx E ce q T'.heap (locs ++ L) u hp hP2 hD2 k3 (by rw [e1]; exact hce) hcv hcl T' rfl X'
    exact ⟨t2, st.trans a1, b1⟩
theorem mo_Vv {σ : Type} {post : σ → Prop} {w : σ → va_W} (S : CallFix p m c cc nL s args Ts own) (hM : Met l y wy rm (ml_P G cy (.ref b :: As) wc H.size) (va_Qv post (ml_B G cy (va_A wc H.size) w) (va_A wc H.size)) mc ms (va_A wc H.size)) (cw : CallW R s args own C index y bytes maxL ret wy rm mc ms n) (hrv : ∃ cell : Cell, H[b]? = some cell ∧ cell.vm.isStatics = false ∧ s.vm.findClass C = some cell.cls) (hPc : va_P G vwCl wc H) (hDc : va_D A wc) (hP : va_P G vwCl ws H) (hK : va_K G vwCl (tyA cy) s) (hD : va_D A ws) (hS : va_S A s.heap H locs) (hA : ∀ q, s.heap.size ≤ q → A q) (isC isR : List Nat) (hC : isC.map (fun i => ws[i]?) = wc.map some) (hR : isR.map (fun i => ws[i]?) = wr.map some) (hnd : va_nd isR = true) (hdis : ∀ i ∈ isR, i ∉ isC) (hN : ml_N s) (hn : As.length = n) (hsize : ls.size = nL) (hW : (rest.map fun v => v.category).sum ≤ 8) (hdg : decode cc pc = .ok (.invokevirtual index, 3)) (hf : cells + mc ≤ R.cells ∧ slots + ms ≤ R.slots)
    (kk : ∀ (u : σ) (H1 : Heap) (locs1 : List Loc), post u → va_P G vwCl (wr ++ w u) H1 → va_D A (wr ++ w u) → va_S A s.heap H1 locs1 → W p l e R s m args below meth c H1 locs1 (cells + mc) (slots + ms) Q (F0 m (pc + 3) ls (rest))) : W p l e R s m args below meth c H locs cells slots Q (F0 m pc ls (As.reverse ++ .ref b :: rest)) :=
  mo_callv (va_runV S hM cw ⟨(ml_pre (As := .ref b :: As) hPc hK hDc hN).1, hrv, (ml_pre (As := .ref b :: As) hPc hK hDc hN).2⟩ rfl hn hsize rfl (lv_room hW) hdg hf) hPc hDc hP hK hD hS hA isC isR hC hR hnd hdis kk
theorem mo_xVv {σ σx : Type} {post : σ → Prop} {w : σ → va_W} {wx : σx → va_W} {px : String → Prop} (S : CallFix p m c cc nL s args Ts own) (hM : vy_Met l y wy rm (ml_PX G cy (.ref b :: As) wc H.size) (va_Qv post (ml_B G cy (va_A wc H.size) w) (va_A wc H.size)) (ml_XE G cy (va_A wc H.size) wx px) mc ms (va_A wc H.size)) (cw : CallW R s args own C index y bytes maxL ret wy rm mc ms n) (hrv : ∃ cell : Cell, H[b]? = some cell ∧ cell.vm.isStatics = false ∧ s.vm.findClass C = some cell.cls) (hPc : va_P G vwCl wc H) (hDc : va_D A wc) (hP : va_P G vwCl ws H) (hK : va_K G vwCl (tyA cy) s) (hD : va_D A ws) (hS : va_S A s.heap H locs) (hA : ∀ q, s.heap.size ≤ q → A q) (isC isR : List Nat) (hC : isC.map (fun i => ws[i]?) = wc.map some) (hR : isR.map (fun i => ws[i]?) = wr.map some) (hnd : va_nd isR = true) (hdis : ∀ i ∈ isR, i ∉ isC) (hN : ml_N s) (hE : ml_eX A s s.heap) (hn : As.length = n) (hsize : ls.size = nL) (hW : (rest.map fun v => v.category).sum ≤ 8) (hdg : decode cc pc = .ok (.invokevirtual index, 3)) (hf : cells + mc ≤ R.cells ∧ slots + ms ≤ R.slots)
    (kx : ∀ (E : String) (ce : Cell) (q9 : Addr) (H1 : Heap) (locs1 : List Loc) (u : σx), px E → va_P G vwCl (wr ++ wx u) H1 → va_D A (wr ++ wx u) → va_S A s.heap H1 locs1 → H1[q9]? = some ce → ce.vm = .none → s.vm.findClass E = some ce.cls → vx_W p l e R s m args below meth c H1 locs1 (cells + mc) (slots + ms) Q (F0 m pc ls rest) q9)
    (kk : ∀ (u : σ) (H1 : Heap) (locs1 : List Loc), post u → va_P G vwCl (wr ++ w u) H1 → va_D A (wr ++ w u) → va_S A s.heap H1 locs1 → W p l e R s m args below meth c H1 locs1 cells slots Q (F0 m (pc + 3) ls (rest))) : W p l e R s m args below meth c H locs cells slots Q (F0 m pc ls (As.reverse ++ .ref b :: rest)) :=
  mo_xcallv (vy_runV S hM cw ⟨(ml_preX (As := .ref b :: As) hPc hK hDc hN hE hS (va_free (wc := wc) hD hS hA isC hC)).1, hrv, (ml_preX (As := .ref b :: As) hPc hK hDc hN hE hS (va_free (wc := wc) hD hS hA isC hC)).2⟩ rfl hn hsize rfl (lv_room hW) hdg hf) hPc hDc hP hK hD hS hA isC isR hC hR hnd hdis kx kk
end MOC
/-- the component's world with a cell for a long, for a double -/
abbrev wL (a : Nat → Nat) (cy : Nat → ClassId) (T : TS) (tr : Nat → Int32) (o : Nat) (f : Nat → Int64) : va_W := (o, .inl (cy 1, 1, .inr (.inl f))) :: wC a cy T tr
abbrev wD (a : Nat → Nat) (cy : Nat → ClassId) (T : TS) (tr : Nat → Int32) (o : Nat) (f : Nat → UInt64) : va_W := (o, .inl (cy 3, 1, .inr (.inr (.inr (.inl f))))) :: wC a cy T tr
theorem sh_64 : ∀ h, h < 41 → ∀ p, p < 41 → 0 < p → (FP.f2d (FP.fdiv (FP.i2f (nI h)) (FP.i2f (nI p)))) &&& 0x7fffffffffffffff ≤ 0x7ff0000000000000 ∧ Op.cmpValue (FP.dcmp (FP.f2d (FP.fdiv (FP.i2f (nI h)) (FP.i2f (nI p)))) (FP.f2d (FP.fdiv (FP.i2f (nI h)) (FP.i2f (nI p))))) .l = 0 := by decide +kernel
theorem sh_n64 {T : TS} (h : (sp_share T).1 = 0) : vf_n64 (FP.f2d (sp_share T).2) ∧ Op.cmpValue (FP.dcmp (FP.f2d (sp_share T).2) (FP.f2d (sp_share T).2)) .l = 0 := by
  have hc : ¬ (tac T = 0 ∨ pres T = 0) := fun q => by
    unfold sp_share at h
    rw [cif_t q] at h
    exact absurd h (by decide)
  have e : (sp_share T).2 = FP.fdiv (FP.i2f (nI (hav T))) (FP.i2f (nI (pres T))) := by
    unfold sp_share
    rw [cif_f hc]
  rw [e]
  have h1 : hav T ≤ 40 := cnt_le 40
  have h2 : pres T ≤ 40 := cnt_le 40
  exact sh_64 (hav T) (by omega) (pres T) (by omega) (Nat.pos_of_ne_zero fun q => hc (Or.inr q))
set_option maxHeartbeats 4000000 in
set_option maxRecDepth 100000 in
theorem c_L_addChange (l : Launch) (hlt : l.stackTraces = false) (G : va_G) (cy : Nat → ClassId) (a : Nat → Nat) (sz : Nat) (T : TS) (tr : Nat → Int32) (x : Int32) (y : Int32) (z : Int32) (o : Nat) (f : Nat → Int64) (hI : Inv T) : Met l yL_addChange wsL_addChange ({ frames := 9, cells := 1, slots := 6, locals := 147 } : Room) (ml_PX G cy [.ref (a 0), .int x, .int y, .int z, .ref o] (wL a cy T tr o f) sz) (va_Qi (fun (r : Int32) (u : (Nat → Int32) × (Nat → Int64)) => r = (sp_addChange T x y z).1 ∧ ((sp_addChange T x y z).1 = 0 → u.2 0 = (sp_addChange T x y z).2.1.toInt64)) (ml_B G cy (va_A (wL a cy T tr o f) sz) (fun u : (Nat → Int32) × (Nat → Int64) => (wL a cy (sp_addChange T x y z).2.2 u.1 o u.2))) (va_A (wL a cy T tr o f) sz)) 1 6 (va_A (wL a cy T tr o f) sz) := by
  refine va_MetW (cc := cL_addChange) (maxL := 6) (ret := some .int) (hh := [(0, 12, 15, 13), (0, 12, 19, 15)]) (by decide) rfl ?_
  intro p e s m args below meth c s₁ B hml hv
  obtain ⟨rfl, hsz, hP, hK, hD0, hN, hE⟩ := hv
  have hx := B.exec
  have hb := B.bytes
  have hr := B.returns
  have hts := atoms_spec (ws := wsL_addChange) B.pre
  have hTb : c.exceptionTable.toList = tableOf [(0, 12, 15, 13), (0, 12, 19, 15)] := vx_table (x := yL_addChange) B (hts _ List.mem_cons_self)
  have hown : s.vm.findClass RL = some m.cls := findClass_of_methodNamed B.named
  have hlocks := B.notSynchronized
  have hca := hE.2.2.2
  subst hsz
  have hD := hD0.self (sz := s.heap.size)
  generalize hAe : va_A (wL a cy T tr o f) s.heap.size = A at hD hE ⊢
  have hA : ∀ q : Nat, s.heap.size ≤ q → A q := fun q h => by rw [← hAe]; exact Or.inr h
  have hS : va_S A s.heap s.heap [] := va_S.rf
  have hP : va_P G vwCl (wL a cy T tr o f) s.heap := hP
  have hl := lv_entry ([.ref (a 0), .int x, .int y, .int z, .ref o]) (n := 6) (Nat.le_of_ble_eq_true rfl)
  rw [lg_entry_eq]
  generalize (lg_sl ([.ref (a 0), .int x, .int y, .int z, .ref o]) ++ List.replicate (6 - (lg_sl ([.ref (a 0), .int x, .int y, .int z, .ref o])).length) Slot.unset).toArray = ls at hl ⊢
  have hl : lv_has ls 6 [(0, .ref (a 0)), (1, .int x), (2, .int y), (3, .int z), (4, .ref o)] := hl
  refine lv_aload hx hb dL_addChange_0 (lv_at hl 4 rfl) ?_
  refine lv_iconst (v := 0) hx hb dL_addChange_2 (by decide) ?_
  refine lv_aload_n hx hb dL_addChange_3 rfl (lv_at hl 0 rfl) ?_
  refine lv_iload_n hx hb dL_addChange_4 rfl (lv_at hl 1 rfl) ?_
  refine lv_iload_n hx hb dL_addChange_5 rfl (lv_at hl 2 rfl) ?_
  refine lv_iload_n hx hb dL_addChange_6 rfl (lv_at hl 3 rfl) ?_
  have hPc := hP.sub (ws' := wC a cy T tr) [1, 2, 3, 4, 5, 6, 7, 8, 9, 10, 11, 12] rfl
  have hDc := hD.sub (ws' := wC a cy T tr) [1, 2, 3, 4, 5, 6, 7, 8, 9, 10, 11, 12] (by decide) rfl
  refine mo_xVi (G := G) (wr := [(o, .inl (cy 1, 1, .inr (.inl f)))]) (As := [.int x, .int y, .int z]) (rest := [.int 0, .ref o]) ⟨hx, hb, hml, hown, hts⟩ (c_X3_addChange l hlt G cy a s.heap.size T tr x y z hI) (cwV 3 hts gL_addChange_X3_addChange rfl rfl rfl (by decide +kernel) ⟨Nat.le_of_ble_eq_true rfl, Nat.le_of_ble_eq_true rfl⟩) (va_recv hK hPc (ci := 3) (q0 := 0) rfl rfl) hPc hDc hP hK hD hS hA [1, 2, 3, 4, 5, 6, 7, 8, 9, 10, 11, 12] [0] rfl rfl (by decide) (by decide) hN hE rfl hl.1 (Nat.le_of_ble_eq_true rfl) dL_addChange_7 ⟨Nat.le_of_ble_eq_true rfl, Nat.le_of_ble_eq_true rfl⟩ (fun E ce q9 H locs tr9 hpx hP hD hS hc1 hc2 hc3 => ?_) (fun r u H locs hw hP hD hS => ?_)
  · have hP : va_P G vwCl (wL a cy T tr9 o f) H := hP
    have hD : va_D A (wL a cy T tr9 o f) := hD
    rcases hpx with ⟨rfl, e9⟩ | ⟨rfl, e9⟩
    · refine vx_catch (own := RL) (name := eIA) hown [] ⟨0, 12, 15, 13⟩ [⟨0, 12, 19, 15⟩] hTb (fun z hz => absurd hz List.not_mem_nil) (by decide) (by decide) (hts (.classLink RL 13 eIA) (by decide +kernel)) (va_Nw.use rfl hca.1.1) hc1 hc2 hc3 ?_
      refine lv_astore (lv' := [(5, .ref q9), (0, .ref (a 0)), (1, .int x), (2, .int y), (3, .int z), (4, .ref o)]) hx hb dL_addChange_15 hl (by decide) rfl (fun ls hl => ?_)
      refine lv_iconst (v := 1) hx hb dL_addChange_17 (by decide) ?_
      exact ml_ri (tr9, f) hx hb hr hlocks hP hK hD hS (by rw [e9]) ⟨by rw [e9], fun h9 => absurd h9 (by rw [e9]; show ¬ ((1 : Int32) = 0); decide)⟩ dL_addChange_18
    · refine vx_catch (own := RL) (name := eIS) hown [⟨0, 12, 15, 13⟩] ⟨0, 12, 19, 15⟩ [] hTb (fun z hz => by obtain rfl := List.mem_singleton.mp hz; exact Or.inr ⟨by decide, eIA, hts (.classLink RL 13 eIA) (by decide +kernel), hca.2.1.1⟩) (by decide) (by decide) (hts (.classLink RL 15 eIS) (by decide +kernel)) (va_Nw.use rfl hca.1.2.1) hc1 hc2 hc3 ?_
      refine lv_astore (lv' := [(5, .ref q9), (0, .ref (a 0)), (1, .int x), (2, .int y), (3, .int z), (4, .ref o)]) hx hb dL_addChange_19 hl (by decide) rfl (fun ls hl => ?_)
      refine lv_iconst (v := 2) hx hb dL_addChange_21 (by decide) ?_
      exact ml_ri (tr9, f) hx hb hr hlocks hP hK hD hS (by rw [e9]) ⟨by rw [e9], fun h9 => absurd h9 (by rw [e9]; show ¬ ((2 : Int32) = 0); decide)⟩ dL_addChange_22
  · have hP : va_P G vwCl (wL a cy ((sp_addChange T x y z).2.2) u o f) H := hP
    have hD : va_D A (wL a cy ((sp_addChange T x y z).2.2) u o f) := hD
    refine W.widen (k := 1) (n := 6) (Nat.le_of_ble_eq_true rfl) (Nat.le_of_ble_eq_true rfl) ?_
    refine lv_i2l (v := r.toInt64) hx hb dL_addChange_10 rfl ?_
    refine ml_last hx hb hK hP hD hS 0 1 rfl rfl 0 rfl (by decide) (by decide) dL_addChange_11 (fun H locs hP hD hS => ?_)
    have hP : va_P G vwCl (wL a cy ((sp_addChange T x y z).2.2) u o (vp_updL f 0 (r.toInt64))) H := hP
    have hD : va_D A (wL a cy ((sp_addChange T x y z).2.2) u o (vp_updL f 0 (r.toInt64))) := hD
    refine lv_goto (tgt := 23) hx hb dL_addChange_12 (by decide) ?_
    refine lv_iconst (v := 0) hx hb dL_addChange_23 (by decide) ?_
    exact ml_ri (u, vp_updL f 0 r.toInt64) hx hb hr hlocks hP hK hD hS rfl ⟨hw.1.symm, fun _ => (show vp_updL f 0 r.toInt64 0 = _ from pk_uLs.trans (congrArg Int32.toInt64 hw.2.symm))⟩ dL_addChange_24
set_option maxHeartbeats 4000000 in
set_option maxRecDepth 100000 in
theorem c_L_edit (l : Launch) (hlt : l.stackTraces = false) (G : va_G) (cy : Nat → ClassId) (a : Nat → Nat) (sz : Nat) (T : TS) (tr : Nat → Int32) (h : Int32) (x : Int32) (y : Int32) (z : Int32) (o : Nat) (f : Nat → Int64) (hI : Inv T) : Met l yL_edit wsL_edit ({ frames := 9, cells := 1, slots := 6, locals := 148 } : Room) (ml_PX G cy [.ref (a 0), .int h, .int x, .int y, .int z, .ref o] (wL a cy T tr o f) sz) (va_Qi (fun (r : Int32) (u : (Nat → Int32) × (Nat → Int64)) => r = (sp_edit T h x y z).1 ∧ ((sp_edit T h x y z).1 = 0 → u.2 0 = (sp_edit T h x y z).2.1.toInt64)) (ml_B G cy (va_A (wL a cy T tr o f) sz) (fun u : (Nat → Int32) × (Nat → Int64) => (wL a cy (sp_edit T h x y z).2.2 u.1 o u.2))) (va_A (wL a cy T tr o f) sz)) 1 6 (va_A (wL a cy T tr o f) sz) := by
  refine va_MetW (cc := cL_edit) (maxL := 7) (ret := some .int) (hh := [(0, 14, 17, 13), (0, 14, 21, 21), (0, 14, 25, 15)]) (by decide) rfl ?_
  intro p e s m args below meth c s₁ B hml hv
  obtain ⟨rfl, hsz, hP, hK, hD0, hN, hE⟩ := hv
  have hx := B.exec
  have hb := B.bytes
  have hr := B.returns
  have hts := atoms_spec (ws := wsL_edit) B.pre
  have hTb : c.exceptionTable.toList = tableOf [(0, 14, 17, 13), (0, 14, 21, 21), (0, 14, 25, 15)] := vx_table (x := yL_edit) B (hts _ List.mem_cons_self)
  have hown : s.vm.findClass RL = some m.cls := findClass_of_methodNamed B.named
  have hlocks := B.notSynchronized
  have hca := hE.2.2.2
  subst hsz
  have hD := hD0.self (sz := s.heap.size)
  generalize hAe : va_A (wL a cy T tr o f) s.heap.size = A at hD hE ⊢
  have hA : ∀ q : Nat, s.heap.size ≤ q → A q := fun q h => by rw [← hAe]; exact Or.inr h
  have hS : va_S A s.heap s.heap [] := va_S.rf
  have hP : va_P G vwCl (wL a cy T tr o f) s.heap := hP
  have hl := lv_entry ([.ref (a 0), .int h, .int x, .int y, .int z, .ref o]) (n := 7) (Nat.le_of_ble_eq_true rfl)
  rw [lg_entry_eq]
  generalize (lg_sl ([.ref (a 0), .int h, .int x, .int y, .int z, .ref o]) ++ List.replicate (7 - (lg_sl ([.ref (a 0), .int h, .int x, .int y, .int z, .ref o])).length) Slot.unset).toArray = ls at hl ⊢
  have hl : lv_has ls 7 [(0, .ref (a 0)), (1, .int h), (2, .int x), (3, .int y), (4, .int z), (5, .ref o)] := hl
  refine lv_aload hx hb dL_edit_0 (lv_at hl 5 rfl) ?_
  refine lv_iconst (v := 0) hx hb dL_edit_2 (by decide) ?_
  refine lv_aload_n hx hb dL_edit_3 rfl (lv_at hl 0 rfl) ?_
  refine lv_iload_n hx hb dL_edit_4 rfl (lv_at hl 1 rfl) ?_
  refine lv_iload_n hx hb dL_edit_5 rfl (lv_at hl 2 rfl) ?_
  refine lv_iload_n hx hb dL_edit_6 rfl (lv_at hl 3 rfl) ?_
  refine lv_iload hx hb dL_edit_7 (lv_at hl 4 rfl) ?_
  have hPc := hP.sub (ws' := wC a cy T tr) [1, 2, 3, 4, 5, 6, 7, 8, 9, 10, 11, 12] rfl
  have hDc := hD.sub (ws' := wC a cy T tr) [1, 2, 3, 4, 5, 6, 7, 8, 9, 10, 11, 12] (by decide) rfl
  refine mo_xVi (G := G) (wr := [(o, .inl (cy 1, 1, .inr (.inl f)))]) (As := [.int h, .int x, .int y, .int z]) (rest := [.int 0, .ref o]) ⟨hx, hb, hml, hown, hts⟩ (c_X3_edit l hlt G cy a s.heap.size T tr h x y z hI) (cwV 4 hts gL_edit_X3_edit rfl rfl rfl (by decide +kernel) ⟨Nat.le_of_ble_eq_true rfl, Nat.le_of_ble_eq_true rfl⟩) (va_recv hK hPc (ci := 3) (q0 := 0) rfl rfl) hPc hDc hP hK hD hS hA [1, 2, 3, 4, 5, 6, 7, 8, 9, 10, 11, 12] [0] rfl rfl (by decide) (by decide) hN hE rfl hl.1 (Nat.le_of_ble_eq_true rfl) dL_edit_9 ⟨Nat.le_of_ble_eq_true rfl, Nat.le_of_ble_eq_true rfl⟩ (fun E ce q9 H locs tr9 hpx hP hD hS hc1 hc2 hc3 => ?_) (fun r u H locs hw hP hD hS => ?_)
  · have hP : va_P G vwCl (wL a cy T tr9 o f) H := hP
    have hD : va_D A (wL a cy T tr9 o f) := hD
    rcases hpx with ⟨rfl, e9⟩ | ⟨rfl, e9⟩ | ⟨rfl, e9⟩
    · refine vx_catch (own := RL) (name := eIA) hown [] ⟨0, 14, 17, 13⟩ [⟨0, 14, 21, 21⟩, ⟨0, 14, 25, 15⟩] hTb (fun z hz => absurd hz List.not_mem_nil) (by decide) (by decide) (hts (.classLink RL 13 eIA) (by decide +kernel)) (va_Nw.use rfl hca.1.1) hc1 hc2 hc3 ?_
      refine lv_astore (lv' := [(6, .ref q9), (0, .ref (a 0)), (1, .int h), (2, .int x), (3, .int y), (4, .int z), (5, .ref o)]) hx hb dL_edit_17 hl (by decide) rfl (fun ls hl => ?_)
      refine lv_iconst (v := 1) hx hb dL_edit_19 (by decide) ?_
      exact ml_ri (tr9, f) hx hb hr hlocks hP hK hD hS (by rw [e9]) ⟨by rw [e9], fun h9 => absurd h9 (by rw [e9]; show ¬ ((1 : Int32) = 0); decide)⟩ dL_edit_20
    · refine vx_catch (own := RL) (name := eIB) hown [⟨0, 14, 17, 13⟩] ⟨0, 14, 21, 21⟩ [⟨0, 14, 25, 15⟩] hTb (fun z hz => by obtain rfl := List.mem_singleton.mp hz; exact Or.inr ⟨by decide, eIA, hts (.classLink RL 13 eIA) (by decide +kernel), hca.2.1.2.1⟩) (by decide) (by decide) (hts (.classLink RL 21 eIB) (by decide +kernel)) (va_Nw.use rfl hca.1.2.2) hc1 hc2 hc3 ?_
      refine lv_astore (lv' := [(6, .ref q9), (0, .ref (a 0)), (1, .int h), (2, .int x), (3, .int y), (4, .int z), (5, .ref o)]) hx hb dL_edit_21 hl (by decide) rfl (fun ls hl => ?_)
      refine lv_iconst (v := 2) hx hb dL_edit_23 (by decide) ?_
      exact ml_ri (tr9, f) hx hb hr hlocks hP hK hD hS (by rw [e9]) ⟨by rw [e9], fun h9 => absurd h9 (by rw [e9]; show ¬ ((2 : Int32) = 0); decide)⟩ dL_edit_24
    · refine vx_catch (own := RL) (name := eIS) hown [⟨0, 14, 17, 13⟩, ⟨0, 14, 21, 21⟩] ⟨0, 14, 25, 15⟩ [] hTb (fun z hz => by rcases List.mem_cons.mp hz with rfl | hz; exact Or.inr ⟨by decide, eIA, hts (.classLink RL 13 eIA) (by decide +kernel), hca.2.1.1⟩; obtain rfl := List.mem_singleton.mp hz; exact Or.inr ⟨by decide, eIB, hts (.classLink RL 21 eIB) (by decide +kernel), hca.2.1.2.2.1⟩) (by decide) (by decide) (hts (.classLink RL 15 eIS) (by decide +kernel)) (va_Nw.use rfl hca.1.2.1) hc1 hc2 hc3 ?_
      refine lv_astore (lv' := [(6, .ref q9), (0, .ref (a 0)), (1, .int h), (2, .int x), (3, .int y), (4, .int z), (5, .ref o)]) hx hb dL_edit_25 hl (by decide) rfl (fun ls hl => ?_)
      refine lv_iconst (v := 3) hx hb dL_edit_27 (by decide) ?_
      exact ml_ri (tr9, f) hx hb hr hlocks hP hK hD hS (by rw [e9]) ⟨by rw [e9], fun h9 => absurd h9 (by rw [e9]; show ¬ ((3 : Int32) = 0); decide)⟩ dL_edit_28
  · have hP : va_P G vwCl (wL a cy ((sp_edit T h x y z).2.2) u o f) H := hP
    have hD : va_D A (wL a cy ((sp_edit T h x y z).2.2) u o f) := hD
    refine W.widen (k := 1) (n := 6) (Nat.le_of_ble_eq_true rfl) (Nat.le_of_ble_eq_true rfl) ?_
    refine lv_i2l (v := r.toInt64) hx hb dL_edit_12 rfl ?_
    refine ml_last hx hb hK hP hD hS 0 1 rfl rfl 0 rfl (by decide) (by decide) dL_edit_13 (fun H locs hP hD hS => ?_)
    have hP : va_P G vwCl (wL a cy ((sp_edit T h x y z).2.2) u o (vp_updL f 0 (r.toInt64))) H := hP
    have hD : va_D A (wL a cy ((sp_edit T h x y z).2.2) u o (vp_updL f 0 (r.toInt64))) := hD
    refine lv_goto (tgt := 29) hx hb dL_edit_14 (by decide) ?_
    refine lv_iconst (v := 0) hx hb dL_edit_29 (by decide) ?_
    exact ml_ri (u, vp_updL f 0 r.toInt64) hx hb hr hlocks hP hK hD hS rfl ⟨hw.1.symm, fun _ => (show vp_updL f 0 r.toInt64 0 = _ from pk_uLs.trans (congrArg Int32.toInt64 hw.2.symm))⟩ dL_edit_30
set_option maxHeartbeats 4000000 in
set_option maxRecDepth 100000 in
theorem c_L_checksum (l : Launch) (hlt : l.stackTraces = false) (G : va_G) (cy : Nat → ClassId) (a : Nat → Nat) (sz : Nat) (T : TS) (tr : Nat → Int32) (x : Int32) (o : Nat) (f : Nat → Int64) (hI : Inv T) : Met l yL_checksum wsL_checksum ({ frames := 8, cells := 1, slots := 6, locals := 124 } : Room) (ml_PX G cy [.ref (a 0), .int x, .ref o] (wL a cy T tr o f) sz) (va_Qi (fun (r : Int32) (u : (Nat → Int32) × (Nat → Int64)) => r = (sp_checksum T x).1 ∧ ((sp_checksum T x).1 = 0 → u.2 0 = (sp_checksum T x).2.1.toInt64)) (ml_B G cy (va_A (wL a cy T tr o f) sz) (fun u : (Nat → Int32) × (Nat → Int64) => (wL a cy (sp_checksum T x).2.2 u.1 o u.2))) (va_A (wL a cy T tr o f) sz)) 1 6 (va_A (wL a cy T tr o f) sz) := by
  refine va_MetW (cc := cL_checksum) (maxL := 4) (ret := some .int) (hh := [(0, 9, 12, 21)]) (by decide) rfl ?_
  intro p e s m args below meth c s₁ B hml hv
  obtain ⟨rfl, hsz, hP, hK, hD0, hN, hE⟩ := hv
  have hx := B.exec
  have hb := B.bytes
  have hr := B.returns
  have hts := atoms_spec (ws := wsL_checksum) B.pre
  have hTb : c.exceptionTable.toList = tableOf [(0, 9, 12, 21)] := vx_table (x := yL_checksum) B (hts _ List.mem_cons_self)
  have hown : s.vm.findClass RL = some m.cls := findClass_of_methodNamed B.named
  have hlocks := B.notSynchronized
  have hca := hE.2.2.2
  subst hsz
  have hD := hD0.self (sz := s.heap.size)
  generalize hAe : va_A (wL a cy T tr o f) s.heap.size = A at hD hE ⊢
  have hA : ∀ q : Nat, s.heap.size ≤ q → A q := fun q h => by rw [← hAe]; exact Or.inr h
  have hS : va_S A s.heap s.heap [] := va_S.rf
  have hP : va_P G vwCl (wL a cy T tr o f) s.heap := hP
  have hl := lv_entry ([.ref (a 0), .int x, .ref o]) (n := 4) (Nat.le_of_ble_eq_true rfl)
  rw [lg_entry_eq]
  generalize (lg_sl ([.ref (a 0), .int x, .ref o]) ++ List.replicate (4 - (lg_sl ([.ref (a 0), .int x, .ref o])).length) Slot.unset).toArray = ls at hl ⊢
  have hl : lv_has ls 4 [(0, .ref (a 0)), (1, .int x), (2, .ref o)] := hl
  refine lv_aload_n hx hb dL_checksum_0 rfl (lv_at hl 2 rfl) ?_
  refine lv_iconst (v := 0) hx hb dL_checksum_1 (by decide) ?_
  refine lv_aload_n hx hb dL_checksum_2 rfl (lv_at hl 0 rfl) ?_
  refine lv_iload_n hx hb dL_checksum_3 rfl (lv_at hl 1 rfl) ?_
  have hPc := hP.sub (ws' := wC a cy T tr) [1, 2, 3, 4, 5, 6, 7, 8, 9, 10, 11, 12] rfl
  have hDc := hD.sub (ws' := wC a cy T tr) [1, 2, 3, 4, 5, 6, 7, 8, 9, 10, 11, 12] (by decide) rfl
  refine mo_xVi (G := G) (wr := [(o, .inl (cy 1, 1, .inr (.inl f)))]) (As := [.int x]) (rest := [.int 0, .ref o]) ⟨hx, hb, hml, hown, hts⟩ (c_X3_checksum l hlt G cy a s.heap.size T tr x hI) (cwV 1 hts gL_checksum_X3_checksum rfl rfl rfl (by decide +kernel) ⟨Nat.le_of_ble_eq_true rfl, Nat.le_of_ble_eq_true rfl⟩) (va_recv hK hPc (ci := 3) (q0 := 0) rfl rfl) hPc hDc hP hK hD hS hA [1, 2, 3, 4, 5, 6, 7, 8, 9, 10, 11, 12] [0] rfl rfl (by decide) (by decide) hN hE rfl hl.1 (Nat.le_of_ble_eq_true rfl) dL_checksum_4 ⟨Nat.le_of_ble_eq_true rfl, Nat.le_of_ble_eq_true rfl⟩ (fun E ce q9 H locs tr9 hpx hP hD hS hc1 hc2 hc3 => ?_) (fun r u H locs hw hP hD hS => ?_)
  · have hP : va_P G vwCl (wL a cy T tr9 o f) H := hP
    have hD : va_D A (wL a cy T tr9 o f) := hD
    obtain ⟨rfl, e9⟩ := hpx
    refine vx_catch (own := RL) (name := eIB) hown [] ⟨0, 9, 12, 21⟩ [] hTb (fun z hz => absurd hz List.not_mem_nil) (by decide) (by decide) (hts (.classLink RL 21 eIB) (by decide +kernel)) (va_Nw.use rfl hca.1.2.2) hc1 hc2 hc3 ?_
    refine lv_astore_n (lv' := [(3, .ref q9), (0, .ref (a 0)), (1, .int x), (2, .ref o)]) hx hb dL_checksum_12 rfl hl (by decide) rfl (fun ls hl => ?_)
    refine lv_iconst (v := 1) hx hb dL_checksum_13 (by decide) ?_
    exact ml_ri (tr9, f) hx hb hr hlocks hP hK hD hS (by rw [e9]) ⟨by rw [e9], fun h9 => absurd h9 (by rw [e9]; show ¬ ((1 : Int32) = 0); decide)⟩ dL_checksum_14
  · have hP : va_P G vwCl (wL a cy ((sp_checksum T x).2.2) u o f) H := hP
    have hD : va_D A (wL a cy ((sp_checksum T x).2.2) u o f) := hD
    refine W.widen (k := 1) (n := 6) (Nat.le_of_ble_eq_true rfl) (Nat.le_of_ble_eq_true rfl) ?_
    refine lv_i2l (v := r.toInt64) hx hb dL_checksum_7 rfl ?_
    refine ml_last hx hb hK hP hD hS 0 1 rfl rfl 0 rfl (by decide) (by decide) dL_checksum_8 (fun H locs hP hD hS => ?_)
    have hP : va_P G vwCl (wL a cy ((sp_checksum T x).2.2) u o (vp_updL f 0 (r.toInt64))) H := hP
    have hD : va_D A (wL a cy ((sp_checksum T x).2.2) u o (vp_updL f 0 (r.toInt64))) := hD
    refine lv_goto (tgt := 15) hx hb dL_checksum_9 (by decide) ?_
    refine lv_iconst (v := 0) hx hb dL_checksum_15 (by decide) ?_
    exact ml_ri (u, vp_updL f 0 r.toInt64) hx hb hr hlocks hP hK hD hS rfl ⟨hw.1.symm, fun _ => (show vp_updL f 0 r.toInt64 0 = _ from pk_uLs.trans (congrArg Int32.toInt64 hw.2.symm))⟩ dL_checksum_16
set_option maxHeartbeats 4000000 in
set_option maxRecDepth 100000 in
theorem c_L_state (l : Launch) (hlt : l.stackTraces = false) (G : va_G) (cy : Nat → ClassId) (a : Nat → Nat) (sz : Nat) (T : TS) (tr : Nat → Int32) (x : Int32) (o : Nat) (f : Nat → Int64) (hI : Inv T) : Met l yL_state wsL_state ({ frames := 8, cells := 1, slots := 6, locals := 124 } : Room) (ml_PX G cy [.ref (a 0), .int x, .ref o] (wL a cy T tr o f) sz) (va_Qi (fun (r : Int32) (u : (Nat → Int32) × (Nat → Int64)) => r = (sp_state T x).1 ∧ ((sp_state T x).1 = 0 → u.2 0 = (sp_state T x).2.1.toInt64)) (ml_B G cy (va_A (wL a cy T tr o f) sz) (fun u : (Nat → Int32) × (Nat → Int64) => (wL a cy (sp_state T x).2.2 u.1 o u.2))) (va_A (wL a cy T tr o f) sz)) 1 6 (va_A (wL a cy T tr o f) sz) := by
  refine va_MetW (cc := cL_state) (maxL := 4) (ret := some .int) (hh := [(0, 9, 12, 21)]) (by decide) rfl ?_
  intro p e s m args below meth c s₁ B hml hv
  obtain ⟨rfl, hsz, hP, hK, hD0, hN, hE⟩ := hv
  have hx := B.exec
  have hb := B.bytes
  have hr := B.returns
  have hts := atoms_spec (ws := wsL_state) B.pre
  have hTb : c.exceptionTable.toList = tableOf [(0, 9, 12, 21)] := vx_table (x := yL_state) B (hts _ List.mem_cons_self)
  have hown : s.vm.findClass RL = some m.cls := findClass_of_methodNamed B.named
  have hlocks := B.notSynchronized
  have hca := hE.2.2.2
  subst hsz
  have hD := hD0.self (sz := s.heap.size)
  generalize hAe : va_A (wL a cy T tr o f) s.heap.size = A at hD hE ⊢
  have hA : ∀ q : Nat, s.heap.size ≤ q → A q := fun q h => by rw [← hAe]; exact Or.inr h
  have hS : va_S A s.heap s.heap [] := va_S.rf
  have hP : va_P G vwCl (wL a cy T tr o f) s.heap := hP
  have hl := lv_entry ([.ref (a 0), .int x, .ref o]) (n := 4) (Nat.le_of_ble_eq_true rfl)
  rw [lg_entry_eq]
  generalize (lg_sl ([.ref (a 0), .int x, .ref o]) ++ List.replicate (4 - (lg_sl ([.ref (a 0), .int x, .ref o])).length) Slot.unset).toArray = ls at hl ⊢
  have hl : lv_has ls 4 [(0, .ref (a 0)), (1, .int x), (2, .ref o)] := hl
  refine lv_aload_n hx hb dL_state_0 rfl (lv_at hl 2 rfl) ?_
  refine lv_iconst (v := 0) hx hb dL_state_1 (by decide) ?_
  refine lv_aload_n hx hb dL_state_2 rfl (lv_at hl 0 rfl) ?_
  refine lv_iload_n hx hb dL_state_3 rfl (lv_at hl 1 rfl) ?_
  have hPc := hP.sub (ws' := wC a cy T tr) [1, 2, 3, 4, 5, 6, 7, 8, 9, 10, 11, 12] rfl
  have hDc := hD.sub (ws' := wC a cy T tr) [1, 2, 3, 4, 5, 6, 7, 8, 9, 10, 11, 12] (by decide) rfl
  refine mo_xVi (G := G) (wr := [(o, .inl (cy 1, 1, .inr (.inl f)))]) (As := [.int x]) (rest := [.int 0, .ref o]) ⟨hx, hb, hml, hown, hts⟩ (c_X3_state l hlt G cy a s.heap.size T tr x hI) (cwV 1 hts gL_state_X3_state rfl rfl rfl (by decide +kernel) ⟨Nat.le_of_ble_eq_true rfl, Nat.le_of_ble_eq_true rfl⟩) (va_recv hK hPc (ci := 3) (q0 := 0) rfl rfl) hPc hDc hP hK hD hS hA [1, 2, 3, 4, 5, 6, 7, 8, 9, 10, 11, 12] [0] rfl rfl (by decide) (by decide) hN hE rfl hl.1 (Nat.le_of_ble_eq_true rfl) dL_state_4 ⟨Nat.le_of_ble_eq_true rfl, Nat.le_of_ble_eq_true rfl⟩ (fun E ce q9 H locs tr9 hpx hP hD hS hc1 hc2 hc3 => ?_) (fun r u H locs hw hP hD hS => ?_)
  · have hP : va_P G vwCl (wL a cy T tr9 o f) H := hP
    have hD : va_D A (wL a cy T tr9 o f) := hD
    obtain ⟨rfl, e9⟩ := hpx
    refine vx_catch (own := RL) (name := eIB) hown [] ⟨0, 9, 12, 21⟩ [] hTb (fun z hz => absurd hz List.not_mem_nil) (by decide) (by decide) (hts (.classLink RL 21 eIB) (by decide +kernel)) (va_Nw.use rfl hca.1.2.2) hc1 hc2 hc3 ?_
    refine lv_astore_n (lv' := [(3, .ref q9), (0, .ref (a 0)), (1, .int x), (2, .ref o)]) hx hb dL_state_12 rfl hl (by decide) rfl (fun ls hl => ?_)
    refine lv_iconst (v := 1) hx hb dL_state_13 (by decide) ?_
    exact ml_ri (tr9, f) hx hb hr hlocks hP hK hD hS (by rw [e9]) ⟨by rw [e9], fun h9 => absurd h9 (by rw [e9]; show ¬ ((1 : Int32) = 0); decide)⟩ dL_state_14
  · have hP : va_P G vwCl (wL a cy ((sp_state T x).2.2) u o f) H := hP
    have hD : va_D A (wL a cy ((sp_state T x).2.2) u o f) := hD
    refine W.widen (k := 1) (n := 6) (Nat.le_of_ble_eq_true rfl) (Nat.le_of_ble_eq_true rfl) ?_
    refine lv_i2l (v := r.toInt64) hx hb dL_state_7 rfl ?_
    refine ml_last hx hb hK hP hD hS 0 1 rfl rfl 0 rfl (by decide) (by decide) dL_state_8 (fun H locs hP hD hS => ?_)
    have hP : va_P G vwCl (wL a cy ((sp_state T x).2.2) u o (vp_updL f 0 (r.toInt64))) H := hP
    have hD : va_D A (wL a cy ((sp_state T x).2.2) u o (vp_updL f 0 (r.toInt64))) := hD
    refine lv_goto (tgt := 15) hx hb dL_state_9 (by decide) ?_
    refine lv_iconst (v := 0) hx hb dL_state_15 (by decide) ?_
    exact ml_ri (u, vp_updL f 0 r.toInt64) hx hb hr hlocks hP hK hD hS rfl ⟨hw.1.symm, fun _ => (show vp_updL f 0 r.toInt64 0 = _ from pk_uLs.trans (congrArg Int32.toInt64 hw.2.symm))⟩ dL_state_16
set_option maxHeartbeats 4000000 in
set_option maxRecDepth 100000 in
theorem c_L_insert (l : Launch) (hlt : l.stackTraces = false) (G : va_G) (cy : Nat → ClassId) (a : Nat → Nat) (sz : Nat) (T : TS) (tr : Nat → Int32) (h : Int32) (x : Int32) (y : Int32) (z : Int32) (o : Nat) (f : Nat → Int64) (hI : Inv T) : Met l yL_insert wsL_insert ({ frames := 8, cells := 1, slots := 6, locals := 127 } : Room) (ml_PX G cy [.ref (a 0), .int h, .int x, .int y, .int z, .ref o] (wL a cy T tr o f) sz) (va_Qi (fun (r : Int32) (u : (Nat → Int32) × (Nat → Int64)) => r = (sp_insert T h x y z).1 ∧ ((sp_insert T h x y z).1 = 0 → u.2 0 = (sp_insert T h x y z).2.1.toInt64)) (ml_B G cy (va_A (wL a cy T tr o f) sz) (fun u : (Nat → Int32) × (Nat → Int64) => (wL a cy (sp_insert T h x y z).2.2 u.1 o u.2))) (va_A (wL a cy T tr o f) sz)) 1 6 (va_A (wL a cy T tr o f) sz) := by
  refine va_MetW (cc := cL_insert) (maxL := 7) (ret := some .int) (hh := [(0, 14, 17, 13), (0, 14, 21, 15)]) (by decide) rfl ?_
  intro p e s m args below meth c s₁ B hml hv
  obtain ⟨rfl, hsz, hP, hK, hD0, hN, hE⟩ := hv
  have hx := B.exec
  have hb := B.bytes
  have hr := B.returns
  have hts := atoms_spec (ws := wsL_insert) B.pre
  have hTb : c.exceptionTable.toList = tableOf [(0, 14, 17, 13), (0, 14, 21, 15)] := vx_table (x := yL_insert) B (hts _ List.mem_cons_self)
  have hown : s.vm.findClass RL = some m.cls := findClass_of_methodNamed B.named
  have hlocks := B.notSynchronized
  have hca := hE.2.2.2
  subst hsz
  have hD := hD0.self (sz := s.heap.size)
  generalize hAe : va_A (wL a cy T tr o f) s.heap.size = A at hD hE ⊢
  have hA : ∀ q : Nat, s.heap.size ≤ q → A q := fun q h => by rw [← hAe]; exact Or.inr h
  have hS : va_S A s.heap s.heap [] := va_S.rf
  have hP : va_P G vwCl (wL a cy T tr o f) s.heap := hP
  have hl := lv_entry ([.ref (a 0), .int h, .int x, .int y, .int z, .ref o]) (n := 7) (Nat.le_of_ble_eq_true rfl)
  rw [lg_entry_eq]
  generalize (lg_sl ([.ref (a 0), .int h, .int x, .int y, .int z, .ref o]) ++ List.replicate (7 - (lg_sl ([.ref (a 0), .int h, .int x, .int y, .int z, .ref o])).length) Slot.unset).toArray = ls at hl ⊢
  have hl : lv_has ls 7 [(0, .ref (a 0)), (1, .int h), (2, .int x), (3, .int y), (4, .int z), (5, .ref o)] := hl
  refine lv_aload hx hb dL_insert_0 (lv_at hl 5 rfl) ?_
  refine lv_iconst (v := 0) hx hb dL_insert_2 (by decide) ?_
  refine lv_aload_n hx hb dL_insert_3 rfl (lv_at hl 0 rfl) ?_
  refine lv_iload_n hx hb dL_insert_4 rfl (lv_at hl 1 rfl) ?_
  refine lv_iload_n hx hb dL_insert_5 rfl (lv_at hl 2 rfl) ?_
  refine lv_iload_n hx hb dL_insert_6 rfl (lv_at hl 3 rfl) ?_
  refine lv_iload hx hb dL_insert_7 (lv_at hl 4 rfl) ?_
  have hPc := hP.sub (ws' := wC a cy T tr) [1, 2, 3, 4, 5, 6, 7, 8, 9, 10, 11, 12] rfl
  have hDc := hD.sub (ws' := wC a cy T tr) [1, 2, 3, 4, 5, 6, 7, 8, 9, 10, 11, 12] (by decide) rfl
  refine mo_xVi (G := G) (wr := [(o, .inl (cy 1, 1, .inr (.inl f)))]) (As := [.int h, .int x, .int y, .int z]) (rest := [.int 0, .ref o]) ⟨hx, hb, hml, hown, hts⟩ (c_X3_insert l hlt G cy a s.heap.size T tr h x y z hI) (cwV 4 hts gL_insert_X3_insert rfl rfl rfl (by decide +kernel) ⟨Nat.le_of_ble_eq_true rfl, Nat.le_of_ble_eq_true rfl⟩) (va_recv hK hPc (ci := 3) (q0 := 0) rfl rfl) hPc hDc hP hK hD hS hA [1, 2, 3, 4, 5, 6, 7, 8, 9, 10, 11, 12] [0] rfl rfl (by decide) (by decide) hN hE rfl hl.1 (Nat.le_of_ble_eq_true rfl) dL_insert_9 ⟨Nat.le_of_ble_eq_true rfl, Nat.le_of_ble_eq_true rfl⟩ (fun E ce q9 H locs tr9 hpx hP hD hS hc1 hc2 hc3 => ?_) (fun r u H locs hw hP hD hS => ?_)
  · have hP : va_P G vwCl (wL a cy T tr9 o f) H := hP
    have hD : va_D A (wL a cy T tr9 o f) := hD
    rcases hpx with ⟨rfl, e9⟩ | ⟨rfl, e9⟩
    · refine vx_catch (own := RL) (name := eIA) hown [] ⟨0, 14, 17, 13⟩ [⟨0, 14, 21, 15⟩] hTb (fun z hz => absurd hz List.not_mem_nil) (by decide) (by decide) (hts (.classLink RL 13 eIA) (by decide +kernel)) (va_Nw.use rfl hca.1.1) hc1 hc2 hc3 ?_
      refine lv_astore (lv' := [(6, .ref q9), (0, .ref (a 0)), (1, .int h), (2, .int x), (3, .int y), (4, .int z), (5, .ref o)]) hx hb dL_insert_17 hl (by decide) rfl (fun ls hl => ?_)
      refine lv_iconst (v := 1) hx hb dL_insert_19 (by decide) ?_
      exact ml_ri (tr9, f) hx hb hr hlocks hP hK hD hS (by rw [e9]) ⟨by rw [e9], fun h9 => absurd h9 (by rw [e9]; show ¬ ((1 : Int32) = 0); decide)⟩ dL_insert_20
    · refine vx_catch (own := RL) (name := eIS) hown [⟨0, 14, 17, 13⟩] ⟨0, 14, 21, 15⟩ [] hTb (fun z hz => by obtain rfl := List.mem_singleton.mp hz; exact Or.inr ⟨by decide, eIA, hts (.classLink RL 13 eIA) (by decide +kernel), hca.2.1.1⟩) (by decide) (by decide) (hts (.classLink RL 15 eIS) (by decide +kernel)) (va_Nw.use rfl hca.1.2.1) hc1 hc2 hc3 ?_
      refine lv_astore (lv' := [(6, .ref q9), (0, .ref (a 0)), (1, .int h), (2, .int x), (3, .int y), (4, .int z), (5, .ref o)]) hx hb dL_insert_21 hl (by decide) rfl (fun ls hl => ?_)
      refine lv_iconst (v := 2) hx hb dL_insert_23 (by decide) ?_
      exact ml_ri (tr9, f) hx hb hr hlocks hP hK hD hS (by rw [e9]) ⟨by rw [e9], fun h9 => absurd h9 (by rw [e9]; show ¬ ((2 : Int32) = 0); decide)⟩ dL_insert_24
  · have hP : va_P G vwCl (wL a cy ((sp_insert T h x y z).2.2) u o f) H := hP
    have hD : va_D A (wL a cy ((sp_insert T h x y z).2.2) u o f) := hD
    refine W.widen (k := 1) (n := 6) (Nat.le_of_ble_eq_true rfl) (Nat.le_of_ble_eq_true rfl) ?_
    refine lv_i2l (v := r.toInt64) hx hb dL_insert_12 rfl ?_
    refine ml_last hx hb hK hP hD hS 0 1 rfl rfl 0 rfl (by decide) (by decide) dL_insert_13 (fun H locs hP hD hS => ?_)
    have hP : va_P G vwCl (wL a cy ((sp_insert T h x y z).2.2) u o (vp_updL f 0 (r.toInt64))) H := hP
    have hD : va_D A (wL a cy ((sp_insert T h x y z).2.2) u o (vp_updL f 0 (r.toInt64))) := hD
    refine lv_goto (tgt := 25) hx hb dL_insert_14 (by decide) ?_
    refine lv_iconst (v := 0) hx hb dL_insert_25 (by decide) ?_
    exact ml_ri (u, vp_updL f 0 r.toInt64) hx hb hr hlocks hP hK hD hS rfl ⟨hw.1.symm, fun _ => (show vp_updL f 0 r.toInt64 0 = _ from pk_uLs.trans (congrArg Int32.toInt64 hw.2.symm))⟩ dL_insert_26
set_option maxHeartbeats 4000000 in
set_option maxRecDepth 100000 in
theorem c_L_write (l : Launch) (hlt : l.stackTraces = false) (G : va_G) (cy : Nat → ClassId) (a : Nat → Nat) (sz : Nat) (T : TS) (tr : Nat → Int32) (x : Int32) (y : Int32) (z : Int32) (o : Nat) (f : Nat → Int64) (hI : Inv T) : Met l yL_write wsL_write ({ frames := 8, cells := 1, slots := 6, locals := 127 } : Room) (ml_PX G cy [.ref (a 0), .int x, .int y, .int z, .ref o] (wL a cy T tr o f) sz) (va_Qi (fun (r : Int32) (u : (Nat → Int32) × (Nat → Int64)) => r = (sp_write T x y z).1 ∧ ((sp_write T x y z).1 = 0 → u.2 0 = (sp_write T x y z).2.1.toInt64)) (ml_B G cy (va_A (wL a cy T tr o f) sz) (fun u : (Nat → Int32) × (Nat → Int64) => (wL a cy (sp_write T x y z).2.2 u.1 o u.2))) (va_A (wL a cy T tr o f) sz)) 1 6 (va_A (wL a cy T tr o f) sz) := by
  refine va_MetW (cc := cL_write) (maxL := 6) (ret := some .int) (hh := [(0, 12, 15, 13), (0, 12, 19, 21)]) (by decide) rfl ?_
  intro p e s m args below meth c s₁ B hml hv
  obtain ⟨rfl, hsz, hP, hK, hD0, hN, hE⟩ := hv
  have hx := B.exec
  have hb := B.bytes
  have hr := B.returns
  have hts := atoms_spec (ws := wsL_write) B.pre
  have hTb : c.exceptionTable.toList = tableOf [(0, 12, 15, 13), (0, 12, 19, 21)] := vx_table (x := yL_write) B (hts _ List.mem_cons_self)
  have hown : s.vm.findClass RL = some m.cls := findClass_of_methodNamed B.named
  have hlocks := B.notSynchronized
  have hca := hE.2.2.2
  subst hsz
  have hD := hD0.self (sz := s.heap.size)
  generalize hAe : va_A (wL a cy T tr o f) s.heap.size = A at hD hE ⊢
  have hA : ∀ q : Nat, s.heap.size ≤ q → A q := fun q h => by rw [← hAe]; exact Or.inr h
  have hS : va_S A s.heap s.heap [] := va_S.rf
  have hP : va_P G vwCl (wL a cy T tr o f) s.heap := hP
  have hl := lv_entry ([.ref (a 0), .int x, .int y, .int z, .ref o]) (n := 6) (Nat.le_of_ble_eq_true rfl)
  rw [lg_entry_eq]
  generalize (lg_sl ([.ref (a 0), .int x, .int y, .int z, .ref o]) ++ List.replicate (6 - (lg_sl ([.ref (a 0), .int x, .int y, .int z, .ref o])).length) Slot.unset).toArray = ls at hl ⊢
  have hl : lv_has ls 6 [(0, .ref (a 0)), (1, .int x), (2, .int y), (3, .int z), (4, .ref o)] := hl
  refine lv_aload hx hb dL_write_0 (lv_at hl 4 rfl) ?_
  refine lv_iconst (v := 0) hx hb dL_write_2 (by decide) ?_
  refine lv_aload_n hx hb dL_write_3 rfl (lv_at hl 0 rfl) ?_
  refine lv_iload_n hx hb dL_write_4 rfl (lv_at hl 1 rfl) ?_
  refine lv_iload_n hx hb dL_write_5 rfl (lv_at hl 2 rfl) ?_
  refine lv_iload_n hx hb dL_write_6 rfl (lv_at hl 3 rfl) ?_
  have hPc := hP.sub (ws' := wC a cy T tr) [1, 2, 3, 4, 5, 6, 7, 8, 9, 10, 11, 12] rfl
  have hDc := hD.sub (ws' := wC a cy T tr) [1, 2, 3, 4, 5, 6, 7, 8, 9, 10, 11, 12] (by decide) rfl
  refine mo_xVi (G := G) (wr := [(o, .inl (cy 1, 1, .inr (.inl f)))]) (As := [.int x, .int y, .int z]) (rest := [.int 0, .ref o]) ⟨hx, hb, hml, hown, hts⟩ (c_X3_write l hlt G cy a s.heap.size T tr x y z hI) (cwV 3 hts gL_write_X3_write rfl rfl rfl (by decide +kernel) ⟨Nat.le_of_ble_eq_true rfl, Nat.le_of_ble_eq_true rfl⟩) (va_recv hK hPc (ci := 3) (q0 := 0) rfl rfl) hPc hDc hP hK hD hS hA [1, 2, 3, 4, 5, 6, 7, 8, 9, 10, 11, 12] [0] rfl rfl (by decide) (by decide) hN hE rfl hl.1 (Nat.le_of_ble_eq_true rfl) dL_write_7 ⟨Nat.le_of_ble_eq_true rfl, Nat.le_of_ble_eq_true rfl⟩ (fun E ce q9 H locs tr9 hpx hP hD hS hc1 hc2 hc3 => ?_) (fun r u H locs hw hP hD hS => ?_)
  · have hP : va_P G vwCl (wL a cy T tr9 o f) H := hP
    have hD : va_D A (wL a cy T tr9 o f) := hD
    rcases hpx with ⟨rfl, e9⟩ | ⟨rfl, e9⟩
    · refine vx_catch (own := RL) (name := eIA) hown [] ⟨0, 12, 15, 13⟩ [⟨0, 12, 19, 21⟩] hTb (fun z hz => absurd hz List.not_mem_nil) (by decide) (by decide) (hts (.classLink RL 13 eIA) (by decide +kernel)) (va_Nw.use rfl hca.1.1) hc1 hc2 hc3 ?_
      refine lv_astore (lv' := [(5, .ref q9), (0, .ref (a 0)), (1, .int x), (2, .int y), (3, .int z), (4, .ref o)]) hx hb dL_write_15 hl (by decide) rfl (fun ls hl => ?_)
      refine lv_iconst (v := 1) hx hb dL_write_17 (by decide) ?_
      exact ml_ri (tr9, f) hx hb hr hlocks hP hK hD hS (by rw [e9]) ⟨by rw [e9], fun h9 => absurd h9 (by rw [e9]; show ¬ ((1 : Int32) = 0); decide)⟩ dL_write_18
    · refine vx_catch (own := RL) (name := eIB) hown [⟨0, 12, 15, 13⟩] ⟨0, 12, 19, 21⟩ [] hTb (fun z hz => by obtain rfl := List.mem_singleton.mp hz; exact Or.inr ⟨by decide, eIA, hts (.classLink RL 13 eIA) (by decide +kernel), hca.2.1.2.1⟩) (by decide) (by decide) (hts (.classLink RL 21 eIB) (by decide +kernel)) (va_Nw.use rfl hca.1.2.2) hc1 hc2 hc3 ?_
      refine lv_astore (lv' := [(5, .ref q9), (0, .ref (a 0)), (1, .int x), (2, .int y), (3, .int z), (4, .ref o)]) hx hb dL_write_19 hl (by decide) rfl (fun ls hl => ?_)
      refine lv_iconst (v := 2) hx hb dL_write_21 (by decide) ?_
      exact ml_ri (tr9, f) hx hb hr hlocks hP hK hD hS (by rw [e9]) ⟨by rw [e9], fun h9 => absurd h9 (by rw [e9]; show ¬ ((2 : Int32) = 0); decide)⟩ dL_write_22
  · have hP : va_P G vwCl (wL a cy ((sp_write T x y z).2.2) u o f) H := hP
    have hD : va_D A (wL a cy ((sp_write T x y z).2.2) u o f) := hD
    refine W.widen (k := 1) (n := 6) (Nat.le_of_ble_eq_true rfl) (Nat.le_of_ble_eq_true rfl) ?_
    refine lv_i2l (v := r.toInt64) hx hb dL_write_10 rfl ?_
    refine ml_last hx hb hK hP hD hS 0 1 rfl rfl 0 rfl (by decide) (by decide) dL_write_11 (fun H locs hP hD hS => ?_)
    have hP : va_P G vwCl (wL a cy ((sp_write T x y z).2.2) u o (vp_updL f 0 (r.toInt64))) H := hP
    have hD : va_D A (wL a cy ((sp_write T x y z).2.2) u o (vp_updL f 0 (r.toInt64))) := hD
    refine lv_goto (tgt := 23) hx hb dL_write_12 (by decide) ?_
    refine lv_iconst (v := 0) hx hb dL_write_23 (by decide) ?_
    exact ml_ri (u, vp_updL f 0 r.toInt64) hx hb hr hlocks hP hK hD hS rfl ⟨hw.1.symm, fun _ => (show vp_updL f 0 r.toInt64 0 = _ from pk_uLs.trans (congrArg Int32.toInt64 hw.2.symm))⟩ dL_write_24
set_option maxHeartbeats 4000000 in
set_option maxRecDepth 100000 in
theorem c_L_delete (l : Launch) (hlt : l.stackTraces = false) (G : va_G) (cy : Nat → ClassId) (a : Nat → Nat) (sz : Nat) (T : TS) (tr : Nat → Int32) (x : Int32) (o : Nat) (f : Nat → Int64) (hI : Inv T) : Met l yL_delete wsL_delete ({ frames := 8, cells := 1, slots := 6, locals := 125 } : Room) (ml_PX G cy [.ref (a 0), .int x, .ref o] (wL a cy T tr o f) sz) (va_Qi (fun (r : Int32) (u : (Nat → Int32) × (Nat → Int64)) => r = (sp_delete T x).1 ∧ ((sp_delete T x).1 = 0 → u.2 0 = (sp_delete T x).2.1.toInt64)) (ml_B G cy (va_A (wL a cy T tr o f) sz) (fun u : (Nat → Int32) × (Nat → Int64) => (wL a cy (sp_delete T x).2.2 u.1 o u.2))) (va_A (wL a cy T tr o f) sz)) 1 6 (va_A (wL a cy T tr o f) sz) := by
  refine va_MetW (cc := cL_delete) (maxL := 4) (ret := some .int) (hh := [(0, 9, 12, 13), (0, 9, 15, 21)]) (by decide) rfl ?_
  intro p e s m args below meth c s₁ B hml hv
  obtain ⟨rfl, hsz, hP, hK, hD0, hN, hE⟩ := hv
  have hx := B.exec
  have hb := B.bytes
  have hr := B.returns
  have hts := atoms_spec (ws := wsL_delete) B.pre
  have hTb : c.exceptionTable.toList = tableOf [(0, 9, 12, 13), (0, 9, 15, 21)] := vx_table (x := yL_delete) B (hts _ List.mem_cons_self)
  have hown : s.vm.findClass RL = some m.cls := findClass_of_methodNamed B.named
  have hlocks := B.notSynchronized
  have hca := hE.2.2.2
  subst hsz
  have hD := hD0.self (sz := s.heap.size)
  generalize hAe : va_A (wL a cy T tr o f) s.heap.size = A at hD hE ⊢
  have hA : ∀ q : Nat, s.heap.size ≤ q → A q := fun q h => by rw [← hAe]; exact Or.inr h
  have hS : va_S A s.heap s.heap [] := va_S.rf
  have hP : va_P G vwCl (wL a cy T tr o f) s.heap := hP
  have hl := lv_entry ([.ref (a 0), .int x, .ref o]) (n := 4) (Nat.le_of_ble_eq_true rfl)
  rw [lg_entry_eq]
  generalize (lg_sl ([.ref (a 0), .int x, .ref o]) ++ List.replicate (4 - (lg_sl ([.ref (a 0), .int x, .ref o])).length) Slot.unset).toArray = ls at hl ⊢
  have hl : lv_has ls 4 [(0, .ref (a 0)), (1, .int x), (2, .ref o)] := hl
  refine lv_aload_n hx hb dL_delete_0 rfl (lv_at hl 2 rfl) ?_
  refine lv_iconst (v := 0) hx hb dL_delete_1 (by decide) ?_
  refine lv_aload_n hx hb dL_delete_2 rfl (lv_at hl 0 rfl) ?_
  refine lv_iload_n hx hb dL_delete_3 rfl (lv_at hl 1 rfl) ?_
  have hPc := hP.sub (ws' := wC a cy T tr) [1, 2, 3, 4, 5, 6, 7, 8, 9, 10, 11, 12] rfl
  have hDc := hD.sub (ws' := wC a cy T tr) [1, 2, 3, 4, 5, 6, 7, 8, 9, 10, 11, 12] (by decide) rfl
  refine mo_xVi (G := G) (wr := [(o, .inl (cy 1, 1, .inr (.inl f)))]) (As := [.int x]) (rest := [.int 0, .ref o]) ⟨hx, hb, hml, hown, hts⟩ (c_X3_delete l hlt G cy a s.heap.size T tr x hI) (cwV 1 hts gL_delete_X3_delete rfl rfl rfl (by decide +kernel) ⟨Nat.le_of_ble_eq_true rfl, Nat.le_of_ble_eq_true rfl⟩) (va_recv hK hPc (ci := 3) (q0 := 0) rfl rfl) hPc hDc hP hK hD hS hA [1, 2, 3, 4, 5, 6, 7, 8, 9, 10, 11, 12] [0] rfl rfl (by decide) (by decide) hN hE rfl hl.1 (Nat.le_of_ble_eq_true rfl) dL_delete_4 ⟨Nat.le_of_ble_eq_true rfl, Nat.le_of_ble_eq_true rfl⟩ (fun E ce q9 H locs tr9 hpx hP hD hS hc1 hc2 hc3 => ?_) (fun r u H locs hw hP hD hS => ?_)
  · have hP : va_P G vwCl (wL a cy T tr9 o f) H := hP
    have hD : va_D A (wL a cy T tr9 o f) := hD
    rcases hpx with ⟨rfl, e9⟩ | ⟨rfl, e9⟩
    · refine vx_catch (own := RL) (name := eIA) hown [] ⟨0, 9, 12, 13⟩ [⟨0, 9, 15, 21⟩] hTb (fun z hz => absurd hz List.not_mem_nil) (by decide) (by decide) (hts (.classLink RL 13 eIA) (by decide +kernel)) (va_Nw.use rfl hca.1.1) hc1 hc2 hc3 ?_
      refine lv_astore_n (lv' := [(3, .ref q9), (0, .ref (a 0)), (1, .int x), (2, .ref o)]) hx hb dL_delete_12 rfl hl (by decide) rfl (fun ls hl => ?_)
      refine lv_iconst (v := 1) hx hb dL_delete_13 (by decide) ?_
      exact ml_ri (tr9, f) hx hb hr hlocks hP hK hD hS (by rw [e9]) ⟨by rw [e9], fun h9 => absurd h9 (by rw [e9]; show ¬ ((1 : Int32) = 0); decide)⟩ dL_delete_14
    · refine vx_catch (own := RL) (name := eIB) hown [⟨0, 9, 12, 13⟩] ⟨0, 9, 15, 21⟩ [] hTb (fun z hz => by obtain rfl := List.mem_singleton.mp hz; exact Or.inr ⟨by decide, eIA, hts (.classLink RL 13 eIA) (by decide +kernel), hca.2.1.2.1⟩) (by decide) (by decide) (hts (.classLink RL 21 eIB) (by decide +kernel)) (va_Nw.use rfl hca.1.2.2) hc1 hc2 hc3 ?_
      refine lv_astore_n (lv' := [(3, .ref q9), (0, .ref (a 0)), (1, .int x), (2, .ref o)]) hx hb dL_delete_15 rfl hl (by decide) rfl (fun ls hl => ?_)
      refine lv_iconst (v := 2) hx hb dL_delete_16 (by decide) ?_
      exact ml_ri (tr9, f) hx hb hr hlocks hP hK hD hS (by rw [e9]) ⟨by rw [e9], fun h9 => absurd h9 (by rw [e9]; show ¬ ((2 : Int32) = 0); decide)⟩ dL_delete_17
  · have hP : va_P G vwCl (wL a cy ((sp_delete T x).2.2) u o f) H := hP
    have hD : va_D A (wL a cy ((sp_delete T x).2.2) u o f) := hD
    refine W.widen (k := 1) (n := 6) (Nat.le_of_ble_eq_true rfl) (Nat.le_of_ble_eq_true rfl) ?_
    refine lv_i2l (v := r.toInt64) hx hb dL_delete_7 rfl ?_
    refine ml_last hx hb hK hP hD hS 0 1 rfl rfl 0 rfl (by decide) (by decide) dL_delete_8 (fun H locs hP hD hS => ?_)
    have hP : va_P G vwCl (wL a cy ((sp_delete T x).2.2) u o (vp_updL f 0 (r.toInt64))) H := hP
    have hD : va_D A (wL a cy ((sp_delete T x).2.2) u o (vp_updL f 0 (r.toInt64))) := hD
    refine lv_goto (tgt := 18) hx hb dL_delete_9 (by decide) ?_
    refine lv_iconst (v := 0) hx hb dL_delete_18 (by decide) ?_
    exact ml_ri (u, vp_updL f 0 r.toInt64) hx hb hr hlocks hP hK hD hS rfl ⟨hw.1.symm, fun _ => (show vp_updL f 0 r.toInt64 0 = _ from pk_uLs.trans (congrArg Int32.toInt64 hw.2.symm))⟩ dL_delete_19
set_option maxHeartbeats 4000000 in
set_option maxRecDepth 100000 in
theorem c_L_value (l : Launch) (hlt : l.stackTraces = false) (G : va_G) (cy : Nat → ClassId) (a : Nat → Nat) (sz : Nat) (T : TS) (tr : Nat → Int32) (x : Int32) (y : Int32) (o : Nat) (f : Nat → Int64) (hI : Inv T) : Met l yL_value wsL_value ({ frames := 8, cells := 1, slots := 6, locals := 125 } : Room) (ml_PX G cy [.ref (a 0), .int x, .int y, .ref o] (wL a cy T tr o f) sz) (va_Qi (fun (r : Int32) (u : (Nat → Int32) × (Nat → Int64)) => r = (sp_value T x y).1 ∧ ((sp_value T x y).1 = 0 → u.2 0 = (sp_value T x y).2.1.toInt64)) (ml_B G cy (va_A (wL a cy T tr o f) sz) (fun u : (Nat → Int32) × (Nat → Int64) => (wL a cy (sp_value T x y).2.2 u.1 o u.2))) (va_A (wL a cy T tr o f) sz)) 1 6 (va_A (wL a cy T tr o f) sz) := by
  refine va_MetW (cc := cL_value) (maxL := 5) (ret := some .int) (hh := [(0, 10, 13, 13), (0, 10, 17, 21)]) (by decide) rfl ?_
  intro p e s m args below meth c s₁ B hml hv
  obtain ⟨rfl, hsz, hP, hK, hD0, hN, hE⟩ := hv
  have hx := B.exec
  have hb := B.bytes
  have hr := B.returns
  have hts := atoms_spec (ws := wsL_value) B.pre
  have hTb : c.exceptionTable.toList = tableOf [(0, 10, 13, 13), (0, 10, 17, 21)] := vx_table (x := yL_value) B (hts _ List.mem_cons_self)
  have hown : s.vm.findClass RL = some m.cls := findClass_of_methodNamed B.named
  have hlocks := B.notSynchronized
  have hca := hE.2.2.2
  subst hsz
  have hD := hD0.self (sz := s.heap.size)
  generalize hAe : va_A (wL a cy T tr o f) s.heap.size = A at hD hE ⊢
  have hA : ∀ q : Nat, s.heap.size ≤ q → A q := fun q h => by rw [← hAe]; exact Or.inr h
  have hS : va_S A s.heap s.heap [] := va_S.rf
  have hP : va_P G vwCl (wL a cy T tr o f) s.heap := hP
  have hl := lv_entry ([.ref (a 0), .int x, .int y, .ref o]) (n := 5) (Nat.le_of_ble_eq_true rfl)
  rw [lg_entry_eq]
  generalize (lg_sl ([.ref (a 0), .int x, .int y, .ref o]) ++ List.replicate (5 - (lg_sl ([.ref (a 0), .int x, .int y, .ref o])).length) Slot.unset).toArray = ls at hl ⊢
  have hl : lv_has ls 5 [(0, .ref (a 0)), (1, .int x), (2, .int y), (3, .ref o)] := hl
  refine lv_aload_n hx hb dL_value_0 rfl (lv_at hl 3 rfl) ?_
  refine lv_iconst (v := 0) hx hb dL_value_1 (by decide) ?_
  refine lv_aload_n hx hb dL_value_2 rfl (lv_at hl 0 rfl) ?_
  refine lv_iload_n hx hb dL_value_3 rfl (lv_at hl 1 rfl) ?_
  refine lv_iload_n hx hb dL_value_4 rfl (lv_at hl 2 rfl) ?_
  have hPc := hP.sub (ws' := wC a cy T tr) [1, 2, 3, 4, 5, 6, 7, 8, 9, 10, 11, 12] rfl
  have hDc := hD.sub (ws' := wC a cy T tr) [1, 2, 3, 4, 5, 6, 7, 8, 9, 10, 11, 12] (by decide) rfl
  refine mo_xVi (G := G) (wr := [(o, .inl (cy 1, 1, .inr (.inl f)))]) (As := [.int x, .int y]) (rest := [.int 0, .ref o]) ⟨hx, hb, hml, hown, hts⟩ (c_X3_value l hlt G cy a s.heap.size T tr x y hI) (cwV 2 hts gL_value_X3_value rfl rfl rfl (by decide +kernel) ⟨Nat.le_of_ble_eq_true rfl, Nat.le_of_ble_eq_true rfl⟩) (va_recv hK hPc (ci := 3) (q0 := 0) rfl rfl) hPc hDc hP hK hD hS hA [1, 2, 3, 4, 5, 6, 7, 8, 9, 10, 11, 12] [0] rfl rfl (by decide) (by decide) hN hE rfl hl.1 (Nat.le_of_ble_eq_true rfl) dL_value_5 ⟨Nat.le_of_ble_eq_true rfl, Nat.le_of_ble_eq_true rfl⟩ (fun E ce q9 H locs tr9 hpx hP hD hS hc1 hc2 hc3 => ?_) (fun r u H locs hw hP hD hS => ?_)
  · have hP : va_P G vwCl (wL a cy T tr9 o f) H := hP
    have hD : va_D A (wL a cy T tr9 o f) := hD
    rcases hpx with ⟨rfl, e9⟩ | ⟨rfl, e9⟩
    · refine vx_catch (own := RL) (name := eIA) hown [] ⟨0, 10, 13, 13⟩ [⟨0, 10, 17, 21⟩] hTb (fun z hz => absurd hz List.not_mem_nil) (by decide) (by decide) (hts (.classLink RL 13 eIA) (by decide +kernel)) (va_Nw.use rfl hca.1.1) hc1 hc2 hc3 ?_
      refine lv_astore (lv' := [(4, .ref q9), (0, .ref (a 0)), (1, .int x), (2, .int y), (3, .ref o)]) hx hb dL_value_13 hl (by decide) rfl (fun ls hl => ?_)
      refine lv_iconst (v := 1) hx hb dL_value_15 (by decide) ?_
      exact ml_ri (tr9, f) hx hb hr hlocks hP hK hD hS (by rw [e9]) ⟨by rw [e9], fun h9 => absurd h9 (by rw [e9]; show ¬ ((1 : Int32) = 0); decide)⟩ dL_value_16
    · refine vx_catch (own := RL) (name := eIB) hown [⟨0, 10, 13, 13⟩] ⟨0, 10, 17, 21⟩ [] hTb (fun z hz => by obtain rfl := List.mem_singleton.mp hz; exact Or.inr ⟨by decide, eIA, hts (.classLink RL 13 eIA) (by decide +kernel), hca.2.1.2.1⟩) (by decide) (by decide) (hts (.classLink RL 21 eIB) (by decide +kernel)) (va_Nw.use rfl hca.1.2.2) hc1 hc2 hc3 ?_
      refine lv_astore (lv' := [(4, .ref q9), (0, .ref (a 0)), (1, .int x), (2, .int y), (3, .ref o)]) hx hb dL_value_17 hl (by decide) rfl (fun ls hl => ?_)
      refine lv_iconst (v := 2) hx hb dL_value_19 (by decide) ?_
      exact ml_ri (tr9, f) hx hb hr hlocks hP hK hD hS (by rw [e9]) ⟨by rw [e9], fun h9 => absurd h9 (by rw [e9]; show ¬ ((2 : Int32) = 0); decide)⟩ dL_value_20
  · have hP : va_P G vwCl (wL a cy ((sp_value T x y).2.2) u o f) H := hP
    have hD : va_D A (wL a cy ((sp_value T x y).2.2) u o f) := hD
    refine W.widen (k := 1) (n := 6) (Nat.le_of_ble_eq_true rfl) (Nat.le_of_ble_eq_true rfl) ?_
    refine lv_i2l (v := r.toInt64) hx hb dL_value_8 rfl ?_
    refine ml_last hx hb hK hP hD hS 0 1 rfl rfl 0 rfl (by decide) (by decide) dL_value_9 (fun H locs hP hD hS => ?_)
    have hP : va_P G vwCl (wL a cy ((sp_value T x y).2.2) u o (vp_updL f 0 (r.toInt64))) H := hP
    have hD : va_D A (wL a cy ((sp_value T x y).2.2) u o (vp_updL f 0 (r.toInt64))) := hD
    refine lv_goto (tgt := 21) hx hb dL_value_10 (by decide) ?_
    refine lv_iconst (v := 0) hx hb dL_value_21 (by decide) ?_
    exact ml_ri (u, vp_updL f 0 r.toInt64) hx hb hr hlocks hP hK hD hS rfl ⟨hw.1.symm, fun _ => (show vp_updL f 0 r.toInt64 0 = _ from pk_uLs.trans (congrArg Int32.toInt64 hw.2.symm))⟩ dL_value_22
set_option maxHeartbeats 4000000 in
set_option maxRecDepth 100000 in
theorem c_L_version (l : Launch) (hlt : l.stackTraces = false) (G : va_G) (cy : Nat → ClassId) (a : Nat → Nat) (sz : Nat) (T : TS) (tr : Nat → Int32) (x : Int32) (o : Nat) (f : Nat → Int64) (hI : Inv T) : Met l yL_version wsL_version ({ frames := 8, cells := 1, slots := 6, locals := 123 } : Room) (ml_PX G cy [.ref (a 0), .int x, .ref o] (wL a cy T tr o f) sz) (va_Qi (fun (r : Int32) (u : (Nat → Int32) × (Nat → Int64)) => r = (sp_version T x).1 ∧ ((sp_version T x).1 = 0 → u.2 0 = (sp_version T x).2.1.toInt64)) (ml_B G cy (va_A (wL a cy T tr o f) sz) (fun u : (Nat → Int32) × (Nat → Int64) => (wL a cy (sp_version T x).2.2 u.1 o u.2))) (va_A (wL a cy T tr o f) sz)) 1 6 (va_A (wL a cy T tr o f) sz) := by
  refine va_MetW (cc := cL_version) (maxL := 4) (ret := some .int) (hh := [(0, 9, 12, 13)]) (by decide) rfl ?_
  intro p e s m args below meth c s₁ B hml hv
  obtain ⟨rfl, hsz, hP, hK, hD0, hN, hE⟩ := hv
  have hx := B.exec
  have hb := B.bytes
  have hr := B.returns
  have hts := atoms_spec (ws := wsL_version) B.pre
  have hTb : c.exceptionTable.toList = tableOf [(0, 9, 12, 13)] := vx_table (x := yL_version) B (hts _ List.mem_cons_self)
  have hown : s.vm.findClass RL = some m.cls := findClass_of_methodNamed B.named
  have hlocks := B.notSynchronized
  have hca := hE.2.2.2
  subst hsz
  have hD := hD0.self (sz := s.heap.size)
  generalize hAe : va_A (wL a cy T tr o f) s.heap.size = A at hD hE ⊢
  have hA : ∀ q : Nat, s.heap.size ≤ q → A q := fun q h => by rw [← hAe]; exact Or.inr h
  have hS : va_S A s.heap s.heap [] := va_S.rf
  have hP : va_P G vwCl (wL a cy T tr o f) s.heap := hP
  have hl := lv_entry ([.ref (a 0), .int x, .ref o]) (n := 4) (Nat.le_of_ble_eq_true rfl)
  rw [lg_entry_eq]
  generalize (lg_sl ([.ref (a 0), .int x, .ref o]) ++ List.replicate (4 - (lg_sl ([.ref (a 0), .int x, .ref o])).length) Slot.unset).toArray = ls at hl ⊢
  have hl : lv_has ls 4 [(0, .ref (a 0)), (1, .int x), (2, .ref o)] := hl
  refine lv_aload_n hx hb dL_version_0 rfl (lv_at hl 2 rfl) ?_
  refine lv_iconst (v := 0) hx hb dL_version_1 (by decide) ?_
  refine lv_aload_n hx hb dL_version_2 rfl (lv_at hl 0 rfl) ?_
  refine lv_iload_n hx hb dL_version_3 rfl (lv_at hl 1 rfl) ?_
  have hPc := hP.sub (ws' := wC a cy T tr) [1, 2, 3, 4, 5, 6, 7, 8, 9, 10, 11, 12] rfl
  have hDc := hD.sub (ws' := wC a cy T tr) [1, 2, 3, 4, 5, 6, 7, 8, 9, 10, 11, 12] (by decide) rfl
  refine mo_xVi (G := G) (wr := [(o, .inl (cy 1, 1, .inr (.inl f)))]) (As := [.int x]) (rest := [.int 0, .ref o]) ⟨hx, hb, hml, hown, hts⟩ (c_X3_version l hlt G cy a s.heap.size T tr x hI) (cwV 1 hts gL_version_X3_version rfl rfl rfl (by decide +kernel) ⟨Nat.le_of_ble_eq_true rfl, Nat.le_of_ble_eq_true rfl⟩) (va_recv hK hPc (ci := 3) (q0 := 0) rfl rfl) hPc hDc hP hK hD hS hA [1, 2, 3, 4, 5, 6, 7, 8, 9, 10, 11, 12] [0] rfl rfl (by decide) (by decide) hN hE rfl hl.1 (Nat.le_of_ble_eq_true rfl) dL_version_4 ⟨Nat.le_of_ble_eq_true rfl, Nat.le_of_ble_eq_true rfl⟩ (fun E ce q9 H locs tr9 hpx hP hD hS hc1 hc2 hc3 => ?_) (fun r u H locs hw hP hD hS => ?_)
  · have hP : va_P G vwCl (wL a cy T tr9 o f) H := hP
    have hD : va_D A (wL a cy T tr9 o f) := hD
    obtain ⟨rfl, e9⟩ := hpx
    refine vx_catch (own := RL) (name := eIA) hown [] ⟨0, 9, 12, 13⟩ [] hTb (fun z hz => absurd hz List.not_mem_nil) (by decide) (by decide) (hts (.classLink RL 13 eIA) (by decide +kernel)) (va_Nw.use rfl hca.1.1) hc1 hc2 hc3 ?_
    refine lv_astore_n (lv' := [(3, .ref q9), (0, .ref (a 0)), (1, .int x), (2, .ref o)]) hx hb dL_version_12 rfl hl (by decide) rfl (fun ls hl => ?_)
    refine lv_iconst (v := 1) hx hb dL_version_13 (by decide) ?_
    exact ml_ri (tr9, f) hx hb hr hlocks hP hK hD hS (by rw [e9]) ⟨by rw [e9], fun h9 => absurd h9 (by rw [e9]; show ¬ ((1 : Int32) = 0); decide)⟩ dL_version_14
  · have hP : va_P G vwCl (wL a cy ((sp_version T x).2.2) u o f) H := hP
    have hD : va_D A (wL a cy ((sp_version T x).2.2) u o f) := hD
    refine W.widen (k := 1) (n := 6) (Nat.le_of_ble_eq_true rfl) (Nat.le_of_ble_eq_true rfl) ?_
    refine lv_i2l (v := r.toInt64) hx hb dL_version_7 rfl ?_
    refine ml_last hx hb hK hP hD hS 0 1 rfl rfl 0 rfl (by decide) (by decide) dL_version_8 (fun H locs hP hD hS => ?_)
    have hP : va_P G vwCl (wL a cy ((sp_version T x).2.2) u o (vp_updL f 0 (r.toInt64))) H := hP
    have hD : va_D A (wL a cy ((sp_version T x).2.2) u o (vp_updL f 0 (r.toInt64))) := hD
    refine lv_goto (tgt := 15) hx hb dL_version_9 (by decide) ?_
    refine lv_iconst (v := 0) hx hb dL_version_15 (by decide) ?_
    exact ml_ri (u, vp_updL f 0 r.toInt64) hx hb hr hlocks hP hK hD hS rfl ⟨hw.1.symm, fun _ => (show vp_updL f 0 r.toInt64 0 = _ from pk_uLs.trans (congrArg Int32.toInt64 hw.2.symm))⟩ dL_version_16
set_option maxHeartbeats 4000000 in
set_option maxRecDepth 100000 in
theorem c_L_rowsAt (l : Launch) (hlt : l.stackTraces = false) (G : va_G) (cy : Nat → ClassId) (a : Nat → Nat) (sz : Nat) (T : TS) (tr : Nat → Int32) (x : Int32) (o : Nat) (f : Nat → Int64) (hI : Inv T) : Met l yL_rowsAt wsL_rowsAt ({ frames := 7, cells := 1, slots := 6, locals := 103 } : Room) (ml_PX G cy [.ref (a 0), .int x, .ref o] (wL a cy T tr o f) sz) (va_Qi (fun (r : Int32) (u : (Nat → Int32) × (Nat → Int64)) => r = (sp_rowsAt T x).1 ∧ ((sp_rowsAt T x).1 = 0 → u.2 0 = (sp_rowsAt T x).2.1.toInt64)) (ml_B G cy (va_A (wL a cy T tr o f) sz) (fun u : (Nat → Int32) × (Nat → Int64) => (wL a cy (sp_rowsAt T x).2.2 u.1 o u.2))) (va_A (wL a cy T tr o f) sz)) 1 6 (va_A (wL a cy T tr o f) sz) := by
  refine va_MetW (cc := cL_rowsAt) (maxL := 4) (ret := some .int) (hh := [(0, 9, 12, 13)]) (by decide) rfl ?_
  intro p e s m args below meth c s₁ B hml hv
  obtain ⟨rfl, hsz, hP, hK, hD0, hN, hE⟩ := hv
  have hx := B.exec
  have hb := B.bytes
  have hr := B.returns
  have hts := atoms_spec (ws := wsL_rowsAt) B.pre
  have hTb : c.exceptionTable.toList = tableOf [(0, 9, 12, 13)] := vx_table (x := yL_rowsAt) B (hts _ List.mem_cons_self)
  have hown : s.vm.findClass RL = some m.cls := findClass_of_methodNamed B.named
  have hlocks := B.notSynchronized
  have hca := hE.2.2.2
  subst hsz
  have hD := hD0.self (sz := s.heap.size)
  generalize hAe : va_A (wL a cy T tr o f) s.heap.size = A at hD hE ⊢
  have hA : ∀ q : Nat, s.heap.size ≤ q → A q := fun q h => by rw [← hAe]; exact Or.inr h
  have hS : va_S A s.heap s.heap [] := va_S.rf
  have hP : va_P G vwCl (wL a cy T tr o f) s.heap := hP
  have hl := lv_entry ([.ref (a 0), .int x, .ref o]) (n := 4) (Nat.le_of_ble_eq_true rfl)
  rw [lg_entry_eq]
  generalize (lg_sl ([.ref (a 0), .int x, .ref o]) ++ List.replicate (4 - (lg_sl ([.ref (a 0), .int x, .ref o])).length) Slot.unset).toArray = ls at hl ⊢
  have hl : lv_has ls 4 [(0, .ref (a 0)), (1, .int x), (2, .ref o)] := hl
  refine lv_aload_n hx hb dL_rowsAt_0 rfl (lv_at hl 2 rfl) ?_
  refine lv_iconst (v := 0) hx hb dL_rowsAt_1 (by decide) ?_
  refine lv_aload_n hx hb dL_rowsAt_2 rfl (lv_at hl 0 rfl) ?_
  refine lv_iload_n hx hb dL_rowsAt_3 rfl (lv_at hl 1 rfl) ?_
  have hPc := hP.sub (ws' := wC a cy T tr) [1, 2, 3, 4, 5, 6, 7, 8, 9, 10, 11, 12] rfl
  have hDc := hD.sub (ws' := wC a cy T tr) [1, 2, 3, 4, 5, 6, 7, 8, 9, 10, 11, 12] (by decide) rfl
  refine mo_xVi (G := G) (wr := [(o, .inl (cy 1, 1, .inr (.inl f)))]) (As := [.int x]) (rest := [.int 0, .ref o]) ⟨hx, hb, hml, hown, hts⟩ (c_X3_rowsAt l hlt G cy a s.heap.size T tr x hI) (cwV 1 hts gL_rowsAt_X3_rowsAt rfl rfl rfl (by decide +kernel) ⟨Nat.le_of_ble_eq_true rfl, Nat.le_of_ble_eq_true rfl⟩) (va_recv hK hPc (ci := 3) (q0 := 0) rfl rfl) hPc hDc hP hK hD hS hA [1, 2, 3, 4, 5, 6, 7, 8, 9, 10, 11, 12] [0] rfl rfl (by decide) (by decide) hN hE rfl hl.1 (Nat.le_of_ble_eq_true rfl) dL_rowsAt_4 ⟨Nat.le_of_ble_eq_true rfl, Nat.le_of_ble_eq_true rfl⟩ (fun E ce q9 H locs tr9 hpx hP hD hS hc1 hc2 hc3 => ?_) (fun r u H locs hw hP hD hS => ?_)
  · have hP : va_P G vwCl (wL a cy T tr9 o f) H := hP
    have hD : va_D A (wL a cy T tr9 o f) := hD
    obtain ⟨rfl, e9⟩ := hpx
    refine vx_catch (own := RL) (name := eIA) hown [] ⟨0, 9, 12, 13⟩ [] hTb (fun z hz => absurd hz List.not_mem_nil) (by decide) (by decide) (hts (.classLink RL 13 eIA) (by decide +kernel)) (va_Nw.use rfl hca.1.1) hc1 hc2 hc3 ?_
    refine lv_astore_n (lv' := [(3, .ref q9), (0, .ref (a 0)), (1, .int x), (2, .ref o)]) hx hb dL_rowsAt_12 rfl hl (by decide) rfl (fun ls hl => ?_)
    refine lv_iconst (v := 1) hx hb dL_rowsAt_13 (by decide) ?_
    exact ml_ri (tr9, f) hx hb hr hlocks hP hK hD hS (by rw [e9]) ⟨by rw [e9], fun h9 => absurd h9 (by rw [e9]; show ¬ ((1 : Int32) = 0); decide)⟩ dL_rowsAt_14
  · have hP : va_P G vwCl (wL a cy ((sp_rowsAt T x).2.2) u o f) H := hP
    have hD : va_D A (wL a cy ((sp_rowsAt T x).2.2) u o f) := hD
    refine W.widen (k := 1) (n := 6) (Nat.le_of_ble_eq_true rfl) (Nat.le_of_ble_eq_true rfl) ?_
    refine lv_i2l (v := r.toInt64) hx hb dL_rowsAt_7 rfl ?_
    refine ml_last hx hb hK hP hD hS 0 1 rfl rfl 0 rfl (by decide) (by decide) dL_rowsAt_8 (fun H locs hP hD hS => ?_)
    have hP : va_P G vwCl (wL a cy ((sp_rowsAt T x).2.2) u o (vp_updL f 0 (r.toInt64))) H := hP
    have hD : va_D A (wL a cy ((sp_rowsAt T x).2.2) u o (vp_updL f 0 (r.toInt64))) := hD
    refine lv_goto (tgt := 15) hx hb dL_rowsAt_9 (by decide) ?_
    refine lv_iconst (v := 0) hx hb dL_rowsAt_15 (by decide) ?_
    exact ml_ri (u, vp_updL f 0 r.toInt64) hx hb hr hlocks hP hK hD hS rfl ⟨hw.1.symm, fun _ => (show vp_updL f 0 r.toInt64 0 = _ from pk_uLs.trans (congrArg Int32.toInt64 hw.2.symm))⟩ dL_rowsAt_16
set_option maxHeartbeats 4000000 in
set_option maxRecDepth 100000 in
theorem c_L_valueAt (l : Launch) (hlt : l.stackTraces = false) (G : va_G) (cy : Nat → ClassId) (a : Nat → Nat) (sz : Nat) (T : TS) (tr : Nat → Int32) (x : Int32) (y : Int32) (z : Int32) (o : Nat) (f : Nat → Int64) (hI : Inv T) : Met l yL_valueAt wsL_valueAt ({ frames := 8, cells := 1, slots := 6, locals := 126 } : Room) (ml_PX G cy [.ref (a 0), .int x, .int y, .int z, .ref o] (wL a cy T tr o f) sz) (va_Qi (fun (r : Int32) (u : (Nat → Int32) × (Nat → Int64)) => r = (sp_valueAt T x y z).1 ∧ ((sp_valueAt T x y z).1 = 0 → u.2 0 = (sp_valueAt T x y z).2.1.toInt64)) (ml_B G cy (va_A (wL a cy T tr o f) sz) (fun u : (Nat → Int32) × (Nat → Int64) => (wL a cy (sp_valueAt T x y z).2.2 u.1 o u.2))) (va_A (wL a cy T tr o f) sz)) 1 6 (va_A (wL a cy T tr o f) sz) := by
  refine va_MetW (cc := cL_valueAt) (maxL := 6) (ret := some .int) (hh := [(0, 12, 15, 13), (0, 12, 19, 21), (0, 12, 23, 15)]) (by decide) rfl ?_
  intro p e s m args below meth c s₁ B hml hv
  obtain ⟨rfl, hsz, hP, hK, hD0, hN, hE⟩ := hv
  have hx := B.exec
  have hb := B.bytes
  have hr := B.returns
  have hts := atoms_spec (ws := wsL_valueAt) B.pre
  have hTb : c.exceptionTable.toList = tableOf [(0, 12, 15, 13), (0, 12, 19, 21), (0, 12, 23, 15)] := vx_table (x := yL_valueAt) B (hts _ List.mem_cons_self)
  have hown : s.vm.findClass RL = some m.cls := findClass_of_methodNamed B.named
  have hlocks := B.notSynchronized
  have hca := hE.2.2.2
  subst hsz
  have hD := hD0.self (sz := s.heap.size)
  generalize hAe : va_A (wL a cy T tr o f) s.heap.size = A at hD hE ⊢
  have hA : ∀ q : Nat, s.heap.size ≤ q → A q := fun q h => by rw [← hAe]; exact Or.inr h
  have hS : va_S A s.heap s.heap [] := va_S.rf
  have hP : va_P G vwCl (wL a cy T tr o f) s.heap := hP
  have hl := lv_entry ([.ref (a 0), .int x, .int y, .int z, .ref o]) (n := 6) (Nat.le_of_ble_eq_true rfl)
  rw [lg_entry_eq]
  generalize (lg_sl ([.ref (a 0), .int x, .int y, .int z, .ref o]) ++ List.replicate (6 - (lg_sl ([.ref (a 0), .int x, .int y, .int z, .ref o])).length) Slot.unset).toArray = ls at hl ⊢
  have hl : lv_has ls 6 [(0, .ref (a 0)), (1, .int x), (2, .int y), (3, .int z), (4, .ref o)] := hl
  refine lv_aload hx hb dL_valueAt_0 (lv_at hl 4 rfl) ?_
  refine lv_iconst (v := 0) hx hb dL_valueAt_2 (by decide) ?_
  refine lv_aload_n hx hb dL_valueAt_3 rfl (lv_at hl 0 rfl) ?_
  refine lv_iload_n hx hb dL_valueAt_4 rfl (lv_at hl 1 rfl) ?_
  refine lv_iload_n hx hb dL_valueAt_5 rfl (lv_at hl 2 rfl) ?_
  refine lv_iload_n hx hb dL_valueAt_6 rfl (lv_at hl 3 rfl) ?_
  have hPc := hP.sub (ws' := wC a cy T tr) [1, 2, 3, 4, 5, 6, 7, 8, 9, 10, 11, 12] rfl
  have hDc := hD.sub (ws' := wC a cy T tr) [1, 2, 3, 4, 5, 6, 7, 8, 9, 10, 11, 12] (by decide) rfl
  refine mo_xVi (G := G) (wr := [(o, .inl (cy 1, 1, .inr (.inl f)))]) (As := [.int x, .int y, .int z]) (rest := [.int 0, .ref o]) ⟨hx, hb, hml, hown, hts⟩ (c_X3_valueAt l hlt G cy a s.heap.size T tr x y z hI) (cwV 3 hts gL_valueAt_X3_valueAt rfl rfl rfl (by decide +kernel) ⟨Nat.le_of_ble_eq_true rfl, Nat.le_of_ble_eq_true rfl⟩) (va_recv hK hPc (ci := 3) (q0 := 0) rfl rfl) hPc hDc hP hK hD hS hA [1, 2, 3, 4, 5, 6, 7, 8, 9, 10, 11, 12] [0] rfl rfl (by decide) (by decide) hN hE rfl hl.1 (Nat.le_of_ble_eq_true rfl) dL_valueAt_7 ⟨Nat.le_of_ble_eq_true rfl, Nat.le_of_ble_eq_true rfl⟩ (fun E ce q9 H locs tr9 hpx hP hD hS hc1 hc2 hc3 => ?_) (fun r u H locs hw hP hD hS => ?_)
  · have hP : va_P G vwCl (wL a cy T tr9 o f) H := hP
    have hD : va_D A (wL a cy T tr9 o f) := hD
    rcases hpx with ⟨rfl, e9⟩ | ⟨rfl, e9⟩ | ⟨rfl, e9⟩
    · refine vx_catch (own := RL) (name := eIA) hown [] ⟨0, 12, 15, 13⟩ [⟨0, 12, 19, 21⟩, ⟨0, 12, 23, 15⟩] hTb (fun z hz => absurd hz List.not_mem_nil) (by decide) (by decide) (hts (.classLink RL 13 eIA) (by decide +kernel)) (va_Nw.use rfl hca.1.1) hc1 hc2 hc3 ?_
      refine lv_astore (lv' := [(5, .ref q9), (0, .ref (a 0)), (1, .int x), (2, .int y), (3, .int z), (4, .ref o)]) hx hb dL_valueAt_15 hl (by decide) rfl (fun ls hl => ?_)
      refine lv_iconst (v := 1) hx hb dL_valueAt_17 (by decide) ?_
      exact ml_ri (tr9, f) hx hb hr hlocks hP hK hD hS (by rw [e9]) ⟨by rw [e9], fun h9 => absurd h9 (by rw [e9]; show ¬ ((1 : Int32) = 0); decide)⟩ dL_valueAt_18
    · refine vx_catch (own := RL) (name := eIB) hown [⟨0, 12, 15, 13⟩] ⟨0, 12, 19, 21⟩ [⟨0, 12, 23, 15⟩] hTb (fun z hz => by obtain rfl := List.mem_singleton.mp hz; exact Or.inr ⟨by decide, eIA, hts (.classLink RL 13 eIA) (by decide +kernel), hca.2.1.2.1⟩) (by decide) (by decide) (hts (.classLink RL 21 eIB) (by decide +kernel)) (va_Nw.use rfl hca.1.2.2) hc1 hc2 hc3 ?_
      refine lv_astore (lv' := [(5, .ref q9), (0, .ref (a 0)), (1, .int x), (2, .int y), (3, .int z), (4, .ref o)]) hx hb dL_valueAt_19 hl (by decide) rfl (fun ls hl => ?_)
      refine lv_iconst (v := 2) hx hb dL_valueAt_21 (by decide) ?_
      exact ml_ri (tr9, f) hx hb hr hlocks hP hK hD hS (by rw [e9]) ⟨by rw [e9], fun h9 => absurd h9 (by rw [e9]; show ¬ ((2 : Int32) = 0); decide)⟩ dL_valueAt_22
    · refine vx_catch (own := RL) (name := eIS) hown [⟨0, 12, 15, 13⟩, ⟨0, 12, 19, 21⟩] ⟨0, 12, 23, 15⟩ [] hTb (fun z hz => by rcases List.mem_cons.mp hz with rfl | hz; exact Or.inr ⟨by decide, eIA, hts (.classLink RL 13 eIA) (by decide +kernel), hca.2.1.1⟩; obtain rfl := List.mem_singleton.mp hz; exact Or.inr ⟨by decide, eIB, hts (.classLink RL 21 eIB) (by decide +kernel), hca.2.1.2.2.1⟩) (by decide) (by decide) (hts (.classLink RL 15 eIS) (by decide +kernel)) (va_Nw.use rfl hca.1.2.1) hc1 hc2 hc3 ?_
      refine lv_astore (lv' := [(5, .ref q9), (0, .ref (a 0)), (1, .int x), (2, .int y), (3, .int z), (4, .ref o)]) hx hb dL_valueAt_23 hl (by decide) rfl (fun ls hl => ?_)
      refine lv_iconst (v := 3) hx hb dL_valueAt_25 (by decide) ?_
      exact ml_ri (tr9, f) hx hb hr hlocks hP hK hD hS (by rw [e9]) ⟨by rw [e9], fun h9 => absurd h9 (by rw [e9]; show ¬ ((3 : Int32) = 0); decide)⟩ dL_valueAt_26
  · have hP : va_P G vwCl (wL a cy ((sp_valueAt T x y z).2.2) u o f) H := hP
    have hD : va_D A (wL a cy ((sp_valueAt T x y z).2.2) u o f) := hD
    refine W.widen (k := 1) (n := 6) (Nat.le_of_ble_eq_true rfl) (Nat.le_of_ble_eq_true rfl) ?_
    refine lv_i2l (v := r.toInt64) hx hb dL_valueAt_10 rfl ?_
    refine ml_last hx hb hK hP hD hS 0 1 rfl rfl 0 rfl (by decide) (by decide) dL_valueAt_11 (fun H locs hP hD hS => ?_)
    have hP : va_P G vwCl (wL a cy ((sp_valueAt T x y z).2.2) u o (vp_updL f 0 (r.toInt64))) H := hP
    have hD : va_D A (wL a cy ((sp_valueAt T x y z).2.2) u o (vp_updL f 0 (r.toInt64))) := hD
    refine lv_goto (tgt := 27) hx hb dL_valueAt_12 (by decide) ?_
    refine lv_iconst (v := 0) hx hb dL_valueAt_27 (by decide) ?_
    exact ml_ri (u, vp_updL f 0 r.toInt64) hx hb hr hlocks hP hK hD hS rfl ⟨hw.1.symm, fun _ => (show vp_updL f 0 r.toInt64 0 = _ from pk_uLs.trans (congrArg Int32.toInt64 hw.2.symm))⟩ dL_valueAt_28
set_option maxHeartbeats 4000000 in
set_option maxRecDepth 100000 in
theorem c_L_take (l : Launch) (hlt : l.stackTraces = false) (G : va_G) (cy : Nat → ClassId) (a : Nat → Nat) (sz : Nat) (T : TS) (tr : Nat → Int32) (x : Int32) (y : Int32) (o : Nat) (f : Nat → Int64) (hI : Inv T) : Met l yL_take wsL_take ({ frames := 8, cells := 1, slots := 6, locals := 126 } : Room) (ml_PX G cy [.ref (a 0), .int x, .int y, .ref o] (wL a cy T tr o f) sz) (va_Qi (fun (r : Int32) (u : (Nat → Int32) × (Nat → Int64)) => r = (sp_take T x y).1 ∧ ((sp_take T x y).1 = 0 → u.2 0 = (sp_take T x y).2.1.toInt64)) (ml_B G cy (va_A (wL a cy T tr o f) sz) (fun u : (Nat → Int32) × (Nat → Int64) => (wL a cy (sp_take T x y).2.2 u.1 o u.2))) (va_A (wL a cy T tr o f) sz)) 1 6 (va_A (wL a cy T tr o f) sz) := by
  refine va_MetW (cc := cL_take) (maxL := 5) (ret := some .int) (hh := [(0, 10, 13, 13), (0, 10, 17, 15)]) (by decide) rfl ?_
  intro p e s m args below meth c s₁ B hml hv
  obtain ⟨rfl, hsz, hP, hK, hD0, hN, hE⟩ := hv
  have hx := B.exec
  have hb := B.bytes
  have hr := B.returns
  have hts := atoms_spec (ws := wsL_take) B.pre
  have hTb : c.exceptionTable.toList = tableOf [(0, 10, 13, 13), (0, 10, 17, 15)] := vx_table (x := yL_take) B (hts _ List.mem_cons_self)
  have hown : s.vm.findClass RL = some m.cls := findClass_of_methodNamed B.named
  have hlocks := B.notSynchronized
  have hca := hE.2.2.2
  subst hsz
  have hD := hD0.self (sz := s.heap.size)
  generalize hAe : va_A (wL a cy T tr o f) s.heap.size = A at hD hE ⊢
  have hA : ∀ q : Nat, s.heap.size ≤ q → A q := fun q h => by rw [← hAe]; exact Or.inr h
  have hS : va_S A s.heap s.heap [] := va_S.rf
  have hP : va_P G vwCl (wL a cy T tr o f) s.heap := hP
  have hl := lv_entry ([.ref (a 0), .int x, .int y, .ref o]) (n := 5) (Nat.le_of_ble_eq_true rfl)
  rw [lg_entry_eq]
  generalize (lg_sl ([.ref (a 0), .int x, .int y, .ref o]) ++ List.replicate (5 - (lg_sl ([.ref (a 0), .int x, .int y, .ref o])).length) Slot.unset).toArray = ls at hl ⊢
  have hl : lv_has ls 5 [(0, .ref (a 0)), (1, .int x), (2, .int y), (3, .ref o)] := hl
  refine lv_aload_n hx hb dL_take_0 rfl (lv_at hl 3 rfl) ?_
  refine lv_iconst (v := 0) hx hb dL_take_1 (by decide) ?_
  refine lv_aload_n hx hb dL_take_2 rfl (lv_at hl 0 rfl) ?_
  refine lv_iload_n hx hb dL_take_3 rfl (lv_at hl 1 rfl) ?_
  refine lv_iload_n hx hb dL_take_4 rfl (lv_at hl 2 rfl) ?_
  have hPc := hP.sub (ws' := wC a cy T tr) [1, 2, 3, 4, 5, 6, 7, 8, 9, 10, 11, 12] rfl
  have hDc := hD.sub (ws' := wC a cy T tr) [1, 2, 3, 4, 5, 6, 7, 8, 9, 10, 11, 12] (by decide) rfl
  refine mo_xVi (G := G) (wr := [(o, .inl (cy 1, 1, .inr (.inl f)))]) (As := [.int x, .int y]) (rest := [.int 0, .ref o]) ⟨hx, hb, hml, hown, hts⟩ (c_X3_take l hlt G cy a s.heap.size T tr x y hI) (cwV 2 hts gL_take_X3_take rfl rfl rfl (by decide +kernel) ⟨Nat.le_of_ble_eq_true rfl, Nat.le_of_ble_eq_true rfl⟩) (va_recv hK hPc (ci := 3) (q0 := 0) rfl rfl) hPc hDc hP hK hD hS hA [1, 2, 3, 4, 5, 6, 7, 8, 9, 10, 11, 12] [0] rfl rfl (by decide) (by decide) hN hE rfl hl.1 (Nat.le_of_ble_eq_true rfl) dL_take_5 ⟨Nat.le_of_ble_eq_true rfl, Nat.le_of_ble_eq_true rfl⟩ (fun E ce q9 H locs tr9 hpx hP hD hS hc1 hc2 hc3 => ?_) (fun r u H locs hw hP hD hS => ?_)
  · have hP : va_P G vwCl (wL a cy T tr9 o f) H := hP
    have hD : va_D A (wL a cy T tr9 o f) := hD
    rcases hpx with ⟨rfl, e9⟩ | ⟨rfl, e9⟩
    · refine vx_catch (own := RL) (name := eIA) hown [] ⟨0, 10, 13, 13⟩ [⟨0, 10, 17, 15⟩] hTb (fun z hz => absurd hz List.not_mem_nil) (by decide) (by decide) (hts (.classLink RL 13 eIA) (by decide +kernel)) (va_Nw.use rfl hca.1.1) hc1 hc2 hc3 ?_
      refine lv_astore (lv' := [(4, .ref q9), (0, .ref (a 0)), (1, .int x), (2, .int y), (3, .ref o)]) hx hb dL_take_13 hl (by decide) rfl (fun ls hl => ?_)
      refine lv_iconst (v := 1) hx hb dL_take_15 (by decide) ?_
      exact ml_ri (tr9, f) hx hb hr hlocks hP hK hD hS (by rw [e9]) ⟨by rw [e9], fun h9 => absurd h9 (by rw [e9]; show ¬ ((1 : Int32) = 0); decide)⟩ dL_take_16
    · refine vx_catch (own := RL) (name := eIS) hown [⟨0, 10, 13, 13⟩] ⟨0, 10, 17, 15⟩ [] hTb (fun z hz => by obtain rfl := List.mem_singleton.mp hz; exact Or.inr ⟨by decide, eIA, hts (.classLink RL 13 eIA) (by decide +kernel), hca.2.1.1⟩) (by decide) (by decide) (hts (.classLink RL 15 eIS) (by decide +kernel)) (va_Nw.use rfl hca.1.2.1) hc1 hc2 hc3 ?_
      refine lv_astore (lv' := [(4, .ref q9), (0, .ref (a 0)), (1, .int x), (2, .int y), (3, .ref o)]) hx hb dL_take_17 hl (by decide) rfl (fun ls hl => ?_)
      refine lv_iconst (v := 2) hx hb dL_take_19 (by decide) ?_
      exact ml_ri (tr9, f) hx hb hr hlocks hP hK hD hS (by rw [e9]) ⟨by rw [e9], fun h9 => absurd h9 (by rw [e9]; show ¬ ((2 : Int32) = 0); decide)⟩ dL_take_20
  · have hP : va_P G vwCl (wL a cy ((sp_take T x y).2.2) u o f) H := hP
    have hD : va_D A (wL a cy ((sp_take T x y).2.2) u o f) := hD
    refine W.widen (k := 1) (n := 6) (Nat.le_of_ble_eq_true rfl) (Nat.le_of_ble_eq_true rfl) ?_
    refine lv_i2l (v := r.toInt64) hx hb dL_take_8 rfl ?_
    refine ml_last hx hb hK hP hD hS 0 1 rfl rfl 0 rfl (by decide) (by decide) dL_take_9 (fun H locs hP hD hS => ?_)
    have hP : va_P G vwCl (wL a cy ((sp_take T x y).2.2) u o (vp_updL f 0 (r.toInt64))) H := hP
    have hD : va_D A (wL a cy ((sp_take T x y).2.2) u o (vp_updL f 0 (r.toInt64))) := hD
    refine lv_goto (tgt := 21) hx hb dL_take_10 (by decide) ?_
    refine lv_iconst (v := 0) hx hb dL_take_21 (by decide) ?_
    exact ml_ri (u, vp_updL f 0 r.toInt64) hx hb hr hlocks hP hK hD hS rfl ⟨hw.1.symm, fun _ => (show vp_updL f 0 r.toInt64 0 = _ from pk_uLs.trans (congrArg Int32.toInt64 hw.2.symm))⟩ dL_take_22
set_option maxHeartbeats 4000000 in
set_option maxRecDepth 100000 in
theorem c_L_giveBack (l : Launch) (hlt : l.stackTraces = false) (G : va_G) (cy : Nat → ClassId) (a : Nat → Nat) (sz : Nat) (T : TS) (tr : Nat → Int32) (x : Int32) (hI : Inv T) : Met l yL_giveBack wsL_giveBack ({ frames := 9, cells := 1, slots := 6, locals := 145 } : Room) (ml_PX G cy [.ref (a 0), .int x] (wC a cy T tr) sz) (va_Qi (fun (r : Int32) (u : Nat → Int32) => r = (sp_giveBack T x).1) (ml_B G cy (va_A (wC a cy T tr) sz) (fun u : Nat → Int32 => (wC a cy (sp_giveBack T x).2.2 u))) (va_A (wC a cy T tr) sz)) 1 6 (va_A (wC a cy T tr) sz) := by
  refine va_MetW (cc := cL_giveBack) (maxL := 3) (ret := some .int) (hh := [(0, 5, 8, 13), (0, 5, 11, 15)]) (by decide) rfl ?_
  intro p e s m args below meth c s₁ B hml hv
  obtain ⟨rfl, hsz, hP, hK, hD0, hN, hE⟩ := hv
  have hx := B.exec
  have hb := B.bytes
  have hr := B.returns
  have hts := atoms_spec (ws := wsL_giveBack) B.pre
  have hTb : c.exceptionTable.toList = tableOf [(0, 5, 8, 13), (0, 5, 11, 15)] := vx_table (x := yL_giveBack) B (hts _ List.mem_cons_self)
  have hown : s.vm.findClass RL = some m.cls := findClass_of_methodNamed B.named
  have hlocks := B.notSynchronized
  have hca := hE.2.2.2
  subst hsz
  have hD := hD0.self (sz := s.heap.size)
  generalize hAe : va_A (wC a cy T tr) s.heap.size = A at hD hE ⊢
  have hA : ∀ q : Nat, s.heap.size ≤ q → A q := fun q h => by rw [← hAe]; exact Or.inr h
  have hS : va_S A s.heap s.heap [] := va_S.rf
  have hP : va_P G vwCl (wC a cy T tr) s.heap := hP
  have hl := lv_entry ([.ref (a 0), .int x]) (n := 3) (Nat.le_of_ble_eq_true rfl)
  rw [lg_entry_eq]
  generalize (lg_sl ([.ref (a 0), .int x]) ++ List.replicate (3 - (lg_sl ([.ref (a 0), .int x])).length) Slot.unset).toArray = ls at hl ⊢
  have hl : lv_has ls 3 [(0, .ref (a 0)), (1, .int x)] := hl
  refine lv_aload_n hx hb dL_giveBack_0 rfl (lv_at hl 0 rfl) ?_
  refine lv_iload_n hx hb dL_giveBack_1 rfl (lv_at hl 1 rfl) ?_
  have hPc := hP.sub (ws' := wC a cy T tr) [0, 1, 2, 3, 4, 5, 6, 7, 8, 9, 10, 11] rfl
  have hDc := hD.sub (ws' := wC a cy T tr) [0, 1, 2, 3, 4, 5, 6, 7, 8, 9, 10, 11] (by decide) rfl
  refine mo_xVv (G := G) (wr := ([] : va_W)) (As := [.int x]) (rest := []) ⟨hx, hb, hml, hown, hts⟩ (c_X3_giveBack l hlt G cy a s.heap.size T tr x hI) (cwV 1 hts gL_giveBack_X3_giveBack rfl rfl rfl (by decide +kernel) ⟨Nat.le_of_ble_eq_true rfl, Nat.le_of_ble_eq_true rfl⟩) (va_recv hK hPc (ci := 3) (q0 := 0) rfl rfl) hPc hDc hP hK hD hS hA [0, 1, 2, 3, 4, 5, 6, 7, 8, 9, 10, 11] [] rfl rfl (by decide) (by decide) hN hE rfl hl.1 (Nat.le_of_ble_eq_true rfl) dL_giveBack_2 ⟨Nat.le_of_ble_eq_true rfl, Nat.le_of_ble_eq_true rfl⟩ (fun E ce q9 H locs tr9 hpx hP hD hS hc1 hc2 hc3 => ?_) (fun u H locs hw hP hD hS => ?_)
  · have hP : va_P G vwCl (wC a cy T tr9) H := hP
    have hD : va_D A (wC a cy T tr9) := hD
    rcases hpx with ⟨rfl, e9⟩ | ⟨rfl, e9⟩
    · refine vx_catch (own := RL) (name := eIA) hown [] ⟨0, 5, 8, 13⟩ [⟨0, 5, 11, 15⟩] hTb (fun z hz => absurd hz List.not_mem_nil) (by decide) (by decide) (hts (.classLink RL 13 eIA) (by decide +kernel)) (va_Nw.use rfl hca.1.1) hc1 hc2 hc3 ?_
      refine lv_astore_n (lv' := [(2, .ref q9), (0, .ref (a 0)), (1, .int x)]) hx hb dL_giveBack_8 rfl hl (by decide) rfl (fun ls hl => ?_)
      refine lv_iconst (v := 1) hx hb dL_giveBack_9 (by decide) ?_
      exact ml_ri tr9 hx hb hr hlocks hP hK hD hS (by rw [e9]) (by rw [e9]) dL_giveBack_10
    · refine vx_catch (own := RL) (name := eIS) hown [⟨0, 5, 8, 13⟩] ⟨0, 5, 11, 15⟩ [] hTb (fun z hz => by obtain rfl := List.mem_singleton.mp hz; exact Or.inr ⟨by decide, eIA, hts (.classLink RL 13 eIA) (by decide +kernel), hca.2.1.1⟩) (by decide) (by decide) (hts (.classLink RL 15 eIS) (by decide +kernel)) (va_Nw.use rfl hca.1.2.1) hc1 hc2 hc3 ?_
      refine lv_astore_n (lv' := [(2, .ref q9), (0, .ref (a 0)), (1, .int x)]) hx hb dL_giveBack_11 rfl hl (by decide) rfl (fun ls hl => ?_)
      refine lv_iconst (v := 2) hx hb dL_giveBack_12 (by decide) ?_
      exact ml_ri tr9 hx hb hr hlocks hP hK hD hS (by rw [e9]) (by rw [e9]) dL_giveBack_13
  · have hP : va_P G vwCl (wC a cy ((sp_giveBack T x).2.2) u) H := hP
    have hD : va_D A (wC a cy ((sp_giveBack T x).2.2) u) := hD
    refine W.widen (k := 1) (n := 6) (Nat.le_of_ble_eq_true rfl) (Nat.le_of_ble_eq_true rfl) ?_
    refine lv_goto (tgt := 14) hx hb dL_giveBack_5 (by decide) ?_
    refine lv_iconst (v := 0) hx hb dL_giveBack_14 (by decide) ?_
    exact ml_ri u hx hb hr hlocks hP hK hD hS rfl hw.symm dL_giveBack_15
set_option maxHeartbeats 4000000 in
set_option maxRecDepth 100000 in
theorem c_L_restart (l : Launch) (hlt : l.stackTraces = false) (G : va_G) (cy : Nat → ClassId) (a : Nat → Nat) (sz : Nat) (T : TS) (tr : Nat → Int32) (x : Int32) (o : Nat) (f : Nat → Int64) (hI : Inv T) : Met l yL_restart wsL_restart ({ frames := 8, cells := 1, slots := 6, locals := 123 } : Room) (ml_PX G cy [.ref (a 0), .int x, .ref o] (wL a cy T tr o f) sz) (va_Qi (fun (r : Int32) (u : (Nat → Int32) × (Nat → Int64)) => r = (sp_restart T x).1 ∧ ((sp_restart T x).1 = 0 → u.2 0 = cif ((sp_restart T x).2.1 = 0) 0 1)) (ml_B G cy (va_A (wL a cy T tr o f) sz) (fun u : (Nat → Int32) × (Nat → Int64) => (wL a cy (sp_restart T x).2.2 u.1 o u.2))) (va_A (wL a cy T tr o f) sz)) 1 6 (va_A (wL a cy T tr o f) sz) := by
  refine va_MetW (cc := cL_restart) (maxL := 4) (ret := some .int) (hh := [(0, 16, 19, 13), (0, 16, 22, 15)]) (by decide) rfl ?_
  intro p e s m args below meth c s₁ B hml hv
  obtain ⟨rfl, hsz, hP, hK, hD0, hN, hE⟩ := hv
  have hx := B.exec
  have hb := B.bytes
  have hr := B.returns
  have hts := atoms_spec (ws := wsL_restart) B.pre
  have hTb : c.exceptionTable.toList = tableOf [(0, 16, 19, 13), (0, 16, 22, 15)] := vx_table (x := yL_restart) B (hts _ List.mem_cons_self)
  have hown : s.vm.findClass RL = some m.cls := findClass_of_methodNamed B.named
  have hlocks := B.notSynchronized
  have hca := hE.2.2.2
  subst hsz
  have hD := hD0.self (sz := s.heap.size)
  generalize hAe : va_A (wL a cy T tr o f) s.heap.size = A at hD hE ⊢
  have hA : ∀ q : Nat, s.heap.size ≤ q → A q := fun q h => by rw [← hAe]; exact Or.inr h
  have hS : va_S A s.heap s.heap [] := va_S.rf
  have hP : va_P G vwCl (wL a cy T tr o f) s.heap := hP
  have hl := lv_entry ([.ref (a 0), .int x, .ref o]) (n := 4) (Nat.le_of_ble_eq_true rfl)
  rw [lg_entry_eq]
  generalize (lg_sl ([.ref (a 0), .int x, .ref o]) ++ List.replicate (4 - (lg_sl ([.ref (a 0), .int x, .ref o])).length) Slot.unset).toArray = ls at hl ⊢
  have hl : lv_has ls 4 [(0, .ref (a 0)), (1, .int x), (2, .ref o)] := hl
  refine lv_aload_n hx hb dL_restart_0 rfl (lv_at hl 2 rfl) ?_
  refine lv_iconst (v := 0) hx hb dL_restart_1 (by decide) ?_
  refine lv_aload_n hx hb dL_restart_2 rfl (lv_at hl 0 rfl) ?_
  refine lv_iload_n hx hb dL_restart_3 rfl (lv_at hl 1 rfl) ?_
  have hPc := hP.sub (ws' := wC a cy T tr) [1, 2, 3, 4, 5, 6, 7, 8, 9, 10, 11, 12] rfl
  have hDc := hD.sub (ws' := wC a cy T tr) [1, 2, 3, 4, 5, 6, 7, 8, 9, 10, 11, 12] (by decide) rfl
  refine mo_xVi (G := G) (wr := [(o, .inl (cy 1, 1, .inr (.inl f)))]) (As := [.int x]) (rest := [.int 0, .ref o]) ⟨hx, hb, hml, hown, hts⟩ (c_X3_restart l hlt G cy a s.heap.size T tr x hI) (cwV 1 hts gL_restart_X3_restart rfl rfl rfl (by decide +kernel) ⟨Nat.le_of_ble_eq_true rfl, Nat.le_of_ble_eq_true rfl⟩) (va_recv hK hPc (ci := 3) (q0 := 0) rfl rfl) hPc hDc hP hK hD hS hA [1, 2, 3, 4, 5, 6, 7, 8, 9, 10, 11, 12] [0] rfl rfl (by decide) (by decide) hN hE rfl hl.1 (Nat.le_of_ble_eq_true rfl) dL_restart_4 ⟨Nat.le_of_ble_eq_true rfl, Nat.le_of_ble_eq_true rfl⟩ (fun E ce q9 H locs tr9 hpx hP hD hS hc1 hc2 hc3 => ?_) (fun r u H locs hw hP hD hS => ?_)
  · have hP : va_P G vwCl (wL a cy T tr9 o f) H := hP
    have hD : va_D A (wL a cy T tr9 o f) := hD
    rcases hpx with ⟨rfl, e9⟩ | ⟨rfl, e9⟩
    · refine vx_catch (own := RL) (name := eIA) hown [] ⟨0, 16, 19, 13⟩ [⟨0, 16, 22, 15⟩] hTb (fun z hz => absurd hz List.not_mem_nil) (by decide) (by decide) (hts (.classLink RL 13 eIA) (by decide +kernel)) (va_Nw.use rfl hca.1.1) hc1 hc2 hc3 ?_
      refine lv_astore_n (lv' := [(3, .ref q9), (0, .ref (a 0)), (1, .int x), (2, .ref o)]) hx hb dL_restart_19 rfl hl (by decide) rfl (fun ls hl => ?_)
      refine lv_iconst (v := 1) hx hb dL_restart_20 (by decide) ?_
      exact ml_ri (tr9, f) hx hb hr hlocks hP hK hD hS (by rw [e9]) ⟨by rw [e9], fun h9 => absurd h9 (by rw [e9]; show ¬ ((1 : Int32) = 0); decide)⟩ dL_restart_21
    · refine vx_catch (own := RL) (name := eIS) hown [⟨0, 16, 19, 13⟩] ⟨0, 16, 22, 15⟩ [] hTb (fun z hz => by obtain rfl := List.mem_singleton.mp hz; exact Or.inr ⟨by decide, eIA, hts (.classLink RL 13 eIA) (by decide +kernel), hca.2.1.1⟩) (by decide) (by decide) (hts (.classLink RL 15 eIS) (by decide +kernel)) (va_Nw.use rfl hca.1.2.1) hc1 hc2 hc3 ?_
      refine lv_astore_n (lv' := [(3, .ref q9), (0, .ref (a 0)), (1, .int x), (2, .ref o)]) hx hb dL_restart_22 rfl hl (by decide) rfl (fun ls hl => ?_)
      refine lv_iconst (v := 2) hx hb dL_restart_23 (by decide) ?_
      exact ml_ri (tr9, f) hx hb hr hlocks hP hK hD hS (by rw [e9]) ⟨by rw [e9], fun h9 => absurd h9 (by rw [e9]; show ¬ ((2 : Int32) = 0); decide)⟩ dL_restart_24
  · have hP : va_P G vwCl (wL a cy ((sp_restart T x).2.2) u o f) H := hP
    have hD : va_D A (wL a cy ((sp_restart T x).2.2) u o f) := hD
    refine W.widen (k := 1) (n := 6) (Nat.le_of_ble_eq_true rfl) (Nat.le_of_ble_eq_true rfl) ?_
    refine lv_if_eq (tgt := 14) hx hb dL_restart_7 (by decide) (fun c_7 => ?_) (fun c_7 => ?_)
    · refine lv_lconst (v := 0) hx hb dL_restart_14 (by decide) ?_
      refine ml_last hx hb hK hP hD hS 0 1 rfl rfl 0 rfl (by decide) (by decide) dL_restart_15 (fun H locs hP hD hS => ?_)
      have hP : va_P G vwCl (wL a cy ((sp_restart T x).2.2) u o (vp_updL f 0 (0))) H := hP
      have hD : va_D A (wL a cy ((sp_restart T x).2.2) u o (vp_updL f 0 (0))) := hD
      refine lv_goto (tgt := 25) hx hb dL_restart_16 (by decide) ?_
      refine lv_iconst (v := 0) hx hb dL_restart_25 (by decide) ?_
      exact ml_ri (u, vp_updL f 0 0) hx hb hr hlocks hP hK hD hS rfl ⟨hw.1.symm, fun _ => (show vp_updL f 0 0 0 = _ from pk_uLs.trans (cif_t (hw.2.trans c_7)).symm)⟩ dL_restart_26
    · refine lv_lconst (v := 1) hx hb dL_restart_10 (by decide) ?_
      refine lv_goto (tgt := 15) hx hb dL_restart_11 (by decide) ?_
      refine ml_last hx hb hK hP hD hS 0 1 rfl rfl 0 rfl (by decide) (by decide) dL_restart_15 (fun H locs hP hD hS => ?_)
      have hP : va_P G vwCl (wL a cy ((sp_restart T x).2.2) u o (vp_updL f 0 (1))) H := hP
      have hD : va_D A (wL a cy ((sp_restart T x).2.2) u o (vp_updL f 0 (1))) := hD
      refine lv_goto (tgt := 25) hx hb dL_restart_16 (by decide) ?_
      refine lv_iconst (v := 0) hx hb dL_restart_25 (by decide) ?_
      exact ml_ri (u, vp_updL f 0 1) hx hb hr hlocks hP hK hD hS rfl ⟨hw.1.symm, fun _ => (show vp_updL f 0 1 0 = _ from pk_uLs.trans (cif_f (fun q => c_7 (hw.2.symm.trans q))).symm)⟩ dL_restart_26
set_option maxHeartbeats 4000000 in
set_option maxRecDepth 100000 in
theorem c_L_pass (l : Launch) (hlt : l.stackTraces = false) (G : va_G) (cy : Nat → ClassId) (a : Nat → Nat) (sz : Nat) (T : TS) (tr : Nat → Int32) (x : Int32) (o : Nat) (f : Nat → Int64) (hI : Inv T) : Met l yL_pass wsL_pass ({ frames := 7, cells := 1, slots := 6, locals := 103 } : Room) (ml_PX G cy [.ref (a 0), .int x, .ref o] (wL a cy T tr o f) sz) (va_Qi (fun (r : Int32) (u : (Nat → Int32) × (Nat → Int64)) => r = (sp_pass T x).1 ∧ ((sp_pass T x).1 = 0 → u.2 0 = (sp_pass T x).2.1.toInt64)) (ml_B G cy (va_A (wL a cy T tr o f) sz) (fun u : (Nat → Int32) × (Nat → Int64) => (wL a cy (sp_pass T x).2.2 u.1 o u.2))) (va_A (wL a cy T tr o f) sz)) 1 6 (va_A (wL a cy T tr o f) sz) := by
  refine va_MetW (cc := cL_pass) (maxL := 4) (ret := some .int) (hh := [(0, 9, 12, 13)]) (by decide) rfl ?_
  intro p e s m args below meth c s₁ B hml hv
  obtain ⟨rfl, hsz, hP, hK, hD0, hN, hE⟩ := hv
  have hx := B.exec
  have hb := B.bytes
  have hr := B.returns
  have hts := atoms_spec (ws := wsL_pass) B.pre
  have hTb : c.exceptionTable.toList = tableOf [(0, 9, 12, 13)] := vx_table (x := yL_pass) B (hts _ List.mem_cons_self)
  have hown : s.vm.findClass RL = some m.cls := findClass_of_methodNamed B.named
  have hlocks := B.notSynchronized
  have hca := hE.2.2.2
  subst hsz
  have hD := hD0.self (sz := s.heap.size)
  generalize hAe : va_A (wL a cy T tr o f) s.heap.size = A at hD hE ⊢
  have hA : ∀ q : Nat, s.heap.size ≤ q → A q := fun q h => by rw [← hAe]; exact Or.inr h
  have hS : va_S A s.heap s.heap [] := va_S.rf
  have hP : va_P G vwCl (wL a cy T tr o f) s.heap := hP
  have hl := lv_entry ([.ref (a 0), .int x, .ref o]) (n := 4) (Nat.le_of_ble_eq_true rfl)
  rw [lg_entry_eq]
  generalize (lg_sl ([.ref (a 0), .int x, .ref o]) ++ List.replicate (4 - (lg_sl ([.ref (a 0), .int x, .ref o])).length) Slot.unset).toArray = ls at hl ⊢
  have hl : lv_has ls 4 [(0, .ref (a 0)), (1, .int x), (2, .ref o)] := hl
  refine lv_aload_n hx hb dL_pass_0 rfl (lv_at hl 2 rfl) ?_
  refine lv_iconst (v := 0) hx hb dL_pass_1 (by decide) ?_
  refine lv_aload_n hx hb dL_pass_2 rfl (lv_at hl 0 rfl) ?_
  refine lv_iload_n hx hb dL_pass_3 rfl (lv_at hl 1 rfl) ?_
  have hPc := hP.sub (ws' := wC a cy T tr) [1, 2, 3, 4, 5, 6, 7, 8, 9, 10, 11, 12] rfl
  have hDc := hD.sub (ws' := wC a cy T tr) [1, 2, 3, 4, 5, 6, 7, 8, 9, 10, 11, 12] (by decide) rfl
  refine mo_xVi (G := G) (wr := [(o, .inl (cy 1, 1, .inr (.inl f)))]) (As := [.int x]) (rest := [.int 0, .ref o]) ⟨hx, hb, hml, hown, hts⟩ (c_X3_pass l hlt G cy a s.heap.size T tr x hI) (cwV 1 hts gL_pass_X3_pass rfl rfl rfl (by decide +kernel) ⟨Nat.le_of_ble_eq_true rfl, Nat.le_of_ble_eq_true rfl⟩) (va_recv hK hPc (ci := 3) (q0 := 0) rfl rfl) hPc hDc hP hK hD hS hA [1, 2, 3, 4, 5, 6, 7, 8, 9, 10, 11, 12] [0] rfl rfl (by decide) (by decide) hN hE rfl hl.1 (Nat.le_of_ble_eq_true rfl) dL_pass_4 ⟨Nat.le_of_ble_eq_true rfl, Nat.le_of_ble_eq_true rfl⟩ (fun E ce q9 H locs tr9 hpx hP hD hS hc1 hc2 hc3 => ?_) (fun r u H locs hw hP hD hS => ?_)
  · have hP : va_P G vwCl (wL a cy T tr9 o f) H := hP
    have hD : va_D A (wL a cy T tr9 o f) := hD
    obtain ⟨rfl, e9⟩ := hpx
    refine vx_catch (own := RL) (name := eIA) hown [] ⟨0, 9, 12, 13⟩ [] hTb (fun z hz => absurd hz List.not_mem_nil) (by decide) (by decide) (hts (.classLink RL 13 eIA) (by decide +kernel)) (va_Nw.use rfl hca.1.1) hc1 hc2 hc3 ?_
    refine lv_astore_n (lv' := [(3, .ref q9), (0, .ref (a 0)), (1, .int x), (2, .ref o)]) hx hb dL_pass_12 rfl hl (by decide) rfl (fun ls hl => ?_)
    refine lv_iconst (v := 1) hx hb dL_pass_13 (by decide) ?_
    exact ml_ri (tr9, f) hx hb hr hlocks hP hK hD hS (by rw [e9]) ⟨by rw [e9], fun h9 => absurd h9 (by rw [e9]; show ¬ ((1 : Int32) = 0); decide)⟩ dL_pass_14
  · have hP : va_P G vwCl (wL a cy ((sp_pass T x).2.2) u o f) H := hP
    have hD : va_D A (wL a cy ((sp_pass T x).2.2) u o f) := hD
    refine W.widen (k := 1) (n := 6) (Nat.le_of_ble_eq_true rfl) (Nat.le_of_ble_eq_true rfl) ?_
    refine lv_i2l (v := r.toInt64) hx hb dL_pass_7 rfl ?_
    refine ml_last hx hb hK hP hD hS 0 1 rfl rfl 0 rfl (by decide) (by decide) dL_pass_8 (fun H locs hP hD hS => ?_)
    have hP : va_P G vwCl (wL a cy ((sp_pass T x).2.2) u o (vp_updL f 0 (r.toInt64))) H := hP
    have hD : va_D A (wL a cy ((sp_pass T x).2.2) u o (vp_updL f 0 (r.toInt64))) := hD
    refine lv_goto (tgt := 15) hx hb dL_pass_9 (by decide) ?_
    refine lv_iconst (v := 0) hx hb dL_pass_15 (by decide) ?_
    exact ml_ri (u, vp_updL f 0 r.toInt64) hx hb hr hlocks hP hK hD hS rfl ⟨hw.1.symm, fun _ => (show vp_updL f 0 r.toInt64 0 = _ from pk_uLs.trans (congrArg Int32.toInt64 hw.2.symm))⟩ dL_pass_16
set_option maxHeartbeats 4000000 in
set_option maxRecDepth 100000 in
theorem c_L_begin (l : Launch) (hlt : l.stackTraces = false) (G : va_G) (cy : Nat → ClassId) (a : Nat → Nat) (sz : Nat) (T : TS) (tr : Nat → Int32) (x : Int32) (o : Nat) (f : Nat → Int64) (hI : Inv T) : Met l yL_begin wsL_begin ({ frames := 9, cells := 1, slots := 6, locals := 145 } : Room) (ml_PX G cy [.ref (a 0), .int x, .ref o] (wL a cy T tr o f) sz) (va_Qi (fun (r : Int32) (u : (Nat → Int32) × (Nat → Int64)) => r = (sp_begin T x).1 ∧ ((sp_begin T x).1 = 0 → u.2 0 = (sp_begin T x).2.1.toInt64)) (ml_B G cy (va_A (wL a cy T tr o f) sz) (fun u : (Nat → Int32) × (Nat → Int64) => (wL a cy (sp_begin T x).2.2 u.1 o u.2))) (va_A (wL a cy T tr o f) sz)) 1 6 (va_A (wL a cy T tr o f) sz) := by
  refine va_MetW (cc := cL_begin) (maxL := 4) (ret := some .int) (hh := [(0, 9, 12, 13), (0, 9, 15, 15)]) (by decide) rfl ?_
  intro p e s m args below meth c s₁ B hml hv
  obtain ⟨rfl, hsz, hP, hK, hD0, hN, hE⟩ := hv
  have hx := B.exec
  have hb := B.bytes
  have hr := B.returns
  have hts := atoms_spec (ws := wsL_begin) B.pre
  have hTb : c.exceptionTable.toList = tableOf [(0, 9, 12, 13), (0, 9, 15, 15)] := vx_table (x := yL_begin) B (hts _ List.mem_cons_self)
  have hown : s.vm.findClass RL = some m.cls := findClass_of_methodNamed B.named
  have hlocks := B.notSynchronized
  have hca := hE.2.2.2
  subst hsz
  have hD := hD0.self (sz := s.heap.size)
  generalize hAe : va_A (wL a cy T tr o f) s.heap.size = A at hD hE ⊢
  have hA : ∀ q : Nat, s.heap.size ≤ q → A q := fun q h => by rw [← hAe]; exact Or.inr h
  have hS : va_S A s.heap s.heap [] := va_S.rf
  have hP : va_P G vwCl (wL a cy T tr o f) s.heap := hP
  have hl := lv_entry ([.ref (a 0), .int x, .ref o]) (n := 4) (Nat.le_of_ble_eq_true rfl)
  rw [lg_entry_eq]
  generalize (lg_sl ([.ref (a 0), .int x, .ref o]) ++ List.replicate (4 - (lg_sl ([.ref (a 0), .int x, .ref o])).length) Slot.unset).toArray = ls at hl ⊢
  have hl : lv_has ls 4 [(0, .ref (a 0)), (1, .int x), (2, .ref o)] := hl
  refine lv_aload_n hx hb dL_begin_0 rfl (lv_at hl 2 rfl) ?_
  refine lv_iconst (v := 0) hx hb dL_begin_1 (by decide) ?_
  refine lv_aload_n hx hb dL_begin_2 rfl (lv_at hl 0 rfl) ?_
  refine lv_iload_n hx hb dL_begin_3 rfl (lv_at hl 1 rfl) ?_
  have hPc := hP.sub (ws' := wC a cy T tr) [1, 2, 3, 4, 5, 6, 7, 8, 9, 10, 11, 12] rfl
  have hDc := hD.sub (ws' := wC a cy T tr) [1, 2, 3, 4, 5, 6, 7, 8, 9, 10, 11, 12] (by decide) rfl
  refine mo_xVi (G := G) (wr := [(o, .inl (cy 1, 1, .inr (.inl f)))]) (As := [.int x]) (rest := [.int 0, .ref o]) ⟨hx, hb, hml, hown, hts⟩ (c_X3_begin l hlt G cy a s.heap.size T tr x hI) (cwV 1 hts gL_begin_X3_begin rfl rfl rfl (by decide +kernel) ⟨Nat.le_of_ble_eq_true rfl, Nat.le_of_ble_eq_true rfl⟩) (va_recv hK hPc (ci := 3) (q0 := 0) rfl rfl) hPc hDc hP hK hD hS hA [1, 2, 3, 4, 5, 6, 7, 8, 9, 10, 11, 12] [0] rfl rfl (by decide) (by decide) hN hE rfl hl.1 (Nat.le_of_ble_eq_true rfl) dL_begin_4 ⟨Nat.le_of_ble_eq_true rfl, Nat.le_of_ble_eq_true rfl⟩ (fun E ce q9 H locs tr9 hpx hP hD hS hc1 hc2 hc3 => ?_) (fun r u H locs hw hP hD hS => ?_)
  · have hP : va_P G vwCl (wL a cy T tr9 o f) H := hP
    have hD : va_D A (wL a cy T tr9 o f) := hD
    rcases hpx with ⟨rfl, e9⟩ | ⟨rfl, e9⟩
    · refine vx_catch (own := RL) (name := eIA) hown [] ⟨0, 9, 12, 13⟩ [⟨0, 9, 15, 15⟩] hTb (fun z hz => absurd hz List.not_mem_nil) (by decide) (by decide) (hts (.classLink RL 13 eIA) (by decide +kernel)) (va_Nw.use rfl hca.1.1) hc1 hc2 hc3 ?_
      refine lv_astore_n (lv' := [(3, .ref q9), (0, .ref (a 0)), (1, .int x), (2, .ref o)]) hx hb dL_begin_12 rfl hl (by decide) rfl (fun ls hl => ?_)
      refine lv_iconst (v := 1) hx hb dL_begin_13 (by decide) ?_
      exact ml_ri (tr9, f) hx hb hr hlocks hP hK hD hS (by rw [e9]) ⟨by rw [e9], fun h9 => absurd h9 (by rw [e9]; show ¬ ((1 : Int32) = 0); decide)⟩ dL_begin_14
    · refine vx_catch (own := RL) (name := eIS) hown [⟨0, 9, 12, 13⟩] ⟨0, 9, 15, 15⟩ [] hTb (fun z hz => by obtain rfl := List.mem_singleton.mp hz; exact Or.inr ⟨by decide, eIA, hts (.classLink RL 13 eIA) (by decide +kernel), hca.2.1.1⟩) (by decide) (by decide) (hts (.classLink RL 15 eIS) (by decide +kernel)) (va_Nw.use rfl hca.1.2.1) hc1 hc2 hc3 ?_
      refine lv_astore_n (lv' := [(3, .ref q9), (0, .ref (a 0)), (1, .int x), (2, .ref o)]) hx hb dL_begin_15 rfl hl (by decide) rfl (fun ls hl => ?_)
      refine lv_iconst (v := 2) hx hb dL_begin_16 (by decide) ?_
      exact ml_ri (tr9, f) hx hb hr hlocks hP hK hD hS (by rw [e9]) ⟨by rw [e9], fun h9 => absurd h9 (by rw [e9]; show ¬ ((2 : Int32) = 0); decide)⟩ dL_begin_17
  · have hP : va_P G vwCl (wL a cy ((sp_begin T x).2.2) u o f) H := hP
    have hD : va_D A (wL a cy ((sp_begin T x).2.2) u o f) := hD
    refine W.widen (k := 1) (n := 6) (Nat.le_of_ble_eq_true rfl) (Nat.le_of_ble_eq_true rfl) ?_
    refine lv_i2l (v := r.toInt64) hx hb dL_begin_7 rfl ?_
    refine ml_last hx hb hK hP hD hS 0 1 rfl rfl 0 rfl (by decide) (by decide) dL_begin_8 (fun H locs hP hD hS => ?_)
    have hP : va_P G vwCl (wL a cy ((sp_begin T x).2.2) u o (vp_updL f 0 (r.toInt64))) H := hP
    have hD : va_D A (wL a cy ((sp_begin T x).2.2) u o (vp_updL f 0 (r.toInt64))) := hD
    refine lv_goto (tgt := 18) hx hb dL_begin_9 (by decide) ?_
    refine lv_iconst (v := 0) hx hb dL_begin_18 (by decide) ?_
    exact ml_ri (u, vp_updL f 0 r.toInt64) hx hb hr hlocks hP hK hD hS rfl ⟨hw.1.symm, fun _ => (show vp_updL f 0 r.toInt64 0 = _ from pk_uLs.trans (congrArg Int32.toInt64 hw.2.symm))⟩ dL_begin_19
set_option maxHeartbeats 4000000 in
set_option maxRecDepth 100000 in
theorem c_L_undo (l : Launch) (hlt : l.stackTraces = false) (G : va_G) (cy : Nat → ClassId) (a : Nat → Nat) (sz : Nat) (T : TS) (tr : Nat → Int32) (x : Int32) (o : Nat) (f : Nat → Int64) (hI : Inv T) : Met l yL_undo wsL_undo ({ frames := 9, cells := 1, slots := 6, locals := 145 } : Room) (ml_PX G cy [.ref (a 0), .int x, .ref o] (wL a cy T tr o f) sz) (va_Qi (fun (r : Int32) (u : (Nat → Int32) × (Nat → Int64)) => r = (sp_undo T x).1 ∧ ((sp_undo T x).1 = 0 → u.2 0 = (sp_undo T x).2.1.toInt64)) (ml_B G cy (va_A (wL a cy T tr o f) sz) (fun u : (Nat → Int32) × (Nat → Int64) => (wL a cy (sp_undo T x).2.2 u.1 o u.2))) (va_A (wL a cy T tr o f) sz)) 1 6 (va_A (wL a cy T tr o f) sz) := by
  refine va_MetW (cc := cL_undo) (maxL := 4) (ret := some .int) (hh := [(0, 9, 12, 13), (0, 9, 15, 15)]) (by decide) rfl ?_
  intro p e s m args below meth c s₁ B hml hv
  obtain ⟨rfl, hsz, hP, hK, hD0, hN, hE⟩ := hv
  have hx := B.exec
  have hb := B.bytes
  have hr := B.returns
  have hts := atoms_spec (ws := wsL_undo) B.pre
  have hTb : c.exceptionTable.toList = tableOf [(0, 9, 12, 13), (0, 9, 15, 15)] := vx_table (x := yL_undo) B (hts _ List.mem_cons_self)
  have hown : s.vm.findClass RL = some m.cls := findClass_of_methodNamed B.named
  have hlocks := B.notSynchronized
  have hca := hE.2.2.2
  subst hsz
  have hD := hD0.self (sz := s.heap.size)
  generalize hAe : va_A (wL a cy T tr o f) s.heap.size = A at hD hE ⊢
  have hA : ∀ q : Nat, s.heap.size ≤ q → A q := fun q h => by rw [← hAe]; exact Or.inr h
  have hS : va_S A s.heap s.heap [] := va_S.rf
  have hP : va_P G vwCl (wL a cy T tr o f) s.heap := hP
  have hl := lv_entry ([.ref (a 0), .int x, .ref o]) (n := 4) (Nat.le_of_ble_eq_true rfl)
  rw [lg_entry_eq]
  generalize (lg_sl ([.ref (a 0), .int x, .ref o]) ++ List.replicate (4 - (lg_sl ([.ref (a 0), .int x, .ref o])).length) Slot.unset).toArray = ls at hl ⊢
  have hl : lv_has ls 4 [(0, .ref (a 0)), (1, .int x), (2, .ref o)] := hl
  refine lv_aload_n hx hb dL_undo_0 rfl (lv_at hl 2 rfl) ?_
  refine lv_iconst (v := 0) hx hb dL_undo_1 (by decide) ?_
  refine lv_aload_n hx hb dL_undo_2 rfl (lv_at hl 0 rfl) ?_
  refine lv_iload_n hx hb dL_undo_3 rfl (lv_at hl 1 rfl) ?_
  have hPc := hP.sub (ws' := wC a cy T tr) [1, 2, 3, 4, 5, 6, 7, 8, 9, 10, 11, 12] rfl
  have hDc := hD.sub (ws' := wC a cy T tr) [1, 2, 3, 4, 5, 6, 7, 8, 9, 10, 11, 12] (by decide) rfl
  refine mo_xVi (G := G) (wr := [(o, .inl (cy 1, 1, .inr (.inl f)))]) (As := [.int x]) (rest := [.int 0, .ref o]) ⟨hx, hb, hml, hown, hts⟩ (c_X3_undo l hlt G cy a s.heap.size T tr x hI) (cwV 1 hts gL_undo_X3_undo rfl rfl rfl (by decide +kernel) ⟨Nat.le_of_ble_eq_true rfl, Nat.le_of_ble_eq_true rfl⟩) (va_recv hK hPc (ci := 3) (q0 := 0) rfl rfl) hPc hDc hP hK hD hS hA [1, 2, 3, 4, 5, 6, 7, 8, 9, 10, 11, 12] [0] rfl rfl (by decide) (by decide) hN hE rfl hl.1 (Nat.le_of_ble_eq_true rfl) dL_undo_4 ⟨Nat.le_of_ble_eq_true rfl, Nat.le_of_ble_eq_true rfl⟩ (fun E ce q9 H locs tr9 hpx hP hD hS hc1 hc2 hc3 => ?_) (fun r u H locs hw hP hD hS => ?_)
  · have hP : va_P G vwCl (wL a cy T tr9 o f) H := hP
    have hD : va_D A (wL a cy T tr9 o f) := hD
    rcases hpx with ⟨rfl, e9⟩ | ⟨rfl, e9⟩
    · refine vx_catch (own := RL) (name := eIA) hown [] ⟨0, 9, 12, 13⟩ [⟨0, 9, 15, 15⟩] hTb (fun z hz => absurd hz List.not_mem_nil) (by decide) (by decide) (hts (.classLink RL 13 eIA) (by decide +kernel)) (va_Nw.use rfl hca.1.1) hc1 hc2 hc3 ?_
      refine lv_astore_n (lv' := [(3, .ref q9), (0, .ref (a 0)), (1, .int x), (2, .ref o)]) hx hb dL_undo_12 rfl hl (by decide) rfl (fun ls hl => ?_)
      refine lv_iconst (v := 1) hx hb dL_undo_13 (by decide) ?_
      exact ml_ri (tr9, f) hx hb hr hlocks hP hK hD hS (by rw [e9]) ⟨by rw [e9], fun h9 => absurd h9 (by rw [e9]; show ¬ ((1 : Int32) = 0); decide)⟩ dL_undo_14
    · refine vx_catch (own := RL) (name := eIS) hown [⟨0, 9, 12, 13⟩] ⟨0, 9, 15, 15⟩ [] hTb (fun z hz => by obtain rfl := List.mem_singleton.mp hz; exact Or.inr ⟨by decide, eIA, hts (.classLink RL 13 eIA) (by decide +kernel), hca.2.1.1⟩) (by decide) (by decide) (hts (.classLink RL 15 eIS) (by decide +kernel)) (va_Nw.use rfl hca.1.2.1) hc1 hc2 hc3 ?_
      refine lv_astore_n (lv' := [(3, .ref q9), (0, .ref (a 0)), (1, .int x), (2, .ref o)]) hx hb dL_undo_15 rfl hl (by decide) rfl (fun ls hl => ?_)
      refine lv_iconst (v := 2) hx hb dL_undo_16 (by decide) ?_
      exact ml_ri (tr9, f) hx hb hr hlocks hP hK hD hS (by rw [e9]) ⟨by rw [e9], fun h9 => absurd h9 (by rw [e9]; show ¬ ((2 : Int32) = 0); decide)⟩ dL_undo_17
  · have hP : va_P G vwCl (wL a cy ((sp_undo T x).2.2) u o f) H := hP
    have hD : va_D A (wL a cy ((sp_undo T x).2.2) u o f) := hD
    refine W.widen (k := 1) (n := 6) (Nat.le_of_ble_eq_true rfl) (Nat.le_of_ble_eq_true rfl) ?_
    refine lv_i2l (v := r.toInt64) hx hb dL_undo_7 rfl ?_
    refine ml_last hx hb hK hP hD hS 0 1 rfl rfl 0 rfl (by decide) (by decide) dL_undo_8 (fun H locs hP hD hS => ?_)
    have hP : va_P G vwCl (wL a cy ((sp_undo T x).2.2) u o (vp_updL f 0 (r.toInt64))) H := hP
    have hD : va_D A (wL a cy ((sp_undo T x).2.2) u o (vp_updL f 0 (r.toInt64))) := hD
    refine lv_goto (tgt := 18) hx hb dL_undo_9 (by decide) ?_
    refine lv_iconst (v := 0) hx hb dL_undo_18 (by decide) ?_
    exact ml_ri (u, vp_updL f 0 r.toInt64) hx hb hr hlocks hP hK hD hS rfl ⟨hw.1.symm, fun _ => (show vp_updL f 0 r.toInt64 0 = _ from pk_uLs.trans (congrArg Int32.toInt64 hw.2.symm))⟩ dL_undo_19
set_option maxHeartbeats 4000000 in
set_option maxRecDepth 100000 in
theorem c_L_step (l : Launch) (hlt : l.stackTraces = false) (G : va_G) (cy : Nat → ClassId) (a : Nat → Nat) (sz : Nat) (T : TS) (tr : Nat → Int32) (x : Int32) (y : Int32) (z : Int32) (o : Nat) (f : Nat → Int64) (hI : Inv T) : Met l yL_step wsL_step ({ frames := 9, cells := 1, slots := 6, locals := 165 } : Room) (ml_PX G cy [.ref (a 0), .int x, .int y, .int z, .ref o] (wL a cy T tr o f) sz) (va_Qi (fun (r : Int32) (u : (Nat → Int32) × (Nat → Int64)) => r = (sp_step T x y z).1 ∧ ((sp_step T x y z).1 = 0 → u.2 0 = (sp_step T x y z).2.1.toInt64)) (ml_B G cy (va_A (wL a cy T tr o f) sz) (fun u : (Nat → Int32) × (Nat → Int64) => (wL a cy (sp_step T x y z).2.2 u.1 o u.2))) (va_A (wL a cy T tr o f) sz)) 1 6 (va_A (wL a cy T tr o f) sz) := by
  refine va_MetW (cc := cL_step) (maxL := 6) (ret := some .int) (hh := [(0, 12, 15, 13), (0, 12, 19, 15)]) (by decide) rfl ?_
  intro p e s m args below meth c s₁ B hml hv
  obtain ⟨rfl, hsz, hP, hK, hD0, hN, hE⟩ := hv
  have hx := B.exec
  have hb := B.bytes
  have hr := B.returns
  have hts := atoms_spec (ws := wsL_step) B.pre
  have hTb : c.exceptionTable.toList = tableOf [(0, 12, 15, 13), (0, 12, 19, 15)] := vx_table (x := yL_step) B (hts _ List.mem_cons_self)
  have hown : s.vm.findClass RL = some m.cls := findClass_of_methodNamed B.named
  have hlocks := B.notSynchronized
  have hca := hE.2.2.2
  subst hsz
  have hD := hD0.self (sz := s.heap.size)
  generalize hAe : va_A (wL a cy T tr o f) s.heap.size = A at hD hE ⊢
  have hA : ∀ q : Nat, s.heap.size ≤ q → A q := fun q h => by rw [← hAe]; exact Or.inr h
  have hS : va_S A s.heap s.heap [] := va_S.rf
  have hP : va_P G vwCl (wL a cy T tr o f) s.heap := hP
  have hl := lv_entry ([.ref (a 0), .int x, .int y, .int z, .ref o]) (n := 6) (Nat.le_of_ble_eq_true rfl)
  rw [lg_entry_eq]
  generalize (lg_sl ([.ref (a 0), .int x, .int y, .int z, .ref o]) ++ List.replicate (6 - (lg_sl ([.ref (a 0), .int x, .int y, .int z, .ref o])).length) Slot.unset).toArray = ls at hl ⊢
  have hl : lv_has ls 6 [(0, .ref (a 0)), (1, .int x), (2, .int y), (3, .int z), (4, .ref o)] := hl
  refine lv_aload hx hb dL_step_0 (lv_at hl 4 rfl) ?_
  refine lv_iconst (v := 0) hx hb dL_step_2 (by decide) ?_
  refine lv_aload_n hx hb dL_step_3 rfl (lv_at hl 0 rfl) ?_
  refine lv_iload_n hx hb dL_step_4 rfl (lv_at hl 1 rfl) ?_
  refine lv_iload_n hx hb dL_step_5 rfl (lv_at hl 2 rfl) ?_
  refine lv_iload_n hx hb dL_step_6 rfl (lv_at hl 3 rfl) ?_
  have hPc := hP.sub (ws' := wC a cy T tr) [1, 2, 3, 4, 5, 6, 7, 8, 9, 10, 11, 12] rfl
  have hDc := hD.sub (ws' := wC a cy T tr) [1, 2, 3, 4, 5, 6, 7, 8, 9, 10, 11, 12] (by decide) rfl
  refine mo_xVi (G := G) (wr := [(o, .inl (cy 1, 1, .inr (.inl f)))]) (As := [.int x, .int y, .int z]) (rest := [.int 0, .ref o]) ⟨hx, hb, hml, hown, hts⟩ (c_X3_step l hlt G cy a s.heap.size T tr x y z hI) (cwV 3 hts gL_step_X3_step rfl rfl rfl (by decide +kernel) ⟨Nat.le_of_ble_eq_true rfl, Nat.le_of_ble_eq_true rfl⟩) (va_recv hK hPc (ci := 3) (q0 := 0) rfl rfl) hPc hDc hP hK hD hS hA [1, 2, 3, 4, 5, 6, 7, 8, 9, 10, 11, 12] [0] rfl rfl (by decide) (by decide) hN hE rfl hl.1 (Nat.le_of_ble_eq_true rfl) dL_step_7 ⟨Nat.le_of_ble_eq_true rfl, Nat.le_of_ble_eq_true rfl⟩ (fun E ce q9 H locs tr9 hpx hP hD hS hc1 hc2 hc3 => ?_) (fun r u H locs hw hP hD hS => ?_)
  · have hP : va_P G vwCl (wL a cy T tr9 o f) H := hP
    have hD : va_D A (wL a cy T tr9 o f) := hD
    rcases hpx with ⟨rfl, e9⟩ | ⟨rfl, e9⟩
    · refine vx_catch (own := RL) (name := eIA) hown [] ⟨0, 12, 15, 13⟩ [⟨0, 12, 19, 15⟩] hTb (fun z hz => absurd hz List.not_mem_nil) (by decide) (by decide) (hts (.classLink RL 13 eIA) (by decide +kernel)) (va_Nw.use rfl hca.1.1) hc1 hc2 hc3 ?_
      refine lv_astore (lv' := [(5, .ref q9), (0, .ref (a 0)), (1, .int x), (2, .int y), (3, .int z), (4, .ref o)]) hx hb dL_step_15 hl (by decide) rfl (fun ls hl => ?_)
      refine lv_iconst (v := 1) hx hb dL_step_17 (by decide) ?_
      exact ml_ri (tr9, f) hx hb hr hlocks hP hK hD hS (by rw [e9]) ⟨by rw [e9], fun h9 => absurd h9 (by rw [e9]; show ¬ ((1 : Int32) = 0); decide)⟩ dL_step_18
    · refine vx_catch (own := RL) (name := eIS) hown [⟨0, 12, 15, 13⟩] ⟨0, 12, 19, 15⟩ [] hTb (fun z hz => by obtain rfl := List.mem_singleton.mp hz; exact Or.inr ⟨by decide, eIA, hts (.classLink RL 13 eIA) (by decide +kernel), hca.2.1.1⟩) (by decide) (by decide) (hts (.classLink RL 15 eIS) (by decide +kernel)) (va_Nw.use rfl hca.1.2.1) hc1 hc2 hc3 ?_
      refine lv_astore (lv' := [(5, .ref q9), (0, .ref (a 0)), (1, .int x), (2, .int y), (3, .int z), (4, .ref o)]) hx hb dL_step_19 hl (by decide) rfl (fun ls hl => ?_)
      refine lv_iconst (v := 2) hx hb dL_step_21 (by decide) ?_
      exact ml_ri (tr9, f) hx hb hr hlocks hP hK hD hS (by rw [e9]) ⟨by rw [e9], fun h9 => absurd h9 (by rw [e9]; show ¬ ((2 : Int32) = 0); decide)⟩ dL_step_22
  · have hP : va_P G vwCl (wL a cy ((sp_step T x y z).2.2) u o f) H := hP
    have hD : va_D A (wL a cy ((sp_step T x y z).2.2) u o f) := hD
    refine W.widen (k := 1) (n := 6) (Nat.le_of_ble_eq_true rfl) (Nat.le_of_ble_eq_true rfl) ?_
    refine lv_i2l (v := r.toInt64) hx hb dL_step_10 rfl ?_
    refine ml_last hx hb hK hP hD hS 0 1 rfl rfl 0 rfl (by decide) (by decide) dL_step_11 (fun H locs hP hD hS => ?_)
    have hP : va_P G vwCl (wL a cy ((sp_step T x y z).2.2) u o (vp_updL f 0 (r.toInt64))) H := hP
    have hD : va_D A (wL a cy ((sp_step T x y z).2.2) u o (vp_updL f 0 (r.toInt64))) := hD
    refine lv_goto (tgt := 23) hx hb dL_step_12 (by decide) ?_
    refine lv_iconst (v := 0) hx hb dL_step_23 (by decide) ?_
    exact ml_ri (u, vp_updL f 0 r.toInt64) hx hb hr hlocks hP hK hD hS rfl ⟨hw.1.symm, fun _ => (show vp_updL f 0 r.toInt64 0 = _ from pk_uLs.trans (congrArg Int32.toInt64 hw.2.symm))⟩ dL_step_24
set_option maxHeartbeats 4000000 in
set_option maxRecDepth 100000 in
theorem c_L_cursor (l : Launch) (hlt : l.stackTraces = false) (G : va_G) (cy : Nat → ClassId) (a : Nat → Nat) (sz : Nat) (T : TS) (tr : Nat → Int32) (o : Nat) (f : Nat → Int64) (hI : Inv T) : Met l yL_cursor wsL_cursor ({ frames := 8, cells := 1, slots := 6, locals := 122 } : Room) (ml_PX G cy [.ref (a 0), .ref o] (wL a cy T tr o f) sz) (va_Qi (fun (r : Int32) (u : (Nat → Int32) × (Nat → Int64)) => r = (sp_cursor T).1 ∧ ((sp_cursor T).1 = 0 → u.2 0 = (sp_cursor T).2.1.toInt64)) (ml_B G cy (va_A (wL a cy T tr o f) sz) (fun u : (Nat → Int32) × (Nat → Int64) => (wL a cy (sp_cursor T).2.2 u.1 o u.2))) (va_A (wL a cy T tr o f) sz)) 1 6 (va_A (wL a cy T tr o f) sz) := by
  refine va_MetW (cc := cL_cursor) (maxL := 3) (ret := some .int) (hh := [(0, 8, 11, 15)]) (by decide) rfl ?_
  intro p e s m args below meth c s₁ B hml hv
  obtain ⟨rfl, hsz, hP, hK, hD0, hN, hE⟩ := hv
  have hx := B.exec
  have hb := B.bytes
  have hr := B.returns
  have hts := atoms_spec (ws := wsL_cursor) B.pre
  have hTb : c.exceptionTable.toList = tableOf [(0, 8, 11, 15)] := vx_table (x := yL_cursor) B (hts _ List.mem_cons_self)
  have hown : s.vm.findClass RL = some m.cls := findClass_of_methodNamed B.named
  have hlocks := B.notSynchronized
  have hca := hE.2.2.2
  subst hsz
  have hD := hD0.self (sz := s.heap.size)
  generalize hAe : va_A (wL a cy T tr o f) s.heap.size = A at hD hE ⊢
  have hA : ∀ q : Nat, s.heap.size ≤ q → A q := fun q h => by rw [← hAe]; exact Or.inr h
  have hS : va_S A s.heap s.heap [] := va_S.rf
  have hP : va_P G vwCl (wL a cy T tr o f) s.heap := hP
  have hl := lv_entry ([.ref (a 0), .ref o]) (n := 3) (Nat.le_of_ble_eq_true rfl)
  rw [lg_entry_eq]
  generalize (lg_sl ([.ref (a 0), .ref o]) ++ List.replicate (3 - (lg_sl ([.ref (a 0), .ref o])).length) Slot.unset).toArray = ls at hl ⊢
  have hl : lv_has ls 3 [(0, .ref (a 0)), (1, .ref o)] := hl
  refine lv_aload_n hx hb dL_cursor_0 rfl (lv_at hl 1 rfl) ?_
  refine lv_iconst (v := 0) hx hb dL_cursor_1 (by decide) ?_
  refine lv_aload_n hx hb dL_cursor_2 rfl (lv_at hl 0 rfl) ?_
  have hPc := hP.sub (ws' := wC a cy T tr) [1, 2, 3, 4, 5, 6, 7, 8, 9, 10, 11, 12] rfl
  have hDc := hD.sub (ws' := wC a cy T tr) [1, 2, 3, 4, 5, 6, 7, 8, 9, 10, 11, 12] (by decide) rfl
  refine mo_xVi (G := G) (wr := [(o, .inl (cy 1, 1, .inr (.inl f)))]) (As := []) (rest := [.int 0, .ref o]) ⟨hx, hb, hml, hown, hts⟩ (c_X3_cursor l hlt G cy a s.heap.size T tr hI) (cwV 0 hts gL_cursor_X3_cursor rfl rfl rfl (by decide +kernel) ⟨Nat.le_of_ble_eq_true rfl, Nat.le_of_ble_eq_true rfl⟩) (va_recv hK hPc (ci := 3) (q0 := 0) rfl rfl) hPc hDc hP hK hD hS hA [1, 2, 3, 4, 5, 6, 7, 8, 9, 10, 11, 12] [0] rfl rfl (by decide) (by decide) hN hE rfl hl.1 (Nat.le_of_ble_eq_true rfl) dL_cursor_3 ⟨Nat.le_of_ble_eq_true rfl, Nat.le_of_ble_eq_true rfl⟩ (fun E ce q9 H locs tr9 hpx hP hD hS hc1 hc2 hc3 => ?_) (fun r u H locs hw hP hD hS => ?_)
  · have hP : va_P G vwCl (wL a cy T tr9 o f) H := hP
    have hD : va_D A (wL a cy T tr9 o f) := hD
    obtain ⟨rfl, e9⟩ := hpx
    refine vx_catch (own := RL) (name := eIS) hown [] ⟨0, 8, 11, 15⟩ [] hTb (fun z hz => absurd hz List.not_mem_nil) (by decide) (by decide) (hts (.classLink RL 15 eIS) (by decide +kernel)) (va_Nw.use rfl hca.1.2.1) hc1 hc2 hc3 ?_
    refine lv_astore_n (lv' := [(2, .ref q9), (0, .ref (a 0)), (1, .ref o)]) hx hb dL_cursor_11 rfl hl (by decide) rfl (fun ls hl => ?_)
    refine lv_iconst (v := 1) hx hb dL_cursor_12 (by decide) ?_
    exact ml_ri (tr9, f) hx hb hr hlocks hP hK hD hS (by rw [e9]) ⟨by rw [e9], fun h9 => absurd h9 (by rw [e9]; show ¬ ((1 : Int32) = 0); decide)⟩ dL_cursor_13
  · have hP : va_P G vwCl (wL a cy ((sp_cursor T).2.2) u o f) H := hP
    have hD : va_D A (wL a cy ((sp_cursor T).2.2) u o f) := hD
    refine W.widen (k := 1) (n := 6) (Nat.le_of_ble_eq_true rfl) (Nat.le_of_ble_eq_true rfl) ?_
    refine lv_i2l (v := r.toInt64) hx hb dL_cursor_6 rfl ?_
    refine ml_last hx hb hK hP hD hS 0 1 rfl rfl 0 rfl (by decide) (by decide) dL_cursor_7 (fun H locs hP hD hS => ?_)
    have hP : va_P G vwCl (wL a cy ((sp_cursor T).2.2) u o (vp_updL f 0 (r.toInt64))) H := hP
    have hD : va_D A (wL a cy ((sp_cursor T).2.2) u o (vp_updL f 0 (r.toInt64))) := hD
    refine lv_goto (tgt := 14) hx hb dL_cursor_8 (by decide) ?_
    refine lv_iconst (v := 0) hx hb dL_cursor_14 (by decide) ?_
    exact ml_ri (u, vp_updL f 0 r.toInt64) hx hb hr hlocks hP hK hD hS rfl ⟨hw.1.symm, fun _ => (show vp_updL f 0 r.toInt64 0 = _ from pk_uLs.trans (congrArg Int32.toInt64 hw.2.symm))⟩ dL_cursor_15
set_option maxHeartbeats 4000000 in
set_option maxRecDepth 100000 in
theorem c_L_share (l : Launch) (hlt : l.stackTraces = false) (G : va_G) (cy : Nat → ClassId) (a : Nat → Nat) (sz : Nat) (T : TS) (tr : Nat → Int32) (o : Nat) (f : Nat → UInt64) (hI : Inv T) : Met l yL_share wsL_share ({ frames := 8, cells := 1, slots := 6, locals := 123 } : Room) (ml_PX G cy [.ref (a 0), .ref o] (wD a cy T tr o f) sz) (va_Qi (fun (r : Int32) (u : (Nat → Int32) × (Nat → UInt64)) => r = (sp_share T).1 ∧ ((sp_share T).1 = 0 → u.2 0 = FP.f2d (sp_share T).2)) (ml_B G cy (va_A (wD a cy T tr o f) sz) (fun u : (Nat → Int32) × (Nat → UInt64) => (wD a cy T u.1 o u.2))) (va_A (wD a cy T tr o f) sz)) 1 6 (va_A (wD a cy T tr o f) sz) := by
  refine va_MetW (cc := cL_share) (maxL := 3) (ret := some .int) (hh := [(0, 8, 11, 15)]) (by decide) rfl ?_
  intro p e s m args below meth c s₁ B hml hv
  obtain ⟨rfl, hsz, hP, hK, hD0, hN, hE⟩ := hv
  have hx := B.exec
  have hb := B.bytes
  have hr := B.returns
  have hts := atoms_spec (ws := wsL_share) B.pre
  have hTb : c.exceptionTable.toList = tableOf [(0, 8, 11, 15)] := vx_table (x := yL_share) B (hts _ List.mem_cons_self)
  have hown : s.vm.findClass RL = some m.cls := findClass_of_methodNamed B.named
  have hlocks := B.notSynchronized
  have hca := hE.2.2.2
  subst hsz
  have hD := hD0.self (sz := s.heap.size)
  generalize hAe : va_A (wD a cy T tr o f) s.heap.size = A at hD hE ⊢
  have hA : ∀ q : Nat, s.heap.size ≤ q → A q := fun q h => by rw [← hAe]; exact Or.inr h
  have hS : va_S A s.heap s.heap [] := va_S.rf
  have hP : va_P G vwCl (wD a cy T tr o f) s.heap := hP
  have hl := lv_entry ([.ref (a 0), .ref o]) (n := 3) (Nat.le_of_ble_eq_true rfl)
  rw [lg_entry_eq]
  generalize (lg_sl ([.ref (a 0), .ref o]) ++ List.replicate (3 - (lg_sl ([.ref (a 0), .ref o])).length) Slot.unset).toArray = ls at hl ⊢
  have hl : lv_has ls 3 [(0, .ref (a 0)), (1, .ref o)] := hl
  refine lv_aload_n hx hb dL_share_0 rfl (lv_at hl 1 rfl) ?_
  refine lv_iconst (v := 0) hx hb dL_share_1 (by decide) ?_
  refine lv_aload_n hx hb dL_share_2 rfl (lv_at hl 0 rfl) ?_
  have hPc := hP.sub (ws' := wC a cy T tr) [1, 2, 3, 4, 5, 6, 7, 8, 9, 10, 11, 12] rfl
  have hDc := hD.sub (ws' := wC a cy T tr) [1, 2, 3, 4, 5, 6, 7, 8, 9, 10, 11, 12] (by decide) rfl
  refine mo_xVf (G := G) (wr := [(o, .inl (cy 3, 1, .inr (.inr (.inr (.inl f)))))]) (As := []) (rest := [.int 0, .ref o]) ⟨hx, hb, hml, hown, hts⟩ (c_X3_share l hlt G cy a s.heap.size T tr hI) (cwV 0 hts gL_share_X3_share rfl rfl rfl (by decide +kernel) ⟨Nat.le_of_ble_eq_true rfl, Nat.le_of_ble_eq_true rfl⟩) (va_recv hK hPc (ci := 3) (q0 := 0) rfl rfl) hPc hDc hP hK hD hS hA [1, 2, 3, 4, 5, 6, 7, 8, 9, 10, 11, 12] [0] rfl rfl (by decide) (by decide) hN hE rfl hl.1 (Nat.le_of_ble_eq_true rfl) dL_share_3 ⟨Nat.le_of_ble_eq_true rfl, Nat.le_of_ble_eq_true rfl⟩ (fun E ce q9 H locs tr9 hpx hP hD hS hc1 hc2 hc3 => ?_) (fun r u H locs hw hP hD hS => ?_)
  · have hP : va_P G vwCl (wD a cy T tr9 o f) H := hP
    have hD : va_D A (wD a cy T tr9 o f) := hD
    obtain ⟨rfl, e9⟩ := hpx
    refine vx_catch (own := RL) (name := eIS) hown [] ⟨0, 8, 11, 15⟩ [] hTb (fun z hz => absurd hz List.not_mem_nil) (by decide) (by decide) (hts (.classLink RL 15 eIS) (by decide +kernel)) (va_Nw.use rfl hca.1.2.1) hc1 hc2 hc3 ?_
    refine lv_astore_n (lv' := [(2, .ref q9), (0, .ref (a 0)), (1, .ref o)]) hx hb dL_share_11 rfl hl (by decide) rfl (fun ls hl => ?_)
    refine lv_iconst (v := 1) hx hb dL_share_12 (by decide) ?_
    exact ml_ri (tr9, f) hx hb hr hlocks hP hK hD hS rfl ⟨by rw [e9], fun h9 => absurd h9 (by rw [e9]; show ¬ ((1 : Int32) = 0); decide)⟩ dL_share_13
  · have hP : va_P G vwCl (wD a cy T u o f) H := hP
    have hD : va_D A (wD a cy T u o f) := hD
    refine W.widen (k := 1) (n := 6) (Nat.le_of_ble_eq_true rfl) (Nat.le_of_ble_eq_true rfl) ?_
    have hsh := sh_n64 hw.1
    obtain ⟨hw1, rfl⟩ := hw
    refine lv_f2d hx hb dL_share_6 hsh.1 ?_
    refine va_dast hx hb hK hP hD hS 0 3 rfl rfl (vp_in_nI (n := 0) (by decide) (by decide)) dL_share_7 (fun H locs hP hD hS => ?_)
    have hP : va_P G vwCl (wD a cy T u o (vf_upd f (0 : Int32).toNatClampNeg (FP.f2d (sp_share T).2))) H := hP
    have hD : va_D A (wD a cy T u o (vf_upd f (0 : Int32).toNatClampNeg (FP.f2d (sp_share T).2))) := hD
    refine lv_goto (tgt := 14) hx hb dL_share_8 (by decide) ?_
    refine lv_iconst (v := 0) hx hb dL_share_14 (by decide) ?_
    exact ml_ri (u, vf_upd f (0 : Int32).toNatClampNeg (FP.f2d (sp_share T).2)) hx hb hr hlocks hP hK hD hS rfl ⟨hw1.symm, fun _ => (show vf_upd f (0 : Int32).toNatClampNeg (FP.f2d (sp_share T).2) 0 = _ by unfold vf_upd; exact if_pos (by decide))⟩ dL_share_15
