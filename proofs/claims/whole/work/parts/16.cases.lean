/-! THE LAW: its world, its cases -/
abbrev wW (cy : Nat → ClassId) (mm a : Nat → Nat) (Tm : TS) (rf : Int32) (sp : Nat → Int64) (Tc : TS) (tr : Nat → Int32) (o : Nat) (f : Nat → Int64) (od : Nat) (d : Nat → UInt64) : va_W := (od, .inl (cy 3, 1, .inr (.inr (.inr (.inl d))))) :: (wM mm cy Tm rf sp ++ wL a cy Tc tr o f)
def lw_C (p : Program) (l : Launch) (s : State) (m : MethodId) (meth : Method) (c : Code) (b L : Nat) (xs : Nat → Int32) (G : va_G) (cy : Nat → ClassId) : Prop := L ≤ 2560 ∧ lw_At p s m meth c b L xs ∧ l.stackTraces = false ∧ va_K G vwCl (tyA cy) s ∧ ml_N s ∧ ml_eX (fun q : Nat => s.heap.size ≤ q) s s.heap
def lw_K (p : Program) (l : Launch) (e : Env) (s : State) (m : MethodId) (below : List Frame) (meth : Method) (c : Code) (b : Nat) (G : va_G) (cy : Nat → ClassId) (mm a : Nat → Nat) (o od i cells slots : Nat) : Prop :=
  ∀ (T : TS) (rf : Int32) (sp : Nat → Int64) (tr : Nat → Int32) (f : Nat → Int64) (d : Nat → UInt64) (H : Heap) (locs : List Loc) (ls : Array Slot), Inv T → va_P G vwCl (wW cy mm a T rf sp T tr o f od d) H → va_D (fun q : Nat => s.heap.size ≤ q) (wW cy mm a T rf sp T tr o f od d) → va_S (fun q : Nat => s.heap.size ≤ q) s.heap H locs → lv_has ls 8 [(0, .ref b), (1, .ref (a 0)), (2, .ref (mm 0)), (3, .ref o), (4, .ref od), (5, .int (nI i))] →
    W p l e room_1 s m #[Value.ref b] below meth c H locs (cells + 1) (slots + 6) (lw_Z below #[Value.ref b] s) (F0 m 1505 ls [])
set_option maxHeartbeats 4000000 in
set_option maxRecDepth 100000 in
theorem k_addChange {p : Program} {l : Launch} {e : Env} {s : State} {m : MethodId} {below : List Frame} {meth : Method} {c : Code} {b L : Nat} {xs : Nat → Int32} {G : va_G} {cy : Nat → ClassId} {mm a : Nat → Nat} {o od i cells slots : Nat} (C0 : lw_C p l s m meth c b L xs G cy) (hi : i + 5 ≤ L) (hcl : cells + 1 ≤ 1077) (hsl : slots + 6 ≤ 8842) {T : TS} {rf : Int32} {sp : Nat → Int64} {tr : Nat → Int32} {f : Nat → Int64} {d : Nat → UInt64} {H : Heap} {locs : List Loc} {ls : Array Slot} (hI : Inv T) (hP : va_P G vwCl (wW cy mm a T rf sp T tr o f od d) H) (hD : va_D (fun q : Nat => s.heap.size ≤ q) (wW cy mm a T rf sp T tr o f od d)) (hS : va_S (fun q : Nat => s.heap.size ≤ q) s.heap H locs) (hl : lv_has ls 8 [(0, .ref b), (1, .ref (a 0)), (2, .ref (mm 0)), (3, .ref o), (4, .ref od), (5, .int (nI i))]) (kk : lw_K p l e s m below meth c b G cy mm a o od i cells slots) : W p l e room_1 s m #[Value.ref b] below meth c H locs cells slots (lw_Z below #[Value.ref b] s) (F0 m 156 ls []) := by
  obtain ⟨hL, C1, hlt, hK, hN, hE⟩ := C0
  obtain ⟨hx, hb, hr, hml, hown, hts0, hX, hbl, hlocks, hgv⟩ := C1
  have hb : c.code = cL_law := hb
  have hown : s.vm.findClass RL = some m.cls := hown
  have hts : ∀ w ∈ wsL_law, w.before #[Value.ref b] s = true := fun w h => hts0 w (wsL_law_in w h)
  have hA : ∀ q : Nat, s.heap.size ≤ q → (fun q : Nat => s.heap.size ≤ q) q := fun _ h => h
  have hbA : ¬ (fun q : Nat => s.heap.size ≤ q) b := Nat.not_le.mpr hbl
  have hcl : cells + 1 ≤ room_1.cells := hcl
  have hsl : slots + 6 ≤ room_1.slots := hsl
  refine lv_aload_n hx hb dL_law_156 rfl (lv_at hl 1 rfl) ?_
  refine lv_aload_n hx hb dL_law_157 rfl (lv_at hl 0 rfl) ?_
  refine lv_iload hx hb dL_law_158 (lv_at hl 5 rfl) ?_
  refine lv_iconst (v := 1) hx hb dL_law_160 (by decide) ?_
  refine lv_iadd hx hb dL_law_161 ?_
  refine ml_eqi (nI (i + 1)) (nI_1 i) ?_
  refine va_sld hx hb hX hbl hbA hS (vp_in_nI (by omega) (by omega)) dL_law_162 ?_
  refine ml_eqi (xs (i + 1)) (by rw [nI_clamp (by omega)]) ?_
  refine lv_aload_n hx hb dL_law_163 rfl (lv_at hl 0 rfl) ?_
  refine lv_iload hx hb dL_law_164 (lv_at hl 5 rfl) ?_
  refine lv_iconst (v := 2) hx hb dL_law_166 (by decide) ?_
  refine lv_iadd hx hb dL_law_167 ?_
  refine ml_eqi (nI (i + 2)) (nI_add i 2) ?_
  refine va_sld hx hb hX hbl hbA hS (vp_in_nI (by omega) (by omega)) dL_law_168 ?_
  refine ml_eqi (xs (i + 2)) (by rw [nI_clamp (by omega)]) ?_
  refine lv_aload_n hx hb dL_law_169 rfl (lv_at hl 0 rfl) ?_
  refine lv_iload hx hb dL_law_170 (lv_at hl 5 rfl) ?_
  refine lv_iconst (v := 3) hx hb dL_law_172 (by decide) ?_
  refine lv_iadd hx hb dL_law_173 ?_
  refine ml_eqi (nI (i + 3)) (nI_add i 3) ?_
  refine va_sld hx hb hX hbl hbA hS (vp_in_nI (by omega) (by omega)) dL_law_174 ?_
  refine ml_eqi (xs (i + 3)) (by rw [nI_clamp (by omega)]) ?_
  refine lv_aload_n hx hb dL_law_175 rfl (lv_at hl 3 rfl) ?_
  have hPc := hP.sub (ws' := (wL a cy T tr o f)) [10, 11, 12, 13, 14, 15, 16, 17, 18, 19, 20, 21, 22] rfl
  have hDc := hD.sub (ws' := (wL a cy T tr o f)) [10, 11, 12, 13, 14, 15, 16, 17, 18, 19, 20, 21, 22] (by decide) rfl
  refine mo_SWi (G := G) (wr := ((od, .inl (cy 3, 1, .inr (.inr (.inr (.inl d))))) :: wM mm cy T rf sp)) (As := [.ref (a 0), .int (xs (i + 1)), .int (xs (i + 2)), .int (xs (i + 3)), .ref o]) (rest := []) ⟨hx, hb, hml, hown, hts⟩ (c_L_addChange l hlt G cy a H.size T tr ((xs (i + 1))) ((xs (i + 2))) ((xs (i + 3))) o f hI) (vx_cwSW 5 hts gL_law_L_addChange rfl rfl rfl (by decide +kernel) ⟨Nat.le_of_ble_eq_true rfl, Nat.le_of_ble_eq_true rfl⟩) hPc hDc hP hK hD hS hA [10, 11, 12, 13, 14, 15, 16, 17, 18, 19, 20, 21, 22] [0, 1, 2, 3, 4, 5, 6, 7, 8, 9] rfl rfl (by decide) (by decide) hN hE rfl hl.1 (Nat.le_of_ble_eq_true rfl) dL_law_176 ⟨hcl, hsl⟩ (fun k9 u9 H locs hw hP hD hS => ?_)
  obtain ⟨tr9, f9⟩ := u9
  obtain ⟨hw1, hw2⟩ := hw
  obtain rfl : k9 = (sp_addChange T ((xs (i + 1))) ((xs (i + 2))) ((xs (i + 3)))).1 := hw1
  have hw2 : (sp_addChange T ((xs (i + 1))) ((xs (i + 2))) ((xs (i + 3)))).1 = 0 → f9 0 = (sp_addChange T ((xs (i + 1))) ((xs (i + 2))) ((xs (i + 3)))).2.1.toInt64 := hw2
  have hP : va_P G vwCl (wW cy mm a T rf sp ((sp_addChange T ((xs (i + 1))) ((xs (i + 2))) ((xs (i + 3)))).2.2) tr9 o f9 od d) H := hP
  have hD : va_D (fun q : Nat => s.heap.size ≤ q) (wW cy mm a T rf sp ((sp_addChange T ((xs (i + 1))) ((xs (i + 2))) ((xs (i + 3)))).2.2) tr9 o f9 od d) := hD
  refine lv_istore (lv' := [(6, .int (sp_addChange T ((xs (i + 1))) ((xs (i + 2))) ((xs (i + 3)))).1), (0, .ref b), (1, .ref (a 0)), (2, .ref (mm 0)), (3, .ref o), (4, .ref od), (5, .int (nI i))]) hx hb dL_law_179 hl (by decide) rfl (fun ls hl => ?_)
  refine lv_aload_n hx hb dL_law_181 rfl (lv_at hl 3 rfl) ?_
  refine lv_aload_n hx hb dL_law_182 rfl (lv_at hl 1 rfl) ?_
  refine lv_iload hx hb dL_law_183 (lv_at hl 6 rfl) ?_
  refine lv_iconst (v := 1) hx hb dL_law_185 (by decide) ?_
  refine lv_iadd hx hb dL_law_186 ?_
  refine ml_eqi (nI (i + 1)) (nI_1 i) ?_
  refine va_sld hx hb hX hbl hbA hS (vp_in_nI (by omega) (by omega)) dL_law_187 ?_
  refine ml_eqi (xs (i + 1)) (by rw [nI_clamp (by omega)]) ?_
  refine lv_aload_n hx hb dL_law_188 rfl (lv_at hl 1 rfl) ?_
  refine lv_iload hx hb dL_law_189 (lv_at hl 6 rfl) ?_
  refine lv_iconst (v := 2) hx hb dL_law_191 (by decide) ?_
  refine lv_iadd hx hb dL_law_192 ?_
  refine ml_eqi (nI (i + 2)) (nI_add i 2) ?_
  refine va_sld hx hb hX hbl hbA hS (vp_in_nI (by omega) (by omega)) dL_law_193 ?_
  refine ml_eqi (xs (i + 2)) (by rw [nI_clamp (by omega)]) ?_
  refine lv_aload_n hx hb dL_law_194 rfl (lv_at hl 1 rfl) ?_
  refine lv_iload hx hb dL_law_195 (lv_at hl 6 rfl) ?_
  refine lv_iconst (v := 3) hx hb dL_law_197 (by decide) ?_
  refine lv_iadd hx hb dL_law_198 ?_
  refine ml_eqi (nI (i + 3)) (nI_add i 3) ?_
  refine va_sld hx hb hX hbl hbA hS (vp_in_nI (by omega) (by omega)) dL_law_199 ?_
  refine ml_eqi (xs (i + 3)) (by rw [nI_clamp (by omega)]) ?_
  have hPc := hP.sub (ws' := (wM mm cy T rf sp)) [1, 2, 3, 4, 5, 6, 7, 8, 9] rfl
  have hDc := hD.sub (ws' := (wM mm cy T rf sp)) [1, 2, 3, 4, 5, 6, 7, 8, 9] (by decide) rfl
  refine mo_Vi (G := G) (wr := ((od, .inl (cy 3, 1, .inr (.inr (.inr (.inl d))))) :: wL a cy ((sp_addChange T ((xs (i + 1))) ((xs (i + 2))) ((xs (i + 3)))).2.2) tr9 o f9)) (As := [.int (xs (i + 1)), .int (xs (i + 2)), .int (xs (i + 3))]) (rest := []) ⟨hx, hb, hml, hown, hts⟩ (c_X4_addChange l G cy mm H.size T rf sp ((xs (i + 1))) ((xs (i + 2))) ((xs (i + 3))) hI) (cwV 3 hts gL_law_X4_addChange rfl rfl rfl (by decide +kernel) ⟨Nat.le_of_ble_eq_true rfl, Nat.le_of_ble_eq_true rfl⟩) (va_recv hK hPc (ci := 4) (q0 := 0) rfl rfl) hPc hDc hP hK hD hS hA [1, 2, 3, 4, 5, 6, 7, 8, 9] [0, 10, 11, 12, 13, 14, 15, 16, 17, 18, 19, 20, 21, 22] rfl rfl (by decide) (by decide) hN rfl hl.1 (Nat.le_of_ble_eq_true rfl) dL_law_200 ⟨hcl, hsl⟩ (fun r_200 u_200 H locs hw hP hD hS => ?_)
  obtain rfl : (sp_addChange T ((xs (i + 1))) ((xs (i + 2))) ((xs (i + 3)))).2.1 = r_200 := hw
  have hP := hP.sub (ws' := (wW cy mm a ((sp_addChange T ((xs (i + 1))) ((xs (i + 2))) ((xs (i + 3)))).2.2) ((sp_addChange T ((xs (i + 1))) ((xs (i + 2))) ((xs (i + 3)))).1) u_200 ((sp_addChange T ((xs (i + 1))) ((xs (i + 2))) ((xs (i + 3)))).2.2) tr9 o f9 od d)) [0, 14, 15, 16, 17, 18, 19, 20, 21, 22, 1, 2, 3, 4, 5, 6, 7, 8, 9, 10, 11, 12, 13] rfl
  have hD := hD.sub (ws' := (wW cy mm a ((sp_addChange T ((xs (i + 1))) ((xs (i + 2))) ((xs (i + 3)))).2.2) ((sp_addChange T ((xs (i + 1))) ((xs (i + 2))) ((xs (i + 3)))).1) u_200 ((sp_addChange T ((xs (i + 1))) ((xs (i + 2))) ((xs (i + 3)))).2.2) tr9 o f9 od d)) [0, 14, 15, 16, 17, 18, 19, 20, 21, 22, 1, 2, 3, 4, 5, 6, 7, 8, 9, 10, 11, 12, 13] (by decide) rfl
  have hP : va_P G vwCl (wW cy mm a ((sp_addChange T ((xs (i + 1))) ((xs (i + 2))) ((xs (i + 3)))).2.2) ((sp_addChange T ((xs (i + 1))) ((xs (i + 2))) ((xs (i + 3)))).1) u_200 ((sp_addChange T ((xs (i + 1))) ((xs (i + 2))) ((xs (i + 3)))).2.2) tr9 o f9 od d) H := hP
  have hD : va_D (fun q : Nat => s.heap.size ≤ q) (wW cy mm a ((sp_addChange T ((xs (i + 1))) ((xs (i + 2))) ((xs (i + 3)))).2.2) ((sp_addChange T ((xs (i + 1))) ((xs (i + 2))) ((xs (i + 3)))).1) u_200 ((sp_addChange T ((xs (i + 1))) ((xs (i + 2))) ((xs (i + 3)))).2.2) tr9 o f9 od d) := hD
  refine lv_istore (lv' := [(7, .int (sp_addChange T ((xs (i + 1))) ((xs (i + 2))) ((xs (i + 3)))).2.1), (6, .int (sp_addChange T ((xs (i + 1))) ((xs (i + 2))) ((xs (i + 3)))).1), (0, .ref b), (1, .ref (a 0)), (2, .ref (mm 0)), (3, .ref o), (4, .ref od), (5, .int (nI i))]) hx hb dL_law_203 hl (by decide) rfl (fun ls hl => ?_)
  refine lv_aload_n hx hb dL_law_205 rfl (lv_at hl 4 rfl) ?_
  have hPc := hP.sub (ws' := (wM mm cy ((sp_addChange T ((xs (i + 1))) ((xs (i + 2))) ((xs (i + 3)))).2.2) ((sp_addChange T ((xs (i + 1))) ((xs (i + 2))) ((xs (i + 3)))).1) u_200)) [1, 2, 3, 4, 5, 6, 7, 8, 9] rfl
  have hDc := hD.sub (ws' := (wM mm cy ((sp_addChange T ((xs (i + 1))) ((xs (i + 2))) ((xs (i + 3)))).2.2) ((sp_addChange T ((xs (i + 1))) ((xs (i + 2))) ((xs (i + 3)))).1) u_200)) [1, 2, 3, 4, 5, 6, 7, 8, 9] (by decide) rfl
  refine mo_Vi (G := G) (wr := ((od, .inl (cy 3, 1, .inr (.inr (.inr (.inl d))))) :: wL a cy ((sp_addChange T ((xs (i + 1))) ((xs (i + 2))) ((xs (i + 3)))).2.2) tr9 o f9)) (As := []) (rest := []) ⟨hx, hb, hml, hown, hts⟩ (c_X4_thrown l G cy mm H.size ((sp_addChange T ((xs (i + 1))) ((xs (i + 2))) ((xs (i + 3)))).2.2) ((sp_addChange T ((xs (i + 1))) ((xs (i + 2))) ((xs (i + 3)))).1) u_200) (cwV 0 hts gL_law_X4_thrown rfl rfl rfl (by decide +kernel) ⟨Nat.le_of_ble_eq_true rfl, Nat.le_of_ble_eq_true rfl⟩) (va_recv hK hPc (ci := 4) (q0 := 0) rfl rfl) hPc hDc hP hK hD hS hA [1, 2, 3, 4, 5, 6, 7, 8, 9] [0, 10, 11, 12, 13, 14, 15, 16, 17, 18, 19, 20, 21, 22] rfl rfl (by decide) (by decide) hN rfl hl.1 (Nat.le_of_ble_eq_true rfl) dL_law_206 ⟨hcl, hsl⟩ (fun r_206 u_206 H locs hw hP hD hS => ?_)
  obtain rfl : r_206 = (sp_addChange T ((xs (i + 1))) ((xs (i + 2))) ((xs (i + 3)))).1 := hw
  have hP := hP.sub (ws' := (wW cy mm a ((sp_addChange T ((xs (i + 1))) ((xs (i + 2))) ((xs (i + 3)))).2.2) ((sp_addChange T ((xs (i + 1))) ((xs (i + 2))) ((xs (i + 3)))).1) u_200 ((sp_addChange T ((xs (i + 1))) ((xs (i + 2))) ((xs (i + 3)))).2.2) tr9 o f9 od d)) [0, 14, 15, 16, 17, 18, 19, 20, 21, 22, 1, 2, 3, 4, 5, 6, 7, 8, 9, 10, 11, 12, 13] rfl
  have hD := hD.sub (ws' := (wW cy mm a ((sp_addChange T ((xs (i + 1))) ((xs (i + 2))) ((xs (i + 3)))).2.2) ((sp_addChange T ((xs (i + 1))) ((xs (i + 2))) ((xs (i + 3)))).1) u_200 ((sp_addChange T ((xs (i + 1))) ((xs (i + 2))) ((xs (i + 3)))).2.2) tr9 o f9 od d)) [0, 14, 15, 16, 17, 18, 19, 20, 21, 22, 1, 2, 3, 4, 5, 6, 7, 8, 9, 10, 11, 12, 13] (by decide) rfl
  have hP : va_P G vwCl (wW cy mm a ((sp_addChange T ((xs (i + 1))) ((xs (i + 2))) ((xs (i + 3)))).2.2) ((sp_addChange T ((xs (i + 1))) ((xs (i + 2))) ((xs (i + 3)))).1) u_200 ((sp_addChange T ((xs (i + 1))) ((xs (i + 2))) ((xs (i + 3)))).2.2) tr9 o f9 od d) H := hP
  have hD : va_D (fun q : Nat => s.heap.size ≤ q) (wW cy mm a ((sp_addChange T ((xs (i + 1))) ((xs (i + 2))) ((xs (i + 3)))).2.2) ((sp_addChange T ((xs (i + 1))) ((xs (i + 2))) ((xs (i + 3)))).1) u_200 ((sp_addChange T ((xs (i + 1))) ((xs (i + 2))) ((xs (i + 3)))).2.2) tr9 o f9 od d) := hD
  refine lv_iload hx hb dL_law_209 (lv_at hl 1 rfl) ?_
  refine lv_icmp_eq (tgt := 216) hx hb dL_law_211 (by decide) (fun _ => ?_) (fun c_9 => absurd rfl c_9)
  refine lv_iload hx hb dL_law_216 (lv_at hl 1 rfl) ?_
  refine lv_if_ne (tgt := 233) hx hb dL_law_218 (by decide) (fun c_0 => ?_) (fun c_0 => ?_)
  · skip
    refine lv_goto (tgt := 1505) hx hb dL_law_233 (by decide) ?_
    exact kk ((sp_addChange T ((xs (i + 1))) ((xs (i + 2))) ((xs (i + 3)))).2.2) ((sp_addChange T ((xs (i + 1))) ((xs (i + 2))) ((xs (i + 3)))).1) u_200 tr9 f9 d H _ ls (inv_addChange hI ((xs (i + 1))) ((xs (i + 2))) ((xs (i + 3)))) hP hD hS (lv_sub hl [2, 3, 4, 5, 6, 7] rfl)
  · skip
    refine lv_aload_n hx hb dL_law_221 rfl (lv_at hl 5 rfl) ?_
    refine lv_iconst (v := 0) hx hb dL_law_222 (by decide) ?_
    refine ml_lald hx hb hK hP 10 1 rfl rfl 0 rfl (by decide) (by decide) ((sp_addChange T ((xs (i + 1))) ((xs (i + 2))) ((xs (i + 3)))).2.1.toInt64) (hw2 c_0) dL_law_223 ?_
    refine lv_iload hx hb dL_law_224 (lv_at hl 0 rfl) ?_
    refine lv_i2l (v := (sp_addChange T ((xs (i + 1))) ((xs (i + 2))) ((xs (i + 3)))).2.1.toInt64) hx hb dL_law_226 rfl ?_
    refine W.lcmp hx hb dL_law_227 ?_
    refine lv_if_eq (tgt := 233) hx hb dL_law_228 (by decide) (fun _ => ?_) (fun c_9 => absurd ((lg_cmp_eq _ _).mpr rfl) c_9)
    refine lv_goto (tgt := 1505) hx hb dL_law_233 (by decide) ?_
    exact kk ((sp_addChange T ((xs (i + 1))) ((xs (i + 2))) ((xs (i + 3)))).2.2) ((sp_addChange T ((xs (i + 1))) ((xs (i + 2))) ((xs (i + 3)))).1) u_200 tr9 f9 d H _ ls (inv_addChange hI ((xs (i + 1))) ((xs (i + 2))) ((xs (i + 3)))) hP hD hS (lv_sub hl [2, 3, 4, 5, 6, 7] rfl)
set_option maxHeartbeats 4000000 in
set_option maxRecDepth 100000 in
theorem k_edit {p : Program} {l : Launch} {e : Env} {s : State} {m : MethodId} {below : List Frame} {meth : Method} {c : Code} {b L : Nat} {xs : Nat → Int32} {G : va_G} {cy : Nat → ClassId} {mm a : Nat → Nat} {o od i cells slots : Nat} (C0 : lw_C p l s m meth c b L xs G cy) (hi : i + 5 ≤ L) (hcl : cells + 1 ≤ 1077) (hsl : slots + 6 ≤ 8842) {T : TS} {rf : Int32} {sp : Nat → Int64} {tr : Nat → Int32} {f : Nat → Int64} {d : Nat → UInt64} {H : Heap} {locs : List Loc} {ls : Array Slot} (hI : Inv T) (hP : va_P G vwCl (wW cy mm a T rf sp T tr o f od d) H) (hD : va_D (fun q : Nat => s.heap.size ≤ q) (wW cy mm a T rf sp T tr o f od d)) (hS : va_S (fun q : Nat => s.heap.size ≤ q) s.heap H locs) (hl : lv_has ls 8 [(0, .ref b), (1, .ref (a 0)), (2, .ref (mm 0)), (3, .ref o), (4, .ref od), (5, .int (nI i))]) (kk : lw_K p l e s m below meth c b G cy mm a o od i cells slots) : W p l e room_1 s m #[Value.ref b] below meth c H locs cells slots (lw_Z below #[Value.ref b] s) (F0 m 236 ls []) := by
  obtain ⟨hL, C1, hlt, hK, hN, hE⟩ := C0
  obtain ⟨hx, hb, hr, hml, hown, hts0, hX, hbl, hlocks, hgv⟩ := C1
  have hb : c.code = cL_law := hb
  have hown : s.vm.findClass RL = some m.cls := hown
  have hts : ∀ w ∈ wsL_law, w.before #[Value.ref b] s = true := fun w h => hts0 w (wsL_law_in w h)
  have hA : ∀ q : Nat, s.heap.size ≤ q → (fun q : Nat => s.heap.size ≤ q) q := fun _ h => h
  have hbA : ¬ (fun q : Nat => s.heap.size ≤ q) b := Nat.not_le.mpr hbl
  have hcl : cells + 1 ≤ room_1.cells := hcl
  have hsl : slots + 6 ≤ room_1.slots := hsl
  refine lv_aload_n hx hb dL_law_236 rfl (lv_at hl 1 rfl) ?_
  refine lv_aload_n hx hb dL_law_237 rfl (lv_at hl 0 rfl) ?_
  refine lv_iload hx hb dL_law_238 (lv_at hl 5 rfl) ?_
  refine lv_iconst (v := 1) hx hb dL_law_240 (by decide) ?_
  refine lv_iadd hx hb dL_law_241 ?_
  refine ml_eqi (nI (i + 1)) (nI_1 i) ?_
  refine va_sld hx hb hX hbl hbA hS (vp_in_nI (by omega) (by omega)) dL_law_242 ?_
  refine ml_eqi (xs (i + 1)) (by rw [nI_clamp (by omega)]) ?_
  refine lv_aload_n hx hb dL_law_243 rfl (lv_at hl 0 rfl) ?_
  refine lv_iload hx hb dL_law_244 (lv_at hl 5 rfl) ?_
  refine lv_iconst (v := 2) hx hb dL_law_246 (by decide) ?_
  refine lv_iadd hx hb dL_law_247 ?_
  refine ml_eqi (nI (i + 2)) (nI_add i 2) ?_
  refine va_sld hx hb hX hbl hbA hS (vp_in_nI (by omega) (by omega)) dL_law_248 ?_
  refine ml_eqi (xs (i + 2)) (by rw [nI_clamp (by omega)]) ?_
  refine lv_aload_n hx hb dL_law_249 rfl (lv_at hl 0 rfl) ?_
  refine lv_iload hx hb dL_law_250 (lv_at hl 5 rfl) ?_
  refine lv_iconst (v := 3) hx hb dL_law_252 (by decide) ?_
  refine lv_iadd hx hb dL_law_253 ?_
  refine ml_eqi (nI (i + 3)) (nI_add i 3) ?_
  refine va_sld hx hb hX hbl hbA hS (vp_in_nI (by omega) (by omega)) dL_law_254 ?_
  refine ml_eqi (xs (i + 3)) (by rw [nI_clamp (by omega)]) ?_
  refine lv_aload_n hx hb dL_law_255 rfl (lv_at hl 0 rfl) ?_
  refine lv_iload hx hb dL_law_256 (lv_at hl 5 rfl) ?_
  refine lv_iconst (v := 4) hx hb dL_law_258 (by decide) ?_
  refine lv_iadd hx hb dL_law_259 ?_
  refine ml_eqi (nI (i + 4)) (nI_add i 4) ?_
  refine va_sld hx hb hX hbl hbA hS (vp_in_nI (by omega) (by omega)) dL_law_260 ?_
  refine ml_eqi (xs (i + 4)) (by rw [nI_clamp (by omega)]) ?_
  refine lv_aload_n hx hb dL_law_261 rfl (lv_at hl 3 rfl) ?_
  have hPc := hP.sub (ws' := (wL a cy T tr o f)) [10, 11, 12, 13, 14, 15, 16, 17, 18, 19, 20, 21, 22] rfl
  have hDc := hD.sub (ws' := (wL a cy T tr o f)) [10, 11, 12, 13, 14, 15, 16, 17, 18, 19, 20, 21, 22] (by decide) rfl
  refine mo_SWi (G := G) (wr := ((od, .inl (cy 3, 1, .inr (.inr (.inr (.inl d))))) :: wM mm cy T rf sp)) (As := [.ref (a 0), .int (xs (i + 1)), .int (xs (i + 2)), .int (xs (i + 3)), .int (xs (i + 4)), .ref o]) (rest := []) ⟨hx, hb, hml, hown, hts⟩ (c_L_edit l hlt G cy a H.size T tr ((xs (i + 1))) ((xs (i + 2))) ((xs (i + 3))) ((xs (i + 4))) o f hI) (vx_cwSW 6 hts gL_law_L_edit rfl rfl rfl (by decide +kernel) ⟨Nat.le_of_ble_eq_true rfl, Nat.le_of_ble_eq_true rfl⟩) hPc hDc hP hK hD hS hA [10, 11, 12, 13, 14, 15, 16, 17, 18, 19, 20, 21, 22] [0, 1, 2, 3, 4, 5, 6, 7, 8, 9] rfl rfl (by decide) (by decide) hN hE rfl hl.1 (Nat.le_of_ble_eq_true rfl) dL_law_262 ⟨hcl, hsl⟩ (fun k9 u9 H locs hw hP hD hS => ?_)
  obtain ⟨tr9, f9⟩ := u9
  obtain ⟨hw1, hw2⟩ := hw
  obtain rfl : k9 = (sp_edit T ((xs (i + 1))) ((xs (i + 2))) ((xs (i + 3))) ((xs (i + 4)))).1 := hw1
  have hw2 : (sp_edit T ((xs (i + 1))) ((xs (i + 2))) ((xs (i + 3))) ((xs (i + 4)))).1 = 0 → f9 0 = (sp_edit T ((xs (i + 1))) ((xs (i + 2))) ((xs (i + 3))) ((xs (i + 4)))).2.1.toInt64 := hw2
  have hP : va_P G vwCl (wW cy mm a T rf sp ((sp_edit T ((xs (i + 1))) ((xs (i + 2))) ((xs (i + 3))) ((xs (i + 4)))).2.2) tr9 o f9 od d) H := hP
  have hD : va_D (fun q : Nat => s.heap.size ≤ q) (wW cy mm a T rf sp ((sp_edit T ((xs (i + 1))) ((xs (i + 2))) ((xs (i + 3))) ((xs (i + 4)))).2.2) tr9 o f9 od d) := hD
  refine lv_istore (lv' := [(6, .int (sp_edit T ((xs (i + 1))) ((xs (i + 2))) ((xs (i + 3))) ((xs (i + 4)))).1), (0, .ref b), (1, .ref (a 0)), (2, .ref (mm 0)), (3, .ref o), (4, .ref od), (5, .int (nI i))]) hx hb dL_law_265 hl (by decide) rfl (fun ls hl => ?_)
  refine lv_aload_n hx hb dL_law_267 rfl (lv_at hl 3 rfl) ?_
  refine lv_aload_n hx hb dL_law_268 rfl (lv_at hl 1 rfl) ?_
  refine lv_iload hx hb dL_law_269 (lv_at hl 6 rfl) ?_
  refine lv_iconst (v := 1) hx hb dL_law_271 (by decide) ?_
  refine lv_iadd hx hb dL_law_272 ?_
  refine ml_eqi (nI (i + 1)) (nI_1 i) ?_
  refine va_sld hx hb hX hbl hbA hS (vp_in_nI (by omega) (by omega)) dL_law_273 ?_
  refine ml_eqi (xs (i + 1)) (by rw [nI_clamp (by omega)]) ?_
  refine lv_aload_n hx hb dL_law_274 rfl (lv_at hl 1 rfl) ?_
  refine lv_iload hx hb dL_law_275 (lv_at hl 6 rfl) ?_
  refine lv_iconst (v := 2) hx hb dL_law_277 (by decide) ?_
  refine lv_iadd hx hb dL_law_278 ?_
  refine ml_eqi (nI (i + 2)) (nI_add i 2) ?_
  refine va_sld hx hb hX hbl hbA hS (vp_in_nI (by omega) (by omega)) dL_law_279 ?_
  refine ml_eqi (xs (i + 2)) (by rw [nI_clamp (by omega)]) ?_
  refine lv_aload_n hx hb dL_law_280 rfl (lv_at hl 1 rfl) ?_
  refine lv_iload hx hb dL_law_281 (lv_at hl 6 rfl) ?_
  refine lv_iconst (v := 3) hx hb dL_law_283 (by decide) ?_
  refine lv_iadd hx hb dL_law_284 ?_
  refine ml_eqi (nI (i + 3)) (nI_add i 3) ?_
  refine va_sld hx hb hX hbl hbA hS (vp_in_nI (by omega) (by omega)) dL_law_285 ?_
  refine ml_eqi (xs (i + 3)) (by rw [nI_clamp (by omega)]) ?_
  refine lv_aload_n hx hb dL_law_286 rfl (lv_at hl 1 rfl) ?_
  refine lv_iload hx hb dL_law_287 (lv_at hl 6 rfl) ?_
  refine lv_iconst (v := 4) hx hb dL_law_289 (by decide) ?_
  refine lv_iadd hx hb dL_law_290 ?_
  refine ml_eqi (nI (i + 4)) (nI_add i 4) ?_
  refine va_sld hx hb hX hbl hbA hS (vp_in_nI (by omega) (by omega)) dL_law_291 ?_
  refine ml_eqi (xs (i + 4)) (by rw [nI_clamp (by omega)]) ?_
  have hPc := hP.sub (ws' := (wM mm cy T rf sp)) [1, 2, 3, 4, 5, 6, 7, 8, 9] rfl
  have hDc := hD.sub (ws' := (wM mm cy T rf sp)) [1, 2, 3, 4, 5, 6, 7, 8, 9] (by decide) rfl
  refine mo_Vi (G := G) (wr := ((od, .inl (cy 3, 1, .inr (.inr (.inr (.inl d))))) :: wL a cy ((sp_edit T ((xs (i + 1))) ((xs (i + 2))) ((xs (i + 3))) ((xs (i + 4)))).2.2) tr9 o f9)) (As := [.int (xs (i + 1)), .int (xs (i + 2)), .int (xs (i + 3)), .int (xs (i + 4))]) (rest := []) ⟨hx, hb, hml, hown, hts⟩ (c_X4_edit l G cy mm H.size T rf sp ((xs (i + 1))) ((xs (i + 2))) ((xs (i + 3))) ((xs (i + 4))) hI) (cwV 4 hts gL_law_X4_edit rfl rfl rfl (by decide +kernel) ⟨Nat.le_of_ble_eq_true rfl, Nat.le_of_ble_eq_true rfl⟩) (va_recv hK hPc (ci := 4) (q0 := 0) rfl rfl) hPc hDc hP hK hD hS hA [1, 2, 3, 4, 5, 6, 7, 8, 9] [0, 10, 11, 12, 13, 14, 15, 16, 17, 18, 19, 20, 21, 22] rfl rfl (by decide) (by decide) hN rfl hl.1 (Nat.le_of_ble_eq_true rfl) dL_law_292 ⟨hcl, hsl⟩ (fun r_292 u_292 H locs hw hP hD hS => ?_)
  obtain rfl : (sp_edit T ((xs (i + 1))) ((xs (i + 2))) ((xs (i + 3))) ((xs (i + 4)))).2.1 = r_292 := hw
  have hP := hP.sub (ws' := (wW cy mm a ((sp_edit T ((xs (i + 1))) ((xs (i + 2))) ((xs (i + 3))) ((xs (i + 4)))).2.2) ((sp_edit T ((xs (i + 1))) ((xs (i + 2))) ((xs (i + 3))) ((xs (i + 4)))).1) u_292 ((sp_edit T ((xs (i + 1))) ((xs (i + 2))) ((xs (i + 3))) ((xs (i + 4)))).2.2) tr9 o f9 od d)) [0, 14, 15, 16, 17, 18, 19, 20, 21, 22, 1, 2, 3, 4, 5, 6, 7, 8, 9, 10, 11, 12, 13] rfl
  have hD := hD.sub (ws' := (wW cy mm a ((sp_edit T ((xs (i + 1))) ((xs (i + 2))) ((xs (i + 3))) ((xs (i + 4)))).2.2) ((sp_edit T ((xs (i + 1))) ((xs (i + 2))) ((xs (i + 3))) ((xs (i + 4)))).1) u_292 ((sp_edit T ((xs (i + 1))) ((xs (i + 2))) ((xs (i + 3))) ((xs (i + 4)))).2.2) tr9 o f9 od d)) [0, 14, 15, 16, 17, 18, 19, 20, 21, 22, 1, 2, 3, 4, 5, 6, 7, 8, 9, 10, 11, 12, 13] (by decide) rfl
  have hP : va_P G vwCl (wW cy mm a ((sp_edit T ((xs (i + 1))) ((xs (i + 2))) ((xs (i + 3))) ((xs (i + 4)))).2.2) ((sp_edit T ((xs (i + 1))) ((xs (i + 2))) ((xs (i + 3))) ((xs (i + 4)))).1) u_292 ((sp_edit T ((xs (i + 1))) ((xs (i + 2))) ((xs (i + 3))) ((xs (i + 4)))).2.2) tr9 o f9 od d) H := hP
  have hD : va_D (fun q : Nat => s.heap.size ≤ q) (wW cy mm a ((sp_edit T ((xs (i + 1))) ((xs (i + 2))) ((xs (i + 3))) ((xs (i + 4)))).2.2) ((sp_edit T ((xs (i + 1))) ((xs (i + 2))) ((xs (i + 3))) ((xs (i + 4)))).1) u_292 ((sp_edit T ((xs (i + 1))) ((xs (i + 2))) ((xs (i + 3))) ((xs (i + 4)))).2.2) tr9 o f9 od d) := hD
  refine lv_istore (lv' := [(7, .int (sp_edit T ((xs (i + 1))) ((xs (i + 2))) ((xs (i + 3))) ((xs (i + 4)))).2.1), (6, .int (sp_edit T ((xs (i + 1))) ((xs (i + 2))) ((xs (i + 3))) ((xs (i + 4)))).1), (0, .ref b), (1, .ref (a 0)), (2, .ref (mm 0)), (3, .ref o), (4, .ref od), (5, .int (nI i))]) hx hb dL_law_295 hl (by decide) rfl (fun ls hl => ?_)
  refine lv_aload_n hx hb dL_law_297 rfl (lv_at hl 4 rfl) ?_
  have hPc := hP.sub (ws' := (wM mm cy ((sp_edit T ((xs (i + 1))) ((xs (i + 2))) ((xs (i + 3))) ((xs (i + 4)))).2.2) ((sp_edit T ((xs (i + 1))) ((xs (i + 2))) ((xs (i + 3))) ((xs (i + 4)))).1) u_292)) [1, 2, 3, 4, 5, 6, 7, 8, 9] rfl
  have hDc := hD.sub (ws' := (wM mm cy ((sp_edit T ((xs (i + 1))) ((xs (i + 2))) ((xs (i + 3))) ((xs (i + 4)))).2.2) ((sp_edit T ((xs (i + 1))) ((xs (i + 2))) ((xs (i + 3))) ((xs (i + 4)))).1) u_292)) [1, 2, 3, 4, 5, 6, 7, 8, 9] (by decide) rfl
  refine mo_Vi (G := G) (wr := ((od, .inl (cy 3, 1, .inr (.inr (.inr (.inl d))))) :: wL a cy ((sp_edit T ((xs (i + 1))) ((xs (i + 2))) ((xs (i + 3))) ((xs (i + 4)))).2.2) tr9 o f9)) (As := []) (rest := []) ⟨hx, hb, hml, hown, hts⟩ (c_X4_thrown l G cy mm H.size ((sp_edit T ((xs (i + 1))) ((xs (i + 2))) ((xs (i + 3))) ((xs (i + 4)))).2.2) ((sp_edit T ((xs (i + 1))) ((xs (i + 2))) ((xs (i + 3))) ((xs (i + 4)))).1) u_292) (cwV 0 hts gL_law_X4_thrown rfl rfl rfl (by decide +kernel) ⟨Nat.le_of_ble_eq_true rfl, Nat.le_of_ble_eq_true rfl⟩) (va_recv hK hPc (ci := 4) (q0 := 0) rfl rfl) hPc hDc hP hK hD hS hA [1, 2, 3, 4, 5, 6, 7, 8, 9] [0, 10, 11, 12, 13, 14, 15, 16, 17, 18, 19, 20, 21, 22] rfl rfl (by decide) (by decide) hN rfl hl.1 (Nat.le_of_ble_eq_true rfl) dL_law_298 ⟨hcl, hsl⟩ (fun r_298 u_298 H locs hw hP hD hS => ?_)
  obtain rfl : r_298 = (sp_edit T ((xs (i + 1))) ((xs (i + 2))) ((xs (i + 3))) ((xs (i + 4)))).1 := hw
  have hP := hP.sub (ws' := (wW cy mm a ((sp_edit T ((xs (i + 1))) ((xs (i + 2))) ((xs (i + 3))) ((xs (i + 4)))).2.2) ((sp_edit T ((xs (i + 1))) ((xs (i + 2))) ((xs (i + 3))) ((xs (i + 4)))).1) u_292 ((sp_edit T ((xs (i + 1))) ((xs (i + 2))) ((xs (i + 3))) ((xs (i + 4)))).2.2) tr9 o f9 od d)) [0, 14, 15, 16, 17, 18, 19, 20, 21, 22, 1, 2, 3, 4, 5, 6, 7, 8, 9, 10, 11, 12, 13] rfl
  have hD := hD.sub (ws' := (wW cy mm a ((sp_edit T ((xs (i + 1))) ((xs (i + 2))) ((xs (i + 3))) ((xs (i + 4)))).2.2) ((sp_edit T ((xs (i + 1))) ((xs (i + 2))) ((xs (i + 3))) ((xs (i + 4)))).1) u_292 ((sp_edit T ((xs (i + 1))) ((xs (i + 2))) ((xs (i + 3))) ((xs (i + 4)))).2.2) tr9 o f9 od d)) [0, 14, 15, 16, 17, 18, 19, 20, 21, 22, 1, 2, 3, 4, 5, 6, 7, 8, 9, 10, 11, 12, 13] (by decide) rfl
  have hP : va_P G vwCl (wW cy mm a ((sp_edit T ((xs (i + 1))) ((xs (i + 2))) ((xs (i + 3))) ((xs (i + 4)))).2.2) ((sp_edit T ((xs (i + 1))) ((xs (i + 2))) ((xs (i + 3))) ((xs (i + 4)))).1) u_292 ((sp_edit T ((xs (i + 1))) ((xs (i + 2))) ((xs (i + 3))) ((xs (i + 4)))).2.2) tr9 o f9 od d) H := hP
  have hD : va_D (fun q : Nat => s.heap.size ≤ q) (wW cy mm a ((sp_edit T ((xs (i + 1))) ((xs (i + 2))) ((xs (i + 3))) ((xs (i + 4)))).2.2) ((sp_edit T ((xs (i + 1))) ((xs (i + 2))) ((xs (i + 3))) ((xs (i + 4)))).1) u_292 ((sp_edit T ((xs (i + 1))) ((xs (i + 2))) ((xs (i + 3))) ((xs (i + 4)))).2.2) tr9 o f9 od d) := hD
  refine lv_iload hx hb dL_law_301 (lv_at hl 1 rfl) ?_
  refine lv_icmp_eq (tgt := 308) hx hb dL_law_303 (by decide) (fun _ => ?_) (fun c_9 => absurd rfl c_9)
  refine lv_iload hx hb dL_law_308 (lv_at hl 1 rfl) ?_
  refine lv_if_ne (tgt := 325) hx hb dL_law_310 (by decide) (fun c_0 => ?_) (fun c_0 => ?_)
  · skip
    refine lv_goto (tgt := 1505) hx hb dL_law_325 (by decide) ?_
    exact kk ((sp_edit T ((xs (i + 1))) ((xs (i + 2))) ((xs (i + 3))) ((xs (i + 4)))).2.2) ((sp_edit T ((xs (i + 1))) ((xs (i + 2))) ((xs (i + 3))) ((xs (i + 4)))).1) u_292 tr9 f9 d H _ ls (inv_edit hI ((xs (i + 1))) ((xs (i + 2))) ((xs (i + 3))) ((xs (i + 4)))) hP hD hS (lv_sub hl [2, 3, 4, 5, 6, 7] rfl)
  · skip
    refine lv_aload_n hx hb dL_law_313 rfl (lv_at hl 5 rfl) ?_
    refine lv_iconst (v := 0) hx hb dL_law_314 (by decide) ?_
    refine ml_lald hx hb hK hP 10 1 rfl rfl 0 rfl (by decide) (by decide) ((sp_edit T ((xs (i + 1))) ((xs (i + 2))) ((xs (i + 3))) ((xs (i + 4)))).2.1.toInt64) (hw2 c_0) dL_law_315 ?_
    refine lv_iload hx hb dL_law_316 (lv_at hl 0 rfl) ?_
    refine lv_i2l (v := (sp_edit T ((xs (i + 1))) ((xs (i + 2))) ((xs (i + 3))) ((xs (i + 4)))).2.1.toInt64) hx hb dL_law_318 rfl ?_
    refine W.lcmp hx hb dL_law_319 ?_
    refine lv_if_eq (tgt := 325) hx hb dL_law_320 (by decide) (fun _ => ?_) (fun c_9 => absurd ((lg_cmp_eq _ _).mpr rfl) c_9)
    refine lv_goto (tgt := 1505) hx hb dL_law_325 (by decide) ?_
    exact kk ((sp_edit T ((xs (i + 1))) ((xs (i + 2))) ((xs (i + 3))) ((xs (i + 4)))).2.2) ((sp_edit T ((xs (i + 1))) ((xs (i + 2))) ((xs (i + 3))) ((xs (i + 4)))).1) u_292 tr9 f9 d H _ ls (inv_edit hI ((xs (i + 1))) ((xs (i + 2))) ((xs (i + 3))) ((xs (i + 4)))) hP hD hS (lv_sub hl [2, 3, 4, 5, 6, 7] rfl)
set_option maxHeartbeats 4000000 in
set_option maxRecDepth 100000 in
theorem k_changes {p : Program} {l : Launch} {e : Env} {s : State} {m : MethodId} {below : List Frame} {meth : Method} {c : Code} {b L : Nat} {xs : Nat → Int32} {G : va_G} {cy : Nat → ClassId} {mm a : Nat → Nat} {o od i cells slots : Nat} (C0 : lw_C p l s m meth c b L xs G cy) (hi : i + 5 ≤ L) (hcl : cells + 1 ≤ 1077) (hsl : slots + 6 ≤ 8842) {T : TS} {rf : Int32} {sp : Nat → Int64} {tr : Nat → Int32} {f : Nat → Int64} {d : Nat → UInt64} {H : Heap} {locs : List Loc} {ls : Array Slot} (hI : Inv T) (hP : va_P G vwCl (wW cy mm a T rf sp T tr o f od d) H) (hD : va_D (fun q : Nat => s.heap.size ≤ q) (wW cy mm a T rf sp T tr o f od d)) (hS : va_S (fun q : Nat => s.heap.size ≤ q) s.heap H locs) (hl : lv_has ls 8 [(0, .ref b), (1, .ref (a 0)), (2, .ref (mm 0)), (3, .ref o), (4, .ref od), (5, .int (nI i))]) (kk : lw_K p l e s m below meth c b G cy mm a o od i cells slots) : W p l e room_1 s m #[Value.ref b] below meth c H locs cells slots (lw_Z below #[Value.ref b] s) (F0 m 328 ls []) := by
  obtain ⟨hL, C1, hlt, hK, hN, hE⟩ := C0
  obtain ⟨hx, hb, hr, hml, hown, hts0, hX, hbl, hlocks, hgv⟩ := C1
  have hb : c.code = cL_law := hb
  have hown : s.vm.findClass RL = some m.cls := hown
  have hts : ∀ w ∈ wsL_law, w.before #[Value.ref b] s = true := fun w h => hts0 w (wsL_law_in w h)
  have hA : ∀ q : Nat, s.heap.size ≤ q → (fun q : Nat => s.heap.size ≤ q) q := fun _ h => h
  have hbA : ¬ (fun q : Nat => s.heap.size ≤ q) b := Nat.not_le.mpr hbl
  have hcl : cells + 1 ≤ room_1.cells := hcl
  have hsl : slots + 6 ≤ room_1.slots := hsl
  refine lv_aload_n hx hb dL_law_328 rfl (lv_at hl 1 rfl) ?_
  have hPc := hP.sub (ws' := (wC a cy T tr)) [11, 12, 13, 14, 15, 16, 17, 18, 19, 20, 21, 22] rfl
  have hDc := hD.sub (ws' := (wC a cy T tr)) [11, 12, 13, 14, 15, 16, 17, 18, 19, 20, 21, 22] (by decide) rfl
  refine mo_Vi (G := G) (wr := ((od, .inl (cy 3, 1, .inr (.inr (.inr (.inl d))))) :: (wM mm cy T rf sp ++ [(o, .inl (cy 1, 1, .inr (.inl f)))]))) (As := []) (rest := []) ⟨hx, hb, hml, hown, hts⟩ (c_X3_changes l G cy a H.size T tr hI) (cwV 0 hts gL_law_X3_changes rfl rfl rfl (by decide +kernel) ⟨Nat.le_of_ble_eq_true rfl, Nat.le_of_ble_eq_true rfl⟩) (va_recv hK hPc (ci := 3) (q0 := 0) rfl rfl) hPc hDc hP hK hD hS hA [11, 12, 13, 14, 15, 16, 17, 18, 19, 20, 21, 22] [0, 1, 2, 3, 4, 5, 6, 7, 8, 9, 10] rfl rfl (by decide) (by decide) hN rfl hl.1 (Nat.le_of_ble_eq_true rfl) dL_law_329 ⟨Nat.le_of_succ_le hcl, Nat.le_trans (Nat.le_add_right _ 6) hsl⟩ (fun r_329 u_329 H locs hw hP hD hS => ?_)
  obtain rfl : r_329 = nI (tn T) := hw
  have hP : va_P G vwCl (wW cy mm a T rf sp T tr o f od d) H := hP
  have hD : va_D (fun q : Nat => s.heap.size ≤ q) (wW cy mm a T rf sp T tr o f od d) := hD
  refine lv_aload_n hx hb dL_law_332 rfl (lv_at hl 2 rfl) ?_
  have hPc := hP.sub (ws' := (wM mm cy T rf sp)) [1, 2, 3, 4, 5, 6, 7, 8, 9] rfl
  have hDc := hD.sub (ws' := (wM mm cy T rf sp)) [1, 2, 3, 4, 5, 6, 7, 8, 9] (by decide) rfl
  refine mo_Vi (G := G) (wr := ((od, .inl (cy 3, 1, .inr (.inr (.inr (.inl d))))) :: wL a cy T tr o f)) (As := []) (rest := [.int (nI (tn T))]) ⟨hx, hb, hml, hown, hts⟩ (c_X4_changes l G cy mm H.size T rf sp hI) (cwV 0 hts gL_law_X4_changes rfl rfl rfl (by decide +kernel) ⟨Nat.le_of_ble_eq_true rfl, Nat.le_of_ble_eq_true rfl⟩) (va_recv hK hPc (ci := 4) (q0 := 0) rfl rfl) hPc hDc hP hK hD hS hA [1, 2, 3, 4, 5, 6, 7, 8, 9] [0, 10, 11, 12, 13, 14, 15, 16, 17, 18, 19, 20, 21, 22] rfl rfl (by decide) (by decide) hN rfl hl.1 (Nat.le_of_ble_eq_true rfl) dL_law_333 ⟨Nat.le_of_succ_le hcl, Nat.le_trans (Nat.le_add_right _ 6) hsl⟩ (fun r_333 u_333 H locs hw hP hD hS => ?_)
  obtain rfl : r_333 = nI (tn T) := hw
  have hP := hP.sub (ws' := (wW cy mm a T 0 sp T tr o f od d)) [0, 14, 15, 16, 17, 18, 19, 20, 21, 22, 1, 2, 3, 4, 5, 6, 7, 8, 9, 10, 11, 12, 13] rfl
  have hD := hD.sub (ws' := (wW cy mm a T 0 sp T tr o f od d)) [0, 14, 15, 16, 17, 18, 19, 20, 21, 22, 1, 2, 3, 4, 5, 6, 7, 8, 9, 10, 11, 12, 13] (by decide) rfl
  have hP : va_P G vwCl (wW cy mm a T 0 sp T tr o f od d) H := hP
  have hD : va_D (fun q : Nat => s.heap.size ≤ q) (wW cy mm a T 0 sp T tr o f od d) := hD
  refine lv_icmp_eq (tgt := 1505) hx hb dL_law_336 (by decide) (fun _ => ?_) (fun c_9 => absurd rfl c_9)
  refine W.widen (k := cells + 1) (n := slots + 6) (Nat.le_succ _) (Nat.le_add_right _ 6) ?_
  exact kk T 0 sp tr f d H _ ls hI hP hD hS (lv_sub hl [0, 1, 2, 3, 4, 5] rfl)
set_option maxHeartbeats 4000000 in
set_option maxRecDepth 100000 in
theorem k_checksum {p : Program} {l : Launch} {e : Env} {s : State} {m : MethodId} {below : List Frame} {meth : Method} {c : Code} {b L : Nat} {xs : Nat → Int32} {G : va_G} {cy : Nat → ClassId} {mm a : Nat → Nat} {o od i cells slots : Nat} (C0 : lw_C p l s m meth c b L xs G cy) (hi : i + 5 ≤ L) (hcl : cells + 1 ≤ 1077) (hsl : slots + 6 ≤ 8842) {T : TS} {rf : Int32} {sp : Nat → Int64} {tr : Nat → Int32} {f : Nat → Int64} {d : Nat → UInt64} {H : Heap} {locs : List Loc} {ls : Array Slot} (hI : Inv T) (hP : va_P G vwCl (wW cy mm a T rf sp T tr o f od d) H) (hD : va_D (fun q : Nat => s.heap.size ≤ q) (wW cy mm a T rf sp T tr o f od d)) (hS : va_S (fun q : Nat => s.heap.size ≤ q) s.heap H locs) (hl : lv_has ls 8 [(0, .ref b), (1, .ref (a 0)), (2, .ref (mm 0)), (3, .ref o), (4, .ref od), (5, .int (nI i))]) (kk : lw_K p l e s m below meth c b G cy mm a o od i cells slots) : W p l e room_1 s m #[Value.ref b] below meth c H locs cells slots (lw_Z below #[Value.ref b] s) (F0 m 341 ls []) := by
  obtain ⟨hL, C1, hlt, hK, hN, hE⟩ := C0
  obtain ⟨hx, hb, hr, hml, hown, hts0, hX, hbl, hlocks, hgv⟩ := C1
  have hb : c.code = cL_law := hb
  have hown : s.vm.findClass RL = some m.cls := hown
  have hts : ∀ w ∈ wsL_law, w.before #[Value.ref b] s = true := fun w h => hts0 w (wsL_law_in w h)
  have hA : ∀ q : Nat, s.heap.size ≤ q → (fun q : Nat => s.heap.size ≤ q) q := fun _ h => h
  have hbA : ¬ (fun q : Nat => s.heap.size ≤ q) b := Nat.not_le.mpr hbl
  have hcl : cells + 1 ≤ room_1.cells := hcl
  have hsl : slots + 6 ≤ room_1.slots := hsl
  refine lv_aload_n hx hb dL_law_341 rfl (lv_at hl 1 rfl) ?_
  refine lv_aload_n hx hb dL_law_342 rfl (lv_at hl 0 rfl) ?_
  refine lv_iload hx hb dL_law_343 (lv_at hl 5 rfl) ?_
  refine lv_iconst (v := 1) hx hb dL_law_345 (by decide) ?_
  refine lv_iadd hx hb dL_law_346 ?_
  refine ml_eqi (nI (i + 1)) (nI_1 i) ?_
  refine va_sld hx hb hX hbl hbA hS (vp_in_nI (by omega) (by omega)) dL_law_347 ?_
  refine ml_eqi (xs (i + 1)) (by rw [nI_clamp (by omega)]) ?_
  refine lv_aload_n hx hb dL_law_348 rfl (lv_at hl 3 rfl) ?_
  have hPc := hP.sub (ws' := (wL a cy T tr o f)) [10, 11, 12, 13, 14, 15, 16, 17, 18, 19, 20, 21, 22] rfl
  have hDc := hD.sub (ws' := (wL a cy T tr o f)) [10, 11, 12, 13, 14, 15, 16, 17, 18, 19, 20, 21, 22] (by decide) rfl
  refine mo_SWi (G := G) (wr := ((od, .inl (cy 3, 1, .inr (.inr (.inr (.inl d))))) :: wM mm cy T rf sp)) (As := [.ref (a 0), .int (xs (i + 1)), .ref o]) (rest := []) ⟨hx, hb, hml, hown, hts⟩ (c_L_checksum l hlt G cy a H.size T tr ((xs (i + 1))) o f hI) (vx_cwSW 3 hts gL_law_L_checksum rfl rfl rfl (by decide +kernel) ⟨Nat.le_of_ble_eq_true rfl, Nat.le_of_ble_eq_true rfl⟩) hPc hDc hP hK hD hS hA [10, 11, 12, 13, 14, 15, 16, 17, 18, 19, 20, 21, 22] [0, 1, 2, 3, 4, 5, 6, 7, 8, 9] rfl rfl (by decide) (by decide) hN hE rfl hl.1 (Nat.le_of_ble_eq_true rfl) dL_law_349 ⟨hcl, hsl⟩ (fun k9 u9 H locs hw hP hD hS => ?_)
  obtain ⟨tr9, f9⟩ := u9
  obtain ⟨hw1, hw2⟩ := hw
  obtain rfl : k9 = (sp_checksum T ((xs (i + 1)))).1 := hw1
  have hw2 : (sp_checksum T ((xs (i + 1)))).1 = 0 → f9 0 = (sp_checksum T ((xs (i + 1)))).2.1.toInt64 := hw2
  have hP : va_P G vwCl (wW cy mm a T rf sp ((sp_checksum T ((xs (i + 1)))).2.2) tr9 o f9 od d) H := hP
  have hD : va_D (fun q : Nat => s.heap.size ≤ q) (wW cy mm a T rf sp ((sp_checksum T ((xs (i + 1)))).2.2) tr9 o f9 od d) := hD
  refine lv_istore (lv' := [(6, .int (sp_checksum T ((xs (i + 1)))).1), (0, .ref b), (1, .ref (a 0)), (2, .ref (mm 0)), (3, .ref o), (4, .ref od), (5, .int (nI i))]) hx hb dL_law_352 hl (by decide) rfl (fun ls hl => ?_)
  refine lv_aload_n hx hb dL_law_354 rfl (lv_at hl 3 rfl) ?_
  refine lv_aload_n hx hb dL_law_355 rfl (lv_at hl 1 rfl) ?_
  refine lv_iload hx hb dL_law_356 (lv_at hl 6 rfl) ?_
  refine lv_iconst (v := 1) hx hb dL_law_358 (by decide) ?_
  refine lv_iadd hx hb dL_law_359 ?_
  refine ml_eqi (nI (i + 1)) (nI_1 i) ?_
  refine va_sld hx hb hX hbl hbA hS (vp_in_nI (by omega) (by omega)) dL_law_360 ?_
  refine ml_eqi (xs (i + 1)) (by rw [nI_clamp (by omega)]) ?_
  have hPc := hP.sub (ws' := (wM mm cy T rf sp)) [1, 2, 3, 4, 5, 6, 7, 8, 9] rfl
  have hDc := hD.sub (ws' := (wM mm cy T rf sp)) [1, 2, 3, 4, 5, 6, 7, 8, 9] (by decide) rfl
  refine mo_Vi (G := G) (wr := ((od, .inl (cy 3, 1, .inr (.inr (.inr (.inl d))))) :: wL a cy ((sp_checksum T ((xs (i + 1)))).2.2) tr9 o f9)) (As := [.int (xs (i + 1))]) (rest := []) ⟨hx, hb, hml, hown, hts⟩ (c_X4_checksum l G cy mm H.size T rf sp ((xs (i + 1))) hI) (cwV 1 hts gL_law_X4_checksum rfl rfl rfl (by decide +kernel) ⟨Nat.le_of_ble_eq_true rfl, Nat.le_of_ble_eq_true rfl⟩) (va_recv hK hPc (ci := 4) (q0 := 0) rfl rfl) hPc hDc hP hK hD hS hA [1, 2, 3, 4, 5, 6, 7, 8, 9] [0, 10, 11, 12, 13, 14, 15, 16, 17, 18, 19, 20, 21, 22] rfl rfl (by decide) (by decide) hN rfl hl.1 (Nat.le_of_ble_eq_true rfl) dL_law_361 ⟨hcl, hsl⟩ (fun r_361 u_361 H locs hw hP hD hS => ?_)
  obtain rfl : (sp_checksum T ((xs (i + 1)))).2.1 = r_361 := hw
  have hP := hP.sub (ws' := (wW cy mm a ((sp_checksum T ((xs (i + 1)))).2.2) ((sp_checksum T ((xs (i + 1)))).1) u_361 ((sp_checksum T ((xs (i + 1)))).2.2) tr9 o f9 od d)) [0, 14, 15, 16, 17, 18, 19, 20, 21, 22, 1, 2, 3, 4, 5, 6, 7, 8, 9, 10, 11, 12, 13] rfl
  have hD := hD.sub (ws' := (wW cy mm a ((sp_checksum T ((xs (i + 1)))).2.2) ((sp_checksum T ((xs (i + 1)))).1) u_361 ((sp_checksum T ((xs (i + 1)))).2.2) tr9 o f9 od d)) [0, 14, 15, 16, 17, 18, 19, 20, 21, 22, 1, 2, 3, 4, 5, 6, 7, 8, 9, 10, 11, 12, 13] (by decide) rfl
  have hP : va_P G vwCl (wW cy mm a ((sp_checksum T ((xs (i + 1)))).2.2) ((sp_checksum T ((xs (i + 1)))).1) u_361 ((sp_checksum T ((xs (i + 1)))).2.2) tr9 o f9 od d) H := hP
  have hD : va_D (fun q : Nat => s.heap.size ≤ q) (wW cy mm a ((sp_checksum T ((xs (i + 1)))).2.2) ((sp_checksum T ((xs (i + 1)))).1) u_361 ((sp_checksum T ((xs (i + 1)))).2.2) tr9 o f9 od d) := hD
  refine lv_istore (lv' := [(7, .int (sp_checksum T ((xs (i + 1)))).2.1), (6, .int (sp_checksum T ((xs (i + 1)))).1), (0, .ref b), (1, .ref (a 0)), (2, .ref (mm 0)), (3, .ref o), (4, .ref od), (5, .int (nI i))]) hx hb dL_law_364 hl (by decide) rfl (fun ls hl => ?_)
  refine lv_aload_n hx hb dL_law_366 rfl (lv_at hl 4 rfl) ?_
  have hPc := hP.sub (ws' := (wM mm cy ((sp_checksum T ((xs (i + 1)))).2.2) ((sp_checksum T ((xs (i + 1)))).1) u_361)) [1, 2, 3, 4, 5, 6, 7, 8, 9] rfl
  have hDc := hD.sub (ws' := (wM mm cy ((sp_checksum T ((xs (i + 1)))).2.2) ((sp_checksum T ((xs (i + 1)))).1) u_361)) [1, 2, 3, 4, 5, 6, 7, 8, 9] (by decide) rfl
  refine mo_Vi (G := G) (wr := ((od, .inl (cy 3, 1, .inr (.inr (.inr (.inl d))))) :: wL a cy ((sp_checksum T ((xs (i + 1)))).2.2) tr9 o f9)) (As := []) (rest := []) ⟨hx, hb, hml, hown, hts⟩ (c_X4_thrown l G cy mm H.size ((sp_checksum T ((xs (i + 1)))).2.2) ((sp_checksum T ((xs (i + 1)))).1) u_361) (cwV 0 hts gL_law_X4_thrown rfl rfl rfl (by decide +kernel) ⟨Nat.le_of_ble_eq_true rfl, Nat.le_of_ble_eq_true rfl⟩) (va_recv hK hPc (ci := 4) (q0 := 0) rfl rfl) hPc hDc hP hK hD hS hA [1, 2, 3, 4, 5, 6, 7, 8, 9] [0, 10, 11, 12, 13, 14, 15, 16, 17, 18, 19, 20, 21, 22] rfl rfl (by decide) (by decide) hN rfl hl.1 (Nat.le_of_ble_eq_true rfl) dL_law_367 ⟨hcl, hsl⟩ (fun r_367 u_367 H locs hw hP hD hS => ?_)
  obtain rfl : r_367 = (sp_checksum T ((xs (i + 1)))).1 := hw
  have hP := hP.sub (ws' := (wW cy mm a ((sp_checksum T ((xs (i + 1)))).2.2) ((sp_checksum T ((xs (i + 1)))).1) u_361 ((sp_checksum T ((xs (i + 1)))).2.2) tr9 o f9 od d)) [0, 14, 15, 16, 17, 18, 19, 20, 21, 22, 1, 2, 3, 4, 5, 6, 7, 8, 9, 10, 11, 12, 13] rfl
  have hD := hD.sub (ws' := (wW cy mm a ((sp_checksum T ((xs (i + 1)))).2.2) ((sp_checksum T ((xs (i + 1)))).1) u_361 ((sp_checksum T ((xs (i + 1)))).2.2) tr9 o f9 od d)) [0, 14, 15, 16, 17, 18, 19, 20, 21, 22, 1, 2, 3, 4, 5, 6, 7, 8, 9, 10, 11, 12, 13] (by decide) rfl
  have hP : va_P G vwCl (wW cy mm a ((sp_checksum T ((xs (i + 1)))).2.2) ((sp_checksum T ((xs (i + 1)))).1) u_361 ((sp_checksum T ((xs (i + 1)))).2.2) tr9 o f9 od d) H := hP
  have hD : va_D (fun q : Nat => s.heap.size ≤ q) (wW cy mm a ((sp_checksum T ((xs (i + 1)))).2.2) ((sp_checksum T ((xs (i + 1)))).1) u_361 ((sp_checksum T ((xs (i + 1)))).2.2) tr9 o f9 od d) := hD
  refine lv_iload hx hb dL_law_370 (lv_at hl 1 rfl) ?_
  refine lv_icmp_eq (tgt := 377) hx hb dL_law_372 (by decide) (fun _ => ?_) (fun c_9 => absurd rfl c_9)
  refine lv_iload hx hb dL_law_377 (lv_at hl 1 rfl) ?_
  refine lv_if_ne (tgt := 394) hx hb dL_law_379 (by decide) (fun c_0 => ?_) (fun c_0 => ?_)
  · skip
    refine lv_goto (tgt := 1505) hx hb dL_law_394 (by decide) ?_
    exact kk ((sp_checksum T ((xs (i + 1)))).2.2) ((sp_checksum T ((xs (i + 1)))).1) u_361 tr9 f9 d H _ ls (inv_checksum hI ((xs (i + 1)))) hP hD hS (lv_sub hl [2, 3, 4, 5, 6, 7] rfl)
  · skip
    refine lv_aload_n hx hb dL_law_382 rfl (lv_at hl 5 rfl) ?_
    refine lv_iconst (v := 0) hx hb dL_law_383 (by decide) ?_
    refine ml_lald hx hb hK hP 10 1 rfl rfl 0 rfl (by decide) (by decide) ((sp_checksum T ((xs (i + 1)))).2.1.toInt64) (hw2 c_0) dL_law_384 ?_
    refine lv_iload hx hb dL_law_385 (lv_at hl 0 rfl) ?_
    refine lv_i2l (v := (sp_checksum T ((xs (i + 1)))).2.1.toInt64) hx hb dL_law_387 rfl ?_
    refine W.lcmp hx hb dL_law_388 ?_
    refine lv_if_eq (tgt := 394) hx hb dL_law_389 (by decide) (fun _ => ?_) (fun c_9 => absurd ((lg_cmp_eq _ _).mpr rfl) c_9)
    refine lv_goto (tgt := 1505) hx hb dL_law_394 (by decide) ?_
    exact kk ((sp_checksum T ((xs (i + 1)))).2.2) ((sp_checksum T ((xs (i + 1)))).1) u_361 tr9 f9 d H _ ls (inv_checksum hI ((xs (i + 1)))) hP hD hS (lv_sub hl [2, 3, 4, 5, 6, 7] rfl)
set_option maxHeartbeats 4000000 in
set_option maxRecDepth 100000 in
theorem k_state {p : Program} {l : Launch} {e : Env} {s : State} {m : MethodId} {below : List Frame} {meth : Method} {c : Code} {b L : Nat} {xs : Nat → Int32} {G : va_G} {cy : Nat → ClassId} {mm a : Nat → Nat} {o od i cells slots : Nat} (C0 : lw_C p l s m meth c b L xs G cy) (hi : i + 5 ≤ L) (hcl : cells + 1 ≤ 1077) (hsl : slots + 6 ≤ 8842) {T : TS} {rf : Int32} {sp : Nat → Int64} {tr : Nat → Int32} {f : Nat → Int64} {d : Nat → UInt64} {H : Heap} {locs : List Loc} {ls : Array Slot} (hI : Inv T) (hP : va_P G vwCl (wW cy mm a T rf sp T tr o f od d) H) (hD : va_D (fun q : Nat => s.heap.size ≤ q) (wW cy mm a T rf sp T tr o f od d)) (hS : va_S (fun q : Nat => s.heap.size ≤ q) s.heap H locs) (hl : lv_has ls 8 [(0, .ref b), (1, .ref (a 0)), (2, .ref (mm 0)), (3, .ref o), (4, .ref od), (5, .int (nI i))]) (kk : lw_K p l e s m below meth c b G cy mm a o od i cells slots) : W p l e room_1 s m #[Value.ref b] below meth c H locs cells slots (lw_Z below #[Value.ref b] s) (F0 m 397 ls []) := by
  obtain ⟨hL, C1, hlt, hK, hN, hE⟩ := C0
  obtain ⟨hx, hb, hr, hml, hown, hts0, hX, hbl, hlocks, hgv⟩ := C1
  have hb : c.code = cL_law := hb
  have hown : s.vm.findClass RL = some m.cls := hown
  have hts : ∀ w ∈ wsL_law, w.before #[Value.ref b] s = true := fun w h => hts0 w (wsL_law_in w h)
  have hA : ∀ q : Nat, s.heap.size ≤ q → (fun q : Nat => s.heap.size ≤ q) q := fun _ h => h
  have hbA : ¬ (fun q : Nat => s.heap.size ≤ q) b := Nat.not_le.mpr hbl
  have hcl : cells + 1 ≤ room_1.cells := hcl
  have hsl : slots + 6 ≤ room_1.slots := hsl
  refine lv_aload_n hx hb dL_law_397 rfl (lv_at hl 1 rfl) ?_
  refine lv_aload_n hx hb dL_law_398 rfl (lv_at hl 0 rfl) ?_
  refine lv_iload hx hb dL_law_399 (lv_at hl 5 rfl) ?_
  refine lv_iconst (v := 1) hx hb dL_law_401 (by decide) ?_
  refine lv_iadd hx hb dL_law_402 ?_
  refine ml_eqi (nI (i + 1)) (nI_1 i) ?_
  refine va_sld hx hb hX hbl hbA hS (vp_in_nI (by omega) (by omega)) dL_law_403 ?_
  refine ml_eqi (xs (i + 1)) (by rw [nI_clamp (by omega)]) ?_
  refine lv_aload_n hx hb dL_law_404 rfl (lv_at hl 3 rfl) ?_
  have hPc := hP.sub (ws' := (wL a cy T tr o f)) [10, 11, 12, 13, 14, 15, 16, 17, 18, 19, 20, 21, 22] rfl
  have hDc := hD.sub (ws' := (wL a cy T tr o f)) [10, 11, 12, 13, 14, 15, 16, 17, 18, 19, 20, 21, 22] (by decide) rfl
  refine mo_SWi (G := G) (wr := ((od, .inl (cy 3, 1, .inr (.inr (.inr (.inl d))))) :: wM mm cy T rf sp)) (As := [.ref (a 0), .int (xs (i + 1)), .ref o]) (rest := []) ⟨hx, hb, hml, hown, hts⟩ (c_L_state l hlt G cy a H.size T tr ((xs (i + 1))) o f hI) (vx_cwSW 3 hts gL_law_L_state rfl rfl rfl (by decide +kernel) ⟨Nat.le_of_ble_eq_true rfl, Nat.le_of_ble_eq_true rfl⟩) hPc hDc hP hK hD hS hA [10, 11, 12, 13, 14, 15, 16, 17, 18, 19, 20, 21, 22] [0, 1, 2, 3, 4, 5, 6, 7, 8, 9] rfl rfl (by decide) (by decide) hN hE rfl hl.1 (Nat.le_of_ble_eq_true rfl) dL_law_405 ⟨hcl, hsl⟩ (fun k9 u9 H locs hw hP hD hS => ?_)
  obtain ⟨tr9, f9⟩ := u9
  obtain ⟨hw1, hw2⟩ := hw
  obtain rfl : k9 = (sp_state T ((xs (i + 1)))).1 := hw1
  have hw2 : (sp_state T ((xs (i + 1)))).1 = 0 → f9 0 = (sp_state T ((xs (i + 1)))).2.1.toInt64 := hw2
  have hP : va_P G vwCl (wW cy mm a T rf sp ((sp_state T ((xs (i + 1)))).2.2) tr9 o f9 od d) H := hP
  have hD : va_D (fun q : Nat => s.heap.size ≤ q) (wW cy mm a T rf sp ((sp_state T ((xs (i + 1)))).2.2) tr9 o f9 od d) := hD
  refine lv_istore (lv' := [(6, .int (sp_state T ((xs (i + 1)))).1), (0, .ref b), (1, .ref (a 0)), (2, .ref (mm 0)), (3, .ref o), (4, .ref od), (5, .int (nI i))]) hx hb dL_law_408 hl (by decide) rfl (fun ls hl => ?_)
  refine lv_aload_n hx hb dL_law_410 rfl (lv_at hl 3 rfl) ?_
  refine lv_aload_n hx hb dL_law_411 rfl (lv_at hl 1 rfl) ?_
  refine lv_iload hx hb dL_law_412 (lv_at hl 6 rfl) ?_
  refine lv_iconst (v := 1) hx hb dL_law_414 (by decide) ?_
  refine lv_iadd hx hb dL_law_415 ?_
  refine ml_eqi (nI (i + 1)) (nI_1 i) ?_
  refine va_sld hx hb hX hbl hbA hS (vp_in_nI (by omega) (by omega)) dL_law_416 ?_
  refine ml_eqi (xs (i + 1)) (by rw [nI_clamp (by omega)]) ?_
  have hPc := hP.sub (ws' := (wM mm cy T rf sp)) [1, 2, 3, 4, 5, 6, 7, 8, 9] rfl
  have hDc := hD.sub (ws' := (wM mm cy T rf sp)) [1, 2, 3, 4, 5, 6, 7, 8, 9] (by decide) rfl
  refine mo_Vi (G := G) (wr := ((od, .inl (cy 3, 1, .inr (.inr (.inr (.inl d))))) :: wL a cy ((sp_state T ((xs (i + 1)))).2.2) tr9 o f9)) (As := [.int (xs (i + 1))]) (rest := []) ⟨hx, hb, hml, hown, hts⟩ (c_X4_state l G cy mm H.size T rf sp ((xs (i + 1))) hI) (cwV 1 hts gL_law_X4_state rfl rfl rfl (by decide +kernel) ⟨Nat.le_of_ble_eq_true rfl, Nat.le_of_ble_eq_true rfl⟩) (va_recv hK hPc (ci := 4) (q0 := 0) rfl rfl) hPc hDc hP hK hD hS hA [1, 2, 3, 4, 5, 6, 7, 8, 9] [0, 10, 11, 12, 13, 14, 15, 16, 17, 18, 19, 20, 21, 22] rfl rfl (by decide) (by decide) hN rfl hl.1 (Nat.le_of_ble_eq_true rfl) dL_law_417 ⟨hcl, hsl⟩ (fun r_417 u_417 H locs hw hP hD hS => ?_)
  obtain rfl : (sp_state T ((xs (i + 1)))).2.1 = r_417 := hw
  have hP := hP.sub (ws' := (wW cy mm a ((sp_state T ((xs (i + 1)))).2.2) ((sp_state T ((xs (i + 1)))).1) u_417 ((sp_state T ((xs (i + 1)))).2.2) tr9 o f9 od d)) [0, 14, 15, 16, 17, 18, 19, 20, 21, 22, 1, 2, 3, 4, 5, 6, 7, 8, 9, 10, 11, 12, 13] rfl
  have hD := hD.sub (ws' := (wW cy mm a ((sp_state T ((xs (i + 1)))).2.2) ((sp_state T ((xs (i + 1)))).1) u_417 ((sp_state T ((xs (i + 1)))).2.2) tr9 o f9 od d)) [0, 14, 15, 16, 17, 18, 19, 20, 21, 22, 1, 2, 3, 4, 5, 6, 7, 8, 9, 10, 11, 12, 13] (by decide) rfl
  have hP : va_P G vwCl (wW cy mm a ((sp_state T ((xs (i + 1)))).2.2) ((sp_state T ((xs (i + 1)))).1) u_417 ((sp_state T ((xs (i + 1)))).2.2) tr9 o f9 od d) H := hP
  have hD : va_D (fun q : Nat => s.heap.size ≤ q) (wW cy mm a ((sp_state T ((xs (i + 1)))).2.2) ((sp_state T ((xs (i + 1)))).1) u_417 ((sp_state T ((xs (i + 1)))).2.2) tr9 o f9 od d) := hD
  refine lv_istore (lv' := [(7, .int (sp_state T ((xs (i + 1)))).2.1), (6, .int (sp_state T ((xs (i + 1)))).1), (0, .ref b), (1, .ref (a 0)), (2, .ref (mm 0)), (3, .ref o), (4, .ref od), (5, .int (nI i))]) hx hb dL_law_420 hl (by decide) rfl (fun ls hl => ?_)
  refine lv_aload_n hx hb dL_law_422 rfl (lv_at hl 4 rfl) ?_
  have hPc := hP.sub (ws' := (wM mm cy ((sp_state T ((xs (i + 1)))).2.2) ((sp_state T ((xs (i + 1)))).1) u_417)) [1, 2, 3, 4, 5, 6, 7, 8, 9] rfl
  have hDc := hD.sub (ws' := (wM mm cy ((sp_state T ((xs (i + 1)))).2.2) ((sp_state T ((xs (i + 1)))).1) u_417)) [1, 2, 3, 4, 5, 6, 7, 8, 9] (by decide) rfl
  refine mo_Vi (G := G) (wr := ((od, .inl (cy 3, 1, .inr (.inr (.inr (.inl d))))) :: wL a cy ((sp_state T ((xs (i + 1)))).2.2) tr9 o f9)) (As := []) (rest := []) ⟨hx, hb, hml, hown, hts⟩ (c_X4_thrown l G cy mm H.size ((sp_state T ((xs (i + 1)))).2.2) ((sp_state T ((xs (i + 1)))).1) u_417) (cwV 0 hts gL_law_X4_thrown rfl rfl rfl (by decide +kernel) ⟨Nat.le_of_ble_eq_true rfl, Nat.le_of_ble_eq_true rfl⟩) (va_recv hK hPc (ci := 4) (q0 := 0) rfl rfl) hPc hDc hP hK hD hS hA [1, 2, 3, 4, 5, 6, 7, 8, 9] [0, 10, 11, 12, 13, 14, 15, 16, 17, 18, 19, 20, 21, 22] rfl rfl (by decide) (by decide) hN rfl hl.1 (Nat.le_of_ble_eq_true rfl) dL_law_423 ⟨hcl, hsl⟩ (fun r_423 u_423 H locs hw hP hD hS => ?_)
  obtain rfl : r_423 = (sp_state T ((xs (i + 1)))).1 := hw
  have hP := hP.sub (ws' := (wW cy mm a ((sp_state T ((xs (i + 1)))).2.2) ((sp_state T ((xs (i + 1)))).1) u_417 ((sp_state T ((xs (i + 1)))).2.2) tr9 o f9 od d)) [0, 14, 15, 16, 17, 18, 19, 20, 21, 22, 1, 2, 3, 4, 5, 6, 7, 8, 9, 10, 11, 12, 13] rfl
  have hD := hD.sub (ws' := (wW cy mm a ((sp_state T ((xs (i + 1)))).2.2) ((sp_state T ((xs (i + 1)))).1) u_417 ((sp_state T ((xs (i + 1)))).2.2) tr9 o f9 od d)) [0, 14, 15, 16, 17, 18, 19, 20, 21, 22, 1, 2, 3, 4, 5, 6, 7, 8, 9, 10, 11, 12, 13] (by decide) rfl
  have hP : va_P G vwCl (wW cy mm a ((sp_state T ((xs (i + 1)))).2.2) ((sp_state T ((xs (i + 1)))).1) u_417 ((sp_state T ((xs (i + 1)))).2.2) tr9 o f9 od d) H := hP
  have hD : va_D (fun q : Nat => s.heap.size ≤ q) (wW cy mm a ((sp_state T ((xs (i + 1)))).2.2) ((sp_state T ((xs (i + 1)))).1) u_417 ((sp_state T ((xs (i + 1)))).2.2) tr9 o f9 od d) := hD
  refine lv_iload hx hb dL_law_426 (lv_at hl 1 rfl) ?_
  refine lv_icmp_eq (tgt := 433) hx hb dL_law_428 (by decide) (fun _ => ?_) (fun c_9 => absurd rfl c_9)
  refine lv_iload hx hb dL_law_433 (lv_at hl 1 rfl) ?_
  refine lv_if_ne (tgt := 450) hx hb dL_law_435 (by decide) (fun c_0 => ?_) (fun c_0 => ?_)
  · skip
    refine lv_goto (tgt := 1505) hx hb dL_law_450 (by decide) ?_
    exact kk ((sp_state T ((xs (i + 1)))).2.2) ((sp_state T ((xs (i + 1)))).1) u_417 tr9 f9 d H _ ls (inv_state hI ((xs (i + 1)))) hP hD hS (lv_sub hl [2, 3, 4, 5, 6, 7] rfl)
  · skip
    refine lv_aload_n hx hb dL_law_438 rfl (lv_at hl 5 rfl) ?_
    refine lv_iconst (v := 0) hx hb dL_law_439 (by decide) ?_
    refine ml_lald hx hb hK hP 10 1 rfl rfl 0 rfl (by decide) (by decide) ((sp_state T ((xs (i + 1)))).2.1.toInt64) (hw2 c_0) dL_law_440 ?_
    refine lv_iload hx hb dL_law_441 (lv_at hl 0 rfl) ?_
    refine lv_i2l (v := (sp_state T ((xs (i + 1)))).2.1.toInt64) hx hb dL_law_443 rfl ?_
    refine W.lcmp hx hb dL_law_444 ?_
    refine lv_if_eq (tgt := 450) hx hb dL_law_445 (by decide) (fun _ => ?_) (fun c_9 => absurd ((lg_cmp_eq _ _).mpr rfl) c_9)
    refine lv_goto (tgt := 1505) hx hb dL_law_450 (by decide) ?_
    exact kk ((sp_state T ((xs (i + 1)))).2.2) ((sp_state T ((xs (i + 1)))).1) u_417 tr9 f9 d H _ ls (inv_state hI ((xs (i + 1)))) hP hD hS (lv_sub hl [2, 3, 4, 5, 6, 7] rfl)
set_option maxHeartbeats 4000000 in
set_option maxRecDepth 100000 in
theorem k_level {p : Program} {l : Launch} {e : Env} {s : State} {m : MethodId} {below : List Frame} {meth : Method} {c : Code} {b L : Nat} {xs : Nat → Int32} {G : va_G} {cy : Nat → ClassId} {mm a : Nat → Nat} {o od i cells slots : Nat} (C0 : lw_C p l s m meth c b L xs G cy) (hi : i + 5 ≤ L) (hcl : cells + 1 ≤ 1077) (hsl : slots + 6 ≤ 8842) {T : TS} {rf : Int32} {sp : Nat → Int64} {tr : Nat → Int32} {f : Nat → Int64} {d : Nat → UInt64} {H : Heap} {locs : List Loc} {ls : Array Slot} (hI : Inv T) (hP : va_P G vwCl (wW cy mm a T rf sp T tr o f od d) H) (hD : va_D (fun q : Nat => s.heap.size ≤ q) (wW cy mm a T rf sp T tr o f od d)) (hS : va_S (fun q : Nat => s.heap.size ≤ q) s.heap H locs) (hl : lv_has ls 8 [(0, .ref b), (1, .ref (a 0)), (2, .ref (mm 0)), (3, .ref o), (4, .ref od), (5, .int (nI i))]) (kk : lw_K p l e s m below meth c b G cy mm a o od i cells slots) : W p l e room_1 s m #[Value.ref b] below meth c H locs cells slots (lw_Z below #[Value.ref b] s) (F0 m 453 ls []) := by
  obtain ⟨hL, C1, hlt, hK, hN, hE⟩ := C0
  obtain ⟨hx, hb, hr, hml, hown, hts0, hX, hbl, hlocks, hgv⟩ := C1
  have hb : c.code = cL_law := hb
  have hown : s.vm.findClass RL = some m.cls := hown
  have hts : ∀ w ∈ wsL_law, w.before #[Value.ref b] s = true := fun w h => hts0 w (wsL_law_in w h)
  have hA : ∀ q : Nat, s.heap.size ≤ q → (fun q : Nat => s.heap.size ≤ q) q := fun _ h => h
  have hbA : ¬ (fun q : Nat => s.heap.size ≤ q) b := Nat.not_le.mpr hbl
  have hcl : cells + 1 ≤ room_1.cells := hcl
  have hsl : slots + 6 ≤ room_1.slots := hsl
  refine lv_aload_n hx hb dL_law_453 rfl (lv_at hl 1 rfl) ?_
  have hPc := hP.sub (ws' := (wC a cy T tr)) [11, 12, 13, 14, 15, 16, 17, 18, 19, 20, 21, 22] rfl
  have hDc := hD.sub (ws' := (wC a cy T tr)) [11, 12, 13, 14, 15, 16, 17, 18, 19, 20, 21, 22] (by decide) rfl
  refine mo_Vi (G := G) (wr := ((od, .inl (cy 3, 1, .inr (.inr (.inr (.inl d))))) :: (wM mm cy T rf sp ++ [(o, .inl (cy 1, 1, .inr (.inl f)))]))) (As := []) (rest := []) ⟨hx, hb, hml, hown, hts⟩ (c_X3_level l G cy a H.size T tr hI) (cwV 0 hts gL_law_X3_level rfl rfl rfl (by decide +kernel) ⟨Nat.le_of_ble_eq_true rfl, Nat.le_of_ble_eq_true rfl⟩) (va_recv hK hPc (ci := 3) (q0 := 0) rfl rfl) hPc hDc hP hK hD hS hA [11, 12, 13, 14, 15, 16, 17, 18, 19, 20, 21, 22] [0, 1, 2, 3, 4, 5, 6, 7, 8, 9, 10] rfl rfl (by decide) (by decide) hN rfl hl.1 (Nat.le_of_ble_eq_true rfl) dL_law_454 ⟨Nat.le_of_succ_le hcl, Nat.le_trans (Nat.le_add_right _ 6) hsl⟩ (fun r_454 u_454 H locs hw hP hD hS => ?_)
  obtain rfl : r_454 = nI (tlv T) := hw
  have hP : va_P G vwCl (wW cy mm a T rf sp T tr o f od d) H := hP
  have hD : va_D (fun q : Nat => s.heap.size ≤ q) (wW cy mm a T rf sp T tr o f od d) := hD
  refine lv_aload_n hx hb dL_law_457 rfl (lv_at hl 2 rfl) ?_
  have hPc := hP.sub (ws' := (wM mm cy T rf sp)) [1, 2, 3, 4, 5, 6, 7, 8, 9] rfl
  have hDc := hD.sub (ws' := (wM mm cy T rf sp)) [1, 2, 3, 4, 5, 6, 7, 8, 9] (by decide) rfl
  refine mo_Vi (G := G) (wr := ((od, .inl (cy 3, 1, .inr (.inr (.inr (.inl d))))) :: wL a cy T tr o f)) (As := []) (rest := [.int (nI (tlv T))]) ⟨hx, hb, hml, hown, hts⟩ (c_X4_level l G cy mm H.size T rf sp hI) (cwV 0 hts gL_law_X4_level rfl rfl rfl (by decide +kernel) ⟨Nat.le_of_ble_eq_true rfl, Nat.le_of_ble_eq_true rfl⟩) (va_recv hK hPc (ci := 4) (q0 := 0) rfl rfl) hPc hDc hP hK hD hS hA [1, 2, 3, 4, 5, 6, 7, 8, 9] [0, 10, 11, 12, 13, 14, 15, 16, 17, 18, 19, 20, 21, 22] rfl rfl (by decide) (by decide) hN rfl hl.1 (Nat.le_of_ble_eq_true rfl) dL_law_458 ⟨Nat.le_of_succ_le hcl, Nat.le_trans (Nat.le_add_right _ 6) hsl⟩ (fun r_458 u_458 H locs hw hP hD hS => ?_)
  obtain rfl : r_458 = nI (tlv T) := hw
  have hP := hP.sub (ws' := (wW cy mm a T 0 sp T tr o f od d)) [0, 14, 15, 16, 17, 18, 19, 20, 21, 22, 1, 2, 3, 4, 5, 6, 7, 8, 9, 10, 11, 12, 13] rfl
  have hD := hD.sub (ws' := (wW cy mm a T 0 sp T tr o f od d)) [0, 14, 15, 16, 17, 18, 19, 20, 21, 22, 1, 2, 3, 4, 5, 6, 7, 8, 9, 10, 11, 12, 13] (by decide) rfl
  have hP : va_P G vwCl (wW cy mm a T 0 sp T tr o f od d) H := hP
  have hD : va_D (fun q : Nat => s.heap.size ≤ q) (wW cy mm a T 0 sp T tr o f od d) := hD
  refine lv_icmp_eq (tgt := 1505) hx hb dL_law_461 (by decide) (fun _ => ?_) (fun c_9 => absurd rfl c_9)
  refine W.widen (k := cells + 1) (n := slots + 6) (Nat.le_succ _) (Nat.le_add_right _ 6) ?_
  exact kk T 0 sp tr f d H _ ls hI hP hD hS (lv_sub hl [0, 1, 2, 3, 4, 5] rfl)
set_option maxHeartbeats 4000000 in
set_option maxRecDepth 100000 in
theorem k_drifted {p : Program} {l : Launch} {e : Env} {s : State} {m : MethodId} {below : List Frame} {meth : Method} {c : Code} {b L : Nat} {xs : Nat → Int32} {G : va_G} {cy : Nat → ClassId} {mm a : Nat → Nat} {o od i cells slots : Nat} (C0 : lw_C p l s m meth c b L xs G cy) (hi : i + 5 ≤ L) (hcl : cells + 1 ≤ 1077) (hsl : slots + 6 ≤ 8842) {T : TS} {rf : Int32} {sp : Nat → Int64} {tr : Nat → Int32} {f : Nat → Int64} {d : Nat → UInt64} {H : Heap} {locs : List Loc} {ls : Array Slot} (hI : Inv T) (hP : va_P G vwCl (wW cy mm a T rf sp T tr o f od d) H) (hD : va_D (fun q : Nat => s.heap.size ≤ q) (wW cy mm a T rf sp T tr o f od d)) (hS : va_S (fun q : Nat => s.heap.size ≤ q) s.heap H locs) (hl : lv_has ls 8 [(0, .ref b), (1, .ref (a 0)), (2, .ref (mm 0)), (3, .ref o), (4, .ref od), (5, .int (nI i))]) (kk : lw_K p l e s m below meth c b G cy mm a o od i cells slots) : W p l e room_1 s m #[Value.ref b] below meth c H locs cells slots (lw_Z below #[Value.ref b] s) (F0 m 466 ls []) := by
  obtain ⟨hL, C1, hlt, hK, hN, hE⟩ := C0
  obtain ⟨hx, hb, hr, hml, hown, hts0, hX, hbl, hlocks, hgv⟩ := C1
  have hb : c.code = cL_law := hb
  have hown : s.vm.findClass RL = some m.cls := hown
  have hts : ∀ w ∈ wsL_law, w.before #[Value.ref b] s = true := fun w h => hts0 w (wsL_law_in w h)
  have hA : ∀ q : Nat, s.heap.size ≤ q → (fun q : Nat => s.heap.size ≤ q) q := fun _ h => h
  have hbA : ¬ (fun q : Nat => s.heap.size ≤ q) b := Nat.not_le.mpr hbl
  have hcl : cells + 1 ≤ room_1.cells := hcl
  have hsl : slots + 6 ≤ room_1.slots := hsl
  refine lv_aload_n hx hb dL_law_466 rfl (lv_at hl 1 rfl) ?_
  have hPc := hP.sub (ws' := (wC a cy T tr)) [11, 12, 13, 14, 15, 16, 17, 18, 19, 20, 21, 22] rfl
  have hDc := hD.sub (ws' := (wC a cy T tr)) [11, 12, 13, 14, 15, 16, 17, 18, 19, 20, 21, 22] (by decide) rfl
  refine mo_Vi (G := G) (wr := ((od, .inl (cy 3, 1, .inr (.inr (.inr (.inl d))))) :: (wM mm cy T rf sp ++ [(o, .inl (cy 1, 1, .inr (.inl f)))]))) (As := []) (rest := []) ⟨hx, hb, hml, hown, hts⟩ (c_X3_drifted l G cy a H.size T tr hI) (cwV 0 hts gL_law_X3_drifted rfl rfl rfl (by decide +kernel) ⟨Nat.le_of_ble_eq_true rfl, Nat.le_of_ble_eq_true rfl⟩) (va_recv hK hPc (ci := 3) (q0 := 0) rfl rfl) hPc hDc hP hK hD hS hA [11, 12, 13, 14, 15, 16, 17, 18, 19, 20, 21, 22] [0, 1, 2, 3, 4, 5, 6, 7, 8, 9, 10] rfl rfl (by decide) (by decide) hN rfl hl.1 (Nat.le_of_ble_eq_true rfl) dL_law_467 ⟨Nat.le_of_succ_le hcl, Nat.le_trans (Nat.le_add_right _ 6) hsl⟩ (fun r_467 u_467 H locs hw hP hD hS => ?_)
  obtain rfl : r_467 = fdr T := hw
  have hP : va_P G vwCl (wW cy mm a T rf sp T tr o f od d) H := hP
  have hD : va_D (fun q : Nat => s.heap.size ≤ q) (wW cy mm a T rf sp T tr o f od d) := hD
  refine lv_aload_n hx hb dL_law_470 rfl (lv_at hl 2 rfl) ?_
  have hPc := hP.sub (ws' := (wM mm cy T rf sp)) [1, 2, 3, 4, 5, 6, 7, 8, 9] rfl
  have hDc := hD.sub (ws' := (wM mm cy T rf sp)) [1, 2, 3, 4, 5, 6, 7, 8, 9] (by decide) rfl
  refine mo_Vi (G := G) (wr := ((od, .inl (cy 3, 1, .inr (.inr (.inr (.inl d))))) :: wL a cy T tr o f)) (As := []) (rest := [.int (fdr T)]) ⟨hx, hb, hml, hown, hts⟩ (c_X4_drifted l G cy mm H.size T rf sp hI) (cwV 0 hts gL_law_X4_drifted rfl rfl rfl (by decide +kernel) ⟨Nat.le_of_ble_eq_true rfl, Nat.le_of_ble_eq_true rfl⟩) (va_recv hK hPc (ci := 4) (q0 := 0) rfl rfl) hPc hDc hP hK hD hS hA [1, 2, 3, 4, 5, 6, 7, 8, 9] [0, 10, 11, 12, 13, 14, 15, 16, 17, 18, 19, 20, 21, 22] rfl rfl (by decide) (by decide) hN rfl hl.1 (Nat.le_of_ble_eq_true rfl) dL_law_471 ⟨Nat.le_of_succ_le hcl, Nat.le_trans (Nat.le_add_right _ 6) hsl⟩ (fun r_471 u_471 H locs hw hP hD hS => ?_)
  obtain rfl : r_471 = fdr T := hw
  have hP := hP.sub (ws' := (wW cy mm a T 0 sp T tr o f od d)) [0, 14, 15, 16, 17, 18, 19, 20, 21, 22, 1, 2, 3, 4, 5, 6, 7, 8, 9, 10, 11, 12, 13] rfl
  have hD := hD.sub (ws' := (wW cy mm a T 0 sp T tr o f od d)) [0, 14, 15, 16, 17, 18, 19, 20, 21, 22, 1, 2, 3, 4, 5, 6, 7, 8, 9, 10, 11, 12, 13] (by decide) rfl
  have hP : va_P G vwCl (wW cy mm a T 0 sp T tr o f od d) H := hP
  have hD : va_D (fun q : Nat => s.heap.size ≤ q) (wW cy mm a T 0 sp T tr o f od d) := hD
  refine lv_icmp_eq (tgt := 1505) hx hb dL_law_474 (by decide) (fun _ => ?_) (fun c_9 => absurd rfl c_9)
  refine W.widen (k := cells + 1) (n := slots + 6) (Nat.le_succ _) (Nat.le_add_right _ 6) ?_
  exact kk T 0 sp tr f d H _ ls hI hP hD hS (lv_sub hl [0, 1, 2, 3, 4, 5] rfl)
set_option maxHeartbeats 4000000 in
set_option maxRecDepth 100000 in
theorem k_insert {p : Program} {l : Launch} {e : Env} {s : State} {m : MethodId} {below : List Frame} {meth : Method} {c : Code} {b L : Nat} {xs : Nat → Int32} {G : va_G} {cy : Nat → ClassId} {mm a : Nat → Nat} {o od i cells slots : Nat} (C0 : lw_C p l s m meth c b L xs G cy) (hi : i + 5 ≤ L) (hcl : cells + 1 ≤ 1077) (hsl : slots + 6 ≤ 8842) {T : TS} {rf : Int32} {sp : Nat → Int64} {tr : Nat → Int32} {f : Nat → Int64} {d : Nat → UInt64} {H : Heap} {locs : List Loc} {ls : Array Slot} (hI : Inv T) (hP : va_P G vwCl (wW cy mm a T rf sp T tr o f od d) H) (hD : va_D (fun q : Nat => s.heap.size ≤ q) (wW cy mm a T rf sp T tr o f od d)) (hS : va_S (fun q : Nat => s.heap.size ≤ q) s.heap H locs) (hl : lv_has ls 8 [(0, .ref b), (1, .ref (a 0)), (2, .ref (mm 0)), (3, .ref o), (4, .ref od), (5, .int (nI i))]) (kk : lw_K p l e s m below meth c b G cy mm a o od i cells slots) : W p l e room_1 s m #[Value.ref b] below meth c H locs cells slots (lw_Z below #[Value.ref b] s) (F0 m 479 ls []) := by
  obtain ⟨hL, C1, hlt, hK, hN, hE⟩ := C0
  obtain ⟨hx, hb, hr, hml, hown, hts0, hX, hbl, hlocks, hgv⟩ := C1
  have hb : c.code = cL_law := hb
  have hown : s.vm.findClass RL = some m.cls := hown
  have hts : ∀ w ∈ wsL_law, w.before #[Value.ref b] s = true := fun w h => hts0 w (wsL_law_in w h)
  have hA : ∀ q : Nat, s.heap.size ≤ q → (fun q : Nat => s.heap.size ≤ q) q := fun _ h => h
  have hbA : ¬ (fun q : Nat => s.heap.size ≤ q) b := Nat.not_le.mpr hbl
  have hcl : cells + 1 ≤ room_1.cells := hcl
  have hsl : slots + 6 ≤ room_1.slots := hsl
  refine lv_aload_n hx hb dL_law_479 rfl (lv_at hl 1 rfl) ?_
  refine lv_aload_n hx hb dL_law_480 rfl (lv_at hl 0 rfl) ?_
  refine lv_iload hx hb dL_law_481 (lv_at hl 5 rfl) ?_
  refine lv_iconst (v := 1) hx hb dL_law_483 (by decide) ?_
  refine lv_iadd hx hb dL_law_484 ?_
  refine ml_eqi (nI (i + 1)) (nI_1 i) ?_
  refine va_sld hx hb hX hbl hbA hS (vp_in_nI (by omega) (by omega)) dL_law_485 ?_
  refine ml_eqi (xs (i + 1)) (by rw [nI_clamp (by omega)]) ?_
  refine lv_aload_n hx hb dL_law_486 rfl (lv_at hl 0 rfl) ?_
  refine lv_iload hx hb dL_law_487 (lv_at hl 5 rfl) ?_
  refine lv_iconst (v := 2) hx hb dL_law_489 (by decide) ?_
  refine lv_iadd hx hb dL_law_490 ?_
  refine ml_eqi (nI (i + 2)) (nI_add i 2) ?_
  refine va_sld hx hb hX hbl hbA hS (vp_in_nI (by omega) (by omega)) dL_law_491 ?_
  refine ml_eqi (xs (i + 2)) (by rw [nI_clamp (by omega)]) ?_
  refine lv_aload_n hx hb dL_law_492 rfl (lv_at hl 0 rfl) ?_
  refine lv_iload hx hb dL_law_493 (lv_at hl 5 rfl) ?_
  refine lv_iconst (v := 3) hx hb dL_law_495 (by decide) ?_
  refine lv_iadd hx hb dL_law_496 ?_
  refine ml_eqi (nI (i + 3)) (nI_add i 3) ?_
  refine va_sld hx hb hX hbl hbA hS (vp_in_nI (by omega) (by omega)) dL_law_497 ?_
  refine ml_eqi (xs (i + 3)) (by rw [nI_clamp (by omega)]) ?_
  refine lv_aload_n hx hb dL_law_498 rfl (lv_at hl 0 rfl) ?_
  refine lv_iload hx hb dL_law_499 (lv_at hl 5 rfl) ?_
  refine lv_iconst (v := 4) hx hb dL_law_501 (by decide) ?_
  refine lv_iadd hx hb dL_law_502 ?_
  refine ml_eqi (nI (i + 4)) (nI_add i 4) ?_
  refine va_sld hx hb hX hbl hbA hS (vp_in_nI (by omega) (by omega)) dL_law_503 ?_
  refine ml_eqi (xs (i + 4)) (by rw [nI_clamp (by omega)]) ?_
  refine lv_aload_n hx hb dL_law_504 rfl (lv_at hl 3 rfl) ?_
  have hPc := hP.sub (ws' := (wL a cy T tr o f)) [10, 11, 12, 13, 14, 15, 16, 17, 18, 19, 20, 21, 22] rfl
  have hDc := hD.sub (ws' := (wL a cy T tr o f)) [10, 11, 12, 13, 14, 15, 16, 17, 18, 19, 20, 21, 22] (by decide) rfl
  refine mo_SWi (G := G) (wr := ((od, .inl (cy 3, 1, .inr (.inr (.inr (.inl d))))) :: wM mm cy T rf sp)) (As := [.ref (a 0), .int (xs (i + 1)), .int (xs (i + 2)), .int (xs (i + 3)), .int (xs (i + 4)), .ref o]) (rest := []) ⟨hx, hb, hml, hown, hts⟩ (c_L_insert l hlt G cy a H.size T tr ((xs (i + 1))) ((xs (i + 2))) ((xs (i + 3))) ((xs (i + 4))) o f hI) (vx_cwSW 6 hts gL_law_L_insert rfl rfl rfl (by decide +kernel) ⟨Nat.le_of_ble_eq_true rfl, Nat.le_of_ble_eq_true rfl⟩) hPc hDc hP hK hD hS hA [10, 11, 12, 13, 14, 15, 16, 17, 18, 19, 20, 21, 22] [0, 1, 2, 3, 4, 5, 6, 7, 8, 9] rfl rfl (by decide) (by decide) hN hE rfl hl.1 (Nat.le_of_ble_eq_true rfl) dL_law_505 ⟨hcl, hsl⟩ (fun k9 u9 H locs hw hP hD hS => ?_)
  obtain ⟨tr9, f9⟩ := u9
  obtain ⟨hw1, hw2⟩ := hw
  obtain rfl : k9 = (sp_insert T ((xs (i + 1))) ((xs (i + 2))) ((xs (i + 3))) ((xs (i + 4)))).1 := hw1
  have hw2 : (sp_insert T ((xs (i + 1))) ((xs (i + 2))) ((xs (i + 3))) ((xs (i + 4)))).1 = 0 → f9 0 = (sp_insert T ((xs (i + 1))) ((xs (i + 2))) ((xs (i + 3))) ((xs (i + 4)))).2.1.toInt64 := hw2
  have hP : va_P G vwCl (wW cy mm a T rf sp ((sp_insert T ((xs (i + 1))) ((xs (i + 2))) ((xs (i + 3))) ((xs (i + 4)))).2.2) tr9 o f9 od d) H := hP
  have hD : va_D (fun q : Nat => s.heap.size ≤ q) (wW cy mm a T rf sp ((sp_insert T ((xs (i + 1))) ((xs (i + 2))) ((xs (i + 3))) ((xs (i + 4)))).2.2) tr9 o f9 od d) := hD
  refine lv_istore (lv' := [(6, .int (sp_insert T ((xs (i + 1))) ((xs (i + 2))) ((xs (i + 3))) ((xs (i + 4)))).1), (0, .ref b), (1, .ref (a 0)), (2, .ref (mm 0)), (3, .ref o), (4, .ref od), (5, .int (nI i))]) hx hb dL_law_508 hl (by decide) rfl (fun ls hl => ?_)
  refine lv_aload_n hx hb dL_law_510 rfl (lv_at hl 3 rfl) ?_
  refine lv_aload_n hx hb dL_law_511 rfl (lv_at hl 1 rfl) ?_
  refine lv_iload hx hb dL_law_512 (lv_at hl 6 rfl) ?_
  refine lv_iconst (v := 1) hx hb dL_law_514 (by decide) ?_
  refine lv_iadd hx hb dL_law_515 ?_
  refine ml_eqi (nI (i + 1)) (nI_1 i) ?_
  refine va_sld hx hb hX hbl hbA hS (vp_in_nI (by omega) (by omega)) dL_law_516 ?_
  refine ml_eqi (xs (i + 1)) (by rw [nI_clamp (by omega)]) ?_
  refine lv_aload_n hx hb dL_law_517 rfl (lv_at hl 1 rfl) ?_
  refine lv_iload hx hb dL_law_518 (lv_at hl 6 rfl) ?_
  refine lv_iconst (v := 2) hx hb dL_law_520 (by decide) ?_
  refine lv_iadd hx hb dL_law_521 ?_
  refine ml_eqi (nI (i + 2)) (nI_add i 2) ?_
  refine va_sld hx hb hX hbl hbA hS (vp_in_nI (by omega) (by omega)) dL_law_522 ?_
  refine ml_eqi (xs (i + 2)) (by rw [nI_clamp (by omega)]) ?_
  refine lv_aload_n hx hb dL_law_523 rfl (lv_at hl 1 rfl) ?_
  refine lv_iload hx hb dL_law_524 (lv_at hl 6 rfl) ?_
  refine lv_iconst (v := 3) hx hb dL_law_526 (by decide) ?_
  refine lv_iadd hx hb dL_law_527 ?_
  refine ml_eqi (nI (i + 3)) (nI_add i 3) ?_
  refine va_sld hx hb hX hbl hbA hS (vp_in_nI (by omega) (by omega)) dL_law_528 ?_
  refine ml_eqi (xs (i + 3)) (by rw [nI_clamp (by omega)]) ?_
  refine lv_aload_n hx hb dL_law_529 rfl (lv_at hl 1 rfl) ?_
  refine lv_iload hx hb dL_law_530 (lv_at hl 6 rfl) ?_
  refine lv_iconst (v := 4) hx hb dL_law_532 (by decide) ?_
  refine lv_iadd hx hb dL_law_533 ?_
  refine ml_eqi (nI (i + 4)) (nI_add i 4) ?_
  refine va_sld hx hb hX hbl hbA hS (vp_in_nI (by omega) (by omega)) dL_law_534 ?_
  refine ml_eqi (xs (i + 4)) (by rw [nI_clamp (by omega)]) ?_
  have hPc := hP.sub (ws' := (wM mm cy T rf sp)) [1, 2, 3, 4, 5, 6, 7, 8, 9] rfl
  have hDc := hD.sub (ws' := (wM mm cy T rf sp)) [1, 2, 3, 4, 5, 6, 7, 8, 9] (by decide) rfl
  refine mo_Vi (G := G) (wr := ((od, .inl (cy 3, 1, .inr (.inr (.inr (.inl d))))) :: wL a cy ((sp_insert T ((xs (i + 1))) ((xs (i + 2))) ((xs (i + 3))) ((xs (i + 4)))).2.2) tr9 o f9)) (As := [.int (xs (i + 1)), .int (xs (i + 2)), .int (xs (i + 3)), .int (xs (i + 4))]) (rest := []) ⟨hx, hb, hml, hown, hts⟩ (c_X4_insert l G cy mm H.size T rf sp ((xs (i + 1))) ((xs (i + 2))) ((xs (i + 3))) ((xs (i + 4))) hI) (cwV 4 hts gL_law_X4_insert rfl rfl rfl (by decide +kernel) ⟨Nat.le_of_ble_eq_true rfl, Nat.le_of_ble_eq_true rfl⟩) (va_recv hK hPc (ci := 4) (q0 := 0) rfl rfl) hPc hDc hP hK hD hS hA [1, 2, 3, 4, 5, 6, 7, 8, 9] [0, 10, 11, 12, 13, 14, 15, 16, 17, 18, 19, 20, 21, 22] rfl rfl (by decide) (by decide) hN rfl hl.1 (Nat.le_of_ble_eq_true rfl) dL_law_535 ⟨hcl, hsl⟩ (fun r_535 u_535 H locs hw hP hD hS => ?_)
  obtain rfl : (sp_insert T ((xs (i + 1))) ((xs (i + 2))) ((xs (i + 3))) ((xs (i + 4)))).2.1 = r_535 := hw
  have hP := hP.sub (ws' := (wW cy mm a ((sp_insert T ((xs (i + 1))) ((xs (i + 2))) ((xs (i + 3))) ((xs (i + 4)))).2.2) ((sp_insert T ((xs (i + 1))) ((xs (i + 2))) ((xs (i + 3))) ((xs (i + 4)))).1) u_535 ((sp_insert T ((xs (i + 1))) ((xs (i + 2))) ((xs (i + 3))) ((xs (i + 4)))).2.2) tr9 o f9 od d)) [0, 14, 15, 16, 17, 18, 19, 20, 21, 22, 1, 2, 3, 4, 5, 6, 7, 8, 9, 10, 11, 12, 13] rfl
  have hD := hD.sub (ws' := (wW cy mm a ((sp_insert T ((xs (i + 1))) ((xs (i + 2))) ((xs (i + 3))) ((xs (i + 4)))).2.2) ((sp_insert T ((xs (i + 1))) ((xs (i + 2))) ((xs (i + 3))) ((xs (i + 4)))).1) u_535 ((sp_insert T ((xs (i + 1))) ((xs (i + 2))) ((xs (i + 3))) ((xs (i + 4)))).2.2) tr9 o f9 od d)) [0, 14, 15, 16, 17, 18, 19, 20, 21, 22, 1, 2, 3, 4, 5, 6, 7, 8, 9, 10, 11, 12, 13] (by decide) rfl
  have hP : va_P G vwCl (wW cy mm a ((sp_insert T ((xs (i + 1))) ((xs (i + 2))) ((xs (i + 3))) ((xs (i + 4)))).2.2) ((sp_insert T ((xs (i + 1))) ((xs (i + 2))) ((xs (i + 3))) ((xs (i + 4)))).1) u_535 ((sp_insert T ((xs (i + 1))) ((xs (i + 2))) ((xs (i + 3))) ((xs (i + 4)))).2.2) tr9 o f9 od d) H := hP
  have hD : va_D (fun q : Nat => s.heap.size ≤ q) (wW cy mm a ((sp_insert T ((xs (i + 1))) ((xs (i + 2))) ((xs (i + 3))) ((xs (i + 4)))).2.2) ((sp_insert T ((xs (i + 1))) ((xs (i + 2))) ((xs (i + 3))) ((xs (i + 4)))).1) u_535 ((sp_insert T ((xs (i + 1))) ((xs (i + 2))) ((xs (i + 3))) ((xs (i + 4)))).2.2) tr9 o f9 od d) := hD
  refine lv_istore (lv' := [(7, .int (sp_insert T ((xs (i + 1))) ((xs (i + 2))) ((xs (i + 3))) ((xs (i + 4)))).2.1), (6, .int (sp_insert T ((xs (i + 1))) ((xs (i + 2))) ((xs (i + 3))) ((xs (i + 4)))).1), (0, .ref b), (1, .ref (a 0)), (2, .ref (mm 0)), (3, .ref o), (4, .ref od), (5, .int (nI i))]) hx hb dL_law_538 hl (by decide) rfl (fun ls hl => ?_)
  refine lv_aload_n hx hb dL_law_540 rfl (lv_at hl 4 rfl) ?_
  have hPc := hP.sub (ws' := (wM mm cy ((sp_insert T ((xs (i + 1))) ((xs (i + 2))) ((xs (i + 3))) ((xs (i + 4)))).2.2) ((sp_insert T ((xs (i + 1))) ((xs (i + 2))) ((xs (i + 3))) ((xs (i + 4)))).1) u_535)) [1, 2, 3, 4, 5, 6, 7, 8, 9] rfl
  have hDc := hD.sub (ws' := (wM mm cy ((sp_insert T ((xs (i + 1))) ((xs (i + 2))) ((xs (i + 3))) ((xs (i + 4)))).2.2) ((sp_insert T ((xs (i + 1))) ((xs (i + 2))) ((xs (i + 3))) ((xs (i + 4)))).1) u_535)) [1, 2, 3, 4, 5, 6, 7, 8, 9] (by decide) rfl
  refine mo_Vi (G := G) (wr := ((od, .inl (cy 3, 1, .inr (.inr (.inr (.inl d))))) :: wL a cy ((sp_insert T ((xs (i + 1))) ((xs (i + 2))) ((xs (i + 3))) ((xs (i + 4)))).2.2) tr9 o f9)) (As := []) (rest := []) ⟨hx, hb, hml, hown, hts⟩ (c_X4_thrown l G cy mm H.size ((sp_insert T ((xs (i + 1))) ((xs (i + 2))) ((xs (i + 3))) ((xs (i + 4)))).2.2) ((sp_insert T ((xs (i + 1))) ((xs (i + 2))) ((xs (i + 3))) ((xs (i + 4)))).1) u_535) (cwV 0 hts gL_law_X4_thrown rfl rfl rfl (by decide +kernel) ⟨Nat.le_of_ble_eq_true rfl, Nat.le_of_ble_eq_true rfl⟩) (va_recv hK hPc (ci := 4) (q0 := 0) rfl rfl) hPc hDc hP hK hD hS hA [1, 2, 3, 4, 5, 6, 7, 8, 9] [0, 10, 11, 12, 13, 14, 15, 16, 17, 18, 19, 20, 21, 22] rfl rfl (by decide) (by decide) hN rfl hl.1 (Nat.le_of_ble_eq_true rfl) dL_law_541 ⟨hcl, hsl⟩ (fun r_541 u_541 H locs hw hP hD hS => ?_)
  obtain rfl : r_541 = (sp_insert T ((xs (i + 1))) ((xs (i + 2))) ((xs (i + 3))) ((xs (i + 4)))).1 := hw
  have hP := hP.sub (ws' := (wW cy mm a ((sp_insert T ((xs (i + 1))) ((xs (i + 2))) ((xs (i + 3))) ((xs (i + 4)))).2.2) ((sp_insert T ((xs (i + 1))) ((xs (i + 2))) ((xs (i + 3))) ((xs (i + 4)))).1) u_535 ((sp_insert T ((xs (i + 1))) ((xs (i + 2))) ((xs (i + 3))) ((xs (i + 4)))).2.2) tr9 o f9 od d)) [0, 14, 15, 16, 17, 18, 19, 20, 21, 22, 1, 2, 3, 4, 5, 6, 7, 8, 9, 10, 11, 12, 13] rfl
  have hD := hD.sub (ws' := (wW cy mm a ((sp_insert T ((xs (i + 1))) ((xs (i + 2))) ((xs (i + 3))) ((xs (i + 4)))).2.2) ((sp_insert T ((xs (i + 1))) ((xs (i + 2))) ((xs (i + 3))) ((xs (i + 4)))).1) u_535 ((sp_insert T ((xs (i + 1))) ((xs (i + 2))) ((xs (i + 3))) ((xs (i + 4)))).2.2) tr9 o f9 od d)) [0, 14, 15, 16, 17, 18, 19, 20, 21, 22, 1, 2, 3, 4, 5, 6, 7, 8, 9, 10, 11, 12, 13] (by decide) rfl
  have hP : va_P G vwCl (wW cy mm a ((sp_insert T ((xs (i + 1))) ((xs (i + 2))) ((xs (i + 3))) ((xs (i + 4)))).2.2) ((sp_insert T ((xs (i + 1))) ((xs (i + 2))) ((xs (i + 3))) ((xs (i + 4)))).1) u_535 ((sp_insert T ((xs (i + 1))) ((xs (i + 2))) ((xs (i + 3))) ((xs (i + 4)))).2.2) tr9 o f9 od d) H := hP
  have hD : va_D (fun q : Nat => s.heap.size ≤ q) (wW cy mm a ((sp_insert T ((xs (i + 1))) ((xs (i + 2))) ((xs (i + 3))) ((xs (i + 4)))).2.2) ((sp_insert T ((xs (i + 1))) ((xs (i + 2))) ((xs (i + 3))) ((xs (i + 4)))).1) u_535 ((sp_insert T ((xs (i + 1))) ((xs (i + 2))) ((xs (i + 3))) ((xs (i + 4)))).2.2) tr9 o f9 od d) := hD
  refine lv_iload hx hb dL_law_544 (lv_at hl 1 rfl) ?_
  refine lv_icmp_eq (tgt := 551) hx hb dL_law_546 (by decide) (fun _ => ?_) (fun c_9 => absurd rfl c_9)
  refine lv_iload hx hb dL_law_551 (lv_at hl 1 rfl) ?_
  refine lv_if_ne (tgt := 568) hx hb dL_law_553 (by decide) (fun c_0 => ?_) (fun c_0 => ?_)
  · skip
    refine lv_goto (tgt := 1505) hx hb dL_law_568 (by decide) ?_
    exact kk ((sp_insert T ((xs (i + 1))) ((xs (i + 2))) ((xs (i + 3))) ((xs (i + 4)))).2.2) ((sp_insert T ((xs (i + 1))) ((xs (i + 2))) ((xs (i + 3))) ((xs (i + 4)))).1) u_535 tr9 f9 d H _ ls (inv_insert hI ((xs (i + 1))) ((xs (i + 2))) ((xs (i + 3))) ((xs (i + 4)))) hP hD hS (lv_sub hl [2, 3, 4, 5, 6, 7] rfl)
  · skip
    refine lv_aload_n hx hb dL_law_556 rfl (lv_at hl 5 rfl) ?_
    refine lv_iconst (v := 0) hx hb dL_law_557 (by decide) ?_
    refine ml_lald hx hb hK hP 10 1 rfl rfl 0 rfl (by decide) (by decide) ((sp_insert T ((xs (i + 1))) ((xs (i + 2))) ((xs (i + 3))) ((xs (i + 4)))).2.1.toInt64) (hw2 c_0) dL_law_558 ?_
    refine lv_iload hx hb dL_law_559 (lv_at hl 0 rfl) ?_
    refine lv_i2l (v := (sp_insert T ((xs (i + 1))) ((xs (i + 2))) ((xs (i + 3))) ((xs (i + 4)))).2.1.toInt64) hx hb dL_law_561 rfl ?_
    refine W.lcmp hx hb dL_law_562 ?_
    refine lv_if_eq (tgt := 568) hx hb dL_law_563 (by decide) (fun _ => ?_) (fun c_9 => absurd ((lg_cmp_eq _ _).mpr rfl) c_9)
    refine lv_goto (tgt := 1505) hx hb dL_law_568 (by decide) ?_
    exact kk ((sp_insert T ((xs (i + 1))) ((xs (i + 2))) ((xs (i + 3))) ((xs (i + 4)))).2.2) ((sp_insert T ((xs (i + 1))) ((xs (i + 2))) ((xs (i + 3))) ((xs (i + 4)))).1) u_535 tr9 f9 d H _ ls (inv_insert hI ((xs (i + 1))) ((xs (i + 2))) ((xs (i + 3))) ((xs (i + 4)))) hP hD hS (lv_sub hl [2, 3, 4, 5, 6, 7] rfl)
set_option maxHeartbeats 4000000 in
set_option maxRecDepth 100000 in
theorem k_write {p : Program} {l : Launch} {e : Env} {s : State} {m : MethodId} {below : List Frame} {meth : Method} {c : Code} {b L : Nat} {xs : Nat → Int32} {G : va_G} {cy : Nat → ClassId} {mm a : Nat → Nat} {o od i cells slots : Nat} (C0 : lw_C p l s m meth c b L xs G cy) (hi : i + 5 ≤ L) (hcl : cells + 1 ≤ 1077) (hsl : slots + 6 ≤ 8842) {T : TS} {rf : Int32} {sp : Nat → Int64} {tr : Nat → Int32} {f : Nat → Int64} {d : Nat → UInt64} {H : Heap} {locs : List Loc} {ls : Array Slot} (hI : Inv T) (hP : va_P G vwCl (wW cy mm a T rf sp T tr o f od d) H) (hD : va_D (fun q : Nat => s.heap.size ≤ q) (wW cy mm a T rf sp T tr o f od d)) (hS : va_S (fun q : Nat => s.heap.size ≤ q) s.heap H locs) (hl : lv_has ls 8 [(0, .ref b), (1, .ref (a 0)), (2, .ref (mm 0)), (3, .ref o), (4, .ref od), (5, .int (nI i))]) (kk : lw_K p l e s m below meth c b G cy mm a o od i cells slots) : W p l e room_1 s m #[Value.ref b] below meth c H locs cells slots (lw_Z below #[Value.ref b] s) (F0 m 571 ls []) := by
  obtain ⟨hL, C1, hlt, hK, hN, hE⟩ := C0
  obtain ⟨hx, hb, hr, hml, hown, hts0, hX, hbl, hlocks, hgv⟩ := C1
  have hb : c.code = cL_law := hb
  have hown : s.vm.findClass RL = some m.cls := hown
  have hts : ∀ w ∈ wsL_law, w.before #[Value.ref b] s = true := fun w h => hts0 w (wsL_law_in w h)
  have hA : ∀ q : Nat, s.heap.size ≤ q → (fun q : Nat => s.heap.size ≤ q) q := fun _ h => h
  have hbA : ¬ (fun q : Nat => s.heap.size ≤ q) b := Nat.not_le.mpr hbl
  have hcl : cells + 1 ≤ room_1.cells := hcl
  have hsl : slots + 6 ≤ room_1.slots := hsl
  refine lv_aload_n hx hb dL_law_571 rfl (lv_at hl 1 rfl) ?_
  refine lv_aload_n hx hb dL_law_572 rfl (lv_at hl 0 rfl) ?_
  refine lv_iload hx hb dL_law_573 (lv_at hl 5 rfl) ?_
  refine lv_iconst (v := 1) hx hb dL_law_575 (by decide) ?_
  refine lv_iadd hx hb dL_law_576 ?_
  refine ml_eqi (nI (i + 1)) (nI_1 i) ?_
  refine va_sld hx hb hX hbl hbA hS (vp_in_nI (by omega) (by omega)) dL_law_577 ?_
  refine ml_eqi (xs (i + 1)) (by rw [nI_clamp (by omega)]) ?_
  refine lv_aload_n hx hb dL_law_578 rfl (lv_at hl 0 rfl) ?_
  refine lv_iload hx hb dL_law_579 (lv_at hl 5 rfl) ?_
  refine lv_iconst (v := 2) hx hb dL_law_581 (by decide) ?_
  refine lv_iadd hx hb dL_law_582 ?_
  refine ml_eqi (nI (i + 2)) (nI_add i 2) ?_
  refine va_sld hx hb hX hbl hbA hS (vp_in_nI (by omega) (by omega)) dL_law_583 ?_
  refine ml_eqi (xs (i + 2)) (by rw [nI_clamp (by omega)]) ?_
  refine lv_aload_n hx hb dL_law_584 rfl (lv_at hl 0 rfl) ?_
  refine lv_iload hx hb dL_law_585 (lv_at hl 5 rfl) ?_
  refine lv_iconst (v := 3) hx hb dL_law_587 (by decide) ?_
  refine lv_iadd hx hb dL_law_588 ?_
  refine ml_eqi (nI (i + 3)) (nI_add i 3) ?_
  refine va_sld hx hb hX hbl hbA hS (vp_in_nI (by omega) (by omega)) dL_law_589 ?_
  refine ml_eqi (xs (i + 3)) (by rw [nI_clamp (by omega)]) ?_
  refine lv_aload_n hx hb dL_law_590 rfl (lv_at hl 3 rfl) ?_
  have hPc := hP.sub (ws' := (wL a cy T tr o f)) [10, 11, 12, 13, 14, 15, 16, 17, 18, 19, 20, 21, 22] rfl
  have hDc := hD.sub (ws' := (wL a cy T tr o f)) [10, 11, 12, 13, 14, 15, 16, 17, 18, 19, 20, 21, 22] (by decide) rfl
  refine mo_SWi (G := G) (wr := ((od, .inl (cy 3, 1, .inr (.inr (.inr (.inl d))))) :: wM mm cy T rf sp)) (As := [.ref (a 0), .int (xs (i + 1)), .int (xs (i + 2)), .int (xs (i + 3)), .ref o]) (rest := []) ⟨hx, hb, hml, hown, hts⟩ (c_L_write l hlt G cy a H.size T tr ((xs (i + 1))) ((xs (i + 2))) ((xs (i + 3))) o f hI) (vx_cwSW 5 hts gL_law_L_write rfl rfl rfl (by decide +kernel) ⟨Nat.le_of_ble_eq_true rfl, Nat.le_of_ble_eq_true rfl⟩) hPc hDc hP hK hD hS hA [10, 11, 12, 13, 14, 15, 16, 17, 18, 19, 20, 21, 22] [0, 1, 2, 3, 4, 5, 6, 7, 8, 9] rfl rfl (by decide) (by decide) hN hE rfl hl.1 (Nat.le_of_ble_eq_true rfl) dL_law_591 ⟨hcl, hsl⟩ (fun k9 u9 H locs hw hP hD hS => ?_)
  obtain ⟨tr9, f9⟩ := u9
  obtain ⟨hw1, hw2⟩ := hw
  obtain rfl : k9 = (sp_write T ((xs (i + 1))) ((xs (i + 2))) ((xs (i + 3)))).1 := hw1
  have hw2 : (sp_write T ((xs (i + 1))) ((xs (i + 2))) ((xs (i + 3)))).1 = 0 → f9 0 = (sp_write T ((xs (i + 1))) ((xs (i + 2))) ((xs (i + 3)))).2.1.toInt64 := hw2
  have hP : va_P G vwCl (wW cy mm a T rf sp ((sp_write T ((xs (i + 1))) ((xs (i + 2))) ((xs (i + 3)))).2.2) tr9 o f9 od d) H := hP
  have hD : va_D (fun q : Nat => s.heap.size ≤ q) (wW cy mm a T rf sp ((sp_write T ((xs (i + 1))) ((xs (i + 2))) ((xs (i + 3)))).2.2) tr9 o f9 od d) := hD
  refine lv_istore (lv' := [(6, .int (sp_write T ((xs (i + 1))) ((xs (i + 2))) ((xs (i + 3)))).1), (0, .ref b), (1, .ref (a 0)), (2, .ref (mm 0)), (3, .ref o), (4, .ref od), (5, .int (nI i))]) hx hb dL_law_594 hl (by decide) rfl (fun ls hl => ?_)
  refine lv_aload_n hx hb dL_law_596 rfl (lv_at hl 3 rfl) ?_
  refine lv_aload_n hx hb dL_law_597 rfl (lv_at hl 1 rfl) ?_
  refine lv_iload hx hb dL_law_598 (lv_at hl 6 rfl) ?_
  refine lv_iconst (v := 1) hx hb dL_law_600 (by decide) ?_
  refine lv_iadd hx hb dL_law_601 ?_
  refine ml_eqi (nI (i + 1)) (nI_1 i) ?_
  refine va_sld hx hb hX hbl hbA hS (vp_in_nI (by omega) (by omega)) dL_law_602 ?_
  refine ml_eqi (xs (i + 1)) (by rw [nI_clamp (by omega)]) ?_
  refine lv_aload_n hx hb dL_law_603 rfl (lv_at hl 1 rfl) ?_
  refine lv_iload hx hb dL_law_604 (lv_at hl 6 rfl) ?_
  refine lv_iconst (v := 2) hx hb dL_law_606 (by decide) ?_
  refine lv_iadd hx hb dL_law_607 ?_
  refine ml_eqi (nI (i + 2)) (nI_add i 2) ?_
  refine va_sld hx hb hX hbl hbA hS (vp_in_nI (by omega) (by omega)) dL_law_608 ?_
  refine ml_eqi (xs (i + 2)) (by rw [nI_clamp (by omega)]) ?_
  refine lv_aload_n hx hb dL_law_609 rfl (lv_at hl 1 rfl) ?_
  refine lv_iload hx hb dL_law_610 (lv_at hl 6 rfl) ?_
  refine lv_iconst (v := 3) hx hb dL_law_612 (by decide) ?_
  refine lv_iadd hx hb dL_law_613 ?_
  refine ml_eqi (nI (i + 3)) (nI_add i 3) ?_
  refine va_sld hx hb hX hbl hbA hS (vp_in_nI (by omega) (by omega)) dL_law_614 ?_
  refine ml_eqi (xs (i + 3)) (by rw [nI_clamp (by omega)]) ?_
  have hPc := hP.sub (ws' := (wM mm cy T rf sp)) [1, 2, 3, 4, 5, 6, 7, 8, 9] rfl
  have hDc := hD.sub (ws' := (wM mm cy T rf sp)) [1, 2, 3, 4, 5, 6, 7, 8, 9] (by decide) rfl
  refine mo_Vi (G := G) (wr := ((od, .inl (cy 3, 1, .inr (.inr (.inr (.inl d))))) :: wL a cy ((sp_write T ((xs (i + 1))) ((xs (i + 2))) ((xs (i + 3)))).2.2) tr9 o f9)) (As := [.int (xs (i + 1)), .int (xs (i + 2)), .int (xs (i + 3))]) (rest := []) ⟨hx, hb, hml, hown, hts⟩ (c_X4_write l G cy mm H.size T rf sp ((xs (i + 1))) ((xs (i + 2))) ((xs (i + 3))) hI) (cwV 3 hts gL_law_X4_write rfl rfl rfl (by decide +kernel) ⟨Nat.le_of_ble_eq_true rfl, Nat.le_of_ble_eq_true rfl⟩) (va_recv hK hPc (ci := 4) (q0 := 0) rfl rfl) hPc hDc hP hK hD hS hA [1, 2, 3, 4, 5, 6, 7, 8, 9] [0, 10, 11, 12, 13, 14, 15, 16, 17, 18, 19, 20, 21, 22] rfl rfl (by decide) (by decide) hN rfl hl.1 (Nat.le_of_ble_eq_true rfl) dL_law_615 ⟨hcl, hsl⟩ (fun r_615 u_615 H locs hw hP hD hS => ?_)
  obtain rfl : (sp_write T ((xs (i + 1))) ((xs (i + 2))) ((xs (i + 3)))).2.1 = r_615 := hw
  have hP := hP.sub (ws' := (wW cy mm a ((sp_write T ((xs (i + 1))) ((xs (i + 2))) ((xs (i + 3)))).2.2) ((sp_write T ((xs (i + 1))) ((xs (i + 2))) ((xs (i + 3)))).1) u_615 ((sp_write T ((xs (i + 1))) ((xs (i + 2))) ((xs (i + 3)))).2.2) tr9 o f9 od d)) [0, 14, 15, 16, 17, 18, 19, 20, 21, 22, 1, 2, 3, 4, 5, 6, 7, 8, 9, 10, 11, 12, 13] rfl
  have hD := hD.sub (ws' := (wW cy mm a ((sp_write T ((xs (i + 1))) ((xs (i + 2))) ((xs (i + 3)))).2.2) ((sp_write T ((xs (i + 1))) ((xs (i + 2))) ((xs (i + 3)))).1) u_615 ((sp_write T ((xs (i + 1))) ((xs (i + 2))) ((xs (i + 3)))).2.2) tr9 o f9 od d)) [0, 14, 15, 16, 17, 18, 19, 20, 21, 22, 1, 2, 3, 4, 5, 6, 7, 8, 9, 10, 11, 12, 13] (by decide) rfl
  have hP : va_P G vwCl (wW cy mm a ((sp_write T ((xs (i + 1))) ((xs (i + 2))) ((xs (i + 3)))).2.2) ((sp_write T ((xs (i + 1))) ((xs (i + 2))) ((xs (i + 3)))).1) u_615 ((sp_write T ((xs (i + 1))) ((xs (i + 2))) ((xs (i + 3)))).2.2) tr9 o f9 od d) H := hP
  have hD : va_D (fun q : Nat => s.heap.size ≤ q) (wW cy mm a ((sp_write T ((xs (i + 1))) ((xs (i + 2))) ((xs (i + 3)))).2.2) ((sp_write T ((xs (i + 1))) ((xs (i + 2))) ((xs (i + 3)))).1) u_615 ((sp_write T ((xs (i + 1))) ((xs (i + 2))) ((xs (i + 3)))).2.2) tr9 o f9 od d) := hD
  refine lv_istore (lv' := [(7, .int (sp_write T ((xs (i + 1))) ((xs (i + 2))) ((xs (i + 3)))).2.1), (6, .int (sp_write T ((xs (i + 1))) ((xs (i + 2))) ((xs (i + 3)))).1), (0, .ref b), (1, .ref (a 0)), (2, .ref (mm 0)), (3, .ref o), (4, .ref od), (5, .int (nI i))]) hx hb dL_law_618 hl (by decide) rfl (fun ls hl => ?_)
  refine lv_aload_n hx hb dL_law_620 rfl (lv_at hl 4 rfl) ?_
  have hPc := hP.sub (ws' := (wM mm cy ((sp_write T ((xs (i + 1))) ((xs (i + 2))) ((xs (i + 3)))).2.2) ((sp_write T ((xs (i + 1))) ((xs (i + 2))) ((xs (i + 3)))).1) u_615)) [1, 2, 3, 4, 5, 6, 7, 8, 9] rfl
  have hDc := hD.sub (ws' := (wM mm cy ((sp_write T ((xs (i + 1))) ((xs (i + 2))) ((xs (i + 3)))).2.2) ((sp_write T ((xs (i + 1))) ((xs (i + 2))) ((xs (i + 3)))).1) u_615)) [1, 2, 3, 4, 5, 6, 7, 8, 9] (by decide) rfl
  refine mo_Vi (G := G) (wr := ((od, .inl (cy 3, 1, .inr (.inr (.inr (.inl d))))) :: wL a cy ((sp_write T ((xs (i + 1))) ((xs (i + 2))) ((xs (i + 3)))).2.2) tr9 o f9)) (As := []) (rest := []) ⟨hx, hb, hml, hown, hts⟩ (c_X4_thrown l G cy mm H.size ((sp_write T ((xs (i + 1))) ((xs (i + 2))) ((xs (i + 3)))).2.2) ((sp_write T ((xs (i + 1))) ((xs (i + 2))) ((xs (i + 3)))).1) u_615) (cwV 0 hts gL_law_X4_thrown rfl rfl rfl (by decide +kernel) ⟨Nat.le_of_ble_eq_true rfl, Nat.le_of_ble_eq_true rfl⟩) (va_recv hK hPc (ci := 4) (q0 := 0) rfl rfl) hPc hDc hP hK hD hS hA [1, 2, 3, 4, 5, 6, 7, 8, 9] [0, 10, 11, 12, 13, 14, 15, 16, 17, 18, 19, 20, 21, 22] rfl rfl (by decide) (by decide) hN rfl hl.1 (Nat.le_of_ble_eq_true rfl) dL_law_621 ⟨hcl, hsl⟩ (fun r_621 u_621 H locs hw hP hD hS => ?_)
  obtain rfl : r_621 = (sp_write T ((xs (i + 1))) ((xs (i + 2))) ((xs (i + 3)))).1 := hw
  have hP := hP.sub (ws' := (wW cy mm a ((sp_write T ((xs (i + 1))) ((xs (i + 2))) ((xs (i + 3)))).2.2) ((sp_write T ((xs (i + 1))) ((xs (i + 2))) ((xs (i + 3)))).1) u_615 ((sp_write T ((xs (i + 1))) ((xs (i + 2))) ((xs (i + 3)))).2.2) tr9 o f9 od d)) [0, 14, 15, 16, 17, 18, 19, 20, 21, 22, 1, 2, 3, 4, 5, 6, 7, 8, 9, 10, 11, 12, 13] rfl
  have hD := hD.sub (ws' := (wW cy mm a ((sp_write T ((xs (i + 1))) ((xs (i + 2))) ((xs (i + 3)))).2.2) ((sp_write T ((xs (i + 1))) ((xs (i + 2))) ((xs (i + 3)))).1) u_615 ((sp_write T ((xs (i + 1))) ((xs (i + 2))) ((xs (i + 3)))).2.2) tr9 o f9 od d)) [0, 14, 15, 16, 17, 18, 19, 20, 21, 22, 1, 2, 3, 4, 5, 6, 7, 8, 9, 10, 11, 12, 13] (by decide) rfl
  have hP : va_P G vwCl (wW cy mm a ((sp_write T ((xs (i + 1))) ((xs (i + 2))) ((xs (i + 3)))).2.2) ((sp_write T ((xs (i + 1))) ((xs (i + 2))) ((xs (i + 3)))).1) u_615 ((sp_write T ((xs (i + 1))) ((xs (i + 2))) ((xs (i + 3)))).2.2) tr9 o f9 od d) H := hP
  have hD : va_D (fun q : Nat => s.heap.size ≤ q) (wW cy mm a ((sp_write T ((xs (i + 1))) ((xs (i + 2))) ((xs (i + 3)))).2.2) ((sp_write T ((xs (i + 1))) ((xs (i + 2))) ((xs (i + 3)))).1) u_615 ((sp_write T ((xs (i + 1))) ((xs (i + 2))) ((xs (i + 3)))).2.2) tr9 o f9 od d) := hD
  refine lv_iload hx hb dL_law_624 (lv_at hl 1 rfl) ?_
  refine lv_icmp_eq (tgt := 631) hx hb dL_law_626 (by decide) (fun _ => ?_) (fun c_9 => absurd rfl c_9)
  refine lv_iload hx hb dL_law_631 (lv_at hl 1 rfl) ?_
  refine lv_if_ne (tgt := 648) hx hb dL_law_633 (by decide) (fun c_0 => ?_) (fun c_0 => ?_)
  · skip
    refine lv_goto (tgt := 1505) hx hb dL_law_648 (by decide) ?_
    exact kk ((sp_write T ((xs (i + 1))) ((xs (i + 2))) ((xs (i + 3)))).2.2) ((sp_write T ((xs (i + 1))) ((xs (i + 2))) ((xs (i + 3)))).1) u_615 tr9 f9 d H _ ls (inv_write hI ((xs (i + 1))) ((xs (i + 2))) ((xs (i + 3)))) hP hD hS (lv_sub hl [2, 3, 4, 5, 6, 7] rfl)
  · skip
    refine lv_aload_n hx hb dL_law_636 rfl (lv_at hl 5 rfl) ?_
    refine lv_iconst (v := 0) hx hb dL_law_637 (by decide) ?_
    refine ml_lald hx hb hK hP 10 1 rfl rfl 0 rfl (by decide) (by decide) ((sp_write T ((xs (i + 1))) ((xs (i + 2))) ((xs (i + 3)))).2.1.toInt64) (hw2 c_0) dL_law_638 ?_
    refine lv_iload hx hb dL_law_639 (lv_at hl 0 rfl) ?_
    refine lv_i2l (v := (sp_write T ((xs (i + 1))) ((xs (i + 2))) ((xs (i + 3)))).2.1.toInt64) hx hb dL_law_641 rfl ?_
    refine W.lcmp hx hb dL_law_642 ?_
    refine lv_if_eq (tgt := 648) hx hb dL_law_643 (by decide) (fun _ => ?_) (fun c_9 => absurd ((lg_cmp_eq _ _).mpr rfl) c_9)
    refine lv_goto (tgt := 1505) hx hb dL_law_648 (by decide) ?_
    exact kk ((sp_write T ((xs (i + 1))) ((xs (i + 2))) ((xs (i + 3)))).2.2) ((sp_write T ((xs (i + 1))) ((xs (i + 2))) ((xs (i + 3)))).1) u_615 tr9 f9 d H _ ls (inv_write hI ((xs (i + 1))) ((xs (i + 2))) ((xs (i + 3)))) hP hD hS (lv_sub hl [2, 3, 4, 5, 6, 7] rfl)
set_option maxHeartbeats 4000000 in
set_option maxRecDepth 100000 in
theorem k_delete {p : Program} {l : Launch} {e : Env} {s : State} {m : MethodId} {below : List Frame} {meth : Method} {c : Code} {b L : Nat} {xs : Nat → Int32} {G : va_G} {cy : Nat → ClassId} {mm a : Nat → Nat} {o od i cells slots : Nat} (C0 : lw_C p l s m meth c b L xs G cy) (hi : i + 5 ≤ L) (hcl : cells + 1 ≤ 1077) (hsl : slots + 6 ≤ 8842) {T : TS} {rf : Int32} {sp : Nat → Int64} {tr : Nat → Int32} {f : Nat → Int64} {d : Nat → UInt64} {H : Heap} {locs : List Loc} {ls : Array Slot} (hI : Inv T) (hP : va_P G vwCl (wW cy mm a T rf sp T tr o f od d) H) (hD : va_D (fun q : Nat => s.heap.size ≤ q) (wW cy mm a T rf sp T tr o f od d)) (hS : va_S (fun q : Nat => s.heap.size ≤ q) s.heap H locs) (hl : lv_has ls 8 [(0, .ref b), (1, .ref (a 0)), (2, .ref (mm 0)), (3, .ref o), (4, .ref od), (5, .int (nI i))]) (kk : lw_K p l e s m below meth c b G cy mm a o od i cells slots) : W p l e room_1 s m #[Value.ref b] below meth c H locs cells slots (lw_Z below #[Value.ref b] s) (F0 m 651 ls []) := by
  obtain ⟨hL, C1, hlt, hK, hN, hE⟩ := C0
  obtain ⟨hx, hb, hr, hml, hown, hts0, hX, hbl, hlocks, hgv⟩ := C1
  have hb : c.code = cL_law := hb
  have hown : s.vm.findClass RL = some m.cls := hown
  have hts : ∀ w ∈ wsL_law, w.before #[Value.ref b] s = true := fun w h => hts0 w (wsL_law_in w h)
  have hA : ∀ q : Nat, s.heap.size ≤ q → (fun q : Nat => s.heap.size ≤ q) q := fun _ h => h
  have hbA : ¬ (fun q : Nat => s.heap.size ≤ q) b := Nat.not_le.mpr hbl
  have hcl : cells + 1 ≤ room_1.cells := hcl
  have hsl : slots + 6 ≤ room_1.slots := hsl
  refine lv_aload_n hx hb dL_law_651 rfl (lv_at hl 1 rfl) ?_
  refine lv_aload_n hx hb dL_law_652 rfl (lv_at hl 0 rfl) ?_
  refine lv_iload hx hb dL_law_653 (lv_at hl 5 rfl) ?_
  refine lv_iconst (v := 1) hx hb dL_law_655 (by decide) ?_
  refine lv_iadd hx hb dL_law_656 ?_
  refine ml_eqi (nI (i + 1)) (nI_1 i) ?_
  refine va_sld hx hb hX hbl hbA hS (vp_in_nI (by omega) (by omega)) dL_law_657 ?_
  refine ml_eqi (xs (i + 1)) (by rw [nI_clamp (by omega)]) ?_
  refine lv_aload_n hx hb dL_law_658 rfl (lv_at hl 3 rfl) ?_
  have hPc := hP.sub (ws' := (wL a cy T tr o f)) [10, 11, 12, 13, 14, 15, 16, 17, 18, 19, 20, 21, 22] rfl
  have hDc := hD.sub (ws' := (wL a cy T tr o f)) [10, 11, 12, 13, 14, 15, 16, 17, 18, 19, 20, 21, 22] (by decide) rfl
  refine mo_SWi (G := G) (wr := ((od, .inl (cy 3, 1, .inr (.inr (.inr (.inl d))))) :: wM mm cy T rf sp)) (As := [.ref (a 0), .int (xs (i + 1)), .ref o]) (rest := []) ⟨hx, hb, hml, hown, hts⟩ (c_L_delete l hlt G cy a H.size T tr ((xs (i + 1))) o f hI) (vx_cwSW 3 hts gL_law_L_delete rfl rfl rfl (by decide +kernel) ⟨Nat.le_of_ble_eq_true rfl, Nat.le_of_ble_eq_true rfl⟩) hPc hDc hP hK hD hS hA [10, 11, 12, 13, 14, 15, 16, 17, 18, 19, 20, 21, 22] [0, 1, 2, 3, 4, 5, 6, 7, 8, 9] rfl rfl (by decide) (by decide) hN hE rfl hl.1 (Nat.le_of_ble_eq_true rfl) dL_law_659 ⟨hcl, hsl⟩ (fun k9 u9 H locs hw hP hD hS => ?_)
  obtain ⟨tr9, f9⟩ := u9
  obtain ⟨hw1, hw2⟩ := hw
  obtain rfl : k9 = (sp_delete T ((xs (i + 1)))).1 := hw1
  have hw2 : (sp_delete T ((xs (i + 1)))).1 = 0 → f9 0 = (sp_delete T ((xs (i + 1)))).2.1.toInt64 := hw2
  have hP : va_P G vwCl (wW cy mm a T rf sp ((sp_delete T ((xs (i + 1)))).2.2) tr9 o f9 od d) H := hP
  have hD : va_D (fun q : Nat => s.heap.size ≤ q) (wW cy mm a T rf sp ((sp_delete T ((xs (i + 1)))).2.2) tr9 o f9 od d) := hD
  refine lv_istore (lv' := [(6, .int (sp_delete T ((xs (i + 1)))).1), (0, .ref b), (1, .ref (a 0)), (2, .ref (mm 0)), (3, .ref o), (4, .ref od), (5, .int (nI i))]) hx hb dL_law_662 hl (by decide) rfl (fun ls hl => ?_)
  refine lv_aload_n hx hb dL_law_664 rfl (lv_at hl 3 rfl) ?_
  refine lv_aload_n hx hb dL_law_665 rfl (lv_at hl 1 rfl) ?_
  refine lv_iload hx hb dL_law_666 (lv_at hl 6 rfl) ?_
  refine lv_iconst (v := 1) hx hb dL_law_668 (by decide) ?_
  refine lv_iadd hx hb dL_law_669 ?_
  refine ml_eqi (nI (i + 1)) (nI_1 i) ?_
  refine va_sld hx hb hX hbl hbA hS (vp_in_nI (by omega) (by omega)) dL_law_670 ?_
  refine ml_eqi (xs (i + 1)) (by rw [nI_clamp (by omega)]) ?_
  have hPc := hP.sub (ws' := (wM mm cy T rf sp)) [1, 2, 3, 4, 5, 6, 7, 8, 9] rfl
  have hDc := hD.sub (ws' := (wM mm cy T rf sp)) [1, 2, 3, 4, 5, 6, 7, 8, 9] (by decide) rfl
  refine mo_Vi (G := G) (wr := ((od, .inl (cy 3, 1, .inr (.inr (.inr (.inl d))))) :: wL a cy ((sp_delete T ((xs (i + 1)))).2.2) tr9 o f9)) (As := [.int (xs (i + 1))]) (rest := []) ⟨hx, hb, hml, hown, hts⟩ (c_X4_delete l G cy mm H.size T rf sp ((xs (i + 1))) hI) (cwV 1 hts gL_law_X4_delete rfl rfl rfl (by decide +kernel) ⟨Nat.le_of_ble_eq_true rfl, Nat.le_of_ble_eq_true rfl⟩) (va_recv hK hPc (ci := 4) (q0 := 0) rfl rfl) hPc hDc hP hK hD hS hA [1, 2, 3, 4, 5, 6, 7, 8, 9] [0, 10, 11, 12, 13, 14, 15, 16, 17, 18, 19, 20, 21, 22] rfl rfl (by decide) (by decide) hN rfl hl.1 (Nat.le_of_ble_eq_true rfl) dL_law_671 ⟨hcl, hsl⟩ (fun r_671 u_671 H locs hw hP hD hS => ?_)
  obtain rfl : (sp_delete T ((xs (i + 1)))).2.1 = r_671 := hw
  have hP := hP.sub (ws' := (wW cy mm a ((sp_delete T ((xs (i + 1)))).2.2) ((sp_delete T ((xs (i + 1)))).1) u_671 ((sp_delete T ((xs (i + 1)))).2.2) tr9 o f9 od d)) [0, 14, 15, 16, 17, 18, 19, 20, 21, 22, 1, 2, 3, 4, 5, 6, 7, 8, 9, 10, 11, 12, 13] rfl
  have hD := hD.sub (ws' := (wW cy mm a ((sp_delete T ((xs (i + 1)))).2.2) ((sp_delete T ((xs (i + 1)))).1) u_671 ((sp_delete T ((xs (i + 1)))).2.2) tr9 o f9 od d)) [0, 14, 15, 16, 17, 18, 19, 20, 21, 22, 1, 2, 3, 4, 5, 6, 7, 8, 9, 10, 11, 12, 13] (by decide) rfl
  have hP : va_P G vwCl (wW cy mm a ((sp_delete T ((xs (i + 1)))).2.2) ((sp_delete T ((xs (i + 1)))).1) u_671 ((sp_delete T ((xs (i + 1)))).2.2) tr9 o f9 od d) H := hP
  have hD : va_D (fun q : Nat => s.heap.size ≤ q) (wW cy mm a ((sp_delete T ((xs (i + 1)))).2.2) ((sp_delete T ((xs (i + 1)))).1) u_671 ((sp_delete T ((xs (i + 1)))).2.2) tr9 o f9 od d) := hD
  refine lv_istore (lv' := [(7, .int (sp_delete T ((xs (i + 1)))).2.1), (6, .int (sp_delete T ((xs (i + 1)))).1), (0, .ref b), (1, .ref (a 0)), (2, .ref (mm 0)), (3, .ref o), (4, .ref od), (5, .int (nI i))]) hx hb dL_law_674 hl (by decide) rfl (fun ls hl => ?_)
  refine lv_aload_n hx hb dL_law_676 rfl (lv_at hl 4 rfl) ?_
  have hPc := hP.sub (ws' := (wM mm cy ((sp_delete T ((xs (i + 1)))).2.2) ((sp_delete T ((xs (i + 1)))).1) u_671)) [1, 2, 3, 4, 5, 6, 7, 8, 9] rfl
  have hDc := hD.sub (ws' := (wM mm cy ((sp_delete T ((xs (i + 1)))).2.2) ((sp_delete T ((xs (i + 1)))).1) u_671)) [1, 2, 3, 4, 5, 6, 7, 8, 9] (by decide) rfl
  refine mo_Vi (G := G) (wr := ((od, .inl (cy 3, 1, .inr (.inr (.inr (.inl d))))) :: wL a cy ((sp_delete T ((xs (i + 1)))).2.2) tr9 o f9)) (As := []) (rest := []) ⟨hx, hb, hml, hown, hts⟩ (c_X4_thrown l G cy mm H.size ((sp_delete T ((xs (i + 1)))).2.2) ((sp_delete T ((xs (i + 1)))).1) u_671) (cwV 0 hts gL_law_X4_thrown rfl rfl rfl (by decide +kernel) ⟨Nat.le_of_ble_eq_true rfl, Nat.le_of_ble_eq_true rfl⟩) (va_recv hK hPc (ci := 4) (q0 := 0) rfl rfl) hPc hDc hP hK hD hS hA [1, 2, 3, 4, 5, 6, 7, 8, 9] [0, 10, 11, 12, 13, 14, 15, 16, 17, 18, 19, 20, 21, 22] rfl rfl (by decide) (by decide) hN rfl hl.1 (Nat.le_of_ble_eq_true rfl) dL_law_677 ⟨hcl, hsl⟩ (fun r_677 u_677 H locs hw hP hD hS => ?_)
  obtain rfl : r_677 = (sp_delete T ((xs (i + 1)))).1 := hw
  have hP := hP.sub (ws' := (wW cy mm a ((sp_delete T ((xs (i + 1)))).2.2) ((sp_delete T ((xs (i + 1)))).1) u_671 ((sp_delete T ((xs (i + 1)))).2.2) tr9 o f9 od d)) [0, 14, 15, 16, 17, 18, 19, 20, 21, 22, 1, 2, 3, 4, 5, 6, 7, 8, 9, 10, 11, 12, 13] rfl
  have hD := hD.sub (ws' := (wW cy mm a ((sp_delete T ((xs (i + 1)))).2.2) ((sp_delete T ((xs (i + 1)))).1) u_671 ((sp_delete T ((xs (i + 1)))).2.2) tr9 o f9 od d)) [0, 14, 15, 16, 17, 18, 19, 20, 21, 22, 1, 2, 3, 4, 5, 6, 7, 8, 9, 10, 11, 12, 13] (by decide) rfl
  have hP : va_P G vwCl (wW cy mm a ((sp_delete T ((xs (i + 1)))).2.2) ((sp_delete T ((xs (i + 1)))).1) u_671 ((sp_delete T ((xs (i + 1)))).2.2) tr9 o f9 od d) H := hP
  have hD : va_D (fun q : Nat => s.heap.size ≤ q) (wW cy mm a ((sp_delete T ((xs (i + 1)))).2.2) ((sp_delete T ((xs (i + 1)))).1) u_671 ((sp_delete T ((xs (i + 1)))).2.2) tr9 o f9 od d) := hD
  refine lv_iload hx hb dL_law_680 (lv_at hl 1 rfl) ?_
  refine lv_icmp_eq (tgt := 687) hx hb dL_law_682 (by decide) (fun _ => ?_) (fun c_9 => absurd rfl c_9)
  refine lv_iload hx hb dL_law_687 (lv_at hl 1 rfl) ?_
  refine lv_if_ne (tgt := 704) hx hb dL_law_689 (by decide) (fun c_0 => ?_) (fun c_0 => ?_)
  · skip
    refine lv_goto (tgt := 1505) hx hb dL_law_704 (by decide) ?_
    exact kk ((sp_delete T ((xs (i + 1)))).2.2) ((sp_delete T ((xs (i + 1)))).1) u_671 tr9 f9 d H _ ls (inv_delete hI ((xs (i + 1)))) hP hD hS (lv_sub hl [2, 3, 4, 5, 6, 7] rfl)
  · skip
    refine lv_aload_n hx hb dL_law_692 rfl (lv_at hl 5 rfl) ?_
    refine lv_iconst (v := 0) hx hb dL_law_693 (by decide) ?_
    refine ml_lald hx hb hK hP 10 1 rfl rfl 0 rfl (by decide) (by decide) ((sp_delete T ((xs (i + 1)))).2.1.toInt64) (hw2 c_0) dL_law_694 ?_
    refine lv_iload hx hb dL_law_695 (lv_at hl 0 rfl) ?_
    refine lv_i2l (v := (sp_delete T ((xs (i + 1)))).2.1.toInt64) hx hb dL_law_697 rfl ?_
    refine W.lcmp hx hb dL_law_698 ?_
    refine lv_if_eq (tgt := 704) hx hb dL_law_699 (by decide) (fun _ => ?_) (fun c_9 => absurd ((lg_cmp_eq _ _).mpr rfl) c_9)
    refine lv_goto (tgt := 1505) hx hb dL_law_704 (by decide) ?_
    exact kk ((sp_delete T ((xs (i + 1)))).2.2) ((sp_delete T ((xs (i + 1)))).1) u_671 tr9 f9 d H _ ls (inv_delete hI ((xs (i + 1)))) hP hD hS (lv_sub hl [2, 3, 4, 5, 6, 7] rfl)
set_option maxHeartbeats 4000000 in
set_option maxRecDepth 100000 in
theorem k_value {p : Program} {l : Launch} {e : Env} {s : State} {m : MethodId} {below : List Frame} {meth : Method} {c : Code} {b L : Nat} {xs : Nat → Int32} {G : va_G} {cy : Nat → ClassId} {mm a : Nat → Nat} {o od i cells slots : Nat} (C0 : lw_C p l s m meth c b L xs G cy) (hi : i + 5 ≤ L) (hcl : cells + 1 ≤ 1077) (hsl : slots + 6 ≤ 8842) {T : TS} {rf : Int32} {sp : Nat → Int64} {tr : Nat → Int32} {f : Nat → Int64} {d : Nat → UInt64} {H : Heap} {locs : List Loc} {ls : Array Slot} (hI : Inv T) (hP : va_P G vwCl (wW cy mm a T rf sp T tr o f od d) H) (hD : va_D (fun q : Nat => s.heap.size ≤ q) (wW cy mm a T rf sp T tr o f od d)) (hS : va_S (fun q : Nat => s.heap.size ≤ q) s.heap H locs) (hl : lv_has ls 8 [(0, .ref b), (1, .ref (a 0)), (2, .ref (mm 0)), (3, .ref o), (4, .ref od), (5, .int (nI i))]) (kk : lw_K p l e s m below meth c b G cy mm a o od i cells slots) : W p l e room_1 s m #[Value.ref b] below meth c H locs cells slots (lw_Z below #[Value.ref b] s) (F0 m 707 ls []) := by
  obtain ⟨hL, C1, hlt, hK, hN, hE⟩ := C0
  obtain ⟨hx, hb, hr, hml, hown, hts0, hX, hbl, hlocks, hgv⟩ := C1
  have hb : c.code = cL_law := hb
  have hown : s.vm.findClass RL = some m.cls := hown
  have hts : ∀ w ∈ wsL_law, w.before #[Value.ref b] s = true := fun w h => hts0 w (wsL_law_in w h)
  have hA : ∀ q : Nat, s.heap.size ≤ q → (fun q : Nat => s.heap.size ≤ q) q := fun _ h => h
  have hbA : ¬ (fun q : Nat => s.heap.size ≤ q) b := Nat.not_le.mpr hbl
  have hcl : cells + 1 ≤ room_1.cells := hcl
  have hsl : slots + 6 ≤ room_1.slots := hsl
  refine lv_aload_n hx hb dL_law_707 rfl (lv_at hl 1 rfl) ?_
  refine lv_aload_n hx hb dL_law_708 rfl (lv_at hl 0 rfl) ?_
  refine lv_iload hx hb dL_law_709 (lv_at hl 5 rfl) ?_
  refine lv_iconst (v := 1) hx hb dL_law_711 (by decide) ?_
  refine lv_iadd hx hb dL_law_712 ?_
  refine ml_eqi (nI (i + 1)) (nI_1 i) ?_
  refine va_sld hx hb hX hbl hbA hS (vp_in_nI (by omega) (by omega)) dL_law_713 ?_
  refine ml_eqi (xs (i + 1)) (by rw [nI_clamp (by omega)]) ?_
  refine lv_aload_n hx hb dL_law_714 rfl (lv_at hl 0 rfl) ?_
  refine lv_iload hx hb dL_law_715 (lv_at hl 5 rfl) ?_
  refine lv_iconst (v := 2) hx hb dL_law_717 (by decide) ?_
  refine lv_iadd hx hb dL_law_718 ?_
  refine ml_eqi (nI (i + 2)) (nI_add i 2) ?_
  refine va_sld hx hb hX hbl hbA hS (vp_in_nI (by omega) (by omega)) dL_law_719 ?_
  refine ml_eqi (xs (i + 2)) (by rw [nI_clamp (by omega)]) ?_
  refine lv_aload_n hx hb dL_law_720 rfl (lv_at hl 3 rfl) ?_
  have hPc := hP.sub (ws' := (wL a cy T tr o f)) [10, 11, 12, 13, 14, 15, 16, 17, 18, 19, 20, 21, 22] rfl
  have hDc := hD.sub (ws' := (wL a cy T tr o f)) [10, 11, 12, 13, 14, 15, 16, 17, 18, 19, 20, 21, 22] (by decide) rfl
  refine mo_SWi (G := G) (wr := ((od, .inl (cy 3, 1, .inr (.inr (.inr (.inl d))))) :: wM mm cy T rf sp)) (As := [.ref (a 0), .int (xs (i + 1)), .int (xs (i + 2)), .ref o]) (rest := []) ⟨hx, hb, hml, hown, hts⟩ (c_L_value l hlt G cy a H.size T tr ((xs (i + 1))) ((xs (i + 2))) o f hI) (vx_cwSW 4 hts gL_law_L_value rfl rfl rfl (by decide +kernel) ⟨Nat.le_of_ble_eq_true rfl, Nat.le_of_ble_eq_true rfl⟩) hPc hDc hP hK hD hS hA [10, 11, 12, 13, 14, 15, 16, 17, 18, 19, 20, 21, 22] [0, 1, 2, 3, 4, 5, 6, 7, 8, 9] rfl rfl (by decide) (by decide) hN hE rfl hl.1 (Nat.le_of_ble_eq_true rfl) dL_law_721 ⟨hcl, hsl⟩ (fun k9 u9 H locs hw hP hD hS => ?_)
  obtain ⟨tr9, f9⟩ := u9
  obtain ⟨hw1, hw2⟩ := hw
  obtain rfl : k9 = (sp_value T ((xs (i + 1))) ((xs (i + 2)))).1 := hw1
  have hw2 : (sp_value T ((xs (i + 1))) ((xs (i + 2)))).1 = 0 → f9 0 = (sp_value T ((xs (i + 1))) ((xs (i + 2)))).2.1.toInt64 := hw2
  have hP : va_P G vwCl (wW cy mm a T rf sp ((sp_value T ((xs (i + 1))) ((xs (i + 2)))).2.2) tr9 o f9 od d) H := hP
  have hD : va_D (fun q : Nat => s.heap.size ≤ q) (wW cy mm a T rf sp ((sp_value T ((xs (i + 1))) ((xs (i + 2)))).2.2) tr9 o f9 od d) := hD
  refine lv_istore (lv' := [(6, .int (sp_value T ((xs (i + 1))) ((xs (i + 2)))).1), (0, .ref b), (1, .ref (a 0)), (2, .ref (mm 0)), (3, .ref o), (4, .ref od), (5, .int (nI i))]) hx hb dL_law_724 hl (by decide) rfl (fun ls hl => ?_)
  refine lv_aload_n hx hb dL_law_726 rfl (lv_at hl 3 rfl) ?_
  refine lv_aload_n hx hb dL_law_727 rfl (lv_at hl 1 rfl) ?_
  refine lv_iload hx hb dL_law_728 (lv_at hl 6 rfl) ?_
  refine lv_iconst (v := 1) hx hb dL_law_730 (by decide) ?_
  refine lv_iadd hx hb dL_law_731 ?_
  refine ml_eqi (nI (i + 1)) (nI_1 i) ?_
  refine va_sld hx hb hX hbl hbA hS (vp_in_nI (by omega) (by omega)) dL_law_732 ?_
  refine ml_eqi (xs (i + 1)) (by rw [nI_clamp (by omega)]) ?_
  refine lv_aload_n hx hb dL_law_733 rfl (lv_at hl 1 rfl) ?_
  refine lv_iload hx hb dL_law_734 (lv_at hl 6 rfl) ?_
  refine lv_iconst (v := 2) hx hb dL_law_736 (by decide) ?_
  refine lv_iadd hx hb dL_law_737 ?_
  refine ml_eqi (nI (i + 2)) (nI_add i 2) ?_
  refine va_sld hx hb hX hbl hbA hS (vp_in_nI (by omega) (by omega)) dL_law_738 ?_
  refine ml_eqi (xs (i + 2)) (by rw [nI_clamp (by omega)]) ?_
  have hPc := hP.sub (ws' := (wM mm cy T rf sp)) [1, 2, 3, 4, 5, 6, 7, 8, 9] rfl
  have hDc := hD.sub (ws' := (wM mm cy T rf sp)) [1, 2, 3, 4, 5, 6, 7, 8, 9] (by decide) rfl
  refine mo_Vi (G := G) (wr := ((od, .inl (cy 3, 1, .inr (.inr (.inr (.inl d))))) :: wL a cy ((sp_value T ((xs (i + 1))) ((xs (i + 2)))).2.2) tr9 o f9)) (As := [.int (xs (i + 1)), .int (xs (i + 2))]) (rest := []) ⟨hx, hb, hml, hown, hts⟩ (c_X4_value l G cy mm H.size T rf sp ((xs (i + 1))) ((xs (i + 2))) hI) (cwV 2 hts gL_law_X4_value rfl rfl rfl (by decide +kernel) ⟨Nat.le_of_ble_eq_true rfl, Nat.le_of_ble_eq_true rfl⟩) (va_recv hK hPc (ci := 4) (q0 := 0) rfl rfl) hPc hDc hP hK hD hS hA [1, 2, 3, 4, 5, 6, 7, 8, 9] [0, 10, 11, 12, 13, 14, 15, 16, 17, 18, 19, 20, 21, 22] rfl rfl (by decide) (by decide) hN rfl hl.1 (Nat.le_of_ble_eq_true rfl) dL_law_739 ⟨hcl, hsl⟩ (fun r_739 u_739 H locs hw hP hD hS => ?_)
  obtain rfl : (sp_value T ((xs (i + 1))) ((xs (i + 2)))).2.1 = r_739 := hw
  have hP := hP.sub (ws' := (wW cy mm a ((sp_value T ((xs (i + 1))) ((xs (i + 2)))).2.2) ((sp_value T ((xs (i + 1))) ((xs (i + 2)))).1) u_739 ((sp_value T ((xs (i + 1))) ((xs (i + 2)))).2.2) tr9 o f9 od d)) [0, 14, 15, 16, 17, 18, 19, 20, 21, 22, 1, 2, 3, 4, 5, 6, 7, 8, 9, 10, 11, 12, 13] rfl
  have hD := hD.sub (ws' := (wW cy mm a ((sp_value T ((xs (i + 1))) ((xs (i + 2)))).2.2) ((sp_value T ((xs (i + 1))) ((xs (i + 2)))).1) u_739 ((sp_value T ((xs (i + 1))) ((xs (i + 2)))).2.2) tr9 o f9 od d)) [0, 14, 15, 16, 17, 18, 19, 20, 21, 22, 1, 2, 3, 4, 5, 6, 7, 8, 9, 10, 11, 12, 13] (by decide) rfl
  have hP : va_P G vwCl (wW cy mm a ((sp_value T ((xs (i + 1))) ((xs (i + 2)))).2.2) ((sp_value T ((xs (i + 1))) ((xs (i + 2)))).1) u_739 ((sp_value T ((xs (i + 1))) ((xs (i + 2)))).2.2) tr9 o f9 od d) H := hP
  have hD : va_D (fun q : Nat => s.heap.size ≤ q) (wW cy mm a ((sp_value T ((xs (i + 1))) ((xs (i + 2)))).2.2) ((sp_value T ((xs (i + 1))) ((xs (i + 2)))).1) u_739 ((sp_value T ((xs (i + 1))) ((xs (i + 2)))).2.2) tr9 o f9 od d) := hD
  refine lv_istore (lv' := [(7, .int (sp_value T ((xs (i + 1))) ((xs (i + 2)))).2.1), (6, .int (sp_value T ((xs (i + 1))) ((xs (i + 2)))).1), (0, .ref b), (1, .ref (a 0)), (2, .ref (mm 0)), (3, .ref o), (4, .ref od), (5, .int (nI i))]) hx hb dL_law_742 hl (by decide) rfl (fun ls hl => ?_)
  refine lv_aload_n hx hb dL_law_744 rfl (lv_at hl 4 rfl) ?_
  have hPc := hP.sub (ws' := (wM mm cy ((sp_value T ((xs (i + 1))) ((xs (i + 2)))).2.2) ((sp_value T ((xs (i + 1))) ((xs (i + 2)))).1) u_739)) [1, 2, 3, 4, 5, 6, 7, 8, 9] rfl
  have hDc := hD.sub (ws' := (wM mm cy ((sp_value T ((xs (i + 1))) ((xs (i + 2)))).2.2) ((sp_value T ((xs (i + 1))) ((xs (i + 2)))).1) u_739)) [1, 2, 3, 4, 5, 6, 7, 8, 9] (by decide) rfl
  refine mo_Vi (G := G) (wr := ((od, .inl (cy 3, 1, .inr (.inr (.inr (.inl d))))) :: wL a cy ((sp_value T ((xs (i + 1))) ((xs (i + 2)))).2.2) tr9 o f9)) (As := []) (rest := []) ⟨hx, hb, hml, hown, hts⟩ (c_X4_thrown l G cy mm H.size ((sp_value T ((xs (i + 1))) ((xs (i + 2)))).2.2) ((sp_value T ((xs (i + 1))) ((xs (i + 2)))).1) u_739) (cwV 0 hts gL_law_X4_thrown rfl rfl rfl (by decide +kernel) ⟨Nat.le_of_ble_eq_true rfl, Nat.le_of_ble_eq_true rfl⟩) (va_recv hK hPc (ci := 4) (q0 := 0) rfl rfl) hPc hDc hP hK hD hS hA [1, 2, 3, 4, 5, 6, 7, 8, 9] [0, 10, 11, 12, 13, 14, 15, 16, 17, 18, 19, 20, 21, 22] rfl rfl (by decide) (by decide) hN rfl hl.1 (Nat.le_of_ble_eq_true rfl) dL_law_745 ⟨hcl, hsl⟩ (fun r_745 u_745 H locs hw hP hD hS => ?_)
  obtain rfl : r_745 = (sp_value T ((xs (i + 1))) ((xs (i + 2)))).1 := hw
  have hP := hP.sub (ws' := (wW cy mm a ((sp_value T ((xs (i + 1))) ((xs (i + 2)))).2.2) ((sp_value T ((xs (i + 1))) ((xs (i + 2)))).1) u_739 ((sp_value T ((xs (i + 1))) ((xs (i + 2)))).2.2) tr9 o f9 od d)) [0, 14, 15, 16, 17, 18, 19, 20, 21, 22, 1, 2, 3, 4, 5, 6, 7, 8, 9, 10, 11, 12, 13] rfl
  have hD := hD.sub (ws' := (wW cy mm a ((sp_value T ((xs (i + 1))) ((xs (i + 2)))).2.2) ((sp_value T ((xs (i + 1))) ((xs (i + 2)))).1) u_739 ((sp_value T ((xs (i + 1))) ((xs (i + 2)))).2.2) tr9 o f9 od d)) [0, 14, 15, 16, 17, 18, 19, 20, 21, 22, 1, 2, 3, 4, 5, 6, 7, 8, 9, 10, 11, 12, 13] (by decide) rfl
  have hP : va_P G vwCl (wW cy mm a ((sp_value T ((xs (i + 1))) ((xs (i + 2)))).2.2) ((sp_value T ((xs (i + 1))) ((xs (i + 2)))).1) u_739 ((sp_value T ((xs (i + 1))) ((xs (i + 2)))).2.2) tr9 o f9 od d) H := hP
  have hD : va_D (fun q : Nat => s.heap.size ≤ q) (wW cy mm a ((sp_value T ((xs (i + 1))) ((xs (i + 2)))).2.2) ((sp_value T ((xs (i + 1))) ((xs (i + 2)))).1) u_739 ((sp_value T ((xs (i + 1))) ((xs (i + 2)))).2.2) tr9 o f9 od d) := hD
  refine lv_iload hx hb dL_law_748 (lv_at hl 1 rfl) ?_
  refine lv_icmp_eq (tgt := 755) hx hb dL_law_750 (by decide) (fun _ => ?_) (fun c_9 => absurd rfl c_9)
  refine lv_iload hx hb dL_law_755 (lv_at hl 1 rfl) ?_
  refine lv_if_ne (tgt := 772) hx hb dL_law_757 (by decide) (fun c_0 => ?_) (fun c_0 => ?_)
  · skip
    refine lv_goto (tgt := 1505) hx hb dL_law_772 (by decide) ?_
    exact kk ((sp_value T ((xs (i + 1))) ((xs (i + 2)))).2.2) ((sp_value T ((xs (i + 1))) ((xs (i + 2)))).1) u_739 tr9 f9 d H _ ls (inv_value hI ((xs (i + 1))) ((xs (i + 2)))) hP hD hS (lv_sub hl [2, 3, 4, 5, 6, 7] rfl)
  · skip
    refine lv_aload_n hx hb dL_law_760 rfl (lv_at hl 5 rfl) ?_
    refine lv_iconst (v := 0) hx hb dL_law_761 (by decide) ?_
    refine ml_lald hx hb hK hP 10 1 rfl rfl 0 rfl (by decide) (by decide) ((sp_value T ((xs (i + 1))) ((xs (i + 2)))).2.1.toInt64) (hw2 c_0) dL_law_762 ?_
    refine lv_iload hx hb dL_law_763 (lv_at hl 0 rfl) ?_
    refine lv_i2l (v := (sp_value T ((xs (i + 1))) ((xs (i + 2)))).2.1.toInt64) hx hb dL_law_765 rfl ?_
    refine W.lcmp hx hb dL_law_766 ?_
    refine lv_if_eq (tgt := 772) hx hb dL_law_767 (by decide) (fun _ => ?_) (fun c_9 => absurd ((lg_cmp_eq _ _).mpr rfl) c_9)
    refine lv_goto (tgt := 1505) hx hb dL_law_772 (by decide) ?_
    exact kk ((sp_value T ((xs (i + 1))) ((xs (i + 2)))).2.2) ((sp_value T ((xs (i + 1))) ((xs (i + 2)))).1) u_739 tr9 f9 d H _ ls (inv_value hI ((xs (i + 1))) ((xs (i + 2)))) hP hD hS (lv_sub hl [2, 3, 4, 5, 6, 7] rfl)
set_option maxHeartbeats 4000000 in
set_option maxRecDepth 100000 in
theorem k_version {p : Program} {l : Launch} {e : Env} {s : State} {m : MethodId} {below : List Frame} {meth : Method} {c : Code} {b L : Nat} {xs : Nat → Int32} {G : va_G} {cy : Nat → ClassId} {mm a : Nat → Nat} {o od i cells slots : Nat} (C0 : lw_C p l s m meth c b L xs G cy) (hi : i + 5 ≤ L) (hcl : cells + 1 ≤ 1077) (hsl : slots + 6 ≤ 8842) {T : TS} {rf : Int32} {sp : Nat → Int64} {tr : Nat → Int32} {f : Nat → Int64} {d : Nat → UInt64} {H : Heap} {locs : List Loc} {ls : Array Slot} (hI : Inv T) (hP : va_P G vwCl (wW cy mm a T rf sp T tr o f od d) H) (hD : va_D (fun q : Nat => s.heap.size ≤ q) (wW cy mm a T rf sp T tr o f od d)) (hS : va_S (fun q : Nat => s.heap.size ≤ q) s.heap H locs) (hl : lv_has ls 8 [(0, .ref b), (1, .ref (a 0)), (2, .ref (mm 0)), (3, .ref o), (4, .ref od), (5, .int (nI i))]) (kk : lw_K p l e s m below meth c b G cy mm a o od i cells slots) : W p l e room_1 s m #[Value.ref b] below meth c H locs cells slots (lw_Z below #[Value.ref b] s) (F0 m 775 ls []) := by
  obtain ⟨hL, C1, hlt, hK, hN, hE⟩ := C0
  obtain ⟨hx, hb, hr, hml, hown, hts0, hX, hbl, hlocks, hgv⟩ := C1
  have hb : c.code = cL_law := hb
  have hown : s.vm.findClass RL = some m.cls := hown
  have hts : ∀ w ∈ wsL_law, w.before #[Value.ref b] s = true := fun w h => hts0 w (wsL_law_in w h)
  have hA : ∀ q : Nat, s.heap.size ≤ q → (fun q : Nat => s.heap.size ≤ q) q := fun _ h => h
  have hbA : ¬ (fun q : Nat => s.heap.size ≤ q) b := Nat.not_le.mpr hbl
  have hcl : cells + 1 ≤ room_1.cells := hcl
  have hsl : slots + 6 ≤ room_1.slots := hsl
  refine lv_aload_n hx hb dL_law_775 rfl (lv_at hl 1 rfl) ?_
  refine lv_aload_n hx hb dL_law_776 rfl (lv_at hl 0 rfl) ?_
  refine lv_iload hx hb dL_law_777 (lv_at hl 5 rfl) ?_
  refine lv_iconst (v := 1) hx hb dL_law_779 (by decide) ?_
  refine lv_iadd hx hb dL_law_780 ?_
  refine ml_eqi (nI (i + 1)) (nI_1 i) ?_
  refine va_sld hx hb hX hbl hbA hS (vp_in_nI (by omega) (by omega)) dL_law_781 ?_
  refine ml_eqi (xs (i + 1)) (by rw [nI_clamp (by omega)]) ?_
  refine lv_aload_n hx hb dL_law_782 rfl (lv_at hl 3 rfl) ?_
  have hPc := hP.sub (ws' := (wL a cy T tr o f)) [10, 11, 12, 13, 14, 15, 16, 17, 18, 19, 20, 21, 22] rfl
  have hDc := hD.sub (ws' := (wL a cy T tr o f)) [10, 11, 12, 13, 14, 15, 16, 17, 18, 19, 20, 21, 22] (by decide) rfl
  refine mo_SWi (G := G) (wr := ((od, .inl (cy 3, 1, .inr (.inr (.inr (.inl d))))) :: wM mm cy T rf sp)) (As := [.ref (a 0), .int (xs (i + 1)), .ref o]) (rest := []) ⟨hx, hb, hml, hown, hts⟩ (c_L_version l hlt G cy a H.size T tr ((xs (i + 1))) o f hI) (vx_cwSW 3 hts gL_law_L_version rfl rfl rfl (by decide +kernel) ⟨Nat.le_of_ble_eq_true rfl, Nat.le_of_ble_eq_true rfl⟩) hPc hDc hP hK hD hS hA [10, 11, 12, 13, 14, 15, 16, 17, 18, 19, 20, 21, 22] [0, 1, 2, 3, 4, 5, 6, 7, 8, 9] rfl rfl (by decide) (by decide) hN hE rfl hl.1 (Nat.le_of_ble_eq_true rfl) dL_law_783 ⟨hcl, hsl⟩ (fun k9 u9 H locs hw hP hD hS => ?_)
  obtain ⟨tr9, f9⟩ := u9
  obtain ⟨hw1, hw2⟩ := hw
  obtain rfl : k9 = (sp_version T ((xs (i + 1)))).1 := hw1
  have hw2 : (sp_version T ((xs (i + 1)))).1 = 0 → f9 0 = (sp_version T ((xs (i + 1)))).2.1.toInt64 := hw2
  have hP : va_P G vwCl (wW cy mm a T rf sp ((sp_version T ((xs (i + 1)))).2.2) tr9 o f9 od d) H := hP
  have hD : va_D (fun q : Nat => s.heap.size ≤ q) (wW cy mm a T rf sp ((sp_version T ((xs (i + 1)))).2.2) tr9 o f9 od d) := hD
  refine lv_istore (lv' := [(6, .int (sp_version T ((xs (i + 1)))).1), (0, .ref b), (1, .ref (a 0)), (2, .ref (mm 0)), (3, .ref o), (4, .ref od), (5, .int (nI i))]) hx hb dL_law_786 hl (by decide) rfl (fun ls hl => ?_)
  refine lv_aload_n hx hb dL_law_788 rfl (lv_at hl 3 rfl) ?_
  refine lv_aload_n hx hb dL_law_789 rfl (lv_at hl 1 rfl) ?_
  refine lv_iload hx hb dL_law_790 (lv_at hl 6 rfl) ?_
  refine lv_iconst (v := 1) hx hb dL_law_792 (by decide) ?_
  refine lv_iadd hx hb dL_law_793 ?_
  refine ml_eqi (nI (i + 1)) (nI_1 i) ?_
  refine va_sld hx hb hX hbl hbA hS (vp_in_nI (by omega) (by omega)) dL_law_794 ?_
  refine ml_eqi (xs (i + 1)) (by rw [nI_clamp (by omega)]) ?_
  have hPc := hP.sub (ws' := (wM mm cy T rf sp)) [1, 2, 3, 4, 5, 6, 7, 8, 9] rfl
  have hDc := hD.sub (ws' := (wM mm cy T rf sp)) [1, 2, 3, 4, 5, 6, 7, 8, 9] (by decide) rfl
  refine mo_Vi (G := G) (wr := ((od, .inl (cy 3, 1, .inr (.inr (.inr (.inl d))))) :: wL a cy ((sp_version T ((xs (i + 1)))).2.2) tr9 o f9)) (As := [.int (xs (i + 1))]) (rest := []) ⟨hx, hb, hml, hown, hts⟩ (c_X4_version l G cy mm H.size T rf sp ((xs (i + 1))) hI) (cwV 1 hts gL_law_X4_version rfl rfl rfl (by decide +kernel) ⟨Nat.le_of_ble_eq_true rfl, Nat.le_of_ble_eq_true rfl⟩) (va_recv hK hPc (ci := 4) (q0 := 0) rfl rfl) hPc hDc hP hK hD hS hA [1, 2, 3, 4, 5, 6, 7, 8, 9] [0, 10, 11, 12, 13, 14, 15, 16, 17, 18, 19, 20, 21, 22] rfl rfl (by decide) (by decide) hN rfl hl.1 (Nat.le_of_ble_eq_true rfl) dL_law_795 ⟨hcl, hsl⟩ (fun r_795 u_795 H locs hw hP hD hS => ?_)
  obtain rfl : (sp_version T ((xs (i + 1)))).2.1 = r_795 := hw
  have hP := hP.sub (ws' := (wW cy mm a ((sp_version T ((xs (i + 1)))).2.2) ((sp_version T ((xs (i + 1)))).1) u_795 ((sp_version T ((xs (i + 1)))).2.2) tr9 o f9 od d)) [0, 14, 15, 16, 17, 18, 19, 20, 21, 22, 1, 2, 3, 4, 5, 6, 7, 8, 9, 10, 11, 12, 13] rfl
  have hD := hD.sub (ws' := (wW cy mm a ((sp_version T ((xs (i + 1)))).2.2) ((sp_version T ((xs (i + 1)))).1) u_795 ((sp_version T ((xs (i + 1)))).2.2) tr9 o f9 od d)) [0, 14, 15, 16, 17, 18, 19, 20, 21, 22, 1, 2, 3, 4, 5, 6, 7, 8, 9, 10, 11, 12, 13] (by decide) rfl
  have hP : va_P G vwCl (wW cy mm a ((sp_version T ((xs (i + 1)))).2.2) ((sp_version T ((xs (i + 1)))).1) u_795 ((sp_version T ((xs (i + 1)))).2.2) tr9 o f9 od d) H := hP
  have hD : va_D (fun q : Nat => s.heap.size ≤ q) (wW cy mm a ((sp_version T ((xs (i + 1)))).2.2) ((sp_version T ((xs (i + 1)))).1) u_795 ((sp_version T ((xs (i + 1)))).2.2) tr9 o f9 od d) := hD
  refine lv_istore (lv' := [(7, .int (sp_version T ((xs (i + 1)))).2.1), (6, .int (sp_version T ((xs (i + 1)))).1), (0, .ref b), (1, .ref (a 0)), (2, .ref (mm 0)), (3, .ref o), (4, .ref od), (5, .int (nI i))]) hx hb dL_law_798 hl (by decide) rfl (fun ls hl => ?_)
  refine lv_aload_n hx hb dL_law_800 rfl (lv_at hl 4 rfl) ?_
  have hPc := hP.sub (ws' := (wM mm cy ((sp_version T ((xs (i + 1)))).2.2) ((sp_version T ((xs (i + 1)))).1) u_795)) [1, 2, 3, 4, 5, 6, 7, 8, 9] rfl
  have hDc := hD.sub (ws' := (wM mm cy ((sp_version T ((xs (i + 1)))).2.2) ((sp_version T ((xs (i + 1)))).1) u_795)) [1, 2, 3, 4, 5, 6, 7, 8, 9] (by decide) rfl
  refine mo_Vi (G := G) (wr := ((od, .inl (cy 3, 1, .inr (.inr (.inr (.inl d))))) :: wL a cy ((sp_version T ((xs (i + 1)))).2.2) tr9 o f9)) (As := []) (rest := []) ⟨hx, hb, hml, hown, hts⟩ (c_X4_thrown l G cy mm H.size ((sp_version T ((xs (i + 1)))).2.2) ((sp_version T ((xs (i + 1)))).1) u_795) (cwV 0 hts gL_law_X4_thrown rfl rfl rfl (by decide +kernel) ⟨Nat.le_of_ble_eq_true rfl, Nat.le_of_ble_eq_true rfl⟩) (va_recv hK hPc (ci := 4) (q0 := 0) rfl rfl) hPc hDc hP hK hD hS hA [1, 2, 3, 4, 5, 6, 7, 8, 9] [0, 10, 11, 12, 13, 14, 15, 16, 17, 18, 19, 20, 21, 22] rfl rfl (by decide) (by decide) hN rfl hl.1 (Nat.le_of_ble_eq_true rfl) dL_law_801 ⟨hcl, hsl⟩ (fun r_801 u_801 H locs hw hP hD hS => ?_)
  obtain rfl : r_801 = (sp_version T ((xs (i + 1)))).1 := hw
  have hP := hP.sub (ws' := (wW cy mm a ((sp_version T ((xs (i + 1)))).2.2) ((sp_version T ((xs (i + 1)))).1) u_795 ((sp_version T ((xs (i + 1)))).2.2) tr9 o f9 od d)) [0, 14, 15, 16, 17, 18, 19, 20, 21, 22, 1, 2, 3, 4, 5, 6, 7, 8, 9, 10, 11, 12, 13] rfl
  have hD := hD.sub (ws' := (wW cy mm a ((sp_version T ((xs (i + 1)))).2.2) ((sp_version T ((xs (i + 1)))).1) u_795 ((sp_version T ((xs (i + 1)))).2.2) tr9 o f9 od d)) [0, 14, 15, 16, 17, 18, 19, 20, 21, 22, 1, 2, 3, 4, 5, 6, 7, 8, 9, 10, 11, 12, 13] (by decide) rfl
  have hP : va_P G vwCl (wW cy mm a ((sp_version T ((xs (i + 1)))).2.2) ((sp_version T ((xs (i + 1)))).1) u_795 ((sp_version T ((xs (i + 1)))).2.2) tr9 o f9 od d) H := hP
  have hD : va_D (fun q : Nat => s.heap.size ≤ q) (wW cy mm a ((sp_version T ((xs (i + 1)))).2.2) ((sp_version T ((xs (i + 1)))).1) u_795 ((sp_version T ((xs (i + 1)))).2.2) tr9 o f9 od d) := hD
  refine lv_iload hx hb dL_law_804 (lv_at hl 1 rfl) ?_
  refine lv_icmp_eq (tgt := 811) hx hb dL_law_806 (by decide) (fun _ => ?_) (fun c_9 => absurd rfl c_9)
  refine lv_iload hx hb dL_law_811 (lv_at hl 1 rfl) ?_
  refine lv_if_ne (tgt := 828) hx hb dL_law_813 (by decide) (fun c_0 => ?_) (fun c_0 => ?_)
  · skip
    refine lv_goto (tgt := 1505) hx hb dL_law_828 (by decide) ?_
    exact kk ((sp_version T ((xs (i + 1)))).2.2) ((sp_version T ((xs (i + 1)))).1) u_795 tr9 f9 d H _ ls (inv_version hI ((xs (i + 1)))) hP hD hS (lv_sub hl [2, 3, 4, 5, 6, 7] rfl)
  · skip
    refine lv_aload_n hx hb dL_law_816 rfl (lv_at hl 5 rfl) ?_
    refine lv_iconst (v := 0) hx hb dL_law_817 (by decide) ?_
    refine ml_lald hx hb hK hP 10 1 rfl rfl 0 rfl (by decide) (by decide) ((sp_version T ((xs (i + 1)))).2.1.toInt64) (hw2 c_0) dL_law_818 ?_
    refine lv_iload hx hb dL_law_819 (lv_at hl 0 rfl) ?_
    refine lv_i2l (v := (sp_version T ((xs (i + 1)))).2.1.toInt64) hx hb dL_law_821 rfl ?_
    refine W.lcmp hx hb dL_law_822 ?_
    refine lv_if_eq (tgt := 828) hx hb dL_law_823 (by decide) (fun _ => ?_) (fun c_9 => absurd ((lg_cmp_eq _ _).mpr rfl) c_9)
    refine lv_goto (tgt := 1505) hx hb dL_law_828 (by decide) ?_
    exact kk ((sp_version T ((xs (i + 1)))).2.2) ((sp_version T ((xs (i + 1)))).1) u_795 tr9 f9 d H _ ls (inv_version hI ((xs (i + 1)))) hP hD hS (lv_sub hl [2, 3, 4, 5, 6, 7] rfl)
set_option maxHeartbeats 4000000 in
set_option maxRecDepth 100000 in
theorem k_rowsAt {p : Program} {l : Launch} {e : Env} {s : State} {m : MethodId} {below : List Frame} {meth : Method} {c : Code} {b L : Nat} {xs : Nat → Int32} {G : va_G} {cy : Nat → ClassId} {mm a : Nat → Nat} {o od i cells slots : Nat} (C0 : lw_C p l s m meth c b L xs G cy) (hi : i + 5 ≤ L) (hcl : cells + 1 ≤ 1077) (hsl : slots + 6 ≤ 8842) {T : TS} {rf : Int32} {sp : Nat → Int64} {tr : Nat → Int32} {f : Nat → Int64} {d : Nat → UInt64} {H : Heap} {locs : List Loc} {ls : Array Slot} (hI : Inv T) (hP : va_P G vwCl (wW cy mm a T rf sp T tr o f od d) H) (hD : va_D (fun q : Nat => s.heap.size ≤ q) (wW cy mm a T rf sp T tr o f od d)) (hS : va_S (fun q : Nat => s.heap.size ≤ q) s.heap H locs) (hl : lv_has ls 8 [(0, .ref b), (1, .ref (a 0)), (2, .ref (mm 0)), (3, .ref o), (4, .ref od), (5, .int (nI i))]) (kk : lw_K p l e s m below meth c b G cy mm a o od i cells slots) : W p l e room_1 s m #[Value.ref b] below meth c H locs cells slots (lw_Z below #[Value.ref b] s) (F0 m 831 ls []) := by
  obtain ⟨hL, C1, hlt, hK, hN, hE⟩ := C0
  obtain ⟨hx, hb, hr, hml, hown, hts0, hX, hbl, hlocks, hgv⟩ := C1
  have hb : c.code = cL_law := hb
  have hown : s.vm.findClass RL = some m.cls := hown
  have hts : ∀ w ∈ wsL_law, w.before #[Value.ref b] s = true := fun w h => hts0 w (wsL_law_in w h)
  have hA : ∀ q : Nat, s.heap.size ≤ q → (fun q : Nat => s.heap.size ≤ q) q := fun _ h => h
  have hbA : ¬ (fun q : Nat => s.heap.size ≤ q) b := Nat.not_le.mpr hbl
  have hcl : cells + 1 ≤ room_1.cells := hcl
  have hsl : slots + 6 ≤ room_1.slots := hsl
  refine lv_aload_n hx hb dL_law_831 rfl (lv_at hl 1 rfl) ?_
  refine lv_aload_n hx hb dL_law_832 rfl (lv_at hl 0 rfl) ?_
  refine lv_iload hx hb dL_law_833 (lv_at hl 5 rfl) ?_
  refine lv_iconst (v := 1) hx hb dL_law_835 (by decide) ?_
  refine lv_iadd hx hb dL_law_836 ?_
  refine ml_eqi (nI (i + 1)) (nI_1 i) ?_
  refine va_sld hx hb hX hbl hbA hS (vp_in_nI (by omega) (by omega)) dL_law_837 ?_
  refine ml_eqi (xs (i + 1)) (by rw [nI_clamp (by omega)]) ?_
  refine lv_aload_n hx hb dL_law_838 rfl (lv_at hl 3 rfl) ?_
  have hPc := hP.sub (ws' := (wL a cy T tr o f)) [10, 11, 12, 13, 14, 15, 16, 17, 18, 19, 20, 21, 22] rfl
  have hDc := hD.sub (ws' := (wL a cy T tr o f)) [10, 11, 12, 13, 14, 15, 16, 17, 18, 19, 20, 21, 22] (by decide) rfl
  refine mo_SWi (G := G) (wr := ((od, .inl (cy 3, 1, .inr (.inr (.inr (.inl d))))) :: wM mm cy T rf sp)) (As := [.ref (a 0), .int (xs (i + 1)), .ref o]) (rest := []) ⟨hx, hb, hml, hown, hts⟩ (c_L_rowsAt l hlt G cy a H.size T tr ((xs (i + 1))) o f hI) (vx_cwSW 3 hts gL_law_L_rowsAt rfl rfl rfl (by decide +kernel) ⟨Nat.le_of_ble_eq_true rfl, Nat.le_of_ble_eq_true rfl⟩) hPc hDc hP hK hD hS hA [10, 11, 12, 13, 14, 15, 16, 17, 18, 19, 20, 21, 22] [0, 1, 2, 3, 4, 5, 6, 7, 8, 9] rfl rfl (by decide) (by decide) hN hE rfl hl.1 (Nat.le_of_ble_eq_true rfl) dL_law_839 ⟨hcl, hsl⟩ (fun k9 u9 H locs hw hP hD hS => ?_)
  obtain ⟨tr9, f9⟩ := u9
  obtain ⟨hw1, hw2⟩ := hw
  obtain rfl : k9 = (sp_rowsAt T ((xs (i + 1)))).1 := hw1
  have hw2 : (sp_rowsAt T ((xs (i + 1)))).1 = 0 → f9 0 = (sp_rowsAt T ((xs (i + 1)))).2.1.toInt64 := hw2
  have hP : va_P G vwCl (wW cy mm a T rf sp ((sp_rowsAt T ((xs (i + 1)))).2.2) tr9 o f9 od d) H := hP
  have hD : va_D (fun q : Nat => s.heap.size ≤ q) (wW cy mm a T rf sp ((sp_rowsAt T ((xs (i + 1)))).2.2) tr9 o f9 od d) := hD
  refine lv_istore (lv' := [(6, .int (sp_rowsAt T ((xs (i + 1)))).1), (0, .ref b), (1, .ref (a 0)), (2, .ref (mm 0)), (3, .ref o), (4, .ref od), (5, .int (nI i))]) hx hb dL_law_842 hl (by decide) rfl (fun ls hl => ?_)
  refine lv_aload_n hx hb dL_law_844 rfl (lv_at hl 3 rfl) ?_
  refine lv_aload_n hx hb dL_law_845 rfl (lv_at hl 1 rfl) ?_
  refine lv_iload hx hb dL_law_846 (lv_at hl 6 rfl) ?_
  refine lv_iconst (v := 1) hx hb dL_law_848 (by decide) ?_
  refine lv_iadd hx hb dL_law_849 ?_
  refine ml_eqi (nI (i + 1)) (nI_1 i) ?_
  refine va_sld hx hb hX hbl hbA hS (vp_in_nI (by omega) (by omega)) dL_law_850 ?_
  refine ml_eqi (xs (i + 1)) (by rw [nI_clamp (by omega)]) ?_
  have hPc := hP.sub (ws' := (wM mm cy T rf sp)) [1, 2, 3, 4, 5, 6, 7, 8, 9] rfl
  have hDc := hD.sub (ws' := (wM mm cy T rf sp)) [1, 2, 3, 4, 5, 6, 7, 8, 9] (by decide) rfl
  refine mo_Vi (G := G) (wr := ((od, .inl (cy 3, 1, .inr (.inr (.inr (.inl d))))) :: wL a cy ((sp_rowsAt T ((xs (i + 1)))).2.2) tr9 o f9)) (As := [.int (xs (i + 1))]) (rest := []) ⟨hx, hb, hml, hown, hts⟩ (c_X4_rowsAt l G cy mm H.size T rf sp ((xs (i + 1))) hI) (cwV 1 hts gL_law_X4_rowsAt rfl rfl rfl (by decide +kernel) ⟨Nat.le_of_ble_eq_true rfl, Nat.le_of_ble_eq_true rfl⟩) (va_recv hK hPc (ci := 4) (q0 := 0) rfl rfl) hPc hDc hP hK hD hS hA [1, 2, 3, 4, 5, 6, 7, 8, 9] [0, 10, 11, 12, 13, 14, 15, 16, 17, 18, 19, 20, 21, 22] rfl rfl (by decide) (by decide) hN rfl hl.1 (Nat.le_of_ble_eq_true rfl) dL_law_851 ⟨hcl, hsl⟩ (fun r_851 u_851 H locs hw hP hD hS => ?_)
  obtain rfl : (sp_rowsAt T ((xs (i + 1)))).2.1 = r_851 := hw
  have hP := hP.sub (ws' := (wW cy mm a ((sp_rowsAt T ((xs (i + 1)))).2.2) ((sp_rowsAt T ((xs (i + 1)))).1) u_851 ((sp_rowsAt T ((xs (i + 1)))).2.2) tr9 o f9 od d)) [0, 14, 15, 16, 17, 18, 19, 20, 21, 22, 1, 2, 3, 4, 5, 6, 7, 8, 9, 10, 11, 12, 13] rfl
  have hD := hD.sub (ws' := (wW cy mm a ((sp_rowsAt T ((xs (i + 1)))).2.2) ((sp_rowsAt T ((xs (i + 1)))).1) u_851 ((sp_rowsAt T ((xs (i + 1)))).2.2) tr9 o f9 od d)) [0, 14, 15, 16, 17, 18, 19, 20, 21, 22, 1, 2, 3, 4, 5, 6, 7, 8, 9, 10, 11, 12, 13] (by decide) rfl
  have hP : va_P G vwCl (wW cy mm a ((sp_rowsAt T ((xs (i + 1)))).2.2) ((sp_rowsAt T ((xs (i + 1)))).1) u_851 ((sp_rowsAt T ((xs (i + 1)))).2.2) tr9 o f9 od d) H := hP
  have hD : va_D (fun q : Nat => s.heap.size ≤ q) (wW cy mm a ((sp_rowsAt T ((xs (i + 1)))).2.2) ((sp_rowsAt T ((xs (i + 1)))).1) u_851 ((sp_rowsAt T ((xs (i + 1)))).2.2) tr9 o f9 od d) := hD
  refine lv_istore (lv' := [(7, .int (sp_rowsAt T ((xs (i + 1)))).2.1), (6, .int (sp_rowsAt T ((xs (i + 1)))).1), (0, .ref b), (1, .ref (a 0)), (2, .ref (mm 0)), (3, .ref o), (4, .ref od), (5, .int (nI i))]) hx hb dL_law_854 hl (by decide) rfl (fun ls hl => ?_)
  refine lv_aload_n hx hb dL_law_856 rfl (lv_at hl 4 rfl) ?_
  have hPc := hP.sub (ws' := (wM mm cy ((sp_rowsAt T ((xs (i + 1)))).2.2) ((sp_rowsAt T ((xs (i + 1)))).1) u_851)) [1, 2, 3, 4, 5, 6, 7, 8, 9] rfl
  have hDc := hD.sub (ws' := (wM mm cy ((sp_rowsAt T ((xs (i + 1)))).2.2) ((sp_rowsAt T ((xs (i + 1)))).1) u_851)) [1, 2, 3, 4, 5, 6, 7, 8, 9] (by decide) rfl
  refine mo_Vi (G := G) (wr := ((od, .inl (cy 3, 1, .inr (.inr (.inr (.inl d))))) :: wL a cy ((sp_rowsAt T ((xs (i + 1)))).2.2) tr9 o f9)) (As := []) (rest := []) ⟨hx, hb, hml, hown, hts⟩ (c_X4_thrown l G cy mm H.size ((sp_rowsAt T ((xs (i + 1)))).2.2) ((sp_rowsAt T ((xs (i + 1)))).1) u_851) (cwV 0 hts gL_law_X4_thrown rfl rfl rfl (by decide +kernel) ⟨Nat.le_of_ble_eq_true rfl, Nat.le_of_ble_eq_true rfl⟩) (va_recv hK hPc (ci := 4) (q0 := 0) rfl rfl) hPc hDc hP hK hD hS hA [1, 2, 3, 4, 5, 6, 7, 8, 9] [0, 10, 11, 12, 13, 14, 15, 16, 17, 18, 19, 20, 21, 22] rfl rfl (by decide) (by decide) hN rfl hl.1 (Nat.le_of_ble_eq_true rfl) dL_law_857 ⟨hcl, hsl⟩ (fun r_857 u_857 H locs hw hP hD hS => ?_)
  obtain rfl : r_857 = (sp_rowsAt T ((xs (i + 1)))).1 := hw
  have hP := hP.sub (ws' := (wW cy mm a ((sp_rowsAt T ((xs (i + 1)))).2.2) ((sp_rowsAt T ((xs (i + 1)))).1) u_851 ((sp_rowsAt T ((xs (i + 1)))).2.2) tr9 o f9 od d)) [0, 14, 15, 16, 17, 18, 19, 20, 21, 22, 1, 2, 3, 4, 5, 6, 7, 8, 9, 10, 11, 12, 13] rfl
  have hD := hD.sub (ws' := (wW cy mm a ((sp_rowsAt T ((xs (i + 1)))).2.2) ((sp_rowsAt T ((xs (i + 1)))).1) u_851 ((sp_rowsAt T ((xs (i + 1)))).2.2) tr9 o f9 od d)) [0, 14, 15, 16, 17, 18, 19, 20, 21, 22, 1, 2, 3, 4, 5, 6, 7, 8, 9, 10, 11, 12, 13] (by decide) rfl
  have hP : va_P G vwCl (wW cy mm a ((sp_rowsAt T ((xs (i + 1)))).2.2) ((sp_rowsAt T ((xs (i + 1)))).1) u_851 ((sp_rowsAt T ((xs (i + 1)))).2.2) tr9 o f9 od d) H := hP
  have hD : va_D (fun q : Nat => s.heap.size ≤ q) (wW cy mm a ((sp_rowsAt T ((xs (i + 1)))).2.2) ((sp_rowsAt T ((xs (i + 1)))).1) u_851 ((sp_rowsAt T ((xs (i + 1)))).2.2) tr9 o f9 od d) := hD
  refine lv_iload hx hb dL_law_860 (lv_at hl 1 rfl) ?_
  refine lv_icmp_eq (tgt := 867) hx hb dL_law_862 (by decide) (fun _ => ?_) (fun c_9 => absurd rfl c_9)
  refine lv_iload hx hb dL_law_867 (lv_at hl 1 rfl) ?_
  refine lv_if_ne (tgt := 884) hx hb dL_law_869 (by decide) (fun c_0 => ?_) (fun c_0 => ?_)
  · skip
    refine lv_goto (tgt := 1505) hx hb dL_law_884 (by decide) ?_
    exact kk ((sp_rowsAt T ((xs (i + 1)))).2.2) ((sp_rowsAt T ((xs (i + 1)))).1) u_851 tr9 f9 d H _ ls (inv_rowsAt hI ((xs (i + 1)))) hP hD hS (lv_sub hl [2, 3, 4, 5, 6, 7] rfl)
  · skip
    refine lv_aload_n hx hb dL_law_872 rfl (lv_at hl 5 rfl) ?_
    refine lv_iconst (v := 0) hx hb dL_law_873 (by decide) ?_
    refine ml_lald hx hb hK hP 10 1 rfl rfl 0 rfl (by decide) (by decide) ((sp_rowsAt T ((xs (i + 1)))).2.1.toInt64) (hw2 c_0) dL_law_874 ?_
    refine lv_iload hx hb dL_law_875 (lv_at hl 0 rfl) ?_
    refine lv_i2l (v := (sp_rowsAt T ((xs (i + 1)))).2.1.toInt64) hx hb dL_law_877 rfl ?_
    refine W.lcmp hx hb dL_law_878 ?_
    refine lv_if_eq (tgt := 884) hx hb dL_law_879 (by decide) (fun _ => ?_) (fun c_9 => absurd ((lg_cmp_eq _ _).mpr rfl) c_9)
    refine lv_goto (tgt := 1505) hx hb dL_law_884 (by decide) ?_
    exact kk ((sp_rowsAt T ((xs (i + 1)))).2.2) ((sp_rowsAt T ((xs (i + 1)))).1) u_851 tr9 f9 d H _ ls (inv_rowsAt hI ((xs (i + 1)))) hP hD hS (lv_sub hl [2, 3, 4, 5, 6, 7] rfl)
set_option maxHeartbeats 4000000 in
set_option maxRecDepth 100000 in
theorem k_valueAt {p : Program} {l : Launch} {e : Env} {s : State} {m : MethodId} {below : List Frame} {meth : Method} {c : Code} {b L : Nat} {xs : Nat → Int32} {G : va_G} {cy : Nat → ClassId} {mm a : Nat → Nat} {o od i cells slots : Nat} (C0 : lw_C p l s m meth c b L xs G cy) (hi : i + 5 ≤ L) (hcl : cells + 1 ≤ 1077) (hsl : slots + 6 ≤ 8842) {T : TS} {rf : Int32} {sp : Nat → Int64} {tr : Nat → Int32} {f : Nat → Int64} {d : Nat → UInt64} {H : Heap} {locs : List Loc} {ls : Array Slot} (hI : Inv T) (hP : va_P G vwCl (wW cy mm a T rf sp T tr o f od d) H) (hD : va_D (fun q : Nat => s.heap.size ≤ q) (wW cy mm a T rf sp T tr o f od d)) (hS : va_S (fun q : Nat => s.heap.size ≤ q) s.heap H locs) (hl : lv_has ls 8 [(0, .ref b), (1, .ref (a 0)), (2, .ref (mm 0)), (3, .ref o), (4, .ref od), (5, .int (nI i))]) (kk : lw_K p l e s m below meth c b G cy mm a o od i cells slots) : W p l e room_1 s m #[Value.ref b] below meth c H locs cells slots (lw_Z below #[Value.ref b] s) (F0 m 887 ls []) := by
  obtain ⟨hL, C1, hlt, hK, hN, hE⟩ := C0
  obtain ⟨hx, hb, hr, hml, hown, hts0, hX, hbl, hlocks, hgv⟩ := C1
  have hb : c.code = cL_law := hb
  have hown : s.vm.findClass RL = some m.cls := hown
  have hts : ∀ w ∈ wsL_law, w.before #[Value.ref b] s = true := fun w h => hts0 w (wsL_law_in w h)
  have hA : ∀ q : Nat, s.heap.size ≤ q → (fun q : Nat => s.heap.size ≤ q) q := fun _ h => h
  have hbA : ¬ (fun q : Nat => s.heap.size ≤ q) b := Nat.not_le.mpr hbl
  have hcl : cells + 1 ≤ room_1.cells := hcl
  have hsl : slots + 6 ≤ room_1.slots := hsl
  refine lv_aload_n hx hb dL_law_887 rfl (lv_at hl 1 rfl) ?_
  refine lv_aload_n hx hb dL_law_888 rfl (lv_at hl 0 rfl) ?_
  refine lv_iload hx hb dL_law_889 (lv_at hl 5 rfl) ?_
  refine lv_iconst (v := 1) hx hb dL_law_891 (by decide) ?_
  refine lv_iadd hx hb dL_law_892 ?_
  refine ml_eqi (nI (i + 1)) (nI_1 i) ?_
  refine va_sld hx hb hX hbl hbA hS (vp_in_nI (by omega) (by omega)) dL_law_893 ?_
  refine ml_eqi (xs (i + 1)) (by rw [nI_clamp (by omega)]) ?_
  refine lv_aload_n hx hb dL_law_894 rfl (lv_at hl 0 rfl) ?_
  refine lv_iload hx hb dL_law_895 (lv_at hl 5 rfl) ?_
  refine lv_iconst (v := 2) hx hb dL_law_897 (by decide) ?_
  refine lv_iadd hx hb dL_law_898 ?_
  refine ml_eqi (nI (i + 2)) (nI_add i 2) ?_
  refine va_sld hx hb hX hbl hbA hS (vp_in_nI (by omega) (by omega)) dL_law_899 ?_
  refine ml_eqi (xs (i + 2)) (by rw [nI_clamp (by omega)]) ?_
  refine lv_aload_n hx hb dL_law_900 rfl (lv_at hl 0 rfl) ?_
  refine lv_iload hx hb dL_law_901 (lv_at hl 5 rfl) ?_
  refine lv_iconst (v := 3) hx hb dL_law_903 (by decide) ?_
  refine lv_iadd hx hb dL_law_904 ?_
  refine ml_eqi (nI (i + 3)) (nI_add i 3) ?_
  refine va_sld hx hb hX hbl hbA hS (vp_in_nI (by omega) (by omega)) dL_law_905 ?_
  refine ml_eqi (xs (i + 3)) (by rw [nI_clamp (by omega)]) ?_
  refine lv_aload_n hx hb dL_law_906 rfl (lv_at hl 3 rfl) ?_
  have hPc := hP.sub (ws' := (wL a cy T tr o f)) [10, 11, 12, 13, 14, 15, 16, 17, 18, 19, 20, 21, 22] rfl
  have hDc := hD.sub (ws' := (wL a cy T tr o f)) [10, 11, 12, 13, 14, 15, 16, 17, 18, 19, 20, 21, 22] (by decide) rfl
  refine mo_SWi (G := G) (wr := ((od, .inl (cy 3, 1, .inr (.inr (.inr (.inl d))))) :: wM mm cy T rf sp)) (As := [.ref (a 0), .int (xs (i + 1)), .int (xs (i + 2)), .int (xs (i + 3)), .ref o]) (rest := []) ⟨hx, hb, hml, hown, hts⟩ (c_L_valueAt l hlt G cy a H.size T tr ((xs (i + 1))) ((xs (i + 2))) ((xs (i + 3))) o f hI) (vx_cwSW 5 hts gL_law_L_valueAt rfl rfl rfl (by decide +kernel) ⟨Nat.le_of_ble_eq_true rfl, Nat.le_of_ble_eq_true rfl⟩) hPc hDc hP hK hD hS hA [10, 11, 12, 13, 14, 15, 16, 17, 18, 19, 20, 21, 22] [0, 1, 2, 3, 4, 5, 6, 7, 8, 9] rfl rfl (by decide) (by decide) hN hE rfl hl.1 (Nat.le_of_ble_eq_true rfl) dL_law_907 ⟨hcl, hsl⟩ (fun k9 u9 H locs hw hP hD hS => ?_)
  obtain ⟨tr9, f9⟩ := u9
  obtain ⟨hw1, hw2⟩ := hw
  obtain rfl : k9 = (sp_valueAt T ((xs (i + 1))) ((xs (i + 2))) ((xs (i + 3)))).1 := hw1
  have hw2 : (sp_valueAt T ((xs (i + 1))) ((xs (i + 2))) ((xs (i + 3)))).1 = 0 → f9 0 = (sp_valueAt T ((xs (i + 1))) ((xs (i + 2))) ((xs (i + 3)))).2.1.toInt64 := hw2
  have hP : va_P G vwCl (wW cy mm a T rf sp ((sp_valueAt T ((xs (i + 1))) ((xs (i + 2))) ((xs (i + 3)))).2.2) tr9 o f9 od d) H := hP
  have hD : va_D (fun q : Nat => s.heap.size ≤ q) (wW cy mm a T rf sp ((sp_valueAt T ((xs (i + 1))) ((xs (i + 2))) ((xs (i + 3)))).2.2) tr9 o f9 od d) := hD
  refine lv_istore (lv' := [(6, .int (sp_valueAt T ((xs (i + 1))) ((xs (i + 2))) ((xs (i + 3)))).1), (0, .ref b), (1, .ref (a 0)), (2, .ref (mm 0)), (3, .ref o), (4, .ref od), (5, .int (nI i))]) hx hb dL_law_910 hl (by decide) rfl (fun ls hl => ?_)
  refine lv_aload_n hx hb dL_law_912 rfl (lv_at hl 3 rfl) ?_
  refine lv_aload_n hx hb dL_law_913 rfl (lv_at hl 1 rfl) ?_
  refine lv_iload hx hb dL_law_914 (lv_at hl 6 rfl) ?_
  refine lv_iconst (v := 1) hx hb dL_law_916 (by decide) ?_
  refine lv_iadd hx hb dL_law_917 ?_
  refine ml_eqi (nI (i + 1)) (nI_1 i) ?_
  refine va_sld hx hb hX hbl hbA hS (vp_in_nI (by omega) (by omega)) dL_law_918 ?_
  refine ml_eqi (xs (i + 1)) (by rw [nI_clamp (by omega)]) ?_
  refine lv_aload_n hx hb dL_law_919 rfl (lv_at hl 1 rfl) ?_
  refine lv_iload hx hb dL_law_920 (lv_at hl 6 rfl) ?_
  refine lv_iconst (v := 2) hx hb dL_law_922 (by decide) ?_
  refine lv_iadd hx hb dL_law_923 ?_
  refine ml_eqi (nI (i + 2)) (nI_add i 2) ?_
  refine va_sld hx hb hX hbl hbA hS (vp_in_nI (by omega) (by omega)) dL_law_924 ?_
  refine ml_eqi (xs (i + 2)) (by rw [nI_clamp (by omega)]) ?_
  refine lv_aload_n hx hb dL_law_925 rfl (lv_at hl 1 rfl) ?_
  refine lv_iload hx hb dL_law_926 (lv_at hl 6 rfl) ?_
  refine lv_iconst (v := 3) hx hb dL_law_928 (by decide) ?_
  refine lv_iadd hx hb dL_law_929 ?_
  refine ml_eqi (nI (i + 3)) (nI_add i 3) ?_
  refine va_sld hx hb hX hbl hbA hS (vp_in_nI (by omega) (by omega)) dL_law_930 ?_
  refine ml_eqi (xs (i + 3)) (by rw [nI_clamp (by omega)]) ?_
  have hPc := hP.sub (ws' := (wM mm cy T rf sp)) [1, 2, 3, 4, 5, 6, 7, 8, 9] rfl
  have hDc := hD.sub (ws' := (wM mm cy T rf sp)) [1, 2, 3, 4, 5, 6, 7, 8, 9] (by decide) rfl
  refine mo_Vi (G := G) (wr := ((od, .inl (cy 3, 1, .inr (.inr (.inr (.inl d))))) :: wL a cy ((sp_valueAt T ((xs (i + 1))) ((xs (i + 2))) ((xs (i + 3)))).2.2) tr9 o f9)) (As := [.int (xs (i + 1)), .int (xs (i + 2)), .int (xs (i + 3))]) (rest := []) ⟨hx, hb, hml, hown, hts⟩ (c_X4_valueAt l G cy mm H.size T rf sp ((xs (i + 1))) ((xs (i + 2))) ((xs (i + 3))) hI) (cwV 3 hts gL_law_X4_valueAt rfl rfl rfl (by decide +kernel) ⟨Nat.le_of_ble_eq_true rfl, Nat.le_of_ble_eq_true rfl⟩) (va_recv hK hPc (ci := 4) (q0 := 0) rfl rfl) hPc hDc hP hK hD hS hA [1, 2, 3, 4, 5, 6, 7, 8, 9] [0, 10, 11, 12, 13, 14, 15, 16, 17, 18, 19, 20, 21, 22] rfl rfl (by decide) (by decide) hN rfl hl.1 (Nat.le_of_ble_eq_true rfl) dL_law_931 ⟨hcl, hsl⟩ (fun r_931 u_931 H locs hw hP hD hS => ?_)
  obtain rfl : (sp_valueAt T ((xs (i + 1))) ((xs (i + 2))) ((xs (i + 3)))).2.1 = r_931 := hw
  have hP := hP.sub (ws' := (wW cy mm a ((sp_valueAt T ((xs (i + 1))) ((xs (i + 2))) ((xs (i + 3)))).2.2) ((sp_valueAt T ((xs (i + 1))) ((xs (i + 2))) ((xs (i + 3)))).1) u_931 ((sp_valueAt T ((xs (i + 1))) ((xs (i + 2))) ((xs (i + 3)))).2.2) tr9 o f9 od d)) [0, 14, 15, 16, 17, 18, 19, 20, 21, 22, 1, 2, 3, 4, 5, 6, 7, 8, 9, 10, 11, 12, 13] rfl
  have hD := hD.sub (ws' := (wW cy mm a ((sp_valueAt T ((xs (i + 1))) ((xs (i + 2))) ((xs (i + 3)))).2.2) ((sp_valueAt T ((xs (i + 1))) ((xs (i + 2))) ((xs (i + 3)))).1) u_931 ((sp_valueAt T ((xs (i + 1))) ((xs (i + 2))) ((xs (i + 3)))).2.2) tr9 o f9 od d)) [0, 14, 15, 16, 17, 18, 19, 20, 21, 22, 1, 2, 3, 4, 5, 6, 7, 8, 9, 10, 11, 12, 13] (by decide) rfl
  have hP : va_P G vwCl (wW cy mm a ((sp_valueAt T ((xs (i + 1))) ((xs (i + 2))) ((xs (i + 3)))).2.2) ((sp_valueAt T ((xs (i + 1))) ((xs (i + 2))) ((xs (i + 3)))).1) u_931 ((sp_valueAt T ((xs (i + 1))) ((xs (i + 2))) ((xs (i + 3)))).2.2) tr9 o f9 od d) H := hP
  have hD : va_D (fun q : Nat => s.heap.size ≤ q) (wW cy mm a ((sp_valueAt T ((xs (i + 1))) ((xs (i + 2))) ((xs (i + 3)))).2.2) ((sp_valueAt T ((xs (i + 1))) ((xs (i + 2))) ((xs (i + 3)))).1) u_931 ((sp_valueAt T ((xs (i + 1))) ((xs (i + 2))) ((xs (i + 3)))).2.2) tr9 o f9 od d) := hD
  refine lv_istore (lv' := [(7, .int (sp_valueAt T ((xs (i + 1))) ((xs (i + 2))) ((xs (i + 3)))).2.1), (6, .int (sp_valueAt T ((xs (i + 1))) ((xs (i + 2))) ((xs (i + 3)))).1), (0, .ref b), (1, .ref (a 0)), (2, .ref (mm 0)), (3, .ref o), (4, .ref od), (5, .int (nI i))]) hx hb dL_law_934 hl (by decide) rfl (fun ls hl => ?_)
  refine lv_aload_n hx hb dL_law_936 rfl (lv_at hl 4 rfl) ?_
  have hPc := hP.sub (ws' := (wM mm cy ((sp_valueAt T ((xs (i + 1))) ((xs (i + 2))) ((xs (i + 3)))).2.2) ((sp_valueAt T ((xs (i + 1))) ((xs (i + 2))) ((xs (i + 3)))).1) u_931)) [1, 2, 3, 4, 5, 6, 7, 8, 9] rfl
  have hDc := hD.sub (ws' := (wM mm cy ((sp_valueAt T ((xs (i + 1))) ((xs (i + 2))) ((xs (i + 3)))).2.2) ((sp_valueAt T ((xs (i + 1))) ((xs (i + 2))) ((xs (i + 3)))).1) u_931)) [1, 2, 3, 4, 5, 6, 7, 8, 9] (by decide) rfl
  refine mo_Vi (G := G) (wr := ((od, .inl (cy 3, 1, .inr (.inr (.inr (.inl d))))) :: wL a cy ((sp_valueAt T ((xs (i + 1))) ((xs (i + 2))) ((xs (i + 3)))).2.2) tr9 o f9)) (As := []) (rest := []) ⟨hx, hb, hml, hown, hts⟩ (c_X4_thrown l G cy mm H.size ((sp_valueAt T ((xs (i + 1))) ((xs (i + 2))) ((xs (i + 3)))).2.2) ((sp_valueAt T ((xs (i + 1))) ((xs (i + 2))) ((xs (i + 3)))).1) u_931) (cwV 0 hts gL_law_X4_thrown rfl rfl rfl (by decide +kernel) ⟨Nat.le_of_ble_eq_true rfl, Nat.le_of_ble_eq_true rfl⟩) (va_recv hK hPc (ci := 4) (q0 := 0) rfl rfl) hPc hDc hP hK hD hS hA [1, 2, 3, 4, 5, 6, 7, 8, 9] [0, 10, 11, 12, 13, 14, 15, 16, 17, 18, 19, 20, 21, 22] rfl rfl (by decide) (by decide) hN rfl hl.1 (Nat.le_of_ble_eq_true rfl) dL_law_937 ⟨hcl, hsl⟩ (fun r_937 u_937 H locs hw hP hD hS => ?_)
  obtain rfl : r_937 = (sp_valueAt T ((xs (i + 1))) ((xs (i + 2))) ((xs (i + 3)))).1 := hw
  have hP := hP.sub (ws' := (wW cy mm a ((sp_valueAt T ((xs (i + 1))) ((xs (i + 2))) ((xs (i + 3)))).2.2) ((sp_valueAt T ((xs (i + 1))) ((xs (i + 2))) ((xs (i + 3)))).1) u_931 ((sp_valueAt T ((xs (i + 1))) ((xs (i + 2))) ((xs (i + 3)))).2.2) tr9 o f9 od d)) [0, 14, 15, 16, 17, 18, 19, 20, 21, 22, 1, 2, 3, 4, 5, 6, 7, 8, 9, 10, 11, 12, 13] rfl
  have hD := hD.sub (ws' := (wW cy mm a ((sp_valueAt T ((xs (i + 1))) ((xs (i + 2))) ((xs (i + 3)))).2.2) ((sp_valueAt T ((xs (i + 1))) ((xs (i + 2))) ((xs (i + 3)))).1) u_931 ((sp_valueAt T ((xs (i + 1))) ((xs (i + 2))) ((xs (i + 3)))).2.2) tr9 o f9 od d)) [0, 14, 15, 16, 17, 18, 19, 20, 21, 22, 1, 2, 3, 4, 5, 6, 7, 8, 9, 10, 11, 12, 13] (by decide) rfl
  have hP : va_P G vwCl (wW cy mm a ((sp_valueAt T ((xs (i + 1))) ((xs (i + 2))) ((xs (i + 3)))).2.2) ((sp_valueAt T ((xs (i + 1))) ((xs (i + 2))) ((xs (i + 3)))).1) u_931 ((sp_valueAt T ((xs (i + 1))) ((xs (i + 2))) ((xs (i + 3)))).2.2) tr9 o f9 od d) H := hP
  have hD : va_D (fun q : Nat => s.heap.size ≤ q) (wW cy mm a ((sp_valueAt T ((xs (i + 1))) ((xs (i + 2))) ((xs (i + 3)))).2.2) ((sp_valueAt T ((xs (i + 1))) ((xs (i + 2))) ((xs (i + 3)))).1) u_931 ((sp_valueAt T ((xs (i + 1))) ((xs (i + 2))) ((xs (i + 3)))).2.2) tr9 o f9 od d) := hD
  refine lv_iload hx hb dL_law_940 (lv_at hl 1 rfl) ?_
  refine lv_icmp_eq (tgt := 947) hx hb dL_law_942 (by decide) (fun _ => ?_) (fun c_9 => absurd rfl c_9)
  refine lv_iload hx hb dL_law_947 (lv_at hl 1 rfl) ?_
  refine lv_if_ne (tgt := 964) hx hb dL_law_949 (by decide) (fun c_0 => ?_) (fun c_0 => ?_)
  · skip
    refine lv_goto (tgt := 1505) hx hb dL_law_964 (by decide) ?_
    exact kk ((sp_valueAt T ((xs (i + 1))) ((xs (i + 2))) ((xs (i + 3)))).2.2) ((sp_valueAt T ((xs (i + 1))) ((xs (i + 2))) ((xs (i + 3)))).1) u_931 tr9 f9 d H _ ls (inv_valueAt hI ((xs (i + 1))) ((xs (i + 2))) ((xs (i + 3)))) hP hD hS (lv_sub hl [2, 3, 4, 5, 6, 7] rfl)
  · skip
    refine lv_aload_n hx hb dL_law_952 rfl (lv_at hl 5 rfl) ?_
    refine lv_iconst (v := 0) hx hb dL_law_953 (by decide) ?_
    refine ml_lald hx hb hK hP 10 1 rfl rfl 0 rfl (by decide) (by decide) ((sp_valueAt T ((xs (i + 1))) ((xs (i + 2))) ((xs (i + 3)))).2.1.toInt64) (hw2 c_0) dL_law_954 ?_
    refine lv_iload hx hb dL_law_955 (lv_at hl 0 rfl) ?_
    refine lv_i2l (v := (sp_valueAt T ((xs (i + 1))) ((xs (i + 2))) ((xs (i + 3)))).2.1.toInt64) hx hb dL_law_957 rfl ?_
    refine W.lcmp hx hb dL_law_958 ?_
    refine lv_if_eq (tgt := 964) hx hb dL_law_959 (by decide) (fun _ => ?_) (fun c_9 => absurd ((lg_cmp_eq _ _).mpr rfl) c_9)
    refine lv_goto (tgt := 1505) hx hb dL_law_964 (by decide) ?_
    exact kk ((sp_valueAt T ((xs (i + 1))) ((xs (i + 2))) ((xs (i + 3)))).2.2) ((sp_valueAt T ((xs (i + 1))) ((xs (i + 2))) ((xs (i + 3)))).1) u_931 tr9 f9 d H _ ls (inv_valueAt hI ((xs (i + 1))) ((xs (i + 2))) ((xs (i + 3)))) hP hD hS (lv_sub hl [2, 3, 4, 5, 6, 7] rfl)
set_option maxHeartbeats 4000000 in
set_option maxRecDepth 100000 in
theorem k_take {p : Program} {l : Launch} {e : Env} {s : State} {m : MethodId} {below : List Frame} {meth : Method} {c : Code} {b L : Nat} {xs : Nat → Int32} {G : va_G} {cy : Nat → ClassId} {mm a : Nat → Nat} {o od i cells slots : Nat} (C0 : lw_C p l s m meth c b L xs G cy) (hi : i + 5 ≤ L) (hcl : cells + 1 ≤ 1077) (hsl : slots + 6 ≤ 8842) {T : TS} {rf : Int32} {sp : Nat → Int64} {tr : Nat → Int32} {f : Nat → Int64} {d : Nat → UInt64} {H : Heap} {locs : List Loc} {ls : Array Slot} (hI : Inv T) (hP : va_P G vwCl (wW cy mm a T rf sp T tr o f od d) H) (hD : va_D (fun q : Nat => s.heap.size ≤ q) (wW cy mm a T rf sp T tr o f od d)) (hS : va_S (fun q : Nat => s.heap.size ≤ q) s.heap H locs) (hl : lv_has ls 8 [(0, .ref b), (1, .ref (a 0)), (2, .ref (mm 0)), (3, .ref o), (4, .ref od), (5, .int (nI i))]) (kk : lw_K p l e s m below meth c b G cy mm a o od i cells slots) : W p l e room_1 s m #[Value.ref b] below meth c H locs cells slots (lw_Z below #[Value.ref b] s) (F0 m 967 ls []) := by
  obtain ⟨hL, C1, hlt, hK, hN, hE⟩ := C0
  obtain ⟨hx, hb, hr, hml, hown, hts0, hX, hbl, hlocks, hgv⟩ := C1
  have hb : c.code = cL_law := hb
  have hown : s.vm.findClass RL = some m.cls := hown
  have hts : ∀ w ∈ wsL_law, w.before #[Value.ref b] s = true := fun w h => hts0 w (wsL_law_in w h)
  have hA : ∀ q : Nat, s.heap.size ≤ q → (fun q : Nat => s.heap.size ≤ q) q := fun _ h => h
  have hbA : ¬ (fun q : Nat => s.heap.size ≤ q) b := Nat.not_le.mpr hbl
  have hcl : cells + 1 ≤ room_1.cells := hcl
  have hsl : slots + 6 ≤ room_1.slots := hsl
  refine lv_aload_n hx hb dL_law_967 rfl (lv_at hl 1 rfl) ?_
  refine lv_aload_n hx hb dL_law_968 rfl (lv_at hl 0 rfl) ?_
  refine lv_iload hx hb dL_law_969 (lv_at hl 5 rfl) ?_
  refine lv_iconst (v := 1) hx hb dL_law_971 (by decide) ?_
  refine lv_iadd hx hb dL_law_972 ?_
  refine ml_eqi (nI (i + 1)) (nI_1 i) ?_
  refine va_sld hx hb hX hbl hbA hS (vp_in_nI (by omega) (by omega)) dL_law_973 ?_
  refine ml_eqi (xs (i + 1)) (by rw [nI_clamp (by omega)]) ?_
  refine lv_aload_n hx hb dL_law_974 rfl (lv_at hl 0 rfl) ?_
  refine lv_iload hx hb dL_law_975 (lv_at hl 5 rfl) ?_
  refine lv_iconst (v := 2) hx hb dL_law_977 (by decide) ?_
  refine lv_iadd hx hb dL_law_978 ?_
  refine ml_eqi (nI (i + 2)) (nI_add i 2) ?_
  refine va_sld hx hb hX hbl hbA hS (vp_in_nI (by omega) (by omega)) dL_law_979 ?_
  refine ml_eqi (xs (i + 2)) (by rw [nI_clamp (by omega)]) ?_
  refine lv_aload_n hx hb dL_law_980 rfl (lv_at hl 3 rfl) ?_
  have hPc := hP.sub (ws' := (wL a cy T tr o f)) [10, 11, 12, 13, 14, 15, 16, 17, 18, 19, 20, 21, 22] rfl
  have hDc := hD.sub (ws' := (wL a cy T tr o f)) [10, 11, 12, 13, 14, 15, 16, 17, 18, 19, 20, 21, 22] (by decide) rfl
  refine mo_SWi (G := G) (wr := ((od, .inl (cy 3, 1, .inr (.inr (.inr (.inl d))))) :: wM mm cy T rf sp)) (As := [.ref (a 0), .int (xs (i + 1)), .int (xs (i + 2)), .ref o]) (rest := []) ⟨hx, hb, hml, hown, hts⟩ (c_L_take l hlt G cy a H.size T tr ((xs (i + 1))) ((xs (i + 2))) o f hI) (vx_cwSW 4 hts gL_law_L_take rfl rfl rfl (by decide +kernel) ⟨Nat.le_of_ble_eq_true rfl, Nat.le_of_ble_eq_true rfl⟩) hPc hDc hP hK hD hS hA [10, 11, 12, 13, 14, 15, 16, 17, 18, 19, 20, 21, 22] [0, 1, 2, 3, 4, 5, 6, 7, 8, 9] rfl rfl (by decide) (by decide) hN hE rfl hl.1 (Nat.le_of_ble_eq_true rfl) dL_law_981 ⟨hcl, hsl⟩ (fun k9 u9 H locs hw hP hD hS => ?_)
  obtain ⟨tr9, f9⟩ := u9
  obtain ⟨hw1, hw2⟩ := hw
  obtain rfl : k9 = (sp_take T ((xs (i + 1))) ((xs (i + 2)))).1 := hw1
  have hw2 : (sp_take T ((xs (i + 1))) ((xs (i + 2)))).1 = 0 → f9 0 = (sp_take T ((xs (i + 1))) ((xs (i + 2)))).2.1.toInt64 := hw2
  have hP : va_P G vwCl (wW cy mm a T rf sp ((sp_take T ((xs (i + 1))) ((xs (i + 2)))).2.2) tr9 o f9 od d) H := hP
  have hD : va_D (fun q : Nat => s.heap.size ≤ q) (wW cy mm a T rf sp ((sp_take T ((xs (i + 1))) ((xs (i + 2)))).2.2) tr9 o f9 od d) := hD
  refine lv_istore (lv' := [(6, .int (sp_take T ((xs (i + 1))) ((xs (i + 2)))).1), (0, .ref b), (1, .ref (a 0)), (2, .ref (mm 0)), (3, .ref o), (4, .ref od), (5, .int (nI i))]) hx hb dL_law_984 hl (by decide) rfl (fun ls hl => ?_)
  refine lv_aload_n hx hb dL_law_986 rfl (lv_at hl 3 rfl) ?_
  refine lv_aload_n hx hb dL_law_987 rfl (lv_at hl 1 rfl) ?_
  refine lv_iload hx hb dL_law_988 (lv_at hl 6 rfl) ?_
  refine lv_iconst (v := 1) hx hb dL_law_990 (by decide) ?_
  refine lv_iadd hx hb dL_law_991 ?_
  refine ml_eqi (nI (i + 1)) (nI_1 i) ?_
  refine va_sld hx hb hX hbl hbA hS (vp_in_nI (by omega) (by omega)) dL_law_992 ?_
  refine ml_eqi (xs (i + 1)) (by rw [nI_clamp (by omega)]) ?_
  refine lv_aload_n hx hb dL_law_993 rfl (lv_at hl 1 rfl) ?_
  refine lv_iload hx hb dL_law_994 (lv_at hl 6 rfl) ?_
  refine lv_iconst (v := 2) hx hb dL_law_996 (by decide) ?_
  refine lv_iadd hx hb dL_law_997 ?_
  refine ml_eqi (nI (i + 2)) (nI_add i 2) ?_
  refine va_sld hx hb hX hbl hbA hS (vp_in_nI (by omega) (by omega)) dL_law_998 ?_
  refine ml_eqi (xs (i + 2)) (by rw [nI_clamp (by omega)]) ?_
  have hPc := hP.sub (ws' := (wM mm cy T rf sp)) [1, 2, 3, 4, 5, 6, 7, 8, 9] rfl
  have hDc := hD.sub (ws' := (wM mm cy T rf sp)) [1, 2, 3, 4, 5, 6, 7, 8, 9] (by decide) rfl
  refine mo_Vi (G := G) (wr := ((od, .inl (cy 3, 1, .inr (.inr (.inr (.inl d))))) :: wL a cy ((sp_take T ((xs (i + 1))) ((xs (i + 2)))).2.2) tr9 o f9)) (As := [.int (xs (i + 1)), .int (xs (i + 2))]) (rest := []) ⟨hx, hb, hml, hown, hts⟩ (c_X4_take l G cy mm H.size T rf sp ((xs (i + 1))) ((xs (i + 2))) hI) (cwV 2 hts gL_law_X4_take rfl rfl rfl (by decide +kernel) ⟨Nat.le_of_ble_eq_true rfl, Nat.le_of_ble_eq_true rfl⟩) (va_recv hK hPc (ci := 4) (q0 := 0) rfl rfl) hPc hDc hP hK hD hS hA [1, 2, 3, 4, 5, 6, 7, 8, 9] [0, 10, 11, 12, 13, 14, 15, 16, 17, 18, 19, 20, 21, 22] rfl rfl (by decide) (by decide) hN rfl hl.1 (Nat.le_of_ble_eq_true rfl) dL_law_999 ⟨hcl, hsl⟩ (fun r_999 u_999 H locs hw hP hD hS => ?_)
  obtain rfl : (sp_take T ((xs (i + 1))) ((xs (i + 2)))).2.1 = r_999 := hw
  have hP := hP.sub (ws' := (wW cy mm a ((sp_take T ((xs (i + 1))) ((xs (i + 2)))).2.2) ((sp_take T ((xs (i + 1))) ((xs (i + 2)))).1) u_999 ((sp_take T ((xs (i + 1))) ((xs (i + 2)))).2.2) tr9 o f9 od d)) [0, 14, 15, 16, 17, 18, 19, 20, 21, 22, 1, 2, 3, 4, 5, 6, 7, 8, 9, 10, 11, 12, 13] rfl
  have hD := hD.sub (ws' := (wW cy mm a ((sp_take T ((xs (i + 1))) ((xs (i + 2)))).2.2) ((sp_take T ((xs (i + 1))) ((xs (i + 2)))).1) u_999 ((sp_take T ((xs (i + 1))) ((xs (i + 2)))).2.2) tr9 o f9 od d)) [0, 14, 15, 16, 17, 18, 19, 20, 21, 22, 1, 2, 3, 4, 5, 6, 7, 8, 9, 10, 11, 12, 13] (by decide) rfl
  have hP : va_P G vwCl (wW cy mm a ((sp_take T ((xs (i + 1))) ((xs (i + 2)))).2.2) ((sp_take T ((xs (i + 1))) ((xs (i + 2)))).1) u_999 ((sp_take T ((xs (i + 1))) ((xs (i + 2)))).2.2) tr9 o f9 od d) H := hP
  have hD : va_D (fun q : Nat => s.heap.size ≤ q) (wW cy mm a ((sp_take T ((xs (i + 1))) ((xs (i + 2)))).2.2) ((sp_take T ((xs (i + 1))) ((xs (i + 2)))).1) u_999 ((sp_take T ((xs (i + 1))) ((xs (i + 2)))).2.2) tr9 o f9 od d) := hD
  refine lv_istore (lv' := [(7, .int (sp_take T ((xs (i + 1))) ((xs (i + 2)))).2.1), (6, .int (sp_take T ((xs (i + 1))) ((xs (i + 2)))).1), (0, .ref b), (1, .ref (a 0)), (2, .ref (mm 0)), (3, .ref o), (4, .ref od), (5, .int (nI i))]) hx hb dL_law_1002 hl (by decide) rfl (fun ls hl => ?_)
  refine lv_aload_n hx hb dL_law_1004 rfl (lv_at hl 4 rfl) ?_
  have hPc := hP.sub (ws' := (wM mm cy ((sp_take T ((xs (i + 1))) ((xs (i + 2)))).2.2) ((sp_take T ((xs (i + 1))) ((xs (i + 2)))).1) u_999)) [1, 2, 3, 4, 5, 6, 7, 8, 9] rfl
  have hDc := hD.sub (ws' := (wM mm cy ((sp_take T ((xs (i + 1))) ((xs (i + 2)))).2.2) ((sp_take T ((xs (i + 1))) ((xs (i + 2)))).1) u_999)) [1, 2, 3, 4, 5, 6, 7, 8, 9] (by decide) rfl
  refine mo_Vi (G := G) (wr := ((od, .inl (cy 3, 1, .inr (.inr (.inr (.inl d))))) :: wL a cy ((sp_take T ((xs (i + 1))) ((xs (i + 2)))).2.2) tr9 o f9)) (As := []) (rest := []) ⟨hx, hb, hml, hown, hts⟩ (c_X4_thrown l G cy mm H.size ((sp_take T ((xs (i + 1))) ((xs (i + 2)))).2.2) ((sp_take T ((xs (i + 1))) ((xs (i + 2)))).1) u_999) (cwV 0 hts gL_law_X4_thrown rfl rfl rfl (by decide +kernel) ⟨Nat.le_of_ble_eq_true rfl, Nat.le_of_ble_eq_true rfl⟩) (va_recv hK hPc (ci := 4) (q0 := 0) rfl rfl) hPc hDc hP hK hD hS hA [1, 2, 3, 4, 5, 6, 7, 8, 9] [0, 10, 11, 12, 13, 14, 15, 16, 17, 18, 19, 20, 21, 22] rfl rfl (by decide) (by decide) hN rfl hl.1 (Nat.le_of_ble_eq_true rfl) dL_law_1005 ⟨hcl, hsl⟩ (fun r_1005 u_1005 H locs hw hP hD hS => ?_)
  obtain rfl : r_1005 = (sp_take T ((xs (i + 1))) ((xs (i + 2)))).1 := hw
  have hP := hP.sub (ws' := (wW cy mm a ((sp_take T ((xs (i + 1))) ((xs (i + 2)))).2.2) ((sp_take T ((xs (i + 1))) ((xs (i + 2)))).1) u_999 ((sp_take T ((xs (i + 1))) ((xs (i + 2)))).2.2) tr9 o f9 od d)) [0, 14, 15, 16, 17, 18, 19, 20, 21, 22, 1, 2, 3, 4, 5, 6, 7, 8, 9, 10, 11, 12, 13] rfl
  have hD := hD.sub (ws' := (wW cy mm a ((sp_take T ((xs (i + 1))) ((xs (i + 2)))).2.2) ((sp_take T ((xs (i + 1))) ((xs (i + 2)))).1) u_999 ((sp_take T ((xs (i + 1))) ((xs (i + 2)))).2.2) tr9 o f9 od d)) [0, 14, 15, 16, 17, 18, 19, 20, 21, 22, 1, 2, 3, 4, 5, 6, 7, 8, 9, 10, 11, 12, 13] (by decide) rfl
  have hP : va_P G vwCl (wW cy mm a ((sp_take T ((xs (i + 1))) ((xs (i + 2)))).2.2) ((sp_take T ((xs (i + 1))) ((xs (i + 2)))).1) u_999 ((sp_take T ((xs (i + 1))) ((xs (i + 2)))).2.2) tr9 o f9 od d) H := hP
  have hD : va_D (fun q : Nat => s.heap.size ≤ q) (wW cy mm a ((sp_take T ((xs (i + 1))) ((xs (i + 2)))).2.2) ((sp_take T ((xs (i + 1))) ((xs (i + 2)))).1) u_999 ((sp_take T ((xs (i + 1))) ((xs (i + 2)))).2.2) tr9 o f9 od d) := hD
  refine lv_iload hx hb dL_law_1008 (lv_at hl 1 rfl) ?_
  refine lv_icmp_eq (tgt := 1015) hx hb dL_law_1010 (by decide) (fun _ => ?_) (fun c_9 => absurd rfl c_9)
  refine lv_iload hx hb dL_law_1015 (lv_at hl 1 rfl) ?_
  refine lv_if_ne (tgt := 1032) hx hb dL_law_1017 (by decide) (fun c_0 => ?_) (fun c_0 => ?_)
  · skip
    refine lv_goto (tgt := 1505) hx hb dL_law_1032 (by decide) ?_
    exact kk ((sp_take T ((xs (i + 1))) ((xs (i + 2)))).2.2) ((sp_take T ((xs (i + 1))) ((xs (i + 2)))).1) u_999 tr9 f9 d H _ ls (inv_take hI ((xs (i + 1))) ((xs (i + 2)))) hP hD hS (lv_sub hl [2, 3, 4, 5, 6, 7] rfl)
  · skip
    refine lv_aload_n hx hb dL_law_1020 rfl (lv_at hl 5 rfl) ?_
    refine lv_iconst (v := 0) hx hb dL_law_1021 (by decide) ?_
    refine ml_lald hx hb hK hP 10 1 rfl rfl 0 rfl (by decide) (by decide) ((sp_take T ((xs (i + 1))) ((xs (i + 2)))).2.1.toInt64) (hw2 c_0) dL_law_1022 ?_
    refine lv_iload hx hb dL_law_1023 (lv_at hl 0 rfl) ?_
    refine lv_i2l (v := (sp_take T ((xs (i + 1))) ((xs (i + 2)))).2.1.toInt64) hx hb dL_law_1025 rfl ?_
    refine W.lcmp hx hb dL_law_1026 ?_
    refine lv_if_eq (tgt := 1032) hx hb dL_law_1027 (by decide) (fun _ => ?_) (fun c_9 => absurd ((lg_cmp_eq _ _).mpr rfl) c_9)
    refine lv_goto (tgt := 1505) hx hb dL_law_1032 (by decide) ?_
    exact kk ((sp_take T ((xs (i + 1))) ((xs (i + 2)))).2.2) ((sp_take T ((xs (i + 1))) ((xs (i + 2)))).1) u_999 tr9 f9 d H _ ls (inv_take hI ((xs (i + 1))) ((xs (i + 2)))) hP hD hS (lv_sub hl [2, 3, 4, 5, 6, 7] rfl)
set_option maxHeartbeats 4000000 in
set_option maxRecDepth 100000 in
theorem k_giveBack {p : Program} {l : Launch} {e : Env} {s : State} {m : MethodId} {below : List Frame} {meth : Method} {c : Code} {b L : Nat} {xs : Nat → Int32} {G : va_G} {cy : Nat → ClassId} {mm a : Nat → Nat} {o od i cells slots : Nat} (C0 : lw_C p l s m meth c b L xs G cy) (hi : i + 5 ≤ L) (hcl : cells + 1 ≤ 1077) (hsl : slots + 6 ≤ 8842) {T : TS} {rf : Int32} {sp : Nat → Int64} {tr : Nat → Int32} {f : Nat → Int64} {d : Nat → UInt64} {H : Heap} {locs : List Loc} {ls : Array Slot} (hI : Inv T) (hP : va_P G vwCl (wW cy mm a T rf sp T tr o f od d) H) (hD : va_D (fun q : Nat => s.heap.size ≤ q) (wW cy mm a T rf sp T tr o f od d)) (hS : va_S (fun q : Nat => s.heap.size ≤ q) s.heap H locs) (hl : lv_has ls 8 [(0, .ref b), (1, .ref (a 0)), (2, .ref (mm 0)), (3, .ref o), (4, .ref od), (5, .int (nI i))]) (kk : lw_K p l e s m below meth c b G cy mm a o od i cells slots) : W p l e room_1 s m #[Value.ref b] below meth c H locs cells slots (lw_Z below #[Value.ref b] s) (F0 m 1035 ls []) := by
  obtain ⟨hL, C1, hlt, hK, hN, hE⟩ := C0
  obtain ⟨hx, hb, hr, hml, hown, hts0, hX, hbl, hlocks, hgv⟩ := C1
  have hb : c.code = cL_law := hb
  have hown : s.vm.findClass RL = some m.cls := hown
  have hts : ∀ w ∈ wsL_law, w.before #[Value.ref b] s = true := fun w h => hts0 w (wsL_law_in w h)
  have hA : ∀ q : Nat, s.heap.size ≤ q → (fun q : Nat => s.heap.size ≤ q) q := fun _ h => h
  have hbA : ¬ (fun q : Nat => s.heap.size ≤ q) b := Nat.not_le.mpr hbl
  have hcl : cells + 1 ≤ room_1.cells := hcl
  have hsl : slots + 6 ≤ room_1.slots := hsl
  refine lv_aload_n hx hb dL_law_1035 rfl (lv_at hl 1 rfl) ?_
  refine lv_aload_n hx hb dL_law_1036 rfl (lv_at hl 0 rfl) ?_
  refine lv_iload hx hb dL_law_1037 (lv_at hl 5 rfl) ?_
  refine lv_iconst (v := 1) hx hb dL_law_1039 (by decide) ?_
  refine lv_iadd hx hb dL_law_1040 ?_
  refine ml_eqi (nI (i + 1)) (nI_1 i) ?_
  refine va_sld hx hb hX hbl hbA hS (vp_in_nI (by omega) (by omega)) dL_law_1041 ?_
  refine ml_eqi (xs (i + 1)) (by rw [nI_clamp (by omega)]) ?_
  have hPc := hP.sub (ws' := (wC a cy T tr)) [11, 12, 13, 14, 15, 16, 17, 18, 19, 20, 21, 22] rfl
  have hDc := hD.sub (ws' := (wC a cy T tr)) [11, 12, 13, 14, 15, 16, 17, 18, 19, 20, 21, 22] (by decide) rfl
  refine mo_SWi (G := G) (wr := ((od, .inl (cy 3, 1, .inr (.inr (.inr (.inl d))))) :: (wM mm cy T rf sp ++ [(o, .inl (cy 1, 1, .inr (.inl f)))]))) (As := [.ref (a 0), .int (xs (i + 1))]) (rest := []) ⟨hx, hb, hml, hown, hts⟩ (c_L_giveBack l hlt G cy a H.size T tr ((xs (i + 1))) hI) (vx_cwSW 2 hts gL_law_L_giveBack rfl rfl rfl (by decide +kernel) ⟨Nat.le_of_ble_eq_true rfl, Nat.le_of_ble_eq_true rfl⟩) hPc hDc hP hK hD hS hA [11, 12, 13, 14, 15, 16, 17, 18, 19, 20, 21, 22] [0, 1, 2, 3, 4, 5, 6, 7, 8, 9, 10] rfl rfl (by decide) (by decide) hN hE rfl hl.1 (Nat.le_of_ble_eq_true rfl) dL_law_1042 ⟨hcl, hsl⟩ (fun k9 u9 H locs hw hP hD hS => ?_)
  obtain rfl : k9 = (sp_giveBack T ((xs (i + 1)))).1 := hw
  have hP : va_P G vwCl (wW cy mm a T rf sp ((sp_giveBack T ((xs (i + 1)))).2.2) u9 o f od d) H := hP
  have hD : va_D (fun q : Nat => s.heap.size ≤ q) (wW cy mm a T rf sp ((sp_giveBack T ((xs (i + 1)))).2.2) u9 o f od d) := hD
  refine lv_istore (lv' := [(6, .int (sp_giveBack T ((xs (i + 1)))).1), (0, .ref b), (1, .ref (a 0)), (2, .ref (mm 0)), (3, .ref o), (4, .ref od), (5, .int (nI i))]) hx hb dL_law_1045 hl (by decide) rfl (fun ls hl => ?_)
  refine lv_aload_n hx hb dL_law_1047 rfl (lv_at hl 3 rfl) ?_
  refine lv_aload_n hx hb dL_law_1048 rfl (lv_at hl 1 rfl) ?_
  refine lv_iload hx hb dL_law_1049 (lv_at hl 6 rfl) ?_
  refine lv_iconst (v := 1) hx hb dL_law_1051 (by decide) ?_
  refine lv_iadd hx hb dL_law_1052 ?_
  refine ml_eqi (nI (i + 1)) (nI_1 i) ?_
  refine va_sld hx hb hX hbl hbA hS (vp_in_nI (by omega) (by omega)) dL_law_1053 ?_
  refine ml_eqi (xs (i + 1)) (by rw [nI_clamp (by omega)]) ?_
  have hPc := hP.sub (ws' := (wM mm cy T rf sp)) [1, 2, 3, 4, 5, 6, 7, 8, 9] rfl
  have hDc := hD.sub (ws' := (wM mm cy T rf sp)) [1, 2, 3, 4, 5, 6, 7, 8, 9] (by decide) rfl
  refine mo_Vv (G := G) (wr := ((od, .inl (cy 3, 1, .inr (.inr (.inr (.inl d))))) :: wL a cy ((sp_giveBack T ((xs (i + 1)))).2.2) u9 o f)) (As := [.int (xs (i + 1))]) (rest := []) ⟨hx, hb, hml, hown, hts⟩ (c_X4_giveBack l G cy mm H.size T rf sp ((xs (i + 1))) hI) (cwV 1 hts gL_law_X4_giveBack rfl rfl rfl (by decide +kernel) ⟨Nat.le_of_ble_eq_true rfl, Nat.le_of_ble_eq_true rfl⟩) (va_recv hK hPc (ci := 4) (q0 := 0) rfl rfl) hPc hDc hP hK hD hS hA [1, 2, 3, 4, 5, 6, 7, 8, 9] [0, 10, 11, 12, 13, 14, 15, 16, 17, 18, 19, 20, 21, 22] rfl rfl (by decide) (by decide) hN rfl hl.1 (Nat.le_of_ble_eq_true rfl) dL_law_1054 ⟨hcl, hsl⟩ (fun u_1054 H locs hw hP hD hS => ?_)
  have hP := hP.sub (ws' := (wW cy mm a ((sp_giveBack T ((xs (i + 1)))).2.2) ((sp_giveBack T ((xs (i + 1)))).1) u_1054 ((sp_giveBack T ((xs (i + 1)))).2.2) u9 o f od d)) [0, 14, 15, 16, 17, 18, 19, 20, 21, 22, 1, 2, 3, 4, 5, 6, 7, 8, 9, 10, 11, 12, 13] rfl
  have hD := hD.sub (ws' := (wW cy mm a ((sp_giveBack T ((xs (i + 1)))).2.2) ((sp_giveBack T ((xs (i + 1)))).1) u_1054 ((sp_giveBack T ((xs (i + 1)))).2.2) u9 o f od d)) [0, 14, 15, 16, 17, 18, 19, 20, 21, 22, 1, 2, 3, 4, 5, 6, 7, 8, 9, 10, 11, 12, 13] (by decide) rfl
  have hP : va_P G vwCl (wW cy mm a ((sp_giveBack T ((xs (i + 1)))).2.2) ((sp_giveBack T ((xs (i + 1)))).1) u_1054 ((sp_giveBack T ((xs (i + 1)))).2.2) u9 o f od d) H := hP
  have hD : va_D (fun q : Nat => s.heap.size ≤ q) (wW cy mm a ((sp_giveBack T ((xs (i + 1)))).2.2) ((sp_giveBack T ((xs (i + 1)))).1) u_1054 ((sp_giveBack T ((xs (i + 1)))).2.2) u9 o f od d) := hD
  refine lv_aload_n hx hb dL_law_1057 rfl (lv_at hl 3 rfl) ?_
  have hPc := hP.sub (ws' := (wM mm cy ((sp_giveBack T ((xs (i + 1)))).2.2) ((sp_giveBack T ((xs (i + 1)))).1) u_1054)) [1, 2, 3, 4, 5, 6, 7, 8, 9] rfl
  have hDc := hD.sub (ws' := (wM mm cy ((sp_giveBack T ((xs (i + 1)))).2.2) ((sp_giveBack T ((xs (i + 1)))).1) u_1054)) [1, 2, 3, 4, 5, 6, 7, 8, 9] (by decide) rfl
  refine mo_Vi (G := G) (wr := ((od, .inl (cy 3, 1, .inr (.inr (.inr (.inl d))))) :: wL a cy ((sp_giveBack T ((xs (i + 1)))).2.2) u9 o f)) (As := []) (rest := []) ⟨hx, hb, hml, hown, hts⟩ (c_X4_thrown l G cy mm H.size ((sp_giveBack T ((xs (i + 1)))).2.2) ((sp_giveBack T ((xs (i + 1)))).1) u_1054) (cwV 0 hts gL_law_X4_thrown rfl rfl rfl (by decide +kernel) ⟨Nat.le_of_ble_eq_true rfl, Nat.le_of_ble_eq_true rfl⟩) (va_recv hK hPc (ci := 4) (q0 := 0) rfl rfl) hPc hDc hP hK hD hS hA [1, 2, 3, 4, 5, 6, 7, 8, 9] [0, 10, 11, 12, 13, 14, 15, 16, 17, 18, 19, 20, 21, 22] rfl rfl (by decide) (by decide) hN rfl hl.1 (Nat.le_of_ble_eq_true rfl) dL_law_1058 ⟨hcl, hsl⟩ (fun r_1058 u_1058 H locs hw hP hD hS => ?_)
  obtain rfl : r_1058 = (sp_giveBack T ((xs (i + 1)))).1 := hw
  have hP := hP.sub (ws' := (wW cy mm a ((sp_giveBack T ((xs (i + 1)))).2.2) ((sp_giveBack T ((xs (i + 1)))).1) u_1054 ((sp_giveBack T ((xs (i + 1)))).2.2) u9 o f od d)) [0, 14, 15, 16, 17, 18, 19, 20, 21, 22, 1, 2, 3, 4, 5, 6, 7, 8, 9, 10, 11, 12, 13] rfl
  have hD := hD.sub (ws' := (wW cy mm a ((sp_giveBack T ((xs (i + 1)))).2.2) ((sp_giveBack T ((xs (i + 1)))).1) u_1054 ((sp_giveBack T ((xs (i + 1)))).2.2) u9 o f od d)) [0, 14, 15, 16, 17, 18, 19, 20, 21, 22, 1, 2, 3, 4, 5, 6, 7, 8, 9, 10, 11, 12, 13] (by decide) rfl
  have hP : va_P G vwCl (wW cy mm a ((sp_giveBack T ((xs (i + 1)))).2.2) ((sp_giveBack T ((xs (i + 1)))).1) u_1054 ((sp_giveBack T ((xs (i + 1)))).2.2) u9 o f od d) H := hP
  have hD : va_D (fun q : Nat => s.heap.size ≤ q) (wW cy mm a ((sp_giveBack T ((xs (i + 1)))).2.2) ((sp_giveBack T ((xs (i + 1)))).1) u_1054 ((sp_giveBack T ((xs (i + 1)))).2.2) u9 o f od d) := hD
  refine lv_iload hx hb dL_law_1061 (lv_at hl 0 rfl) ?_
  refine lv_icmp_eq (tgt := 1068) hx hb dL_law_1063 (by decide) (fun _ => ?_) (fun c_9 => absurd rfl c_9)
  refine lv_goto (tgt := 1505) hx hb dL_law_1068 (by decide) ?_
  exact kk ((sp_giveBack T ((xs (i + 1)))).2.2) ((sp_giveBack T ((xs (i + 1)))).1) u_1054 u9 f d H _ ls (inv_giveBack hI ((xs (i + 1)))) hP hD hS (lv_sub hl [1, 2, 3, 4, 5, 6] rfl)
set_option maxHeartbeats 4000000 in
set_option maxRecDepth 100000 in
theorem k_holder {p : Program} {l : Launch} {e : Env} {s : State} {m : MethodId} {below : List Frame} {meth : Method} {c : Code} {b L : Nat} {xs : Nat → Int32} {G : va_G} {cy : Nat → ClassId} {mm a : Nat → Nat} {o od i cells slots : Nat} (C0 : lw_C p l s m meth c b L xs G cy) (hi : i + 5 ≤ L) (hcl : cells + 1 ≤ 1077) (hsl : slots + 6 ≤ 8842) {T : TS} {rf : Int32} {sp : Nat → Int64} {tr : Nat → Int32} {f : Nat → Int64} {d : Nat → UInt64} {H : Heap} {locs : List Loc} {ls : Array Slot} (hI : Inv T) (hP : va_P G vwCl (wW cy mm a T rf sp T tr o f od d) H) (hD : va_D (fun q : Nat => s.heap.size ≤ q) (wW cy mm a T rf sp T tr o f od d)) (hS : va_S (fun q : Nat => s.heap.size ≤ q) s.heap H locs) (hl : lv_has ls 8 [(0, .ref b), (1, .ref (a 0)), (2, .ref (mm 0)), (3, .ref o), (4, .ref od), (5, .int (nI i))]) (kk : lw_K p l e s m below meth c b G cy mm a o od i cells slots) : W p l e room_1 s m #[Value.ref b] below meth c H locs cells slots (lw_Z below #[Value.ref b] s) (F0 m 1071 ls []) := by
  obtain ⟨hL, C1, hlt, hK, hN, hE⟩ := C0
  obtain ⟨hx, hb, hr, hml, hown, hts0, hX, hbl, hlocks, hgv⟩ := C1
  have hb : c.code = cL_law := hb
  have hown : s.vm.findClass RL = some m.cls := hown
  have hts : ∀ w ∈ wsL_law, w.before #[Value.ref b] s = true := fun w h => hts0 w (wsL_law_in w h)
  have hA : ∀ q : Nat, s.heap.size ≤ q → (fun q : Nat => s.heap.size ≤ q) q := fun _ h => h
  have hbA : ¬ (fun q : Nat => s.heap.size ≤ q) b := Nat.not_le.mpr hbl
  have hcl : cells + 1 ≤ room_1.cells := hcl
  have hsl : slots + 6 ≤ room_1.slots := hsl
  refine lv_aload_n hx hb dL_law_1071 rfl (lv_at hl 1 rfl) ?_
  have hPc := hP.sub (ws' := (wC a cy T tr)) [11, 12, 13, 14, 15, 16, 17, 18, 19, 20, 21, 22] rfl
  have hDc := hD.sub (ws' := (wC a cy T tr)) [11, 12, 13, 14, 15, 16, 17, 18, 19, 20, 21, 22] (by decide) rfl
  refine mo_Vi (G := G) (wr := ((od, .inl (cy 3, 1, .inr (.inr (.inr (.inl d))))) :: (wM mm cy T rf sp ++ [(o, .inl (cy 1, 1, .inr (.inl f)))]))) (As := []) (rest := []) ⟨hx, hb, hml, hown, hts⟩ (c_X3_holder l G cy a H.size T tr hI) (cwV 0 hts gL_law_X3_holder rfl rfl rfl (by decide +kernel) ⟨Nat.le_of_ble_eq_true rfl, Nat.le_of_ble_eq_true rfl⟩) (va_recv hK hPc (ci := 3) (q0 := 0) rfl rfl) hPc hDc hP hK hD hS hA [11, 12, 13, 14, 15, 16, 17, 18, 19, 20, 21, 22] [0, 1, 2, 3, 4, 5, 6, 7, 8, 9, 10] rfl rfl (by decide) (by decide) hN rfl hl.1 (Nat.le_of_ble_eq_true rfl) dL_law_1072 ⟨Nat.le_of_succ_le hcl, Nat.le_trans (Nat.le_add_right _ 6) hsl⟩ (fun r_1072 u_1072 H locs hw hP hD hS => ?_)
  obtain rfl : r_1072 = owner T := hw
  have hP : va_P G vwCl (wW cy mm a T rf sp T tr o f od d) H := hP
  have hD : va_D (fun q : Nat => s.heap.size ≤ q) (wW cy mm a T rf sp T tr o f od d) := hD
  refine lv_aload_n hx hb dL_law_1075 rfl (lv_at hl 2 rfl) ?_
  have hPc := hP.sub (ws' := (wM mm cy T rf sp)) [1, 2, 3, 4, 5, 6, 7, 8, 9] rfl
  have hDc := hD.sub (ws' := (wM mm cy T rf sp)) [1, 2, 3, 4, 5, 6, 7, 8, 9] (by decide) rfl
  refine mo_Vi (G := G) (wr := ((od, .inl (cy 3, 1, .inr (.inr (.inr (.inl d))))) :: wL a cy T tr o f)) (As := []) (rest := [.int (owner T)]) ⟨hx, hb, hml, hown, hts⟩ (c_X4_holder l G cy mm H.size T rf sp hI) (cwV 0 hts gL_law_X4_holder rfl rfl rfl (by decide +kernel) ⟨Nat.le_of_ble_eq_true rfl, Nat.le_of_ble_eq_true rfl⟩) (va_recv hK hPc (ci := 4) (q0 := 0) rfl rfl) hPc hDc hP hK hD hS hA [1, 2, 3, 4, 5, 6, 7, 8, 9] [0, 10, 11, 12, 13, 14, 15, 16, 17, 18, 19, 20, 21, 22] rfl rfl (by decide) (by decide) hN rfl hl.1 (Nat.le_of_ble_eq_true rfl) dL_law_1076 ⟨Nat.le_of_succ_le hcl, Nat.le_trans (Nat.le_add_right _ 6) hsl⟩ (fun r_1076 u_1076 H locs hw hP hD hS => ?_)
  obtain rfl : r_1076 = owner T := hw
  have hP := hP.sub (ws' := (wW cy mm a T 0 sp T tr o f od d)) [0, 14, 15, 16, 17, 18, 19, 20, 21, 22, 1, 2, 3, 4, 5, 6, 7, 8, 9, 10, 11, 12, 13] rfl
  have hD := hD.sub (ws' := (wW cy mm a T 0 sp T tr o f od d)) [0, 14, 15, 16, 17, 18, 19, 20, 21, 22, 1, 2, 3, 4, 5, 6, 7, 8, 9, 10, 11, 12, 13] (by decide) rfl
  have hP : va_P G vwCl (wW cy mm a T 0 sp T tr o f od d) H := hP
  have hD : va_D (fun q : Nat => s.heap.size ≤ q) (wW cy mm a T 0 sp T tr o f od d) := hD
  refine lv_icmp_eq (tgt := 1505) hx hb dL_law_1079 (by decide) (fun _ => ?_) (fun c_9 => absurd rfl c_9)
  refine W.widen (k := cells + 1) (n := slots + 6) (Nat.le_succ _) (Nat.le_add_right _ 6) ?_
  exact kk T 0 sp tr f d H _ ls hI hP hD hS (lv_sub hl [0, 1, 2, 3, 4, 5] rfl)
set_option maxHeartbeats 4000000 in
set_option maxRecDepth 100000 in
theorem k_restart {p : Program} {l : Launch} {e : Env} {s : State} {m : MethodId} {below : List Frame} {meth : Method} {c : Code} {b L : Nat} {xs : Nat → Int32} {G : va_G} {cy : Nat → ClassId} {mm a : Nat → Nat} {o od i cells slots : Nat} (C0 : lw_C p l s m meth c b L xs G cy) (hi : i + 5 ≤ L) (hcl : cells + 1 ≤ 1077) (hsl : slots + 6 ≤ 8842) {T : TS} {rf : Int32} {sp : Nat → Int64} {tr : Nat → Int32} {f : Nat → Int64} {d : Nat → UInt64} {H : Heap} {locs : List Loc} {ls : Array Slot} (hI : Inv T) (hP : va_P G vwCl (wW cy mm a T rf sp T tr o f od d) H) (hD : va_D (fun q : Nat => s.heap.size ≤ q) (wW cy mm a T rf sp T tr o f od d)) (hS : va_S (fun q : Nat => s.heap.size ≤ q) s.heap H locs) (hl : lv_has ls 8 [(0, .ref b), (1, .ref (a 0)), (2, .ref (mm 0)), (3, .ref o), (4, .ref od), (5, .int (nI i))]) (kk : lw_K p l e s m below meth c b G cy mm a o od i cells slots) : W p l e room_1 s m #[Value.ref b] below meth c H locs cells slots (lw_Z below #[Value.ref b] s) (F0 m 1084 ls []) := by
  obtain ⟨hL, C1, hlt, hK, hN, hE⟩ := C0
  obtain ⟨hx, hb, hr, hml, hown, hts0, hX, hbl, hlocks, hgv⟩ := C1
  have hb : c.code = cL_law := hb
  have hown : s.vm.findClass RL = some m.cls := hown
  have hts : ∀ w ∈ wsL_law, w.before #[Value.ref b] s = true := fun w h => hts0 w (wsL_law_in w h)
  have hA : ∀ q : Nat, s.heap.size ≤ q → (fun q : Nat => s.heap.size ≤ q) q := fun _ h => h
  have hbA : ¬ (fun q : Nat => s.heap.size ≤ q) b := Nat.not_le.mpr hbl
  have hcl : cells + 1 ≤ room_1.cells := hcl
  have hsl : slots + 6 ≤ room_1.slots := hsl
  refine lv_aload_n hx hb dL_law_1084 rfl (lv_at hl 1 rfl) ?_
  refine lv_aload_n hx hb dL_law_1085 rfl (lv_at hl 0 rfl) ?_
  refine lv_iload hx hb dL_law_1086 (lv_at hl 5 rfl) ?_
  refine lv_iconst (v := 1) hx hb dL_law_1088 (by decide) ?_
  refine lv_iadd hx hb dL_law_1089 ?_
  refine ml_eqi (nI (i + 1)) (nI_1 i) ?_
  refine va_sld hx hb hX hbl hbA hS (vp_in_nI (by omega) (by omega)) dL_law_1090 ?_
  refine ml_eqi (xs (i + 1)) (by rw [nI_clamp (by omega)]) ?_
  refine lv_aload_n hx hb dL_law_1091 rfl (lv_at hl 3 rfl) ?_
  have hPc := hP.sub (ws' := (wL a cy T tr o f)) [10, 11, 12, 13, 14, 15, 16, 17, 18, 19, 20, 21, 22] rfl
  have hDc := hD.sub (ws' := (wL a cy T tr o f)) [10, 11, 12, 13, 14, 15, 16, 17, 18, 19, 20, 21, 22] (by decide) rfl
  refine mo_SWi (G := G) (wr := ((od, .inl (cy 3, 1, .inr (.inr (.inr (.inl d))))) :: wM mm cy T rf sp)) (As := [.ref (a 0), .int (xs (i + 1)), .ref o]) (rest := []) ⟨hx, hb, hml, hown, hts⟩ (c_L_restart l hlt G cy a H.size T tr ((xs (i + 1))) o f hI) (vx_cwSW 3 hts gL_law_L_restart rfl rfl rfl (by decide +kernel) ⟨Nat.le_of_ble_eq_true rfl, Nat.le_of_ble_eq_true rfl⟩) hPc hDc hP hK hD hS hA [10, 11, 12, 13, 14, 15, 16, 17, 18, 19, 20, 21, 22] [0, 1, 2, 3, 4, 5, 6, 7, 8, 9] rfl rfl (by decide) (by decide) hN hE rfl hl.1 (Nat.le_of_ble_eq_true rfl) dL_law_1092 ⟨hcl, hsl⟩ (fun k9 u9 H locs hw hP hD hS => ?_)
  obtain ⟨tr9, f9⟩ := u9
  obtain ⟨hw1, hw2⟩ := hw
  obtain rfl : k9 = (sp_restart T ((xs (i + 1)))).1 := hw1
  have hw2 : (sp_restart T ((xs (i + 1)))).1 = 0 → f9 0 = cif ((sp_restart T ((xs (i + 1)))).2.1 = 0) 0 1 := hw2
  have hP : va_P G vwCl (wW cy mm a T rf sp ((sp_restart T ((xs (i + 1)))).2.2) tr9 o f9 od d) H := hP
  have hD : va_D (fun q : Nat => s.heap.size ≤ q) (wW cy mm a T rf sp ((sp_restart T ((xs (i + 1)))).2.2) tr9 o f9 od d) := hD
  refine lv_istore (lv' := [(6, .int (sp_restart T ((xs (i + 1)))).1), (0, .ref b), (1, .ref (a 0)), (2, .ref (mm 0)), (3, .ref o), (4, .ref od), (5, .int (nI i))]) hx hb dL_law_1095 hl (by decide) rfl (fun ls hl => ?_)
  refine lv_aload_n hx hb dL_law_1097 rfl (lv_at hl 3 rfl) ?_
  refine lv_aload_n hx hb dL_law_1098 rfl (lv_at hl 1 rfl) ?_
  refine lv_iload hx hb dL_law_1099 (lv_at hl 6 rfl) ?_
  refine lv_iconst (v := 1) hx hb dL_law_1101 (by decide) ?_
  refine lv_iadd hx hb dL_law_1102 ?_
  refine ml_eqi (nI (i + 1)) (nI_1 i) ?_
  refine va_sld hx hb hX hbl hbA hS (vp_in_nI (by omega) (by omega)) dL_law_1103 ?_
  refine ml_eqi (xs (i + 1)) (by rw [nI_clamp (by omega)]) ?_
  have hPc := hP.sub (ws' := (wM mm cy T rf sp)) [1, 2, 3, 4, 5, 6, 7, 8, 9] rfl
  have hDc := hD.sub (ws' := (wM mm cy T rf sp)) [1, 2, 3, 4, 5, 6, 7, 8, 9] (by decide) rfl
  refine mo_Vi (G := G) (wr := ((od, .inl (cy 3, 1, .inr (.inr (.inr (.inl d))))) :: wL a cy ((sp_restart T ((xs (i + 1)))).2.2) tr9 o f9)) (As := [.int (xs (i + 1))]) (rest := []) ⟨hx, hb, hml, hown, hts⟩ (c_X4_restart l G cy mm H.size T rf sp ((xs (i + 1))) hI) (cwV 1 hts gL_law_X4_restart rfl rfl rfl (by decide +kernel) ⟨Nat.le_of_ble_eq_true rfl, Nat.le_of_ble_eq_true rfl⟩) (va_recv hK hPc (ci := 4) (q0 := 0) rfl rfl) hPc hDc hP hK hD hS hA [1, 2, 3, 4, 5, 6, 7, 8, 9] [0, 10, 11, 12, 13, 14, 15, 16, 17, 18, 19, 20, 21, 22] rfl rfl (by decide) (by decide) hN rfl hl.1 (Nat.le_of_ble_eq_true rfl) dL_law_1104 ⟨hcl, hsl⟩ (fun r_1104 u_1104 H locs hw hP hD hS => ?_)
  obtain rfl : (sp_restart T ((xs (i + 1)))).2.1 = r_1104 := hw
  have hP := hP.sub (ws' := (wW cy mm a ((sp_restart T ((xs (i + 1)))).2.2) ((sp_restart T ((xs (i + 1)))).1) u_1104 ((sp_restart T ((xs (i + 1)))).2.2) tr9 o f9 od d)) [0, 14, 15, 16, 17, 18, 19, 20, 21, 22, 1, 2, 3, 4, 5, 6, 7, 8, 9, 10, 11, 12, 13] rfl
  have hD := hD.sub (ws' := (wW cy mm a ((sp_restart T ((xs (i + 1)))).2.2) ((sp_restart T ((xs (i + 1)))).1) u_1104 ((sp_restart T ((xs (i + 1)))).2.2) tr9 o f9 od d)) [0, 14, 15, 16, 17, 18, 19, 20, 21, 22, 1, 2, 3, 4, 5, 6, 7, 8, 9, 10, 11, 12, 13] (by decide) rfl
  have hP : va_P G vwCl (wW cy mm a ((sp_restart T ((xs (i + 1)))).2.2) ((sp_restart T ((xs (i + 1)))).1) u_1104 ((sp_restart T ((xs (i + 1)))).2.2) tr9 o f9 od d) H := hP
  have hD : va_D (fun q : Nat => s.heap.size ≤ q) (wW cy mm a ((sp_restart T ((xs (i + 1)))).2.2) ((sp_restart T ((xs (i + 1)))).1) u_1104 ((sp_restart T ((xs (i + 1)))).2.2) tr9 o f9 od d) := hD
  refine lv_istore (lv' := [(7, .int (sp_restart T ((xs (i + 1)))).2.1), (6, .int (sp_restart T ((xs (i + 1)))).1), (0, .ref b), (1, .ref (a 0)), (2, .ref (mm 0)), (3, .ref o), (4, .ref od), (5, .int (nI i))]) hx hb dL_law_1107 hl (by decide) rfl (fun ls hl => ?_)
  refine lv_aload_n hx hb dL_law_1109 rfl (lv_at hl 4 rfl) ?_
  have hPc := hP.sub (ws' := (wM mm cy ((sp_restart T ((xs (i + 1)))).2.2) ((sp_restart T ((xs (i + 1)))).1) u_1104)) [1, 2, 3, 4, 5, 6, 7, 8, 9] rfl
  have hDc := hD.sub (ws' := (wM mm cy ((sp_restart T ((xs (i + 1)))).2.2) ((sp_restart T ((xs (i + 1)))).1) u_1104)) [1, 2, 3, 4, 5, 6, 7, 8, 9] (by decide) rfl
  refine mo_Vi (G := G) (wr := ((od, .inl (cy 3, 1, .inr (.inr (.inr (.inl d))))) :: wL a cy ((sp_restart T ((xs (i + 1)))).2.2) tr9 o f9)) (As := []) (rest := []) ⟨hx, hb, hml, hown, hts⟩ (c_X4_thrown l G cy mm H.size ((sp_restart T ((xs (i + 1)))).2.2) ((sp_restart T ((xs (i + 1)))).1) u_1104) (cwV 0 hts gL_law_X4_thrown rfl rfl rfl (by decide +kernel) ⟨Nat.le_of_ble_eq_true rfl, Nat.le_of_ble_eq_true rfl⟩) (va_recv hK hPc (ci := 4) (q0 := 0) rfl rfl) hPc hDc hP hK hD hS hA [1, 2, 3, 4, 5, 6, 7, 8, 9] [0, 10, 11, 12, 13, 14, 15, 16, 17, 18, 19, 20, 21, 22] rfl rfl (by decide) (by decide) hN rfl hl.1 (Nat.le_of_ble_eq_true rfl) dL_law_1110 ⟨hcl, hsl⟩ (fun r_1110 u_1110 H locs hw hP hD hS => ?_)
  obtain rfl : r_1110 = (sp_restart T ((xs (i + 1)))).1 := hw
  have hP := hP.sub (ws' := (wW cy mm a ((sp_restart T ((xs (i + 1)))).2.2) ((sp_restart T ((xs (i + 1)))).1) u_1104 ((sp_restart T ((xs (i + 1)))).2.2) tr9 o f9 od d)) [0, 14, 15, 16, 17, 18, 19, 20, 21, 22, 1, 2, 3, 4, 5, 6, 7, 8, 9, 10, 11, 12, 13] rfl
  have hD := hD.sub (ws' := (wW cy mm a ((sp_restart T ((xs (i + 1)))).2.2) ((sp_restart T ((xs (i + 1)))).1) u_1104 ((sp_restart T ((xs (i + 1)))).2.2) tr9 o f9 od d)) [0, 14, 15, 16, 17, 18, 19, 20, 21, 22, 1, 2, 3, 4, 5, 6, 7, 8, 9, 10, 11, 12, 13] (by decide) rfl
  have hP : va_P G vwCl (wW cy mm a ((sp_restart T ((xs (i + 1)))).2.2) ((sp_restart T ((xs (i + 1)))).1) u_1104 ((sp_restart T ((xs (i + 1)))).2.2) tr9 o f9 od d) H := hP
  have hD : va_D (fun q : Nat => s.heap.size ≤ q) (wW cy mm a ((sp_restart T ((xs (i + 1)))).2.2) ((sp_restart T ((xs (i + 1)))).1) u_1104 ((sp_restart T ((xs (i + 1)))).2.2) tr9 o f9 od d) := hD
  refine lv_iload hx hb dL_law_1113 (lv_at hl 1 rfl) ?_
  refine lv_icmp_eq (tgt := 1120) hx hb dL_law_1115 (by decide) (fun _ => ?_) (fun c_9 => absurd rfl c_9)
  refine lv_iload hx hb dL_law_1120 (lv_at hl 1 rfl) ?_
  refine lv_if_ne (tgt := 1144) hx hb dL_law_1122 (by decide) (fun c_0 => ?_) (fun c_0 => ?_)
  · skip
    refine lv_goto (tgt := 1505) hx hb dL_law_1144 (by decide) ?_
    exact kk ((sp_restart T ((xs (i + 1)))).2.2) ((sp_restart T ((xs (i + 1)))).1) u_1104 tr9 f9 d H _ ls (inv_restart hI ((xs (i + 1)))) hP hD hS (lv_sub hl [2, 3, 4, 5, 6, 7] rfl)
  · skip
    refine lv_aload_n hx hb dL_law_1125 rfl (lv_at hl 5 rfl) ?_
    refine lv_iconst (v := 0) hx hb dL_law_1126 (by decide) ?_
    refine ml_lald hx hb hK hP 10 1 rfl rfl 0 rfl (by decide) (by decide) (cif ((sp_restart T ((xs (i + 1)))).2.1 = 0) 0 1) (hw2 c_0) dL_law_1127 ?_
    refine lv_iload hx hb dL_law_1128 (lv_at hl 0 rfl) ?_
    refine lv_if_eq (tgt := 1137) hx hb dL_law_1130 (by decide) (fun c_1 => ?_) (fun c_1 => ?_)
    · skip
      refine lv_lconst (v := 0) hx hb dL_law_1137 (by decide) ?_
      refine W.lcmp hx hb dL_law_1138 ?_
      refine lv_if_eq (tgt := 1144) hx hb dL_law_1139 (by decide) (fun _ => ?_) (fun c_9 => absurd ((lg_cmp_eq _ _).mpr (cif_t c_1)) c_9)
      refine lv_goto (tgt := 1505) hx hb dL_law_1144 (by decide) ?_
      exact kk ((sp_restart T ((xs (i + 1)))).2.2) ((sp_restart T ((xs (i + 1)))).1) u_1104 tr9 f9 d H _ ls (inv_restart hI ((xs (i + 1)))) hP hD hS (lv_sub hl [2, 3, 4, 5, 6, 7] rfl)
    · skip
      refine lv_lconst (v := 1) hx hb dL_law_1133 (by decide) ?_
      refine lv_goto (tgt := 1138) hx hb dL_law_1134 (by decide) ?_
      refine W.lcmp hx hb dL_law_1138 ?_
      refine lv_if_eq (tgt := 1144) hx hb dL_law_1139 (by decide) (fun _ => ?_) (fun c_9 => absurd ((lg_cmp_eq _ _).mpr (cif_f c_1)) c_9)
      refine lv_goto (tgt := 1505) hx hb dL_law_1144 (by decide) ?_
      exact kk ((sp_restart T ((xs (i + 1)))).2.2) ((sp_restart T ((xs (i + 1)))).1) u_1104 tr9 f9 d H _ ls (inv_restart hI ((xs (i + 1)))) hP hD hS (lv_sub hl [2, 3, 4, 5, 6, 7] rfl)
set_option maxHeartbeats 4000000 in
set_option maxRecDepth 100000 in
theorem k_pass {p : Program} {l : Launch} {e : Env} {s : State} {m : MethodId} {below : List Frame} {meth : Method} {c : Code} {b L : Nat} {xs : Nat → Int32} {G : va_G} {cy : Nat → ClassId} {mm a : Nat → Nat} {o od i cells slots : Nat} (C0 : lw_C p l s m meth c b L xs G cy) (hi : i + 5 ≤ L) (hcl : cells + 1 ≤ 1077) (hsl : slots + 6 ≤ 8842) {T : TS} {rf : Int32} {sp : Nat → Int64} {tr : Nat → Int32} {f : Nat → Int64} {d : Nat → UInt64} {H : Heap} {locs : List Loc} {ls : Array Slot} (hI : Inv T) (hP : va_P G vwCl (wW cy mm a T rf sp T tr o f od d) H) (hD : va_D (fun q : Nat => s.heap.size ≤ q) (wW cy mm a T rf sp T tr o f od d)) (hS : va_S (fun q : Nat => s.heap.size ≤ q) s.heap H locs) (hl : lv_has ls 8 [(0, .ref b), (1, .ref (a 0)), (2, .ref (mm 0)), (3, .ref o), (4, .ref od), (5, .int (nI i))]) (kk : lw_K p l e s m below meth c b G cy mm a o od i cells slots) : W p l e room_1 s m #[Value.ref b] below meth c H locs cells slots (lw_Z below #[Value.ref b] s) (F0 m 1147 ls []) := by
  obtain ⟨hL, C1, hlt, hK, hN, hE⟩ := C0
  obtain ⟨hx, hb, hr, hml, hown, hts0, hX, hbl, hlocks, hgv⟩ := C1
  have hb : c.code = cL_law := hb
  have hown : s.vm.findClass RL = some m.cls := hown
  have hts : ∀ w ∈ wsL_law, w.before #[Value.ref b] s = true := fun w h => hts0 w (wsL_law_in w h)
  have hA : ∀ q : Nat, s.heap.size ≤ q → (fun q : Nat => s.heap.size ≤ q) q := fun _ h => h
  have hbA : ¬ (fun q : Nat => s.heap.size ≤ q) b := Nat.not_le.mpr hbl
  have hcl : cells + 1 ≤ room_1.cells := hcl
  have hsl : slots + 6 ≤ room_1.slots := hsl
  refine lv_aload_n hx hb dL_law_1147 rfl (lv_at hl 1 rfl) ?_
  refine lv_aload_n hx hb dL_law_1148 rfl (lv_at hl 0 rfl) ?_
  refine lv_iload hx hb dL_law_1149 (lv_at hl 5 rfl) ?_
  refine lv_iconst (v := 1) hx hb dL_law_1151 (by decide) ?_
  refine lv_iadd hx hb dL_law_1152 ?_
  refine ml_eqi (nI (i + 1)) (nI_1 i) ?_
  refine va_sld hx hb hX hbl hbA hS (vp_in_nI (by omega) (by omega)) dL_law_1153 ?_
  refine ml_eqi (xs (i + 1)) (by rw [nI_clamp (by omega)]) ?_
  refine lv_aload_n hx hb dL_law_1154 rfl (lv_at hl 3 rfl) ?_
  have hPc := hP.sub (ws' := (wL a cy T tr o f)) [10, 11, 12, 13, 14, 15, 16, 17, 18, 19, 20, 21, 22] rfl
  have hDc := hD.sub (ws' := (wL a cy T tr o f)) [10, 11, 12, 13, 14, 15, 16, 17, 18, 19, 20, 21, 22] (by decide) rfl
  refine mo_SWi (G := G) (wr := ((od, .inl (cy 3, 1, .inr (.inr (.inr (.inl d))))) :: wM mm cy T rf sp)) (As := [.ref (a 0), .int (xs (i + 1)), .ref o]) (rest := []) ⟨hx, hb, hml, hown, hts⟩ (c_L_pass l hlt G cy a H.size T tr ((xs (i + 1))) o f hI) (vx_cwSW 3 hts gL_law_L_pass rfl rfl rfl (by decide +kernel) ⟨Nat.le_of_ble_eq_true rfl, Nat.le_of_ble_eq_true rfl⟩) hPc hDc hP hK hD hS hA [10, 11, 12, 13, 14, 15, 16, 17, 18, 19, 20, 21, 22] [0, 1, 2, 3, 4, 5, 6, 7, 8, 9] rfl rfl (by decide) (by decide) hN hE rfl hl.1 (Nat.le_of_ble_eq_true rfl) dL_law_1155 ⟨hcl, hsl⟩ (fun k9 u9 H locs hw hP hD hS => ?_)
  obtain ⟨tr9, f9⟩ := u9
  obtain ⟨hw1, hw2⟩ := hw
  obtain rfl : k9 = (sp_pass T ((xs (i + 1)))).1 := hw1
  have hw2 : (sp_pass T ((xs (i + 1)))).1 = 0 → f9 0 = (sp_pass T ((xs (i + 1)))).2.1.toInt64 := hw2
  have hP : va_P G vwCl (wW cy mm a T rf sp ((sp_pass T ((xs (i + 1)))).2.2) tr9 o f9 od d) H := hP
  have hD : va_D (fun q : Nat => s.heap.size ≤ q) (wW cy mm a T rf sp ((sp_pass T ((xs (i + 1)))).2.2) tr9 o f9 od d) := hD
  refine lv_istore (lv' := [(6, .int (sp_pass T ((xs (i + 1)))).1), (0, .ref b), (1, .ref (a 0)), (2, .ref (mm 0)), (3, .ref o), (4, .ref od), (5, .int (nI i))]) hx hb dL_law_1158 hl (by decide) rfl (fun ls hl => ?_)
  refine lv_aload_n hx hb dL_law_1160 rfl (lv_at hl 3 rfl) ?_
  refine lv_aload_n hx hb dL_law_1161 rfl (lv_at hl 1 rfl) ?_
  refine lv_iload hx hb dL_law_1162 (lv_at hl 6 rfl) ?_
  refine lv_iconst (v := 1) hx hb dL_law_1164 (by decide) ?_
  refine lv_iadd hx hb dL_law_1165 ?_
  refine ml_eqi (nI (i + 1)) (nI_1 i) ?_
  refine va_sld hx hb hX hbl hbA hS (vp_in_nI (by omega) (by omega)) dL_law_1166 ?_
  refine ml_eqi (xs (i + 1)) (by rw [nI_clamp (by omega)]) ?_
  have hPc := hP.sub (ws' := (wM mm cy T rf sp)) [1, 2, 3, 4, 5, 6, 7, 8, 9] rfl
  have hDc := hD.sub (ws' := (wM mm cy T rf sp)) [1, 2, 3, 4, 5, 6, 7, 8, 9] (by decide) rfl
  refine mo_Vi (G := G) (wr := ((od, .inl (cy 3, 1, .inr (.inr (.inr (.inl d))))) :: wL a cy ((sp_pass T ((xs (i + 1)))).2.2) tr9 o f9)) (As := [.int (xs (i + 1))]) (rest := []) ⟨hx, hb, hml, hown, hts⟩ (c_X4_pass l G cy mm H.size T rf sp ((xs (i + 1))) hI) (cwV 1 hts gL_law_X4_pass rfl rfl rfl (by decide +kernel) ⟨Nat.le_of_ble_eq_true rfl, Nat.le_of_ble_eq_true rfl⟩) (va_recv hK hPc (ci := 4) (q0 := 0) rfl rfl) hPc hDc hP hK hD hS hA [1, 2, 3, 4, 5, 6, 7, 8, 9] [0, 10, 11, 12, 13, 14, 15, 16, 17, 18, 19, 20, 21, 22] rfl rfl (by decide) (by decide) hN rfl hl.1 (Nat.le_of_ble_eq_true rfl) dL_law_1167 ⟨hcl, hsl⟩ (fun r_1167 u_1167 H locs hw hP hD hS => ?_)
  obtain rfl : (sp_pass T ((xs (i + 1)))).2.1 = r_1167 := hw
  have hP := hP.sub (ws' := (wW cy mm a ((sp_pass T ((xs (i + 1)))).2.2) ((sp_pass T ((xs (i + 1)))).1) u_1167 ((sp_pass T ((xs (i + 1)))).2.2) tr9 o f9 od d)) [0, 14, 15, 16, 17, 18, 19, 20, 21, 22, 1, 2, 3, 4, 5, 6, 7, 8, 9, 10, 11, 12, 13] rfl
  have hD := hD.sub (ws' := (wW cy mm a ((sp_pass T ((xs (i + 1)))).2.2) ((sp_pass T ((xs (i + 1)))).1) u_1167 ((sp_pass T ((xs (i + 1)))).2.2) tr9 o f9 od d)) [0, 14, 15, 16, 17, 18, 19, 20, 21, 22, 1, 2, 3, 4, 5, 6, 7, 8, 9, 10, 11, 12, 13] (by decide) rfl
  have hP : va_P G vwCl (wW cy mm a ((sp_pass T ((xs (i + 1)))).2.2) ((sp_pass T ((xs (i + 1)))).1) u_1167 ((sp_pass T ((xs (i + 1)))).2.2) tr9 o f9 od d) H := hP
  have hD : va_D (fun q : Nat => s.heap.size ≤ q) (wW cy mm a ((sp_pass T ((xs (i + 1)))).2.2) ((sp_pass T ((xs (i + 1)))).1) u_1167 ((sp_pass T ((xs (i + 1)))).2.2) tr9 o f9 od d) := hD
  refine lv_istore (lv' := [(7, .int (sp_pass T ((xs (i + 1)))).2.1), (6, .int (sp_pass T ((xs (i + 1)))).1), (0, .ref b), (1, .ref (a 0)), (2, .ref (mm 0)), (3, .ref o), (4, .ref od), (5, .int (nI i))]) hx hb dL_law_1170 hl (by decide) rfl (fun ls hl => ?_)
  refine lv_aload_n hx hb dL_law_1172 rfl (lv_at hl 4 rfl) ?_
  have hPc := hP.sub (ws' := (wM mm cy ((sp_pass T ((xs (i + 1)))).2.2) ((sp_pass T ((xs (i + 1)))).1) u_1167)) [1, 2, 3, 4, 5, 6, 7, 8, 9] rfl
  have hDc := hD.sub (ws' := (wM mm cy ((sp_pass T ((xs (i + 1)))).2.2) ((sp_pass T ((xs (i + 1)))).1) u_1167)) [1, 2, 3, 4, 5, 6, 7, 8, 9] (by decide) rfl
  refine mo_Vi (G := G) (wr := ((od, .inl (cy 3, 1, .inr (.inr (.inr (.inl d))))) :: wL a cy ((sp_pass T ((xs (i + 1)))).2.2) tr9 o f9)) (As := []) (rest := []) ⟨hx, hb, hml, hown, hts⟩ (c_X4_thrown l G cy mm H.size ((sp_pass T ((xs (i + 1)))).2.2) ((sp_pass T ((xs (i + 1)))).1) u_1167) (cwV 0 hts gL_law_X4_thrown rfl rfl rfl (by decide +kernel) ⟨Nat.le_of_ble_eq_true rfl, Nat.le_of_ble_eq_true rfl⟩) (va_recv hK hPc (ci := 4) (q0 := 0) rfl rfl) hPc hDc hP hK hD hS hA [1, 2, 3, 4, 5, 6, 7, 8, 9] [0, 10, 11, 12, 13, 14, 15, 16, 17, 18, 19, 20, 21, 22] rfl rfl (by decide) (by decide) hN rfl hl.1 (Nat.le_of_ble_eq_true rfl) dL_law_1173 ⟨hcl, hsl⟩ (fun r_1173 u_1173 H locs hw hP hD hS => ?_)
  obtain rfl : r_1173 = (sp_pass T ((xs (i + 1)))).1 := hw
  have hP := hP.sub (ws' := (wW cy mm a ((sp_pass T ((xs (i + 1)))).2.2) ((sp_pass T ((xs (i + 1)))).1) u_1167 ((sp_pass T ((xs (i + 1)))).2.2) tr9 o f9 od d)) [0, 14, 15, 16, 17, 18, 19, 20, 21, 22, 1, 2, 3, 4, 5, 6, 7, 8, 9, 10, 11, 12, 13] rfl
  have hD := hD.sub (ws' := (wW cy mm a ((sp_pass T ((xs (i + 1)))).2.2) ((sp_pass T ((xs (i + 1)))).1) u_1167 ((sp_pass T ((xs (i + 1)))).2.2) tr9 o f9 od d)) [0, 14, 15, 16, 17, 18, 19, 20, 21, 22, 1, 2, 3, 4, 5, 6, 7, 8, 9, 10, 11, 12, 13] (by decide) rfl
  have hP : va_P G vwCl (wW cy mm a ((sp_pass T ((xs (i + 1)))).2.2) ((sp_pass T ((xs (i + 1)))).1) u_1167 ((sp_pass T ((xs (i + 1)))).2.2) tr9 o f9 od d) H := hP
  have hD : va_D (fun q : Nat => s.heap.size ≤ q) (wW cy mm a ((sp_pass T ((xs (i + 1)))).2.2) ((sp_pass T ((xs (i + 1)))).1) u_1167 ((sp_pass T ((xs (i + 1)))).2.2) tr9 o f9 od d) := hD
  refine lv_iload hx hb dL_law_1176 (lv_at hl 1 rfl) ?_
  refine lv_icmp_eq (tgt := 1183) hx hb dL_law_1178 (by decide) (fun _ => ?_) (fun c_9 => absurd rfl c_9)
  refine lv_iload hx hb dL_law_1183 (lv_at hl 1 rfl) ?_
  refine lv_if_ne (tgt := 1200) hx hb dL_law_1185 (by decide) (fun c_0 => ?_) (fun c_0 => ?_)
  · skip
    refine lv_goto (tgt := 1505) hx hb dL_law_1200 (by decide) ?_
    exact kk ((sp_pass T ((xs (i + 1)))).2.2) ((sp_pass T ((xs (i + 1)))).1) u_1167 tr9 f9 d H _ ls (inv_pass hI ((xs (i + 1)))) hP hD hS (lv_sub hl [2, 3, 4, 5, 6, 7] rfl)
  · skip
    refine lv_aload_n hx hb dL_law_1188 rfl (lv_at hl 5 rfl) ?_
    refine lv_iconst (v := 0) hx hb dL_law_1189 (by decide) ?_
    refine ml_lald hx hb hK hP 10 1 rfl rfl 0 rfl (by decide) (by decide) ((sp_pass T ((xs (i + 1)))).2.1.toInt64) (hw2 c_0) dL_law_1190 ?_
    refine lv_iload hx hb dL_law_1191 (lv_at hl 0 rfl) ?_
    refine lv_i2l (v := (sp_pass T ((xs (i + 1)))).2.1.toInt64) hx hb dL_law_1193 rfl ?_
    refine W.lcmp hx hb dL_law_1194 ?_
    refine lv_if_eq (tgt := 1200) hx hb dL_law_1195 (by decide) (fun _ => ?_) (fun c_9 => absurd ((lg_cmp_eq _ _).mpr rfl) c_9)
    refine lv_goto (tgt := 1505) hx hb dL_law_1200 (by decide) ?_
    exact kk ((sp_pass T ((xs (i + 1)))).2.2) ((sp_pass T ((xs (i + 1)))).1) u_1167 tr9 f9 d H _ ls (inv_pass hI ((xs (i + 1)))) hP hD hS (lv_sub hl [2, 3, 4, 5, 6, 7] rfl)
set_option maxHeartbeats 4000000 in
set_option maxRecDepth 100000 in
theorem k_begin {p : Program} {l : Launch} {e : Env} {s : State} {m : MethodId} {below : List Frame} {meth : Method} {c : Code} {b L : Nat} {xs : Nat → Int32} {G : va_G} {cy : Nat → ClassId} {mm a : Nat → Nat} {o od i cells slots : Nat} (C0 : lw_C p l s m meth c b L xs G cy) (hi : i + 5 ≤ L) (hcl : cells + 1 ≤ 1077) (hsl : slots + 6 ≤ 8842) {T : TS} {rf : Int32} {sp : Nat → Int64} {tr : Nat → Int32} {f : Nat → Int64} {d : Nat → UInt64} {H : Heap} {locs : List Loc} {ls : Array Slot} (hI : Inv T) (hP : va_P G vwCl (wW cy mm a T rf sp T tr o f od d) H) (hD : va_D (fun q : Nat => s.heap.size ≤ q) (wW cy mm a T rf sp T tr o f od d)) (hS : va_S (fun q : Nat => s.heap.size ≤ q) s.heap H locs) (hl : lv_has ls 8 [(0, .ref b), (1, .ref (a 0)), (2, .ref (mm 0)), (3, .ref o), (4, .ref od), (5, .int (nI i))]) (kk : lw_K p l e s m below meth c b G cy mm a o od i cells slots) : W p l e room_1 s m #[Value.ref b] below meth c H locs cells slots (lw_Z below #[Value.ref b] s) (F0 m 1203 ls []) := by
  obtain ⟨hL, C1, hlt, hK, hN, hE⟩ := C0
  obtain ⟨hx, hb, hr, hml, hown, hts0, hX, hbl, hlocks, hgv⟩ := C1
  have hb : c.code = cL_law := hb
  have hown : s.vm.findClass RL = some m.cls := hown
  have hts : ∀ w ∈ wsL_law, w.before #[Value.ref b] s = true := fun w h => hts0 w (wsL_law_in w h)
  have hA : ∀ q : Nat, s.heap.size ≤ q → (fun q : Nat => s.heap.size ≤ q) q := fun _ h => h
  have hbA : ¬ (fun q : Nat => s.heap.size ≤ q) b := Nat.not_le.mpr hbl
  have hcl : cells + 1 ≤ room_1.cells := hcl
  have hsl : slots + 6 ≤ room_1.slots := hsl
  refine lv_aload_n hx hb dL_law_1203 rfl (lv_at hl 1 rfl) ?_
  refine lv_aload_n hx hb dL_law_1204 rfl (lv_at hl 0 rfl) ?_
  refine lv_iload hx hb dL_law_1205 (lv_at hl 5 rfl) ?_
  refine lv_iconst (v := 1) hx hb dL_law_1207 (by decide) ?_
  refine lv_iadd hx hb dL_law_1208 ?_
  refine ml_eqi (nI (i + 1)) (nI_1 i) ?_
  refine va_sld hx hb hX hbl hbA hS (vp_in_nI (by omega) (by omega)) dL_law_1209 ?_
  refine ml_eqi (xs (i + 1)) (by rw [nI_clamp (by omega)]) ?_
  refine lv_aload_n hx hb dL_law_1210 rfl (lv_at hl 3 rfl) ?_
  have hPc := hP.sub (ws' := (wL a cy T tr o f)) [10, 11, 12, 13, 14, 15, 16, 17, 18, 19, 20, 21, 22] rfl
  have hDc := hD.sub (ws' := (wL a cy T tr o f)) [10, 11, 12, 13, 14, 15, 16, 17, 18, 19, 20, 21, 22] (by decide) rfl
  refine mo_SWi (G := G) (wr := ((od, .inl (cy 3, 1, .inr (.inr (.inr (.inl d))))) :: wM mm cy T rf sp)) (As := [.ref (a 0), .int (xs (i + 1)), .ref o]) (rest := []) ⟨hx, hb, hml, hown, hts⟩ (c_L_begin l hlt G cy a H.size T tr ((xs (i + 1))) o f hI) (vx_cwSW 3 hts gL_law_L_begin rfl rfl rfl (by decide +kernel) ⟨Nat.le_of_ble_eq_true rfl, Nat.le_of_ble_eq_true rfl⟩) hPc hDc hP hK hD hS hA [10, 11, 12, 13, 14, 15, 16, 17, 18, 19, 20, 21, 22] [0, 1, 2, 3, 4, 5, 6, 7, 8, 9] rfl rfl (by decide) (by decide) hN hE rfl hl.1 (Nat.le_of_ble_eq_true rfl) dL_law_1211 ⟨hcl, hsl⟩ (fun k9 u9 H locs hw hP hD hS => ?_)
  obtain ⟨tr9, f9⟩ := u9
  obtain ⟨hw1, hw2⟩ := hw
  obtain rfl : k9 = (sp_begin T ((xs (i + 1)))).1 := hw1
  have hw2 : (sp_begin T ((xs (i + 1)))).1 = 0 → f9 0 = (sp_begin T ((xs (i + 1)))).2.1.toInt64 := hw2
  have hP : va_P G vwCl (wW cy mm a T rf sp ((sp_begin T ((xs (i + 1)))).2.2) tr9 o f9 od d) H := hP
  have hD : va_D (fun q : Nat => s.heap.size ≤ q) (wW cy mm a T rf sp ((sp_begin T ((xs (i + 1)))).2.2) tr9 o f9 od d) := hD
  refine lv_istore (lv' := [(6, .int (sp_begin T ((xs (i + 1)))).1), (0, .ref b), (1, .ref (a 0)), (2, .ref (mm 0)), (3, .ref o), (4, .ref od), (5, .int (nI i))]) hx hb dL_law_1214 hl (by decide) rfl (fun ls hl => ?_)
  refine lv_aload_n hx hb dL_law_1216 rfl (lv_at hl 3 rfl) ?_
  refine lv_aload_n hx hb dL_law_1217 rfl (lv_at hl 1 rfl) ?_
  refine lv_iload hx hb dL_law_1218 (lv_at hl 6 rfl) ?_
  refine lv_iconst (v := 1) hx hb dL_law_1220 (by decide) ?_
  refine lv_iadd hx hb dL_law_1221 ?_
  refine ml_eqi (nI (i + 1)) (nI_1 i) ?_
  refine va_sld hx hb hX hbl hbA hS (vp_in_nI (by omega) (by omega)) dL_law_1222 ?_
  refine ml_eqi (xs (i + 1)) (by rw [nI_clamp (by omega)]) ?_
  have hPc := hP.sub (ws' := (wM mm cy T rf sp)) [1, 2, 3, 4, 5, 6, 7, 8, 9] rfl
  have hDc := hD.sub (ws' := (wM mm cy T rf sp)) [1, 2, 3, 4, 5, 6, 7, 8, 9] (by decide) rfl
  refine mo_Vi (G := G) (wr := ((od, .inl (cy 3, 1, .inr (.inr (.inr (.inl d))))) :: wL a cy ((sp_begin T ((xs (i + 1)))).2.2) tr9 o f9)) (As := [.int (xs (i + 1))]) (rest := []) ⟨hx, hb, hml, hown, hts⟩ (c_X4_begin l G cy mm H.size T rf sp ((xs (i + 1))) hI) (cwV 1 hts gL_law_X4_begin rfl rfl rfl (by decide +kernel) ⟨Nat.le_of_ble_eq_true rfl, Nat.le_of_ble_eq_true rfl⟩) (va_recv hK hPc (ci := 4) (q0 := 0) rfl rfl) hPc hDc hP hK hD hS hA [1, 2, 3, 4, 5, 6, 7, 8, 9] [0, 10, 11, 12, 13, 14, 15, 16, 17, 18, 19, 20, 21, 22] rfl rfl (by decide) (by decide) hN rfl hl.1 (Nat.le_of_ble_eq_true rfl) dL_law_1223 ⟨hcl, hsl⟩ (fun r_1223 u_1223 H locs hw hP hD hS => ?_)
  obtain rfl : (sp_begin T ((xs (i + 1)))).2.1 = r_1223 := hw
  have hP := hP.sub (ws' := (wW cy mm a ((sp_begin T ((xs (i + 1)))).2.2) ((sp_begin T ((xs (i + 1)))).1) u_1223 ((sp_begin T ((xs (i + 1)))).2.2) tr9 o f9 od d)) [0, 14, 15, 16, 17, 18, 19, 20, 21, 22, 1, 2, 3, 4, 5, 6, 7, 8, 9, 10, 11, 12, 13] rfl
  have hD := hD.sub (ws' := (wW cy mm a ((sp_begin T ((xs (i + 1)))).2.2) ((sp_begin T ((xs (i + 1)))).1) u_1223 ((sp_begin T ((xs (i + 1)))).2.2) tr9 o f9 od d)) [0, 14, 15, 16, 17, 18, 19, 20, 21, 22, 1, 2, 3, 4, 5, 6, 7, 8, 9, 10, 11, 12, 13] (by decide) rfl
  have hP : va_P G vwCl (wW cy mm a ((sp_begin T ((xs (i + 1)))).2.2) ((sp_begin T ((xs (i + 1)))).1) u_1223 ((sp_begin T ((xs (i + 1)))).2.2) tr9 o f9 od d) H := hP
  have hD : va_D (fun q : Nat => s.heap.size ≤ q) (wW cy mm a ((sp_begin T ((xs (i + 1)))).2.2) ((sp_begin T ((xs (i + 1)))).1) u_1223 ((sp_begin T ((xs (i + 1)))).2.2) tr9 o f9 od d) := hD
  refine lv_istore (lv' := [(7, .int (sp_begin T ((xs (i + 1)))).2.1), (6, .int (sp_begin T ((xs (i + 1)))).1), (0, .ref b), (1, .ref (a 0)), (2, .ref (mm 0)), (3, .ref o), (4, .ref od), (5, .int (nI i))]) hx hb dL_law_1226 hl (by decide) rfl (fun ls hl => ?_)
  refine lv_aload_n hx hb dL_law_1228 rfl (lv_at hl 4 rfl) ?_
  have hPc := hP.sub (ws' := (wM mm cy ((sp_begin T ((xs (i + 1)))).2.2) ((sp_begin T ((xs (i + 1)))).1) u_1223)) [1, 2, 3, 4, 5, 6, 7, 8, 9] rfl
  have hDc := hD.sub (ws' := (wM mm cy ((sp_begin T ((xs (i + 1)))).2.2) ((sp_begin T ((xs (i + 1)))).1) u_1223)) [1, 2, 3, 4, 5, 6, 7, 8, 9] (by decide) rfl
  refine mo_Vi (G := G) (wr := ((od, .inl (cy 3, 1, .inr (.inr (.inr (.inl d))))) :: wL a cy ((sp_begin T ((xs (i + 1)))).2.2) tr9 o f9)) (As := []) (rest := []) ⟨hx, hb, hml, hown, hts⟩ (c_X4_thrown l G cy mm H.size ((sp_begin T ((xs (i + 1)))).2.2) ((sp_begin T ((xs (i + 1)))).1) u_1223) (cwV 0 hts gL_law_X4_thrown rfl rfl rfl (by decide +kernel) ⟨Nat.le_of_ble_eq_true rfl, Nat.le_of_ble_eq_true rfl⟩) (va_recv hK hPc (ci := 4) (q0 := 0) rfl rfl) hPc hDc hP hK hD hS hA [1, 2, 3, 4, 5, 6, 7, 8, 9] [0, 10, 11, 12, 13, 14, 15, 16, 17, 18, 19, 20, 21, 22] rfl rfl (by decide) (by decide) hN rfl hl.1 (Nat.le_of_ble_eq_true rfl) dL_law_1229 ⟨hcl, hsl⟩ (fun r_1229 u_1229 H locs hw hP hD hS => ?_)
  obtain rfl : r_1229 = (sp_begin T ((xs (i + 1)))).1 := hw
  have hP := hP.sub (ws' := (wW cy mm a ((sp_begin T ((xs (i + 1)))).2.2) ((sp_begin T ((xs (i + 1)))).1) u_1223 ((sp_begin T ((xs (i + 1)))).2.2) tr9 o f9 od d)) [0, 14, 15, 16, 17, 18, 19, 20, 21, 22, 1, 2, 3, 4, 5, 6, 7, 8, 9, 10, 11, 12, 13] rfl
  have hD := hD.sub (ws' := (wW cy mm a ((sp_begin T ((xs (i + 1)))).2.2) ((sp_begin T ((xs (i + 1)))).1) u_1223 ((sp_begin T ((xs (i + 1)))).2.2) tr9 o f9 od d)) [0, 14, 15, 16, 17, 18, 19, 20, 21, 22, 1, 2, 3, 4, 5, 6, 7, 8, 9, 10, 11, 12, 13] (by decide) rfl
  have hP : va_P G vwCl (wW cy mm a ((sp_begin T ((xs (i + 1)))).2.2) ((sp_begin T ((xs (i + 1)))).1) u_1223 ((sp_begin T ((xs (i + 1)))).2.2) tr9 o f9 od d) H := hP
  have hD : va_D (fun q : Nat => s.heap.size ≤ q) (wW cy mm a ((sp_begin T ((xs (i + 1)))).2.2) ((sp_begin T ((xs (i + 1)))).1) u_1223 ((sp_begin T ((xs (i + 1)))).2.2) tr9 o f9 od d) := hD
  refine lv_iload hx hb dL_law_1232 (lv_at hl 1 rfl) ?_
  refine lv_icmp_eq (tgt := 1239) hx hb dL_law_1234 (by decide) (fun _ => ?_) (fun c_9 => absurd rfl c_9)
  refine lv_iload hx hb dL_law_1239 (lv_at hl 1 rfl) ?_
  refine lv_if_ne (tgt := 1256) hx hb dL_law_1241 (by decide) (fun c_0 => ?_) (fun c_0 => ?_)
  · skip
    refine lv_goto (tgt := 1505) hx hb dL_law_1256 (by decide) ?_
    exact kk ((sp_begin T ((xs (i + 1)))).2.2) ((sp_begin T ((xs (i + 1)))).1) u_1223 tr9 f9 d H _ ls (inv_begin hI ((xs (i + 1)))) hP hD hS (lv_sub hl [2, 3, 4, 5, 6, 7] rfl)
  · skip
    refine lv_aload_n hx hb dL_law_1244 rfl (lv_at hl 5 rfl) ?_
    refine lv_iconst (v := 0) hx hb dL_law_1245 (by decide) ?_
    refine ml_lald hx hb hK hP 10 1 rfl rfl 0 rfl (by decide) (by decide) ((sp_begin T ((xs (i + 1)))).2.1.toInt64) (hw2 c_0) dL_law_1246 ?_
    refine lv_iload hx hb dL_law_1247 (lv_at hl 0 rfl) ?_
    refine lv_i2l (v := (sp_begin T ((xs (i + 1)))).2.1.toInt64) hx hb dL_law_1249 rfl ?_
    refine W.lcmp hx hb dL_law_1250 ?_
    refine lv_if_eq (tgt := 1256) hx hb dL_law_1251 (by decide) (fun _ => ?_) (fun c_9 => absurd ((lg_cmp_eq _ _).mpr rfl) c_9)
    refine lv_goto (tgt := 1505) hx hb dL_law_1256 (by decide) ?_
    exact kk ((sp_begin T ((xs (i + 1)))).2.2) ((sp_begin T ((xs (i + 1)))).1) u_1223 tr9 f9 d H _ ls (inv_begin hI ((xs (i + 1)))) hP hD hS (lv_sub hl [2, 3, 4, 5, 6, 7] rfl)
set_option maxHeartbeats 4000000 in
set_option maxRecDepth 100000 in
theorem k_undo {p : Program} {l : Launch} {e : Env} {s : State} {m : MethodId} {below : List Frame} {meth : Method} {c : Code} {b L : Nat} {xs : Nat → Int32} {G : va_G} {cy : Nat → ClassId} {mm a : Nat → Nat} {o od i cells slots : Nat} (C0 : lw_C p l s m meth c b L xs G cy) (hi : i + 5 ≤ L) (hcl : cells + 1 ≤ 1077) (hsl : slots + 6 ≤ 8842) {T : TS} {rf : Int32} {sp : Nat → Int64} {tr : Nat → Int32} {f : Nat → Int64} {d : Nat → UInt64} {H : Heap} {locs : List Loc} {ls : Array Slot} (hI : Inv T) (hP : va_P G vwCl (wW cy mm a T rf sp T tr o f od d) H) (hD : va_D (fun q : Nat => s.heap.size ≤ q) (wW cy mm a T rf sp T tr o f od d)) (hS : va_S (fun q : Nat => s.heap.size ≤ q) s.heap H locs) (hl : lv_has ls 8 [(0, .ref b), (1, .ref (a 0)), (2, .ref (mm 0)), (3, .ref o), (4, .ref od), (5, .int (nI i))]) (kk : lw_K p l e s m below meth c b G cy mm a o od i cells slots) : W p l e room_1 s m #[Value.ref b] below meth c H locs cells slots (lw_Z below #[Value.ref b] s) (F0 m 1259 ls []) := by
  obtain ⟨hL, C1, hlt, hK, hN, hE⟩ := C0
  obtain ⟨hx, hb, hr, hml, hown, hts0, hX, hbl, hlocks, hgv⟩ := C1
  have hb : c.code = cL_law := hb
  have hown : s.vm.findClass RL = some m.cls := hown
  have hts : ∀ w ∈ wsL_law, w.before #[Value.ref b] s = true := fun w h => hts0 w (wsL_law_in w h)
  have hA : ∀ q : Nat, s.heap.size ≤ q → (fun q : Nat => s.heap.size ≤ q) q := fun _ h => h
  have hbA : ¬ (fun q : Nat => s.heap.size ≤ q) b := Nat.not_le.mpr hbl
  have hcl : cells + 1 ≤ room_1.cells := hcl
  have hsl : slots + 6 ≤ room_1.slots := hsl
  refine lv_aload_n hx hb dL_law_1259 rfl (lv_at hl 1 rfl) ?_
  refine lv_aload_n hx hb dL_law_1260 rfl (lv_at hl 0 rfl) ?_
  refine lv_iload hx hb dL_law_1261 (lv_at hl 5 rfl) ?_
  refine lv_iconst (v := 1) hx hb dL_law_1263 (by decide) ?_
  refine lv_iadd hx hb dL_law_1264 ?_
  refine ml_eqi (nI (i + 1)) (nI_1 i) ?_
  refine va_sld hx hb hX hbl hbA hS (vp_in_nI (by omega) (by omega)) dL_law_1265 ?_
  refine ml_eqi (xs (i + 1)) (by rw [nI_clamp (by omega)]) ?_
  refine lv_aload_n hx hb dL_law_1266 rfl (lv_at hl 3 rfl) ?_
  have hPc := hP.sub (ws' := (wL a cy T tr o f)) [10, 11, 12, 13, 14, 15, 16, 17, 18, 19, 20, 21, 22] rfl
  have hDc := hD.sub (ws' := (wL a cy T tr o f)) [10, 11, 12, 13, 14, 15, 16, 17, 18, 19, 20, 21, 22] (by decide) rfl
  refine mo_SWi (G := G) (wr := ((od, .inl (cy 3, 1, .inr (.inr (.inr (.inl d))))) :: wM mm cy T rf sp)) (As := [.ref (a 0), .int (xs (i + 1)), .ref o]) (rest := []) ⟨hx, hb, hml, hown, hts⟩ (c_L_undo l hlt G cy a H.size T tr ((xs (i + 1))) o f hI) (vx_cwSW 3 hts gL_law_L_undo rfl rfl rfl (by decide +kernel) ⟨Nat.le_of_ble_eq_true rfl, Nat.le_of_ble_eq_true rfl⟩) hPc hDc hP hK hD hS hA [10, 11, 12, 13, 14, 15, 16, 17, 18, 19, 20, 21, 22] [0, 1, 2, 3, 4, 5, 6, 7, 8, 9] rfl rfl (by decide) (by decide) hN hE rfl hl.1 (Nat.le_of_ble_eq_true rfl) dL_law_1267 ⟨hcl, hsl⟩ (fun k9 u9 H locs hw hP hD hS => ?_)
  obtain ⟨tr9, f9⟩ := u9
  obtain ⟨hw1, hw2⟩ := hw
  obtain rfl : k9 = (sp_undo T ((xs (i + 1)))).1 := hw1
  have hw2 : (sp_undo T ((xs (i + 1)))).1 = 0 → f9 0 = (sp_undo T ((xs (i + 1)))).2.1.toInt64 := hw2
  have hP : va_P G vwCl (wW cy mm a T rf sp ((sp_undo T ((xs (i + 1)))).2.2) tr9 o f9 od d) H := hP
  have hD : va_D (fun q : Nat => s.heap.size ≤ q) (wW cy mm a T rf sp ((sp_undo T ((xs (i + 1)))).2.2) tr9 o f9 od d) := hD
  refine lv_istore (lv' := [(6, .int (sp_undo T ((xs (i + 1)))).1), (0, .ref b), (1, .ref (a 0)), (2, .ref (mm 0)), (3, .ref o), (4, .ref od), (5, .int (nI i))]) hx hb dL_law_1270 hl (by decide) rfl (fun ls hl => ?_)
  refine lv_aload_n hx hb dL_law_1272 rfl (lv_at hl 3 rfl) ?_
  refine lv_aload_n hx hb dL_law_1273 rfl (lv_at hl 1 rfl) ?_
  refine lv_iload hx hb dL_law_1274 (lv_at hl 6 rfl) ?_
  refine lv_iconst (v := 1) hx hb dL_law_1276 (by decide) ?_
  refine lv_iadd hx hb dL_law_1277 ?_
  refine ml_eqi (nI (i + 1)) (nI_1 i) ?_
  refine va_sld hx hb hX hbl hbA hS (vp_in_nI (by omega) (by omega)) dL_law_1278 ?_
  refine ml_eqi (xs (i + 1)) (by rw [nI_clamp (by omega)]) ?_
  have hPc := hP.sub (ws' := (wM mm cy T rf sp)) [1, 2, 3, 4, 5, 6, 7, 8, 9] rfl
  have hDc := hD.sub (ws' := (wM mm cy T rf sp)) [1, 2, 3, 4, 5, 6, 7, 8, 9] (by decide) rfl
  refine mo_Vi (G := G) (wr := ((od, .inl (cy 3, 1, .inr (.inr (.inr (.inl d))))) :: wL a cy ((sp_undo T ((xs (i + 1)))).2.2) tr9 o f9)) (As := [.int (xs (i + 1))]) (rest := []) ⟨hx, hb, hml, hown, hts⟩ (c_X4_undo l G cy mm H.size T rf sp ((xs (i + 1))) hI) (cwV 1 hts gL_law_X4_undo rfl rfl rfl (by decide +kernel) ⟨Nat.le_of_ble_eq_true rfl, Nat.le_of_ble_eq_true rfl⟩) (va_recv hK hPc (ci := 4) (q0 := 0) rfl rfl) hPc hDc hP hK hD hS hA [1, 2, 3, 4, 5, 6, 7, 8, 9] [0, 10, 11, 12, 13, 14, 15, 16, 17, 18, 19, 20, 21, 22] rfl rfl (by decide) (by decide) hN rfl hl.1 (Nat.le_of_ble_eq_true rfl) dL_law_1279 ⟨hcl, hsl⟩ (fun r_1279 u_1279 H locs hw hP hD hS => ?_)
  obtain rfl : (sp_undo T ((xs (i + 1)))).2.1 = r_1279 := hw
  have hP := hP.sub (ws' := (wW cy mm a ((sp_undo T ((xs (i + 1)))).2.2) ((sp_undo T ((xs (i + 1)))).1) u_1279 ((sp_undo T ((xs (i + 1)))).2.2) tr9 o f9 od d)) [0, 14, 15, 16, 17, 18, 19, 20, 21, 22, 1, 2, 3, 4, 5, 6, 7, 8, 9, 10, 11, 12, 13] rfl
  have hD := hD.sub (ws' := (wW cy mm a ((sp_undo T ((xs (i + 1)))).2.2) ((sp_undo T ((xs (i + 1)))).1) u_1279 ((sp_undo T ((xs (i + 1)))).2.2) tr9 o f9 od d)) [0, 14, 15, 16, 17, 18, 19, 20, 21, 22, 1, 2, 3, 4, 5, 6, 7, 8, 9, 10, 11, 12, 13] (by decide) rfl
  have hP : va_P G vwCl (wW cy mm a ((sp_undo T ((xs (i + 1)))).2.2) ((sp_undo T ((xs (i + 1)))).1) u_1279 ((sp_undo T ((xs (i + 1)))).2.2) tr9 o f9 od d) H := hP
  have hD : va_D (fun q : Nat => s.heap.size ≤ q) (wW cy mm a ((sp_undo T ((xs (i + 1)))).2.2) ((sp_undo T ((xs (i + 1)))).1) u_1279 ((sp_undo T ((xs (i + 1)))).2.2) tr9 o f9 od d) := hD
  refine lv_istore (lv' := [(7, .int (sp_undo T ((xs (i + 1)))).2.1), (6, .int (sp_undo T ((xs (i + 1)))).1), (0, .ref b), (1, .ref (a 0)), (2, .ref (mm 0)), (3, .ref o), (4, .ref od), (5, .int (nI i))]) hx hb dL_law_1282 hl (by decide) rfl (fun ls hl => ?_)
  refine lv_aload_n hx hb dL_law_1284 rfl (lv_at hl 4 rfl) ?_
  have hPc := hP.sub (ws' := (wM mm cy ((sp_undo T ((xs (i + 1)))).2.2) ((sp_undo T ((xs (i + 1)))).1) u_1279)) [1, 2, 3, 4, 5, 6, 7, 8, 9] rfl
  have hDc := hD.sub (ws' := (wM mm cy ((sp_undo T ((xs (i + 1)))).2.2) ((sp_undo T ((xs (i + 1)))).1) u_1279)) [1, 2, 3, 4, 5, 6, 7, 8, 9] (by decide) rfl
  refine mo_Vi (G := G) (wr := ((od, .inl (cy 3, 1, .inr (.inr (.inr (.inl d))))) :: wL a cy ((sp_undo T ((xs (i + 1)))).2.2) tr9 o f9)) (As := []) (rest := []) ⟨hx, hb, hml, hown, hts⟩ (c_X4_thrown l G cy mm H.size ((sp_undo T ((xs (i + 1)))).2.2) ((sp_undo T ((xs (i + 1)))).1) u_1279) (cwV 0 hts gL_law_X4_thrown rfl rfl rfl (by decide +kernel) ⟨Nat.le_of_ble_eq_true rfl, Nat.le_of_ble_eq_true rfl⟩) (va_recv hK hPc (ci := 4) (q0 := 0) rfl rfl) hPc hDc hP hK hD hS hA [1, 2, 3, 4, 5, 6, 7, 8, 9] [0, 10, 11, 12, 13, 14, 15, 16, 17, 18, 19, 20, 21, 22] rfl rfl (by decide) (by decide) hN rfl hl.1 (Nat.le_of_ble_eq_true rfl) dL_law_1285 ⟨hcl, hsl⟩ (fun r_1285 u_1285 H locs hw hP hD hS => ?_)
  obtain rfl : r_1285 = (sp_undo T ((xs (i + 1)))).1 := hw
  have hP := hP.sub (ws' := (wW cy mm a ((sp_undo T ((xs (i + 1)))).2.2) ((sp_undo T ((xs (i + 1)))).1) u_1279 ((sp_undo T ((xs (i + 1)))).2.2) tr9 o f9 od d)) [0, 14, 15, 16, 17, 18, 19, 20, 21, 22, 1, 2, 3, 4, 5, 6, 7, 8, 9, 10, 11, 12, 13] rfl
  have hD := hD.sub (ws' := (wW cy mm a ((sp_undo T ((xs (i + 1)))).2.2) ((sp_undo T ((xs (i + 1)))).1) u_1279 ((sp_undo T ((xs (i + 1)))).2.2) tr9 o f9 od d)) [0, 14, 15, 16, 17, 18, 19, 20, 21, 22, 1, 2, 3, 4, 5, 6, 7, 8, 9, 10, 11, 12, 13] (by decide) rfl
  have hP : va_P G vwCl (wW cy mm a ((sp_undo T ((xs (i + 1)))).2.2) ((sp_undo T ((xs (i + 1)))).1) u_1279 ((sp_undo T ((xs (i + 1)))).2.2) tr9 o f9 od d) H := hP
  have hD : va_D (fun q : Nat => s.heap.size ≤ q) (wW cy mm a ((sp_undo T ((xs (i + 1)))).2.2) ((sp_undo T ((xs (i + 1)))).1) u_1279 ((sp_undo T ((xs (i + 1)))).2.2) tr9 o f9 od d) := hD
  refine lv_iload hx hb dL_law_1288 (lv_at hl 1 rfl) ?_
  refine lv_icmp_eq (tgt := 1295) hx hb dL_law_1290 (by decide) (fun _ => ?_) (fun c_9 => absurd rfl c_9)
  refine lv_iload hx hb dL_law_1295 (lv_at hl 1 rfl) ?_
  refine lv_if_ne (tgt := 1312) hx hb dL_law_1297 (by decide) (fun c_0 => ?_) (fun c_0 => ?_)
  · skip
    refine lv_goto (tgt := 1505) hx hb dL_law_1312 (by decide) ?_
    exact kk ((sp_undo T ((xs (i + 1)))).2.2) ((sp_undo T ((xs (i + 1)))).1) u_1279 tr9 f9 d H _ ls (inv_undo hI ((xs (i + 1)))) hP hD hS (lv_sub hl [2, 3, 4, 5, 6, 7] rfl)
  · skip
    refine lv_aload_n hx hb dL_law_1300 rfl (lv_at hl 5 rfl) ?_
    refine lv_iconst (v := 0) hx hb dL_law_1301 (by decide) ?_
    refine ml_lald hx hb hK hP 10 1 rfl rfl 0 rfl (by decide) (by decide) ((sp_undo T ((xs (i + 1)))).2.1.toInt64) (hw2 c_0) dL_law_1302 ?_
    refine lv_iload hx hb dL_law_1303 (lv_at hl 0 rfl) ?_
    refine lv_i2l (v := (sp_undo T ((xs (i + 1)))).2.1.toInt64) hx hb dL_law_1305 rfl ?_
    refine W.lcmp hx hb dL_law_1306 ?_
    refine lv_if_eq (tgt := 1312) hx hb dL_law_1307 (by decide) (fun _ => ?_) (fun c_9 => absurd ((lg_cmp_eq _ _).mpr rfl) c_9)
    refine lv_goto (tgt := 1505) hx hb dL_law_1312 (by decide) ?_
    exact kk ((sp_undo T ((xs (i + 1)))).2.2) ((sp_undo T ((xs (i + 1)))).1) u_1279 tr9 f9 d H _ ls (inv_undo hI ((xs (i + 1)))) hP hD hS (lv_sub hl [2, 3, 4, 5, 6, 7] rfl)
set_option maxHeartbeats 4000000 in
set_option maxRecDepth 100000 in
theorem k_step {p : Program} {l : Launch} {e : Env} {s : State} {m : MethodId} {below : List Frame} {meth : Method} {c : Code} {b L : Nat} {xs : Nat → Int32} {G : va_G} {cy : Nat → ClassId} {mm a : Nat → Nat} {o od i cells slots : Nat} (C0 : lw_C p l s m meth c b L xs G cy) (hi : i + 5 ≤ L) (hcl : cells + 1 ≤ 1077) (hsl : slots + 6 ≤ 8842) {T : TS} {rf : Int32} {sp : Nat → Int64} {tr : Nat → Int32} {f : Nat → Int64} {d : Nat → UInt64} {H : Heap} {locs : List Loc} {ls : Array Slot} (hI : Inv T) (hP : va_P G vwCl (wW cy mm a T rf sp T tr o f od d) H) (hD : va_D (fun q : Nat => s.heap.size ≤ q) (wW cy mm a T rf sp T tr o f od d)) (hS : va_S (fun q : Nat => s.heap.size ≤ q) s.heap H locs) (hl : lv_has ls 8 [(0, .ref b), (1, .ref (a 0)), (2, .ref (mm 0)), (3, .ref o), (4, .ref od), (5, .int (nI i))]) (kk : lw_K p l e s m below meth c b G cy mm a o od i cells slots) : W p l e room_1 s m #[Value.ref b] below meth c H locs cells slots (lw_Z below #[Value.ref b] s) (F0 m 1315 ls []) := by
  obtain ⟨hL, C1, hlt, hK, hN, hE⟩ := C0
  obtain ⟨hx, hb, hr, hml, hown, hts0, hX, hbl, hlocks, hgv⟩ := C1
  have hb : c.code = cL_law := hb
  have hown : s.vm.findClass RL = some m.cls := hown
  have hts : ∀ w ∈ wsL_law, w.before #[Value.ref b] s = true := fun w h => hts0 w (wsL_law_in w h)
  have hA : ∀ q : Nat, s.heap.size ≤ q → (fun q : Nat => s.heap.size ≤ q) q := fun _ h => h
  have hbA : ¬ (fun q : Nat => s.heap.size ≤ q) b := Nat.not_le.mpr hbl
  have hcl : cells + 1 ≤ room_1.cells := hcl
  have hsl : slots + 6 ≤ room_1.slots := hsl
  refine lv_aload_n hx hb dL_law_1315 rfl (lv_at hl 1 rfl) ?_
  refine lv_aload_n hx hb dL_law_1316 rfl (lv_at hl 0 rfl) ?_
  refine lv_iload hx hb dL_law_1317 (lv_at hl 5 rfl) ?_
  refine lv_iconst (v := 1) hx hb dL_law_1319 (by decide) ?_
  refine lv_iadd hx hb dL_law_1320 ?_
  refine ml_eqi (nI (i + 1)) (nI_1 i) ?_
  refine va_sld hx hb hX hbl hbA hS (vp_in_nI (by omega) (by omega)) dL_law_1321 ?_
  refine ml_eqi (xs (i + 1)) (by rw [nI_clamp (by omega)]) ?_
  refine lv_aload_n hx hb dL_law_1322 rfl (lv_at hl 0 rfl) ?_
  refine lv_iload hx hb dL_law_1323 (lv_at hl 5 rfl) ?_
  refine lv_iconst (v := 2) hx hb dL_law_1325 (by decide) ?_
  refine lv_iadd hx hb dL_law_1326 ?_
  refine ml_eqi (nI (i + 2)) (nI_add i 2) ?_
  refine va_sld hx hb hX hbl hbA hS (vp_in_nI (by omega) (by omega)) dL_law_1327 ?_
  refine ml_eqi (xs (i + 2)) (by rw [nI_clamp (by omega)]) ?_
  refine lv_aload_n hx hb dL_law_1328 rfl (lv_at hl 0 rfl) ?_
  refine lv_iload hx hb dL_law_1329 (lv_at hl 5 rfl) ?_
  refine lv_iconst (v := 3) hx hb dL_law_1331 (by decide) ?_
  refine lv_iadd hx hb dL_law_1332 ?_
  refine ml_eqi (nI (i + 3)) (nI_add i 3) ?_
  refine va_sld hx hb hX hbl hbA hS (vp_in_nI (by omega) (by omega)) dL_law_1333 ?_
  refine ml_eqi (xs (i + 3)) (by rw [nI_clamp (by omega)]) ?_
  refine lv_aload_n hx hb dL_law_1334 rfl (lv_at hl 3 rfl) ?_
  have hPc := hP.sub (ws' := (wL a cy T tr o f)) [10, 11, 12, 13, 14, 15, 16, 17, 18, 19, 20, 21, 22] rfl
  have hDc := hD.sub (ws' := (wL a cy T tr o f)) [10, 11, 12, 13, 14, 15, 16, 17, 18, 19, 20, 21, 22] (by decide) rfl
  refine mo_SWi (G := G) (wr := ((od, .inl (cy 3, 1, .inr (.inr (.inr (.inl d))))) :: wM mm cy T rf sp)) (As := [.ref (a 0), .int (xs (i + 1)), .int (xs (i + 2)), .int (xs (i + 3)), .ref o]) (rest := []) ⟨hx, hb, hml, hown, hts⟩ (c_L_step l hlt G cy a H.size T tr ((xs (i + 1))) ((xs (i + 2))) ((xs (i + 3))) o f hI) (vx_cwSW 5 hts gL_law_L_step rfl rfl rfl (by decide +kernel) ⟨Nat.le_of_ble_eq_true rfl, Nat.le_of_ble_eq_true rfl⟩) hPc hDc hP hK hD hS hA [10, 11, 12, 13, 14, 15, 16, 17, 18, 19, 20, 21, 22] [0, 1, 2, 3, 4, 5, 6, 7, 8, 9] rfl rfl (by decide) (by decide) hN hE rfl hl.1 (Nat.le_of_ble_eq_true rfl) dL_law_1335 ⟨hcl, hsl⟩ (fun k9 u9 H locs hw hP hD hS => ?_)
  obtain ⟨tr9, f9⟩ := u9
  obtain ⟨hw1, hw2⟩ := hw
  obtain rfl : k9 = (sp_step T ((xs (i + 1))) ((xs (i + 2))) ((xs (i + 3)))).1 := hw1
  have hw2 : (sp_step T ((xs (i + 1))) ((xs (i + 2))) ((xs (i + 3)))).1 = 0 → f9 0 = (sp_step T ((xs (i + 1))) ((xs (i + 2))) ((xs (i + 3)))).2.1.toInt64 := hw2
  have hP : va_P G vwCl (wW cy mm a T rf sp ((sp_step T ((xs (i + 1))) ((xs (i + 2))) ((xs (i + 3)))).2.2) tr9 o f9 od d) H := hP
  have hD : va_D (fun q : Nat => s.heap.size ≤ q) (wW cy mm a T rf sp ((sp_step T ((xs (i + 1))) ((xs (i + 2))) ((xs (i + 3)))).2.2) tr9 o f9 od d) := hD
  refine lv_istore (lv' := [(6, .int (sp_step T ((xs (i + 1))) ((xs (i + 2))) ((xs (i + 3)))).1), (0, .ref b), (1, .ref (a 0)), (2, .ref (mm 0)), (3, .ref o), (4, .ref od), (5, .int (nI i))]) hx hb dL_law_1338 hl (by decide) rfl (fun ls hl => ?_)
  refine lv_aload_n hx hb dL_law_1340 rfl (lv_at hl 3 rfl) ?_
  refine lv_aload_n hx hb dL_law_1341 rfl (lv_at hl 1 rfl) ?_
  refine lv_iload hx hb dL_law_1342 (lv_at hl 6 rfl) ?_
  refine lv_iconst (v := 1) hx hb dL_law_1344 (by decide) ?_
  refine lv_iadd hx hb dL_law_1345 ?_
  refine ml_eqi (nI (i + 1)) (nI_1 i) ?_
  refine va_sld hx hb hX hbl hbA hS (vp_in_nI (by omega) (by omega)) dL_law_1346 ?_
  refine ml_eqi (xs (i + 1)) (by rw [nI_clamp (by omega)]) ?_
  refine lv_aload_n hx hb dL_law_1347 rfl (lv_at hl 1 rfl) ?_
  refine lv_iload hx hb dL_law_1348 (lv_at hl 6 rfl) ?_
  refine lv_iconst (v := 2) hx hb dL_law_1350 (by decide) ?_
  refine lv_iadd hx hb dL_law_1351 ?_
  refine ml_eqi (nI (i + 2)) (nI_add i 2) ?_
  refine va_sld hx hb hX hbl hbA hS (vp_in_nI (by omega) (by omega)) dL_law_1352 ?_
  refine ml_eqi (xs (i + 2)) (by rw [nI_clamp (by omega)]) ?_
  refine lv_aload_n hx hb dL_law_1353 rfl (lv_at hl 1 rfl) ?_
  refine lv_iload hx hb dL_law_1354 (lv_at hl 6 rfl) ?_
  refine lv_iconst (v := 3) hx hb dL_law_1356 (by decide) ?_
  refine lv_iadd hx hb dL_law_1357 ?_
  refine ml_eqi (nI (i + 3)) (nI_add i 3) ?_
  refine va_sld hx hb hX hbl hbA hS (vp_in_nI (by omega) (by omega)) dL_law_1358 ?_
  refine ml_eqi (xs (i + 3)) (by rw [nI_clamp (by omega)]) ?_
  have hPc := hP.sub (ws' := (wM mm cy T rf sp)) [1, 2, 3, 4, 5, 6, 7, 8, 9] rfl
  have hDc := hD.sub (ws' := (wM mm cy T rf sp)) [1, 2, 3, 4, 5, 6, 7, 8, 9] (by decide) rfl
  refine mo_Vi (G := G) (wr := ((od, .inl (cy 3, 1, .inr (.inr (.inr (.inl d))))) :: wL a cy ((sp_step T ((xs (i + 1))) ((xs (i + 2))) ((xs (i + 3)))).2.2) tr9 o f9)) (As := [.int (xs (i + 1)), .int (xs (i + 2)), .int (xs (i + 3))]) (rest := []) ⟨hx, hb, hml, hown, hts⟩ (c_X4_step l G cy mm H.size T rf sp ((xs (i + 1))) ((xs (i + 2))) ((xs (i + 3))) hI) (cwV 3 hts gL_law_X4_step rfl rfl rfl (by decide +kernel) ⟨Nat.le_of_ble_eq_true rfl, Nat.le_of_ble_eq_true rfl⟩) (va_recv hK hPc (ci := 4) (q0 := 0) rfl rfl) hPc hDc hP hK hD hS hA [1, 2, 3, 4, 5, 6, 7, 8, 9] [0, 10, 11, 12, 13, 14, 15, 16, 17, 18, 19, 20, 21, 22] rfl rfl (by decide) (by decide) hN rfl hl.1 (Nat.le_of_ble_eq_true rfl) dL_law_1359 ⟨hcl, hsl⟩ (fun r_1359 u_1359 H locs hw hP hD hS => ?_)
  obtain rfl : (sp_step T ((xs (i + 1))) ((xs (i + 2))) ((xs (i + 3)))).2.1 = r_1359 := hw
  have hP := hP.sub (ws' := (wW cy mm a ((sp_step T ((xs (i + 1))) ((xs (i + 2))) ((xs (i + 3)))).2.2) ((sp_step T ((xs (i + 1))) ((xs (i + 2))) ((xs (i + 3)))).1) u_1359 ((sp_step T ((xs (i + 1))) ((xs (i + 2))) ((xs (i + 3)))).2.2) tr9 o f9 od d)) [0, 14, 15, 16, 17, 18, 19, 20, 21, 22, 1, 2, 3, 4, 5, 6, 7, 8, 9, 10, 11, 12, 13] rfl
  have hD := hD.sub (ws' := (wW cy mm a ((sp_step T ((xs (i + 1))) ((xs (i + 2))) ((xs (i + 3)))).2.2) ((sp_step T ((xs (i + 1))) ((xs (i + 2))) ((xs (i + 3)))).1) u_1359 ((sp_step T ((xs (i + 1))) ((xs (i + 2))) ((xs (i + 3)))).2.2) tr9 o f9 od d)) [0, 14, 15, 16, 17, 18, 19, 20, 21, 22, 1, 2, 3, 4, 5, 6, 7, 8, 9, 10, 11, 12, 13] (by decide) rfl
  have hP : va_P G vwCl (wW cy mm a ((sp_step T ((xs (i + 1))) ((xs (i + 2))) ((xs (i + 3)))).2.2) ((sp_step T ((xs (i + 1))) ((xs (i + 2))) ((xs (i + 3)))).1) u_1359 ((sp_step T ((xs (i + 1))) ((xs (i + 2))) ((xs (i + 3)))).2.2) tr9 o f9 od d) H := hP
  have hD : va_D (fun q : Nat => s.heap.size ≤ q) (wW cy mm a ((sp_step T ((xs (i + 1))) ((xs (i + 2))) ((xs (i + 3)))).2.2) ((sp_step T ((xs (i + 1))) ((xs (i + 2))) ((xs (i + 3)))).1) u_1359 ((sp_step T ((xs (i + 1))) ((xs (i + 2))) ((xs (i + 3)))).2.2) tr9 o f9 od d) := hD
  refine lv_istore (lv' := [(7, .int (sp_step T ((xs (i + 1))) ((xs (i + 2))) ((xs (i + 3)))).2.1), (6, .int (sp_step T ((xs (i + 1))) ((xs (i + 2))) ((xs (i + 3)))).1), (0, .ref b), (1, .ref (a 0)), (2, .ref (mm 0)), (3, .ref o), (4, .ref od), (5, .int (nI i))]) hx hb dL_law_1362 hl (by decide) rfl (fun ls hl => ?_)
  refine lv_aload_n hx hb dL_law_1364 rfl (lv_at hl 4 rfl) ?_
  have hPc := hP.sub (ws' := (wM mm cy ((sp_step T ((xs (i + 1))) ((xs (i + 2))) ((xs (i + 3)))).2.2) ((sp_step T ((xs (i + 1))) ((xs (i + 2))) ((xs (i + 3)))).1) u_1359)) [1, 2, 3, 4, 5, 6, 7, 8, 9] rfl
  have hDc := hD.sub (ws' := (wM mm cy ((sp_step T ((xs (i + 1))) ((xs (i + 2))) ((xs (i + 3)))).2.2) ((sp_step T ((xs (i + 1))) ((xs (i + 2))) ((xs (i + 3)))).1) u_1359)) [1, 2, 3, 4, 5, 6, 7, 8, 9] (by decide) rfl
  refine mo_Vi (G := G) (wr := ((od, .inl (cy 3, 1, .inr (.inr (.inr (.inl d))))) :: wL a cy ((sp_step T ((xs (i + 1))) ((xs (i + 2))) ((xs (i + 3)))).2.2) tr9 o f9)) (As := []) (rest := []) ⟨hx, hb, hml, hown, hts⟩ (c_X4_thrown l G cy mm H.size ((sp_step T ((xs (i + 1))) ((xs (i + 2))) ((xs (i + 3)))).2.2) ((sp_step T ((xs (i + 1))) ((xs (i + 2))) ((xs (i + 3)))).1) u_1359) (cwV 0 hts gL_law_X4_thrown rfl rfl rfl (by decide +kernel) ⟨Nat.le_of_ble_eq_true rfl, Nat.le_of_ble_eq_true rfl⟩) (va_recv hK hPc (ci := 4) (q0 := 0) rfl rfl) hPc hDc hP hK hD hS hA [1, 2, 3, 4, 5, 6, 7, 8, 9] [0, 10, 11, 12, 13, 14, 15, 16, 17, 18, 19, 20, 21, 22] rfl rfl (by decide) (by decide) hN rfl hl.1 (Nat.le_of_ble_eq_true rfl) dL_law_1365 ⟨hcl, hsl⟩ (fun r_1365 u_1365 H locs hw hP hD hS => ?_)
  obtain rfl : r_1365 = (sp_step T ((xs (i + 1))) ((xs (i + 2))) ((xs (i + 3)))).1 := hw
  have hP := hP.sub (ws' := (wW cy mm a ((sp_step T ((xs (i + 1))) ((xs (i + 2))) ((xs (i + 3)))).2.2) ((sp_step T ((xs (i + 1))) ((xs (i + 2))) ((xs (i + 3)))).1) u_1359 ((sp_step T ((xs (i + 1))) ((xs (i + 2))) ((xs (i + 3)))).2.2) tr9 o f9 od d)) [0, 14, 15, 16, 17, 18, 19, 20, 21, 22, 1, 2, 3, 4, 5, 6, 7, 8, 9, 10, 11, 12, 13] rfl
  have hD := hD.sub (ws' := (wW cy mm a ((sp_step T ((xs (i + 1))) ((xs (i + 2))) ((xs (i + 3)))).2.2) ((sp_step T ((xs (i + 1))) ((xs (i + 2))) ((xs (i + 3)))).1) u_1359 ((sp_step T ((xs (i + 1))) ((xs (i + 2))) ((xs (i + 3)))).2.2) tr9 o f9 od d)) [0, 14, 15, 16, 17, 18, 19, 20, 21, 22, 1, 2, 3, 4, 5, 6, 7, 8, 9, 10, 11, 12, 13] (by decide) rfl
  have hP : va_P G vwCl (wW cy mm a ((sp_step T ((xs (i + 1))) ((xs (i + 2))) ((xs (i + 3)))).2.2) ((sp_step T ((xs (i + 1))) ((xs (i + 2))) ((xs (i + 3)))).1) u_1359 ((sp_step T ((xs (i + 1))) ((xs (i + 2))) ((xs (i + 3)))).2.2) tr9 o f9 od d) H := hP
  have hD : va_D (fun q : Nat => s.heap.size ≤ q) (wW cy mm a ((sp_step T ((xs (i + 1))) ((xs (i + 2))) ((xs (i + 3)))).2.2) ((sp_step T ((xs (i + 1))) ((xs (i + 2))) ((xs (i + 3)))).1) u_1359 ((sp_step T ((xs (i + 1))) ((xs (i + 2))) ((xs (i + 3)))).2.2) tr9 o f9 od d) := hD
  refine lv_iload hx hb dL_law_1368 (lv_at hl 1 rfl) ?_
  refine lv_icmp_eq (tgt := 1375) hx hb dL_law_1370 (by decide) (fun _ => ?_) (fun c_9 => absurd rfl c_9)
  refine lv_iload hx hb dL_law_1375 (lv_at hl 1 rfl) ?_
  refine lv_if_ne (tgt := 1392) hx hb dL_law_1377 (by decide) (fun c_0 => ?_) (fun c_0 => ?_)
  · skip
    refine lv_goto (tgt := 1505) hx hb dL_law_1392 (by decide) ?_
    exact kk ((sp_step T ((xs (i + 1))) ((xs (i + 2))) ((xs (i + 3)))).2.2) ((sp_step T ((xs (i + 1))) ((xs (i + 2))) ((xs (i + 3)))).1) u_1359 tr9 f9 d H _ ls (inv_step hI ((xs (i + 1))) ((xs (i + 2))) ((xs (i + 3)))) hP hD hS (lv_sub hl [2, 3, 4, 5, 6, 7] rfl)
  · skip
    refine lv_aload_n hx hb dL_law_1380 rfl (lv_at hl 5 rfl) ?_
    refine lv_iconst (v := 0) hx hb dL_law_1381 (by decide) ?_
    refine ml_lald hx hb hK hP 10 1 rfl rfl 0 rfl (by decide) (by decide) ((sp_step T ((xs (i + 1))) ((xs (i + 2))) ((xs (i + 3)))).2.1.toInt64) (hw2 c_0) dL_law_1382 ?_
    refine lv_iload hx hb dL_law_1383 (lv_at hl 0 rfl) ?_
    refine lv_i2l (v := (sp_step T ((xs (i + 1))) ((xs (i + 2))) ((xs (i + 3)))).2.1.toInt64) hx hb dL_law_1385 rfl ?_
    refine W.lcmp hx hb dL_law_1386 ?_
    refine lv_if_eq (tgt := 1392) hx hb dL_law_1387 (by decide) (fun _ => ?_) (fun c_9 => absurd ((lg_cmp_eq _ _).mpr rfl) c_9)
    refine lv_goto (tgt := 1505) hx hb dL_law_1392 (by decide) ?_
    exact kk ((sp_step T ((xs (i + 1))) ((xs (i + 2))) ((xs (i + 3)))).2.2) ((sp_step T ((xs (i + 1))) ((xs (i + 2))) ((xs (i + 3)))).1) u_1359 tr9 f9 d H _ ls (inv_step hI ((xs (i + 1))) ((xs (i + 2))) ((xs (i + 3)))) hP hD hS (lv_sub hl [2, 3, 4, 5, 6, 7] rfl)
set_option maxHeartbeats 4000000 in
set_option maxRecDepth 100000 in
theorem k_cursor {p : Program} {l : Launch} {e : Env} {s : State} {m : MethodId} {below : List Frame} {meth : Method} {c : Code} {b L : Nat} {xs : Nat → Int32} {G : va_G} {cy : Nat → ClassId} {mm a : Nat → Nat} {o od i cells slots : Nat} (C0 : lw_C p l s m meth c b L xs G cy) (hi : i + 5 ≤ L) (hcl : cells + 1 ≤ 1077) (hsl : slots + 6 ≤ 8842) {T : TS} {rf : Int32} {sp : Nat → Int64} {tr : Nat → Int32} {f : Nat → Int64} {d : Nat → UInt64} {H : Heap} {locs : List Loc} {ls : Array Slot} (hI : Inv T) (hP : va_P G vwCl (wW cy mm a T rf sp T tr o f od d) H) (hD : va_D (fun q : Nat => s.heap.size ≤ q) (wW cy mm a T rf sp T tr o f od d)) (hS : va_S (fun q : Nat => s.heap.size ≤ q) s.heap H locs) (hl : lv_has ls 8 [(0, .ref b), (1, .ref (a 0)), (2, .ref (mm 0)), (3, .ref o), (4, .ref od), (5, .int (nI i))]) (kk : lw_K p l e s m below meth c b G cy mm a o od i cells slots) : W p l e room_1 s m #[Value.ref b] below meth c H locs cells slots (lw_Z below #[Value.ref b] s) (F0 m 1395 ls []) := by
  obtain ⟨hL, C1, hlt, hK, hN, hE⟩ := C0
  obtain ⟨hx, hb, hr, hml, hown, hts0, hX, hbl, hlocks, hgv⟩ := C1
  have hb : c.code = cL_law := hb
  have hown : s.vm.findClass RL = some m.cls := hown
  have hts : ∀ w ∈ wsL_law, w.before #[Value.ref b] s = true := fun w h => hts0 w (wsL_law_in w h)
  have hA : ∀ q : Nat, s.heap.size ≤ q → (fun q : Nat => s.heap.size ≤ q) q := fun _ h => h
  have hbA : ¬ (fun q : Nat => s.heap.size ≤ q) b := Nat.not_le.mpr hbl
  have hcl : cells + 1 ≤ room_1.cells := hcl
  have hsl : slots + 6 ≤ room_1.slots := hsl
  refine lv_aload_n hx hb dL_law_1395 rfl (lv_at hl 1 rfl) ?_
  refine lv_aload_n hx hb dL_law_1396 rfl (lv_at hl 3 rfl) ?_
  have hPc := hP.sub (ws' := (wL a cy T tr o f)) [10, 11, 12, 13, 14, 15, 16, 17, 18, 19, 20, 21, 22] rfl
  have hDc := hD.sub (ws' := (wL a cy T tr o f)) [10, 11, 12, 13, 14, 15, 16, 17, 18, 19, 20, 21, 22] (by decide) rfl
  refine mo_SWi (G := G) (wr := ((od, .inl (cy 3, 1, .inr (.inr (.inr (.inl d))))) :: wM mm cy T rf sp)) (As := [.ref (a 0), .ref o]) (rest := []) ⟨hx, hb, hml, hown, hts⟩ (c_L_cursor l hlt G cy a H.size T tr o f hI) (vx_cwSW 2 hts gL_law_L_cursor rfl rfl rfl (by decide +kernel) ⟨Nat.le_of_ble_eq_true rfl, Nat.le_of_ble_eq_true rfl⟩) hPc hDc hP hK hD hS hA [10, 11, 12, 13, 14, 15, 16, 17, 18, 19, 20, 21, 22] [0, 1, 2, 3, 4, 5, 6, 7, 8, 9] rfl rfl (by decide) (by decide) hN hE rfl hl.1 (Nat.le_of_ble_eq_true rfl) dL_law_1397 ⟨hcl, hsl⟩ (fun k9 u9 H locs hw hP hD hS => ?_)
  obtain ⟨tr9, f9⟩ := u9
  obtain ⟨hw1, hw2⟩ := hw
  obtain rfl : k9 = (sp_cursor T).1 := hw1
  have hw2 : (sp_cursor T).1 = 0 → f9 0 = (sp_cursor T).2.1.toInt64 := hw2
  have hP : va_P G vwCl (wW cy mm a T rf sp ((sp_cursor T).2.2) tr9 o f9 od d) H := hP
  have hD : va_D (fun q : Nat => s.heap.size ≤ q) (wW cy mm a T rf sp ((sp_cursor T).2.2) tr9 o f9 od d) := hD
  refine lv_istore (lv' := [(6, .int (sp_cursor T).1), (0, .ref b), (1, .ref (a 0)), (2, .ref (mm 0)), (3, .ref o), (4, .ref od), (5, .int (nI i))]) hx hb dL_law_1400 hl (by decide) rfl (fun ls hl => ?_)
  refine lv_aload_n hx hb dL_law_1402 rfl (lv_at hl 3 rfl) ?_
  have hPc := hP.sub (ws' := (wM mm cy T rf sp)) [1, 2, 3, 4, 5, 6, 7, 8, 9] rfl
  have hDc := hD.sub (ws' := (wM mm cy T rf sp)) [1, 2, 3, 4, 5, 6, 7, 8, 9] (by decide) rfl
  refine mo_Vi (G := G) (wr := ((od, .inl (cy 3, 1, .inr (.inr (.inr (.inl d))))) :: wL a cy ((sp_cursor T).2.2) tr9 o f9)) (As := []) (rest := []) ⟨hx, hb, hml, hown, hts⟩ (c_X4_cursor l G cy mm H.size T rf sp hI) (cwV 0 hts gL_law_X4_cursor rfl rfl rfl (by decide +kernel) ⟨Nat.le_of_ble_eq_true rfl, Nat.le_of_ble_eq_true rfl⟩) (va_recv hK hPc (ci := 4) (q0 := 0) rfl rfl) hPc hDc hP hK hD hS hA [1, 2, 3, 4, 5, 6, 7, 8, 9] [0, 10, 11, 12, 13, 14, 15, 16, 17, 18, 19, 20, 21, 22] rfl rfl (by decide) (by decide) hN rfl hl.1 (Nat.le_of_ble_eq_true rfl) dL_law_1403 ⟨hcl, hsl⟩ (fun r_1403 u_1403 H locs hw hP hD hS => ?_)
  obtain rfl : (sp_cursor T).2.1 = r_1403 := hw
  have hP := hP.sub (ws' := (wW cy mm a ((sp_cursor T).2.2) ((sp_cursor T).1) u_1403 ((sp_cursor T).2.2) tr9 o f9 od d)) [0, 14, 15, 16, 17, 18, 19, 20, 21, 22, 1, 2, 3, 4, 5, 6, 7, 8, 9, 10, 11, 12, 13] rfl
  have hD := hD.sub (ws' := (wW cy mm a ((sp_cursor T).2.2) ((sp_cursor T).1) u_1403 ((sp_cursor T).2.2) tr9 o f9 od d)) [0, 14, 15, 16, 17, 18, 19, 20, 21, 22, 1, 2, 3, 4, 5, 6, 7, 8, 9, 10, 11, 12, 13] (by decide) rfl
  have hP : va_P G vwCl (wW cy mm a ((sp_cursor T).2.2) ((sp_cursor T).1) u_1403 ((sp_cursor T).2.2) tr9 o f9 od d) H := hP
  have hD : va_D (fun q : Nat => s.heap.size ≤ q) (wW cy mm a ((sp_cursor T).2.2) ((sp_cursor T).1) u_1403 ((sp_cursor T).2.2) tr9 o f9 od d) := hD
  refine lv_istore (lv' := [(7, .int (sp_cursor T).2.1), (6, .int (sp_cursor T).1), (0, .ref b), (1, .ref (a 0)), (2, .ref (mm 0)), (3, .ref o), (4, .ref od), (5, .int (nI i))]) hx hb dL_law_1406 hl (by decide) rfl (fun ls hl => ?_)
  refine lv_aload_n hx hb dL_law_1408 rfl (lv_at hl 4 rfl) ?_
  have hPc := hP.sub (ws' := (wM mm cy ((sp_cursor T).2.2) ((sp_cursor T).1) u_1403)) [1, 2, 3, 4, 5, 6, 7, 8, 9] rfl
  have hDc := hD.sub (ws' := (wM mm cy ((sp_cursor T).2.2) ((sp_cursor T).1) u_1403)) [1, 2, 3, 4, 5, 6, 7, 8, 9] (by decide) rfl
  refine mo_Vi (G := G) (wr := ((od, .inl (cy 3, 1, .inr (.inr (.inr (.inl d))))) :: wL a cy ((sp_cursor T).2.2) tr9 o f9)) (As := []) (rest := []) ⟨hx, hb, hml, hown, hts⟩ (c_X4_thrown l G cy mm H.size ((sp_cursor T).2.2) ((sp_cursor T).1) u_1403) (cwV 0 hts gL_law_X4_thrown rfl rfl rfl (by decide +kernel) ⟨Nat.le_of_ble_eq_true rfl, Nat.le_of_ble_eq_true rfl⟩) (va_recv hK hPc (ci := 4) (q0 := 0) rfl rfl) hPc hDc hP hK hD hS hA [1, 2, 3, 4, 5, 6, 7, 8, 9] [0, 10, 11, 12, 13, 14, 15, 16, 17, 18, 19, 20, 21, 22] rfl rfl (by decide) (by decide) hN rfl hl.1 (Nat.le_of_ble_eq_true rfl) dL_law_1409 ⟨hcl, hsl⟩ (fun r_1409 u_1409 H locs hw hP hD hS => ?_)
  obtain rfl : r_1409 = (sp_cursor T).1 := hw
  have hP := hP.sub (ws' := (wW cy mm a ((sp_cursor T).2.2) ((sp_cursor T).1) u_1403 ((sp_cursor T).2.2) tr9 o f9 od d)) [0, 14, 15, 16, 17, 18, 19, 20, 21, 22, 1, 2, 3, 4, 5, 6, 7, 8, 9, 10, 11, 12, 13] rfl
  have hD := hD.sub (ws' := (wW cy mm a ((sp_cursor T).2.2) ((sp_cursor T).1) u_1403 ((sp_cursor T).2.2) tr9 o f9 od d)) [0, 14, 15, 16, 17, 18, 19, 20, 21, 22, 1, 2, 3, 4, 5, 6, 7, 8, 9, 10, 11, 12, 13] (by decide) rfl
  have hP : va_P G vwCl (wW cy mm a ((sp_cursor T).2.2) ((sp_cursor T).1) u_1403 ((sp_cursor T).2.2) tr9 o f9 od d) H := hP
  have hD : va_D (fun q : Nat => s.heap.size ≤ q) (wW cy mm a ((sp_cursor T).2.2) ((sp_cursor T).1) u_1403 ((sp_cursor T).2.2) tr9 o f9 od d) := hD
  refine lv_iload hx hb dL_law_1412 (lv_at hl 1 rfl) ?_
  refine lv_icmp_eq (tgt := 1419) hx hb dL_law_1414 (by decide) (fun _ => ?_) (fun c_9 => absurd rfl c_9)
  refine lv_iload hx hb dL_law_1419 (lv_at hl 1 rfl) ?_
  refine lv_if_ne (tgt := 1436) hx hb dL_law_1421 (by decide) (fun c_0 => ?_) (fun c_0 => ?_)
  · skip
    refine lv_goto (tgt := 1505) hx hb dL_law_1436 (by decide) ?_
    exact kk ((sp_cursor T).2.2) ((sp_cursor T).1) u_1403 tr9 f9 d H _ ls (inv_cursor hI) hP hD hS (lv_sub hl [2, 3, 4, 5, 6, 7] rfl)
  · skip
    refine lv_aload_n hx hb dL_law_1424 rfl (lv_at hl 5 rfl) ?_
    refine lv_iconst (v := 0) hx hb dL_law_1425 (by decide) ?_
    refine ml_lald hx hb hK hP 10 1 rfl rfl 0 rfl (by decide) (by decide) ((sp_cursor T).2.1.toInt64) (hw2 c_0) dL_law_1426 ?_
    refine lv_iload hx hb dL_law_1427 (lv_at hl 0 rfl) ?_
    refine lv_i2l (v := (sp_cursor T).2.1.toInt64) hx hb dL_law_1429 rfl ?_
    refine W.lcmp hx hb dL_law_1430 ?_
    refine lv_if_eq (tgt := 1436) hx hb dL_law_1431 (by decide) (fun _ => ?_) (fun c_9 => absurd ((lg_cmp_eq _ _).mpr rfl) c_9)
    refine lv_goto (tgt := 1505) hx hb dL_law_1436 (by decide) ?_
    exact kk ((sp_cursor T).2.2) ((sp_cursor T).1) u_1403 tr9 f9 d H _ ls (inv_cursor hI) hP hD hS (lv_sub hl [2, 3, 4, 5, 6, 7] rfl)
set_option maxHeartbeats 4000000 in
set_option maxRecDepth 100000 in
theorem k_share {p : Program} {l : Launch} {e : Env} {s : State} {m : MethodId} {below : List Frame} {meth : Method} {c : Code} {b L : Nat} {xs : Nat → Int32} {G : va_G} {cy : Nat → ClassId} {mm a : Nat → Nat} {o od i cells slots : Nat} (C0 : lw_C p l s m meth c b L xs G cy) (hi : i + 5 ≤ L) (hcl : cells + 1 ≤ 1077) (hsl : slots + 6 ≤ 8842) {T : TS} {rf : Int32} {sp : Nat → Int64} {tr : Nat → Int32} {f : Nat → Int64} {d : Nat → UInt64} {H : Heap} {locs : List Loc} {ls : Array Slot} (hI : Inv T) (hP : va_P G vwCl (wW cy mm a T rf sp T tr o f od d) H) (hD : va_D (fun q : Nat => s.heap.size ≤ q) (wW cy mm a T rf sp T tr o f od d)) (hS : va_S (fun q : Nat => s.heap.size ≤ q) s.heap H locs) (hl : lv_has ls 8 [(0, .ref b), (1, .ref (a 0)), (2, .ref (mm 0)), (3, .ref o), (4, .ref od), (5, .int (nI i))]) (kk : lw_K p l e s m below meth c b G cy mm a o od i cells slots) : W p l e room_1 s m #[Value.ref b] below meth c H locs cells slots (lw_Z below #[Value.ref b] s) (F0 m 1439 ls []) := by
  obtain ⟨hL, C1, hlt, hK, hN, hE⟩ := C0
  obtain ⟨hx, hb, hr, hml, hown, hts0, hX, hbl, hlocks, hgv⟩ := C1
  have hb : c.code = cL_law := hb
  have hown : s.vm.findClass RL = some m.cls := hown
  have hts : ∀ w ∈ wsL_law, w.before #[Value.ref b] s = true := fun w h => hts0 w (wsL_law_in w h)
  have hA : ∀ q : Nat, s.heap.size ≤ q → (fun q : Nat => s.heap.size ≤ q) q := fun _ h => h
  have hbA : ¬ (fun q : Nat => s.heap.size ≤ q) b := Nat.not_le.mpr hbl
  have hcl : cells + 1 ≤ room_1.cells := hcl
  have hsl : slots + 6 ≤ room_1.slots := hsl
  refine lv_aload_n hx hb dL_law_1439 rfl (lv_at hl 1 rfl) ?_
  refine lv_aload hx hb dL_law_1440 (lv_at hl 4 rfl) ?_
  have hPc := hP.sub (ws' := (wD a cy T tr od d)) [0, 11, 12, 13, 14, 15, 16, 17, 18, 19, 20, 21, 22] rfl
  have hDc := hD.sub (ws' := (wD a cy T tr od d)) [0, 11, 12, 13, 14, 15, 16, 17, 18, 19, 20, 21, 22] (by decide) rfl
  refine mo_SWi (G := G) (wr := (wM mm cy T rf sp ++ [(o, .inl (cy 1, 1, .inr (.inl f)))])) (As := [.ref (a 0), .ref od]) (rest := []) ⟨hx, hb, hml, hown, hts⟩ (c_L_share l hlt G cy a H.size T tr od d hI) (vx_cwSW 2 hts gL_law_L_share rfl rfl rfl (by decide +kernel) ⟨Nat.le_of_ble_eq_true rfl, Nat.le_of_ble_eq_true rfl⟩) hPc hDc hP hK hD hS hA [0, 11, 12, 13, 14, 15, 16, 17, 18, 19, 20, 21, 22] [1, 2, 3, 4, 5, 6, 7, 8, 9, 10] rfl rfl (by decide) (by decide) hN hE rfl hl.1 (Nat.le_of_ble_eq_true rfl) dL_law_1442 ⟨hcl, hsl⟩ (fun k9 u9 H locs hw hP hD hS => ?_)
  obtain ⟨tr9, d9⟩ := u9
  obtain ⟨hw1, hw2⟩ := hw
  obtain rfl : k9 = (sp_share T).1 := hw1
  have hw2 : (sp_share T).1 = 0 → d9 0 = FP.f2d (sp_share T).2 := hw2
  have hP := hP.sub (ws' := (wW cy mm a T rf sp T tr9 o f od d9)) [10, 0, 1, 2, 3, 4, 5, 6, 7, 8, 9, 11, 12, 13, 14, 15, 16, 17, 18, 19, 20, 21, 22] rfl
  have hD := hD.sub (ws' := (wW cy mm a T rf sp T tr9 o f od d9)) [10, 0, 1, 2, 3, 4, 5, 6, 7, 8, 9, 11, 12, 13, 14, 15, 16, 17, 18, 19, 20, 21, 22] (by decide) rfl
  have hP : va_P G vwCl (wW cy mm a T rf sp T tr9 o f od d9) H := hP
  have hD : va_D (fun q : Nat => s.heap.size ≤ q) (wW cy mm a T rf sp T tr9 o f od d9) := hD
  refine lv_istore (lv' := [(6, .int (sp_share T).1), (0, .ref b), (1, .ref (a 0)), (2, .ref (mm 0)), (3, .ref o), (4, .ref od), (5, .int (nI i))]) hx hb dL_law_1445 hl (by decide) rfl (fun ls hl => ?_)
  refine lv_aload_n hx hb dL_law_1447 rfl (lv_at hl 3 rfl) ?_
  have hPc := hP.sub (ws' := (wM mm cy T rf sp)) [1, 2, 3, 4, 5, 6, 7, 8, 9] rfl
  have hDc := hD.sub (ws' := (wM mm cy T rf sp)) [1, 2, 3, 4, 5, 6, 7, 8, 9] (by decide) rfl
  refine mo_Vf (G := G) (wr := ((od, .inl (cy 3, 1, .inr (.inr (.inr (.inl d9))))) :: wL a cy T tr9 o f)) (As := []) (rest := []) ⟨hx, hb, hml, hown, hts⟩ (c_X4_share l G cy mm H.size T rf sp hI) (cwV 0 hts gL_law_X4_share rfl rfl rfl (by decide +kernel) ⟨Nat.le_of_ble_eq_true rfl, Nat.le_of_ble_eq_true rfl⟩) (va_recv hK hPc (ci := 4) (q0 := 0) rfl rfl) hPc hDc hP hK hD hS hA [1, 2, 3, 4, 5, 6, 7, 8, 9] [0, 10, 11, 12, 13, 14, 15, 16, 17, 18, 19, 20, 21, 22] rfl rfl (by decide) (by decide) hN rfl hl.1 (Nat.le_of_ble_eq_true rfl) dL_law_1448 ⟨hcl, hsl⟩ (fun r_1448 u_1448 H locs hw hP hD hS => ?_)
  obtain rfl : (sp_share T).2 = r_1448 := hw
  have hP := hP.sub (ws' := (wW cy mm a T ((sp_share T).1) sp T tr9 o f od d9)) [0, 14, 15, 16, 17, 18, 19, 20, 21, 22, 1, 2, 3, 4, 5, 6, 7, 8, 9, 10, 11, 12, 13] rfl
  have hD := hD.sub (ws' := (wW cy mm a T ((sp_share T).1) sp T tr9 o f od d9)) [0, 14, 15, 16, 17, 18, 19, 20, 21, 22, 1, 2, 3, 4, 5, 6, 7, 8, 9, 10, 11, 12, 13] (by decide) rfl
  have hP : va_P G vwCl (wW cy mm a T ((sp_share T).1) sp T tr9 o f od d9) H := hP
  have hD : va_D (fun q : Nat => s.heap.size ≤ q) (wW cy mm a T ((sp_share T).1) sp T tr9 o f od d9) := hD
  refine lv_fstore (lv' := [(7, .float (sp_share T).2), (6, .int (sp_share T).1), (0, .ref b), (1, .ref (a 0)), (2, .ref (mm 0)), (3, .ref o), (4, .ref od), (5, .int (nI i))]) hx hb dL_law_1451 hl (by decide) rfl (fun ls hl => ?_)
  refine lv_aload_n hx hb dL_law_1453 rfl (lv_at hl 4 rfl) ?_
  have hPc := hP.sub (ws' := (wM mm cy T ((sp_share T).1) sp)) [1, 2, 3, 4, 5, 6, 7, 8, 9] rfl
  have hDc := hD.sub (ws' := (wM mm cy T ((sp_share T).1) sp)) [1, 2, 3, 4, 5, 6, 7, 8, 9] (by decide) rfl
  refine mo_Vi (G := G) (wr := ((od, .inl (cy 3, 1, .inr (.inr (.inr (.inl d9))))) :: wL a cy T tr9 o f)) (As := []) (rest := []) ⟨hx, hb, hml, hown, hts⟩ (c_X4_thrown l G cy mm H.size T ((sp_share T).1) sp) (cwV 0 hts gL_law_X4_thrown rfl rfl rfl (by decide +kernel) ⟨Nat.le_of_ble_eq_true rfl, Nat.le_of_ble_eq_true rfl⟩) (va_recv hK hPc (ci := 4) (q0 := 0) rfl rfl) hPc hDc hP hK hD hS hA [1, 2, 3, 4, 5, 6, 7, 8, 9] [0, 10, 11, 12, 13, 14, 15, 16, 17, 18, 19, 20, 21, 22] rfl rfl (by decide) (by decide) hN rfl hl.1 (Nat.le_of_ble_eq_true rfl) dL_law_1454 ⟨hcl, hsl⟩ (fun r_1454 u_1454 H locs hw hP hD hS => ?_)
  obtain rfl : r_1454 = (sp_share T).1 := hw
  have hP := hP.sub (ws' := (wW cy mm a T ((sp_share T).1) sp T tr9 o f od d9)) [0, 14, 15, 16, 17, 18, 19, 20, 21, 22, 1, 2, 3, 4, 5, 6, 7, 8, 9, 10, 11, 12, 13] rfl
  have hD := hD.sub (ws' := (wW cy mm a T ((sp_share T).1) sp T tr9 o f od d9)) [0, 14, 15, 16, 17, 18, 19, 20, 21, 22, 1, 2, 3, 4, 5, 6, 7, 8, 9, 10, 11, 12, 13] (by decide) rfl
  have hP : va_P G vwCl (wW cy mm a T ((sp_share T).1) sp T tr9 o f od d9) H := hP
  have hD : va_D (fun q : Nat => s.heap.size ≤ q) (wW cy mm a T ((sp_share T).1) sp T tr9 o f od d9) := hD
  refine lv_iload hx hb dL_law_1457 (lv_at hl 1 rfl) ?_
  refine lv_icmp_eq (tgt := 1464) hx hb dL_law_1459 (by decide) (fun _ => ?_) (fun c_9 => absurd rfl c_9)
  refine lv_iload hx hb dL_law_1464 (lv_at hl 1 rfl) ?_
  refine lv_if_ne (tgt := 1502) hx hb dL_law_1466 (by decide) (fun c_0 => ?_) (fun c_0 => ?_)
  · skip
    refine lv_goto (tgt := 1505) hx hb dL_law_1502 (by decide) ?_
    exact kk T ((sp_share T).1) sp tr9 f d9 H _ ls hI hP hD hS (lv_sub hl [2, 3, 4, 5, 6, 7] rfl)
  · skip
    refine lv_aload hx hb dL_law_1469 (lv_at hl 6 rfl) ?_
    refine lv_iconst (v := 0) hx hb dL_law_1471 (by decide) ?_
    refine va_dald hx hb hK hP 0 3 rfl rfl (vp_in_nI (n := 0) (by decide) (by decide)) dL_law_1472 ?_
    refine lv_fload hx hb dL_law_1473 (lv_at hl 0 rfl) ?_
    refine lv_f2d hx hb dL_law_1475 (sh_n64 c_0).1 ?_
    refine lv_dcmp hx hb dL_law_1476 ?_
    refine ml_eqi 0 (by rw [show d9 (0 : Int32).toNatClampNeg = d9 0 from rfl, hw2 c_0]; exact (sh_n64 c_0).2) ?_
    refine lv_if_eq (tgt := 1502) hx hb dL_law_1477 (by decide) (fun _ => ?_) (fun c_9 => absurd rfl c_9)
    refine lv_goto (tgt := 1505) hx hb dL_law_1502 (by decide) ?_
    exact kk T ((sp_share T).1) sp tr9 f d9 H _ ls hI hP hD hS (lv_sub hl [2, 3, 4, 5, 6, 7] rfl)
