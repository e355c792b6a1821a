/-! a ledger between two changes; what the law's other calls do -/
def Rc (T : TS) (r : Nat) : Prop := ∀ k, 1 ≤ k → k ≤ r → ¬ drf T k
def RS (K C O X0 : Nat → Int32) (pr : Nat → Prop) (n lv t : Nat) (T : TS) : Prop := Inv T ∧ Lst K C O n T ∧ Cnt (hist K C O X0) pr T ∧ LK t T ∧ tac T = 0 ∧ tlv T = lv ∧ Rc T lv
/-- a ledger with a change under way -/
def RA (K C O X0 : Nat → Int32) (pr : Nat → Prop) (n t : Nat) (w : Nat) (T : TS) : Prop := Inv T ∧ Lst K C O n T ∧ Cnt (hist K C O X0) pr T ∧ LK t T ∧ tac T ≠ 0 ∧ Rc T (gl T (tac T = 3)) ∧ cL T (gl T (tac T = 3)) = 0 ∧ has T (nI w)
theorem rc_eq {T T2 : TS} (h1 : tK T2 = tK T) (h2 : tC T2 = tC T) (h3 : tO T2 = tO T) (h4 : tR T2 = tR T) {r : Nat} (h : Rc T r) : Rc T2 r := fun k a b => by
  unfold drf sumOf
  rw [h1, h2, h3, h4]
  exact h k a b
theorem fd_0 {T : TS} : ∀ r k, (∀ j, k + 1 ≤ j → j ≤ k + r → ¬ drf T j) → fdU T r k = 0 := by
  intro r
  induction r with
  | zero => exact fun _ _ => rfl
  | succ r ih =>
    intro k h
    show cif (drf T (k + 1)) (nI (k + 1)) (fdU T r (k + 1)) = 0
    rw [cif_f (h (k + 1) (by omega) (by omega))]
    exact ih (k + 1) (fun j a b => h j (by omega) (by omega))
theorem fdr_0 {T : TS} {r : Nat} (h : Rc T r) (hl : tlv T = r) : fdr T = 0 := by
  unfold fdr
  rw [hl]
  exact fd_0 r 0 (fun j a b => h j (by omega) (by omega))
theorem lk_le {t t2 : Nat} {T : TS} (h : LK t T) (ht : t ≤ t2) : LK t2 T := ⟨h.1, h.2.1, by
  obtain ⟨q, a, b⟩ := h.2.2
  exact ⟨q, by omega, b⟩⟩
theorem lk_pos {t : Nat} {T : TS} (h : LK t T) (ht : t ≤ 1000000) {e : Nat} (he : 1 ≤ e ∧ e ≤ 100) : ¬ ttm T + nI e ≤ 0 := by
  obtain ⟨q, a, b⟩ := h.2.2
  rw [b, nI_add]
  exact nI_nle (by omega) (by omega)
theorem q0_value {T : TS} {j c : Nat} (hj : j < 40) (hc : c < 3) (h : tV T j ≠ -1) : sp_value T (nI j) (nI c) = (0, tX T (3 * j + c), T) := by
  have hc2 : inR (nI c) 0 2 := ⟨(nI_leI (a := 0) (by decide) (by omega)).mpr (Nat.zero_le c), (nI_leI (b := 2) (by omega) (by decide)).mpr (by omega)⟩
  unfold sp_value
  rw [cif_f (fun q => q ⟨id39 j hj, hc2⟩), ix_n (by omega), ix_n (by omega), cif_f h]
theorem q0_rowsAt {T : TS} {v : Nat} (hv : v ≤ 12) : sp_rowsAt T (nI v) = (0, nI (cL T v), T) := by
  unfold sp_rowsAt
  exact cif_f (fun q => q ⟨(nI_leI (a := 0) (by decide) (by omega)).mpr (Nat.zero_le v), (nI_leI (b := 12) (by omega) (by decide)).mpr hv⟩)
theorem lw_ok {k c o : Int32} (h : lawOp k c o) : okCh k c o := by
  have e9 : (-1000 : Int32).toInt = -1000 := by decide
  have e8 : (1000 : Int32).toInt = 1000 := by decide
  have e7 : (-9 : Int32).toInt = -9 := by decide
  have e6 : (9 : Int32).toInt = 9 := by decide
  rcases h with ⟨rfl, hc, ho⟩ | ⟨rfl, hc, ho⟩ | ⟨rfl, hc, ho, hne⟩
  · refine ⟨by decide, hc, Or.inl ⟨rfl, ?_, ?_⟩⟩
    · exact Int32.le_iff_toInt_le.mpr (by rw [e9]; unfold bn at ho; omega)
    · exact Int32.le_iff_toInt_le.mpr (by rw [e8]; unfold bn at ho; omega)
  · refine ⟨by decide, hc, Or.inr (Or.inl ⟨rfl, ⟨?_, ?_⟩, ?_⟩)⟩
    · exact Int32.le_iff_toInt_le.mpr (by rw [e7]; omega)
    · exact Int32.le_iff_toInt_le.mpr (by rw [e6]; omega)
    · intro q
      rw [q, show (0 : Int32).toInt = 0 by decide] at ho
      omega
  · exact ⟨by decide, hc, Or.inr (Or.inr ⟨by decide, by decide, ho, hne⟩)⟩
theorem lo_0 {kd cl a : Nat} (h : nI kd = 0) (hcl : cl < 3) (ha : a ≤ 200) : lawOp (nI kd) (nI cl) (nI a - 100) := by
  refine Or.inl ⟨h, ⟨(nI_leI (a := 0) (by decide) (by omega)).mpr (Nat.zero_le cl), (nI_leI (b := 2) (by omega) (by decide)).mpr (by omega)⟩, ?_⟩
  have e := pk_sub_toInt (a := a) (b := 100) (by omega) (by decide)
  have e : (nI a - 100).toInt = (a : Int) - 100 := e
  unfold bn
  rw [e]
  omega
theorem lo_1 {kd cl a : Nat} (h : nI kd = 1) (hcl : cl < 3) (ha : a < 3) : lawOp (nI kd) (nI cl) (nI (a + 1)) := by
  refine Or.inr (Or.inl ⟨h, ⟨(nI_leI (a := 0) (by decide) (by omega)).mpr (Nat.zero_le cl), (nI_leI (b := 2) (by omega) (by decide)).mpr (by omega)⟩, ?_⟩)
  rw [nI_toInt (by omega)]
  omega
theorem lo_2a : ∀ cl, cl < 3 → ∀ a, a < 2 → inR (nI cl) 0 2 ∧ inR (nI ((cl + 1 + a) % 3)) 0 2 ∧ nI ((cl + 1 + a) % 3) ≠ nI cl := by decide +kernel
theorem lo_2b : ∀ kd, kd < 3 → ¬ nI kd = 0 → ¬ nI kd = 1 → nI kd = 2 := by decide +kernel
theorem lo_2 {kd cl a : Nat} (h0 : ¬ nI kd = 0) (h1 : ¬ nI kd = 1) (hk : kd < 3) (hcl : cl < 3) (ha : a < 2) : lawOp (nI kd) (nI cl) (nI ((cl + 1 + a) % 3)) :=
  Or.inr (Or.inr ⟨lo_2b kd hk h0 h1, lo_2a cl hcl a ha⟩)
theorem hist_cg {K C O K2 C2 O2 X0 : Nat → Int32} : ∀ v, (∀ k, 1 ≤ k → k ≤ v → K2 k = K k ∧ C2 k = C k ∧ O2 k = O k) → hist K2 C2 O2 X0 v = hist K C O X0 v := by
  intro v
  induction v with
  | zero => exact fun _ => rfl
  | succ v ih =>
    intro h
    obtain ⟨e1, e2, e3⟩ := h (v + 1) (by omega) (Nat.le_refl _)
    funext i
    show opF (K2 (v + 1)) (C2 (v + 1)) (O2 (v + 1)) (fun q => hist K2 C2 O2 X0 v (3 * (i / 3) + q)) (i % 3) = opF (K (v + 1)) (C (v + 1)) (O (v + 1)) (fun q => hist K C O X0 v (3 * (i / 3) + q)) (i % 3)
    rw [e1, e2, e3, ih (fun k a b => h k a (by omega))]
section PLN4
variable {K C O X0 : Nat → Int32} {pr : Nat → Prop} {n : Nat}
theorem pln_add (hp : Pln K C O X0 pr n) (hn : n < 8) {kd cl op : Int32} (h : lawOp kd cl op) : Pln (upd K (n + 1) kd) (upd C (n + 1) cl) (upd O (n + 1) op) X0 pr (n + 1) := by
  refine ⟨by omega, fun k a b => ?_, hp.2.2⟩
  by_cases e : k = n + 1
  · rw [e, pk_us, pk_us, pk_us]; exact h
  · rw [pk_un e, pk_un e, pk_un e]; exact hp.2.1 k a (by omega)
theorem rs_le {lv t t2 : Nat} {T : TS} (h : RS K C O X0 pr n lv t T) (ht : t ≤ t2) : RS K C O X0 pr n lv t2 T := ⟨h.1, h.2.1, h.2.2.1, lk_le h.2.2.2.1 ht, h.2.2.2.2⟩
theorem rs_lv {lv t : Nat} {T : TS} (h : RS K C O X0 pr n lv t T) : lv ≤ n ∧ n ≤ 12 := by
  have a := h.1.1.2.1
  have b := h.1.1.1
  have c := h.2.1.1
  have d := h.2.2.2.2.2.1
  omega
theorem rs_V {lv t : Nat} {T : TS} (h : RS K C O X0 pr n lv t T) {j : Nat} (hj : j < 40) : (pr j ∧ tV T j = nI lv) ∨ (¬ pr j ∧ tV T j = -1) := by
  have hl := rs_lv h
  rcases h.1.2.2.2.2.2.1 j hj with e | e | ⟨q, -⟩
  · exact Or.inr ⟨fun p => ((h.2.2.1.1 j hj).mpr p) e, e⟩
  · rw [h.2.2.2.2.2.1] at e
    exact Or.inl ⟨(h.2.2.1.1 j hj).mp (by rw [e]; exact nI_m1 (by omega)), e⟩
  · exact absurd h.2.2.2.2.1 q
theorem rs_X {lv t : Nat} {T : TS} (h : RS K C O X0 pr n lv t T) {j : Nat} (hj : j < 40) (hpr : pr j) {q : Nat} (hq : q < 3) : tX T (3 * j + q) = hist K C O X0 lv (3 * j + q) := by
  have hl := rs_lv h
  rcases rs_V h hj with ⟨-, e⟩ | ⟨e, -⟩
  · exact h.2.2.1.2 j hj lv (by omega) e q hq
  · exact absurd hpr e
theorem rs_np {lv t : Nat} {T : TS} (h : RS K C O X0 pr n lv t T) : cL T lv = NP pr := by
  rw [← h.2.2.2.2.2.1]
  exact cL_all h.2.2.1 h.1 h.2.2.2.2.1
theorem rs_none {lv t g : Nat} {T : TS} (h : RS K C O X0 pr n lv t T) (hg : g ≤ 13) (hne : g ≠ lv) : cL T g = 0 := by
  have hl := rs_lv h
  refine cnt_none 40 (fun j hj q => ?_)
  have q : tV T j = nI g := q
  rcases rs_V h hj with ⟨-, e⟩ | ⟨-, e⟩
  · exact hne ((nI_eq (by omega) (by omega)).mp (q.symm.trans e))
  · exact nI_m1 (n := g) (by omega) (q.symm.trans e)
theorem rs_add {t : Nat} {T : TS} (h : RS K C O X0 pr n n t T) (hn : n < 8) {kd cl op : Int32} (hlo : lawOp kd cl op) :
    ∃ T2 : TS, sp_addChange T kd cl op = (0, nI (n + 1), T2) ∧ RS (upd K (n + 1) kd) (upd C (n + 1) cl) (upd O (n + 1) op) X0 pr (n + 1) n t T2 ∧ tho T2 = tho T := by
  obtain ⟨hI, hl, hc, hk, ha, hlv, hr⟩ := h
  have htn := hl.1
  have es : sp_addChange T kd cl op = (0, nI (tn T + 1), putC (un T (tn T + 1)) (tn T + 1) kd cl op) := by
    unfold sp_addChange
    rw [cif_f (fun q => q (lw_ok hlo)), cif_f (by omega)]
  have hinv := inv_addChange hI kd cl op
  rw [es] at hinv
  rw [htn] at es hinv
  refine ⟨_, es, ⟨hinv, ⟨rfl, fun k a b => ?_⟩, ⟨hc.1, fun j hj v hv ev q hq => ?_⟩, hk, ha, hlv, fun k a b => ?_⟩, rfl⟩
  · show upd (tK T) (n + 1) kd k = _ ∧ upd (tC T) (n + 1) cl k = _ ∧ upd (tO T) (n + 1) op k = _
    by_cases e : k = n + 1
    · rw [e, pk_us, pk_us, pk_us, pk_us, pk_us, pk_us]; exact ⟨rfl, rfl, rfl⟩
    · rw [pk_un e, pk_un e, pk_un e, pk_un e, pk_un e, pk_un e]; exact hl.2 k a (by omega)
  · have ev : tV T j = nI v := ev
    have hvn : v ≤ n := by
      rcases hI.2.2.2.2.2.1 j hj with q9 | q9 | ⟨q9, -⟩
      · exact absurd (ev.symm.trans q9) (nI_m1 (by omega))
      · have := (nI_eq (a := v) (b := tlv T) (by omega) (by have := hI.1; omega)).mp (ev.symm.trans q9)
        omega
      · exact absurd ha q9
    rw [hist_cg v (fun k a b => by
      have e : k ≠ n + 1 := by omega
      rw [pk_un e, pk_un e, pk_un e]; exact ⟨rfl, rfl, rfl⟩)]
    exact hc.2 j hj v hv ev q hq
  · have e : k ≠ n + 1 := by omega
    have h9 := hr k a b
    unfold drf sumOf at h9 ⊢
    show ¬ (sumM (sumE (upd (tK T) (n + 1) kd k) (upd (tC T) (n + 1) cl k) (upd (tO T) (n + 1) op k) (nI k)) ≠ tR T k)
    rw [pk_un e, pk_un e, pk_un e]
    exact h9
theorem rs_take {lv t w e : Nat} {T : TS} (h : RS K C O X0 pr n lv t T) (ht : t ≤ 1000000) (hw : w < 4) (he : 1 ≤ e ∧ e ≤ 100) (ho : ¬ (isHeld T ∧ tho T ≠ nI w)) :
    ∃ (T2 : TS) (v : Int32), sp_take T (nI w) (nI e) = (0, v, T2) ∧ ¬ v ≤ 0 ∧ RS K C O X0 pr n lv t T2 ∧ has T2 (nI w) ∧ tho T2 = nI w := by
  obtain ⟨e1, e2, e3⟩ := lk_take h.2.2.2.1 ht hw he ho
  exact ⟨_, _, e1, lk_pos h.2.2.2.1 ht he, ⟨h.1, h.2.1, h.2.2.1, e2, h.2.2.2.2⟩, e3, rfl⟩
theorem rs_begin {lv t w : Nat} {T : TS} (h : RS K C O X0 pr n lv t T) (hlv : lv < n) (hw : w < 4) (hh : has T (nI w)) :
    ∃ T2 : TS, sp_begin T (nI w) = (0, nI (lv + 1), T2) ∧ RA K C O X0 pr n t w T2 ∧ tac T2 = 1 ∧ tlv T2 = lv ∧ tho T2 = tho T := by
  have hnn := rs_lv h
  have hcl := rs_none h (g := lv + 1) (by omega) (by omega)
  obtain ⟨hI, hl, hc, hk, ha, hlv2, hr⟩ := h
  have htn := hl.1
  have es : sp_begin T (nI w) = (0, nI (tlv T + 1), uR (ucu (uac T 1) 0) (upd (tR T) (tlv T + 1) (sumOf T (tlv T + 1)))) := by
    unfold sp_begin
    rw [cif_f (fun q => q (id3 w hw)), cif_f]
    rintro ((q | q) | q | q | q)
    · exact lk_crd hk hw q
    · exact q hh
    · exact q ha
    · exact q (fdr_0 hr hlv2)
    · omega
  have hinv := inv_begin hI (nI w)
  rw [es] at hinv
  rw [hlv2] at es hinv
  have hg : gl (uR (ucu (uac T 1) 0) (upd (tR T) (lv + 1) (sumOf T (lv + 1)))) (tac (uR (ucu (uac T 1) 0) (upd (tR T) (lv + 1) (sumOf T (lv + 1)))) = 3) = lv + 1 := by
    unfold gl
    rw [cif_f (show ¬ ((1 : Int32) = 3) by decide)]
    show tlv T + 1 = lv + 1
    omega
  refine ⟨_, es, ⟨hinv, hl, hc, hk, (show ¬ ((1 : Int32) = 0) by decide), ?_, ?_, hh⟩, rfl, hlv2, rfl⟩
  · rw [hg]
    intro k a b
    show ¬ (sumOf T k ≠ upd (tR T) (lv + 1) (sumOf T (lv + 1)) k)
    by_cases e : k = lv + 1
    · rw [e, pk_us]; exact fun q => q rfl
    · rw [pk_un e]; exact hr k a (by omega)
  · rw [hg]; exact hcl
theorem rs_undo {lv t w : Nat} {T : TS} (h : RS K C O X0 pr n (lv + 1) t T) (hw : w < 4) (hh : has T (nI w)) :
    ∃ T2 : TS, sp_undo T (nI w) = (0, nI (lv + 1), T2) ∧ RA K C O X0 pr n t w T2 ∧ tac T2 = 3 ∧ tlv T2 = lv ∧ tho T2 = tho T := by
  have hnn := rs_lv h
  have hcl := rs_none h (g := lv) (by omega) (by omega)
  obtain ⟨hI, hl, hc, hk, ha, hlv2, hr⟩ := h
  have htn := hl.1
  have hU : lvU T = lv := by unfold lvU; rw [cif_t ha]; omega
  have es : sp_undo T (nI w) = (0, nI (lvU T + 1), ucu (uac (ulv T (lvU T)) 3) 40) := by
    unfold sp_undo
    rw [cif_f (fun q => q (id3 w hw)), cif_f]
    rintro ((q | q) | q | ⟨-, q | q⟩)
    · exact lk_crd hk hw q
    · exact q hh
    · rw [ha] at q; exact absurd q (by decide)
    · omega
    · rw [hlv2] at q; exact hr (lv + 1) (by omega) (Nat.le_refl _) q
  have hinv := inv_undo hI (nI w)
  rw [es] at hinv
  rw [hU] at es hinv
  have hg : gl (ucu (uac (ulv T lv) 3) 40) (tac (ucu (uac (ulv T lv) 3) 40) = 3) = lv := by
    unfold gl
    rw [cif_t (show (3 : Int32) = 3 from rfl)]
  refine ⟨_, es, ⟨hinv, hl, hc, hk, (show ¬ ((3 : Int32) = 0) by decide), ?_, ?_, hh⟩, rfl, rfl, rfl⟩
  · rw [hg]
    exact fun k a b => hr k a (by omega)
  · rw [hg]; exact hcl
theorem rs_step (hp : Pln K C O X0 pr n) {t w : Nat} {T : TS} (h : RA K C O X0 pr n t w T) (hw : w < 4) :
    ∃ T2 : TS, sp_step T (nI w) (nI 40) (nI 0) = (0, nI (NP pr), T2) ∧ RS K C O X0 pr n (gl T (tac T = 3)) t T2 ∧ tho T2 = tho T := by
  obtain ⟨hI, hl, hc, hk, ha, hr, hcl, hh⟩ := h
  obtain ⟨ch, T2, es, hI2, hc2, hk2, hch, hcl2, hcase⟩ := step_all hp hl hI hc ha hw (b := 40) (c := 0) (by decide) (by decide) (hk.1 w hw) hh
  have hlf : left T (tac T = 3) ≤ 40 := left_le hI.1.2.2
  rcases hcase with ⟨q, -⟩ | ⟨-, q2, ⟨q3, q4, -⟩ | ⟨-, -, -, q⟩⟩
  · exact absurd q (Nat.lt_irrefl 0)
  · have hnp := cL_all hc2 hI2 q3
    rw [q4, hcl2, hcl] at hnp
    have e : ch = NP pr := by omega
    rw [e] at es
    refine ⟨T2, es, ⟨hI2, lst_keep hl hk2, hc2, ⟨fun j hj => by rw [q2]; exact hk.1 j hj, ?_, ?_⟩, q3, q4, rc_eq hk2.2.1 hk2.2.2.1 hk2.2.2.2.1 hk2.2.2.2.2.1 hr⟩, hk2.2.2.2.2.2.2.1⟩
    · rw [hk2.2.2.2.2.2.2.1]; exact hk.2.1
    · rw [hk2.2.2.2.2.2.1]; exact hk.2.2
  · omega
theorem rs_ci {t0 i w : Nat} {T0 T : TS} {v : Int32} (h0 : RA K C O X0 pr n t0 w T0) (h : CI K C O X0 pr n T0 t0 i T v) (hi : i ≤ 81) (ha : tac T = 0) : RS K C O X0 pr n (gl T0 (tac T0 = 3)) (t0 + 324) T := by
  obtain ⟨-, -, -, -, g5, g6, -, -⟩ := h0
  obtain ⟨h1, h2, h3, h4, h5, h6, h7⟩ := h
  refine ⟨h1, h2, h3, lk_le h4 (by omega), ha, ?_, rc_eq h5.1 h5.2.1 h5.2.2.1 h5.2.2.2.1 g6⟩
  rcases h7 with ⟨a1, -⟩ | ⟨-, q, -⟩
  · exact absurd (a1.symm.trans ha) g5
  · exact q
theorem ra_ci {t w : Nat} {T : TS} (h : RA K C O X0 pr n t w T) : CI K C O X0 pr n T t 0 T 0 := ci_start h.1 h.2.1 h.2.2.1 h.2.2.2.1 h.2.2.2.2.2.2.1
/-- two ledgers that are alike -/
def AL (T S : TS) : Prop := tlv T = tlv S ∧ tn T = tn S ∧ fdr T = fdr S ∧ ∀ j, j < 40 → tV T j = tV S j ∧ (tV T j ≠ -1 → ∀ q, q < 3 → tX T (3 * j + q) = tX S (3 * j + q))
theorem rs_al {lv t s : Nat} {T S : TS} (h : RS K C O X0 pr n lv t T) (h2 : RS K C O X0 pr n lv s S) : AL T S := by
  refine ⟨h.2.2.2.2.2.1.trans h2.2.2.2.2.2.1.symm, h.2.1.1.trans h2.2.1.1.symm, (fdr_0 h.2.2.2.2.2.2 h.2.2.2.2.2.1).trans (fdr_0 h2.2.2.2.2.2.2 h2.2.2.2.2.2.1).symm, fun j hj => ?_⟩
  rcases rs_V h hj with ⟨p, e⟩ | ⟨p, e⟩
  · rcases rs_V h2 hj with ⟨-, e2⟩ | ⟨p2, -⟩
    · exact ⟨e.trans e2.symm, fun _ q hq => (rs_X h hj p hq).trans (rs_X h2 hj p hq).symm⟩
    · exact absurd p p2
  · rcases rs_V h2 hj with ⟨p2, -⟩ | ⟨-, e2⟩
    · exact absurd p2 p
    · exact ⟨e.trans e2.symm, fun q => absurd e q⟩
theorem brD_hist (hp : Pln K C O X0 pr n) {T : TS} (hl : Lst K C O n T) {j : Nat} (hj : j < 40) (hpr : pr j) : ∀ d k row, d ≤ k → k ≤ n → (∀ q, q < 3 → row q = hist K C O X0 k (3 * j + q)) → ∃ w, brD T d k row = some w ∧ ∀ q, q < 3 → w q = hist K C O X0 (k - d) (3 * j + q) := by
  intro d
  induction d with
  | zero => exact fun k row _ _ h => ⟨row, rfl, h⟩
  | succ d ih =>
    intro k row hd hk h
    obtain ⟨k9, rfl⟩ : ∃ k9, k = k9 + 1 := ⟨k - 1, by omega⟩
    obtain ⟨w, e, hw⟩ := ap_dn hp hl hk hj hpr h
    rw [brD_s e]
    obtain ⟨w2, e2, hw2⟩ := ih k9 w (by omega) (by omega) hw
    exact ⟨w2, e2, by rw [show k9 + 1 - (d + 1) = k9 - d by omega]; exact hw2⟩
theorem rs_valueAt (hp : Pln K C O X0 pr n) {lv t : Nat} {T : TS} (h : RS K C O X0 pr n lv t T) {j c v : Nat} (hj : j < 40) (hpr : pr j) (hc : c < 3) (hv : v ≤ lv) : sp_valueAt T (nI j) (nI c) (nI v) = (0, hist K C O X0 v (3 * j + c), T) := by
  have hl := rs_lv h
  have hc2 : inR (nI c) 0 2 := ⟨(nI_leI (a := 0) (by decide) (by omega)).mpr (Nat.zero_le c), (nI_leI (b := 2) (by omega) (by decide)).mpr (by omega)⟩
  have hv2 : inR (nI v) 0 (nI (tn T)) := by
    have e := h.2.1.1
    exact ⟨(nI_leI (a := 0) (by decide) (by omega)).mpr (Nat.zero_le v), (nI_leI (by omega) (by omega)).mpr (by omega)⟩
  have hV : tV T j = nI lv := by
    rcases rs_V h hj with ⟨-, e⟩ | ⟨e, -⟩
    · exact e
    · exact absurd hpr e
  obtain ⟨w, e, hw⟩ := brD_hist hp h.2.1 hj hpr (lv - v) lv (rowOf T j) (by omega) (by omega) (fun q hq => rs_X h hj hpr hq)
  have eb : bring T (rowOf T j) lv v = some w := by
    rw [bring_s (row2 := rowOf T j) (by rw [show v - lv = 0 by omega]; rfl)]
    exact e
  have ew : w c = hist K C O X0 v (3 * j + c) := by rw [hw c hc, show lv - (lv - v) = v by omega]
  unfold sp_valueAt
  rw [cif_f (fun q => q ⟨id39 j hj, hc2, hv2⟩), ix_n (j := j) (by omega), hV, cif_f (nI_m1 (by omega)), ix_n (j := lv) (by omega), ix_n (j := v) (by omega), eb]
  show (0, w (ix (nI c)), T) = _
  rw [ix_n (by omega), ew]
end PLN4
