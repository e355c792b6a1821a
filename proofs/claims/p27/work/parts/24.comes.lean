/-! what the loop of comes keeps -/
noncomputable def NP (pr : Nat → Prop) : Nat := cntV (fun j => cif (pr j) 0 (-1)) (fun y => y ≠ -1) 40
def KR (T0 T : TS) : Prop := tK T = tK T0 ∧ tC T = tC T0 ∧ tO T = tO T0 ∧ tR T = tR T0 ∧ tn T = tn T0
/-- nobody has crashed; who has the lock is a worker or nobody; the time isn't far -/
def LK (t : Nat) (T : TS) : Prop := (∀ j, j < 4 → tcr T j = 0) ∧ (tho T = -1 ∨ ∃ w, w < 4 ∧ tho T = nI w) ∧ ∃ q, q ≤ t ∧ ttm T = nI q
theorem q2_restart {T : TS} {w : Int32} (hq : inR w 0 3) (h2 : ¬ crd T w) : sp_restart T w = (2, 0, T) := by
  unfold sp_restart
  rw [cif_f (fun q => q hq)]
  exact cif_t h2
theorem q0_restart {T : TS} {w : Nat} (hw : w < 4) (hc : tcr T w ≠ 0) (hh : has T (nI w)) : sp_restart T (nI w) = (0, 1, ucr T (upd (tcr T) w 0)) := by
  unfold sp_restart
  rw [cif_f (fun q => q (id3 w hw)), cif_f (fun q => q ((crd_n (by omega)).mpr hc)), ix_n (by omega), b2i_t hh]
theorem q0_pass {T : TS} {p : Nat} (hp : 1 ≤ p ∧ p ≤ 1000) : sp_pass T (nI p) = (0, ttm T + nI p, utm T (ttm T + nI p)) := by
  unfold sp_pass
  exact cif_f (fun q => q ⟨(nI_leI (a := 1) (by decide) (by omega)).mpr hp.1, (nI_leI (b := 1000) (by omega) (by decide)).mpr hp.2⟩)
theorem q0_cursor {T : TS} (ha : tac T ≠ 0) : sp_cursor T = (0, nI (tcu T), T) := by unfold sp_cursor; exact cif_f ha
theorem q1_cursor {T : TS} (ha : tac T = 0) : sp_cursor T = (1, 0, T) := by unfold sp_cursor; exact cif_t ha
theorem lk_crd {t : Nat} {T : TS} (h : LK t T) {w : Nat} (hw : w < 4) : ¬ crd T (nI w) := fun q => (crd_n (by omega)).mp q (h.1 w hw)
theorem lk_own {t : Nat} {T : TS} (h : LK t T) (ho : ¬ owner T < 0) : ∃ w, w < 4 ∧ owner T = nI w ∧ has T (nI w) := by
  by_cases ht : ttm T < tle T
  · have e : owner T = tho T := by unfold owner; exact cif_t ht
    rw [e] at ho
    rcases h.2.1 with q | ⟨w, hw, q⟩
    · exact absurd (by rw [q]; decide) ho
    · exact ⟨w, hw, e.trans q, ⟨by rw [q]; exact nI_m1 (by omega), ht⟩, q⟩
  · have e : owner T = -1 := by unfold owner; exact cif_f ht
    rw [e] at ho
    exact absurd (by decide) ho
theorem lk_neg {t : Nat} {T : TS} (h : LK t T) (ho : owner T < 0) : owner T = -1 := by
  by_cases ht : ttm T < tle T
  · have e : owner T = tho T := by unfold owner; exact cif_t ht
    rcases h.2.1 with q | ⟨w, hw, q⟩
    · exact e.trans q
    · rw [e, q] at ho
      exact absurd ho (nI_pos (by omega))
  · unfold owner; exact cif_f ht
theorem lk_take {t : Nat} {T : TS} (h : LK t T) (ht : t ≤ 1000000) {w e : Nat} (hw : w < 4) (he : 1 ≤ e ∧ e ≤ 100) (ho : ¬ (isHeld T ∧ tho T ≠ nI w)) :
    sp_take T (nI w) (nI e) = (0, ttm T + nI e, ule (uho T (nI w)) (ttm T + nI e)) ∧ LK t (ule (uho T (nI w)) (ttm T + nI e)) ∧ has (ule (uho T (nI w)) (ttm T + nI e)) (nI w) := by
  refine ⟨?_, ⟨h.1, Or.inr ⟨w, hw, rfl⟩, h.2.2⟩, ⟨nI_m1 (by omega), ?_⟩, rfl⟩
  · unfold sp_take
    rw [cif_f (fun q => q ⟨id3 w hw, (nI_leI (a := 1) (by decide) (by omega)).mpr he.1, (nI_leI (b := 100) (by omega) (by decide)).mpr he.2⟩), cif_f (fun q => q.elim (lk_crd h hw) ho)]
  · obtain ⟨q, hq, eq⟩ := h.2.2
    show ttm T < ttm T + nI e
    rw [eq, nI_add]
    exact nI_lt (by omega) (by omega)
theorem has_keep {T T2 : TS} (hk : Keep T T2) {x : Int32} (h : has T x) : has T2 x := by
  obtain ⟨-, -, -, -, -, e1, e2, e3⟩ := hk
  unfold has isHeld at *
  rw [e1, e2, e3]
  exact h
theorem left_po {T T2 : TS} {und : Prop} {b : Nat} (hb : b < left T und) (e : tcu T2 = poB T und b) : left T2 und + b = left T und := by
  unfold left poB at *
  by_cases u : und
  · rw [cif_t u] at *; rw [cif_t u]; omega
  · rw [cif_f u] at *; rw [cif_f u]; omega
theorem cnt_mono {V : Nat → Int32} {q q2 : Int32 → Prop} (h : ∀ x, q x → q2 x) : ∀ n, cntV V q n ≤ cntV V q2 n := by
  intro n
  induction n with
  | zero => exact Nat.le_refl _
  | succ n ih =>
    by_cases k : q (V n)
    · rw [cntV_t k, cntV_t (h _ k)]; omega
    · rw [cntV_f k]
      by_cases k2 : q2 (V n)
      · rw [cntV_t k2]; omega
      · rw [cntV_f k2]; exact ih
theorem cnt_none {V : Nat → Int32} {q : Int32 → Prop} : ∀ n, (∀ j, j < n → ¬ q (V j)) → cntV V q n = 0 := by
  intro n
  induction n with
  | zero => exact fun _ => rfl
  | succ n ih => exact fun h => by rw [cntV_f (h n (by omega)), ih (fun j hj => h j (by omega))]
section PLN2
variable {K C O X0 : Nat → Int32} {pr : Nat → Prop} {n : Nat}
theorem pres_np {h : Nat → Nat → Int32} {T : TS} (hc : Cnt h pr T) : pres T = NP pr := cnt_cg2 40 (fun j hj => by
  show (tV T j ≠ -1) ↔ (cif (pr j) (0 : Int32) (-1) ≠ -1)
  rw [hc.1 j hj]
  by_cases k : pr j
  · rw [cif_t k]; exact ⟨fun _ => by decide, fun _ => k⟩
  · rw [cif_f k]; exact ⟨fun z => absurd z k, fun z => absurd rfl z⟩)
theorem cL_le {h : Nat → Nat → Int32} {T : TS} (hc : Cnt h pr T) {g : Nat} (hg : g ≤ 12) : cL T g ≤ NP pr := by
  rw [← pres_np hc]
  exact cnt_mono (fun x e => by rw [e]; exact nI_m1 (by omega)) 40
theorem cL_all {h : Nat → Nat → Int32} {T : TS} (hc : Cnt h pr T) (hI : Inv T) (ha : tac T = 0) : cL T (tlv T) = NP pr := by
  rw [← pres_np hc]
  have hl : tlv T ≤ 12 := Nat.le_trans hI.1.2.1 hI.1.1
  refine cnt_cg2 40 (fun j hj => ?_)
  show (tV T j = nI (tlv T)) ↔ (tV T j ≠ -1)
  rcases hI.2.2.2.2.2.1 j hj with e | e | ⟨q, -⟩
  · rw [e]; exact ⟨fun z => absurd z.symm (nI_m1 (by omega)), fun z => absurd rfl z⟩
  · rw [e]; exact ⟨fun _ => nI_m1 (by omega), fun _ => rfl⟩
  · exact absurd ha q
theorem np_40 : NP pr ≤ 40 := cnt_le 40
def CI (K C O X0 : Nat → Int32) (pr : Nat → Prop) (n : Nat) (T0 : TS) (t0 i : Nat) (T : TS) (v3 : Int32) : Prop :=
  Inv T ∧ Lst K C O n T ∧ Cnt (hist K C O X0) pr T ∧ LK (t0 + 4 * i) T ∧ KR T0 T ∧ v3 = nI (cL T (gl T0 (tac T0 = 3))) ∧
  ((tac T = tac T0 ∧ tlv T = tlv T0 ∧ i + left T (tac T0 = 3) + NP pr ≤ 80 + cL T (gl T0 (tac T0 = 3))) ∨ (tac T = 0 ∧ tlv T = gl T0 (tac T0 = 3) ∧ i ≤ 81 ∧ cL T (gl T0 (tac T0 = 3)) = NP pr))
theorem kr_keep {T0 T T2 : TS} (h : KR T0 T) (hk : Keep T T2) : KR T0 T2 := ⟨hk.2.1.trans h.1, hk.2.2.1.trans h.2.1, hk.2.2.2.1.trans h.2.2.1, hk.2.2.2.2.1.trans h.2.2.2.1, hk.1.trans h.2.2.2.2⟩
theorem lst_keep {T T2 : TS} (h : Lst K C O n T) (hk : Keep T T2) : Lst K C O n T2 := ⟨hk.1.trans h.1, fun k h1 h2 => by
  rw [hk.2.1, hk.2.2.1, hk.2.2.2.1]
  exact h.2 k h1 h2⟩
theorem gl_le {T : TS} (hI : Inv T) (ha : tac T ≠ 0) {und : Prop} : gl T und ≤ 12 := by
  have h : tlv T < tn T := (hI.2.1.resolve_left ha).2
  have := hI.1.1
  unfold gl
  by_cases u : und
  · rw [cif_t u]; omega
  · rw [cif_f u]; omega
theorem ci_start {T0 : TS} {t0 : Nat} (hI : Inv T0) (hl : Lst K C O n T0) (hc : Cnt (hist K C O X0) pr T0) (hk : LK t0 T0) (h0 : cL T0 (gl T0 (tac T0 = 3)) = 0) : CI K C O X0 pr n T0 t0 0 T0 0 := by
  refine ⟨hI, hl, hc, hk, ⟨rfl, rfl, rfl, rfl, rfl⟩, by rw [h0]; rfl, Or.inl ⟨rfl, rfl, ?_⟩⟩
  have h1 := left_le (T := T0) (und := tac T0 = 3) hI.1.2.2
  have h2 := np_40 (pr := pr)
  omega
/-- the lock is taken -/
theorem ci_take {T0 T : TS} {t0 i : Nat} {v3 : Int32} (h : CI K C O X0 pr n T0 t0 i T v3) {x y : Int32} (hLK : LK (t0 + 4 * i) (ule (uho T x) y)) : CI K C O X0 pr n T0 t0 i (ule (uho T x) y) v3 :=
  ⟨h.1, h.2.1, h.2.2.1, hLK, h.2.2.2.2.1, h.2.2.2.2.2.1, h.2.2.2.2.2.2⟩
theorem ci_act {T0 T : TS} {t0 i : Nat} {v3 : Int32} (h : CI K C O X0 pr n T0 t0 i T v3) (ha : tac T ≠ 0) : tac T = tac T0 ∧ tlv T = tlv T0 ∧ i + left T (tac T0 = 3) + NP pr ≤ 80 + cL T (gl T0 (tac T0 = 3)) :=
  h.2.2.2.2.2.2.resolve_right (fun q => ha q.1)
theorem ci_gl {T0 T : TS} (h1 : tac T = tac T0) (h2 : tlv T = tlv T0) : gl T (tac T = 3) = gl T0 (tac T0 = 3) := by
  unfold gl
  rw [h1, h2]
/-- a step without a crash, and time -/
theorem ci_nx {T0 T T2 : TS} {t0 i ch b p : Nat} {v3 : Int32} (h : CI K C O X0 pr n T0 t0 i T v3) (ha : tac T ≠ 0) (hb : 1 ≤ b) (hI2 : Inv T2) (hc2 : Cnt (hist K C O X0) pr T2) (hk : Keep T T2)
    (hcl : cL T2 (gl T (tac T = 3)) = cL T (gl T (tac T = 3)) + ch) (hcr : tcr T2 = tcr T)
    (hpr : (tac T2 = 0 ∧ tlv T2 = gl T (tac T = 3) ∧ left T (tac T = 3) ≤ b) ∨ (tac T2 = tac T ∧ tlv T2 = tlv T ∧ tcu T2 = poB T (tac T = 3) b ∧ b < left T (tac T = 3))) (hp : p ≤ 4) :
    CI K C O X0 pr n T0 t0 (i + 1) (utm T2 (ttm T2 + nI p)) (v3 + nI ch) := by
  obtain ⟨a1, a2, a3⟩ := ci_act h ha
  have eg := ci_gl a1 a2
  have hg : gl T (tac T = 3) ≤ 12 := gl_le h.1 ha
  have hle := cL_le h.2.2.1 hg
  rw [eg] at hcl hpr hle
  obtain ⟨-, h2, h3, h4, h5, h6, -⟩ := h
  refine ⟨hI2, (show Lst K C O n T2 from lst_keep h2 hk), hc2, ⟨?_, ?_, ?_⟩, (show KR T0 T2 from kr_keep h5 hk), ?_, ?_⟩
  · intro j hj
    show tcr T2 j = 0
    rw [hcr]
    exact h4.1 j hj
  · show tho T2 = -1 ∨ ∃ w, w < 4 ∧ tho T2 = nI w
    rw [hk.2.2.2.2.2.2.1]
    exact h4.2.1
  · obtain ⟨q, hq, e⟩ := h4.2.2
    refine ⟨q + p, by omega, ?_⟩
    show ttm T2 + nI p = nI (q + p)
    rw [hk.2.2.2.2.2.1, e, nI_add]
  · rw [h6, nI_add]
    show nI _ = nI (cL T2 (gl T0 (tac T0 = 3)))
    rw [hcl]
  · rcases hpr with ⟨q1, q2, q3⟩ | ⟨q1, q2, q3, q4⟩
    · refine Or.inr ⟨q1, q2, by omega, ?_⟩
      show cL T2 (gl T0 (tac T0 = 3)) = NP pr
      rw [← q2]
      exact cL_all hc2 hI2 q1
    · refine Or.inl ⟨q1.trans a1, q2.trans a2, ?_⟩
      show i + 1 + left T2 (tac T0 = 3) + NP pr ≤ 80 + cL T2 (gl T0 (tac T0 = 3))
      rw [a1] at q3 q4
      have := left_po q4 q3
      omega
/-- a step with a crash, the restart, and time -/
theorem ci_cr {T0 T T2 : TS} {t0 i ch w p : Nat} {v3 : Int32} (h : CI K C O X0 pr n T0 t0 i T v3) (ha : tac T ≠ 0) (hI2 : Inv T2) (hI3 : Inv (ucr T2 (upd (tcr T2) w 0))) (hc2 : Cnt (hist K C O X0) pr T2) (hk : Keep T T2)
    (hcl : cL T2 (gl T (tac T = 3)) = cL T (gl T (tac T = 3)) + ch) (hch : 1 ≤ ch) (h1 : tac T2 = tac T) (h2 : tcu T2 = tcu T) (h3 : tlv T2 = tlv T) (hcr : tcr T2 = upd (tcr T) w 1) (hp : p ≤ 4) :
    CI K C O X0 pr n T0 t0 (i + 1) (utm (ucr T2 (upd (tcr T2) w 0)) (ttm T2 + nI p)) (v3 + nI ch) := by
  obtain ⟨a1, a2, a3⟩ := ci_act h ha
  have eg := ci_gl a1 a2
  rw [eg] at hcl
  obtain ⟨-, g2, g3, g4, g5, g6, -⟩ := h
  refine ⟨hI3, (show Lst K C O n T2 from lst_keep g2 hk), hc2, ⟨?_, ?_, ?_⟩, (show KR T0 T2 from kr_keep g5 hk), ?_, ?_⟩
  · intro j hj
    show upd (tcr T2) w 0 j = 0
    by_cases e : j = w
    · rw [e]; exact pk_us
    · rw [pk_un e, hcr, pk_un e]; exact g4.1 j hj
  · show tho T2 = -1 ∨ ∃ w, w < 4 ∧ tho T2 = nI w
    rw [hk.2.2.2.2.2.2.1]
    exact g4.2.1
  · obtain ⟨q, hq, e⟩ := g4.2.2
    refine ⟨q + p, by omega, ?_⟩
    show ttm T2 + nI p = nI (q + p)
    rw [hk.2.2.2.2.2.1, e, nI_add]
  · rw [g6, nI_add]
    show nI _ = nI (cL T2 (gl T0 (tac T0 = 3)))
    rw [hcl]
  · refine Or.inl ⟨h1.trans a1, h3.trans a2, ?_⟩
    show i + 1 + left T2 (tac T0 = 3) + NP pr ≤ 80 + cL T2 (gl T0 (tac T0 = 3))
    have e : left T2 (tac T0 = 3) = left T (tac T0 = 3) := left_cg h2
    omega
end PLN2
section PLN3
variable {K C O X0 : Nat → Int32} {pr : Nat → Prop} {n : Nat}
theorem ci_i {T0 T : TS} {t0 i : Nat} {v3 : Int32} (h : CI K C O X0 pr n T0 t0 i T v3) (h0 : tac T0 ≠ 0) : i ≤ 81 := by
  rcases h.2.2.2.2.2.2 with ⟨a1, a2, a3⟩ | ⟨-, -, q, -⟩
  · have ha : tac T ≠ 0 := by rw [a1]; exact h0
    have hle := cL_le h.2.2.1 (gl_le h.1 ha (und := tac T = 3))
    rw [ci_gl a1 a2] at hle
    omega
  · exact q
theorem ci_done {T0 T : TS} {t0 i : Nat} {v3 : Int32} (h : CI K C O X0 pr n T0 t0 i T v3) (h0 : tac T0 ≠ 0) (ha : tac T = 0) : v3 = nI (NP pr) := by
  rcases h.2.2.2.2.2.2 with ⟨a1, -⟩ | ⟨-, -, -, q⟩
  · exact absurd (a1.symm.trans ha) h0
  · rw [h.2.2.2.2.2.1, q]
theorem ci_take2 {T0 T : TS} {t0 i w e : Nat} {v3 : Int32} (h : CI K C O X0 pr n T0 t0 i T v3) (ht0 : t0 ≤ 100000) (hi : i ≤ 300) (ha : tac T ≠ 0) (ho : owner T < 0) (hw : w < 4) (he : 1 ≤ e ∧ e ≤ 100) :
    ∃ (T2 : TS) (v : Int32), sp_take T (nI w) (nI e) = (0, v, T2) ∧ CI K C O X0 pr n T0 t0 i T2 v3 ∧ tac T2 ≠ 0 ∧ has T2 (nI w) := by
  obtain ⟨e1, e2, e3⟩ := lk_take h.2.2.2.1 (by omega) hw he (own_no (Or.inl (lk_neg h.2.2.2.1 ho)))
  exact ⟨_, _, e1, ci_take h e2, ha, e3⟩
theorem cu_ne : ∀ k, k ≤ 40 → nI k ≠ -2000000003 := by decide +kernel
theorem nc_165 {c ch : Nat} (h : c = 0 ∨ ch ≠ c) (hc : c ≤ 3) (hch : ch ≤ 40) (h1 : ¬ nI c ≤ 0) (h2 : nI ch = nI c) : False := by
  rcases h with q | q
  · exact h1 (by rw [q]; decide)
  · exact q ((nI_eq (by omega) (by omega)).mp h2)
theorem po_up {T T2 : TS} {und : Prop} {b : Nat} (u : ¬ und) (hcu : tcu T ≤ 40) (hb : 1 ≤ b ∧ b ≤ 40) (e : tcu T2 = poB T und b) (h : nI (tcu T2) ≤ nI (tcu T)) : False := by
  unfold poB at e
  rw [cif_f u] at e
  have := (nI_leI (by omega) (by omega)).mp h
  omega
theorem po_dn {T T2 : TS} {und : Prop} {b : Nat} (u : und) (hcu : tcu T ≤ 40) (hb : 1 ≤ b ∧ b ≤ 40) (e : tcu T2 = poB T und b) (hl : b < left T und) (h : nI (tcu T) ≤ nI (tcu T2)) : False := by
  unfold poB at e
  unfold left at hl
  rw [cif_t u] at e hl
  have := (nI_leI (by omega) (by omega)).mp h
  omega
end PLN3
