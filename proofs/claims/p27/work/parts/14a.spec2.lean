/-! pure rows for the reference -/
theorem b2i_c {q : Prop} : (b2i q = 1 ∧ q) ∨ (b2i q = 0 ∧ ¬ q) := by
  by_cases h : q
  · exact Or.inl ⟨b2i_t h, h⟩
  · exact Or.inr ⟨b2i_f h, h⟩
theorem bq_t {y : Int32} {q : Prop} (h : (y = 1 ∧ q) ∨ (y = 0 ∧ ¬ q)) (n : ¬ y = 0) : q := h.elim (fun z => z.2) (fun z => absurd z.1 n)
theorem bq_f {y : Int32} {q : Prop} (h : (y = 1 ∧ q) ∨ (y = 0 ∧ ¬ q)) (n : y = 0) : ¬ q := h.elim (fun z => absurd (z.1.symm.trans n) (by decide)) (fun z => z.2)
theorem n12 {n : Nat} (hn : n ≤ 12) : nI n = 12 ↔ n = 12 := nI_eq (b := 12) (by omega) (by decide)
theorem st_odd {T : TS} {h : Int32} (hI : InvW T) : stOf T h - stOf T h / 2 * 2 = 1 ↔ (tac T ≠ 0 ∧ h = nI (tlv T + 1)) := by
  have hl : tlv T ≤ 12 := Nat.le_trans hI.1.2.1 hI.1.1
  by_cases h1 : h ≤ nI (tlv T)
  · rw [show stOf T h = 2 from cif_t h1]
    refine ⟨fun q => absurd q (by decide), fun q => ?_⟩
    rw [q.2] at h1
    exact absurd h1 (nI_s (by omega))
  · by_cases h2 : h = nI (tlv T + 1)
    · rw [show stOf T h = tac T from (cif_f h1).trans (cif_t h2)]
      rcases hI.2.1 with q | ⟨q | q, -⟩
      · rw [q]; exact ⟨fun z => absurd z (by decide), fun z => absurd rfl z.1⟩
      · rw [q]; exact ⟨fun _ => ⟨by decide, h2⟩, fun _ => by decide⟩
      · rw [q]; exact ⟨fun _ => ⟨by decide, h2⟩, fun _ => by decide⟩
    · rw [show stOf T h = 0 from (cif_f h1).trans (cif_f h2)]
      exact ⟨fun z => absurd z (by decide), fun z => absurd z.2 h2⟩
/-- which exception for a row's id -/
noncomputable def cdN (T : TS) (q : Prop) (x : Int32) : Int32 := cif (¬ (q ∧ inR x 0 39)) 1 (cif (tV T (ix x) = -1) 2 0)
theorem cdN_0 {T : TS} {q : Prop} {x : Int32} (h : ¬ cdN T q x ≠ 0) : q ∧ inR x 0 39 ∧ tV T (ix x) ≠ -1 := by
  unfold cdN at h
  by_cases h1 : ¬ (q ∧ inR x 0 39)
  · rw [cif_t h1] at h; exact absurd (by decide) h
  · rw [cif_f h1] at h
    have h1 := Classical.not_not.mp h1
    by_cases h2 : tV T (ix x) = -1
    · rw [cif_t h2] at h; exact absurd (by decide) h
    · exact ⟨h1.1, h1.2, h2⟩
theorem nr_lem {T : TS} {P q : Prop} {x : Int32} {R : Rs} (h : P ↔ ¬ (q ∧ inR x 0 39)) (hc : cdN T q x ≠ 0) : cif P (1, 0, T) (cif (tV T (ix x) = -1) (2, 0, T) R) = (cdN T q x, 0, T) := by
  rw [propext h]
  unfold cdN at hc ⊢
  by_cases h1 : ¬ (q ∧ inR x 0 39)
  · rw [cif_t h1, cif_t h1]
  · rw [cif_f h1] at hc ⊢
    rw [cif_f h1]
    by_cases h2 : tV T (ix x) = -1
    · rw [cif_t h2, cif_t h2]
    · rw [cif_f h2] at hc; exact absurd rfl hc
theorem tkSp {X : Nat → Int32} {sp : Nat → Int64} {j : Nat} : ∀ q, q < 3 → (vp_updL (vp_updL (vp_updL sp 0 (X (3 * j + 0)).toInt64) 1 (X (3 * j + 1)).toInt64) 2 (X (3 * j + 2)).toInt64) q = (X (3 * j + q)).toInt64 := by
  intro q hq
  rcases (show q = 0 ∨ q = 1 ∨ q = 2 by omega) with rfl | rfl | rfl <;> simp [vp_updL]
theorem apM_put {T : TS} {und : Prop} {k c : Nat} {row : Nat → Int32} {sp : Nat → Int64} {v : Int64} (hrow : ∀ q, q < 3 → sp q = (row q).toInt64) (hc : c < 3) (e : ap T und k row = putR row c v) : b2i (okV v) = b2i ((ap T und k row).isSome = true) ∧ ∀ row2, ap T und k row = some row2 → ∀ q, q < 3 → vp_updL sp c v q = (row2 q).toInt64 := by
  rw [e]
  refine ⟨b2i_iff putR_is.symm, fun row2 h2 => ?_⟩
  unfold putR at h2
  by_cases k : okV v
  · rw [cif_t k] at h2
    cases h2
    intro q hq
    by_cases hqc : q = c
    · subst hqc; simp [vp_updL, upd, okV_i k]
    · simp [vp_updL, upd, hqc, hrow q hq]
  · rw [cif_f k] at h2; cases h2
theorem apM_f {T : TS} {und : Prop} {k : Nat} {row : Nat → Int32} {u : Nat → Int64} (e : ap T und k row = none) : 0 = b2i ((ap T und k row).isSome = true) ∧ ∀ row2, ap T und k row = some row2 → ∀ q, q < 3 → u q = (row2 q).toInt64 := by
  rw [e]
  exact ⟨b2i_f' (fun q => by cases q), fun _ h => by cases h⟩
theorem apM_sw {T : TS} {und : Prop} {k c o : Nat} {row : Nat → Int32} {sp : Nat → Int64} (hrow : ∀ q, q < 3 → sp q = (row q).toInt64) (hc : c < 3) (ho : o < 3) (e : ap T und k row = some (swp row c o)) : 1 = b2i ((ap T und k row).isSome = true) ∧ ∀ row2, ap T und k row = some row2 → ∀ q, q < 3 → vp_updL (vp_updL sp c (row o).toInt64) o (row c).toInt64 q = (row2 q).toInt64 := by
  rw [e]
  refine ⟨b2i_t' rfl, fun row2 h2 => ?_⟩
  cases h2
  intro q hq
  by_cases h1 : q = o
  · subst h1; simp [vp_updL, swp, upd]
  · by_cases h3 : q = c
    · subst h3; simp [vp_updL, swp, upd, h1]
    · simp [vp_updL, swp, upd, h1, h3, hrow q hq]
theorem k_1 {k : Int32} (h : inR k 0 2) (h0 : ¬ k = 0) (h2 : ¬ k = 2) : k = 1 := by
  obtain ⟨j, hj, rfl⟩ := inR_n 2 (by decide) h
  rcases (show j = 0 ∨ j = 1 ∨ j = 2 by omega) with rfl | rfl | rfl
  · exact absurd rfl h0
  · rfl
  · exact absurd rfl h2
/-! the reference's floats -/
theorem sh_all : ∀ h, h < 41 → ∀ p, p < 41 → 0 < p → (FP.fdiv (FP.i2f (nI h)) (FP.i2f (nI p))) &&& 0x7fffffff ≤ 0x7f800000 := by decide +kernel
theorem sh_nn {h p : Nat} (h1 : h ≤ 40) (h2 : p ≤ 40) (h3 : 0 < p) : vf_n32 (FP.fdiv (FP.i2f (nI h)) (FP.i2f (nI p))) := sh_all h (by omega) p (by omega) h3
theorem ow_n {T : TS} (h : ¬ isHeld T) : owner T = -1 := by
  unfold owner
  by_cases k : ttm T < tle T
  · rw [cif_t k]; exact Classical.byContradiction fun z => h ⟨z, k⟩
  · rw [cif_f k]
theorem l0_of {n : Nat} (hn : n < 2 ^ 31) (h : nI n = 0) : n = 0 := Nat.eq_zero_of_not_pos fun q => nI_ne0 q hn h
theorem tl_ti {x : Int32} : x.toInt64.toInt32 = x := by
  apply Int32.toInt_inj.mp
  rw [Int64.toInt_toInt32, Int32.toInt_toInt64]
  have h1 := Int32.le_toInt x
  have h2 := Int32.toInt_lt x
  apply Int.bmod_eq_of_le
  · omega
  · omega
theorem poB_0 {T : TS} {und : Prop} : poB T und 0 = tcu T := by
  unfold poB
  by_cases h : und
  · rw [cif_t h]; omega
  · rw [cif_f h]; omega
theorem poB_id_t {T : TS} {und : Prop} {k : Nat} (h : und) : poB T und k - 1 = idB T und k := by
  unfold poB idB
  rw [cif_t h, cif_t h]; omega
theorem poB_id_f {T : TS} {und : Prop} {k : Nat} (h : ¬ und) : poB T und k = idB T und k := by
  unfold poB idB
  rw [cif_f h, cif_f h]
theorem poB_s_t {T : TS} {und : Prop} {k : Nat} (h : und) : poB T und k - 1 = poB T und (k + 1) := by
  unfold poB
  rw [cif_t h, cif_t h]; omega
theorem poB_s_f {T : TS} {und : Prop} {k : Nat} (h : ¬ und) : poB T und k + 1 = poB T und (k + 1) := by
  unfold poB
  rw [cif_f h, cif_f h]; omega
/-- inside: there is a row to look at -/
theorem poB_in {T : TS} {und : Prop} {k : Nat} (hcu : tcu T ≤ 40) (h : k < left T und) : (und → 0 < poB T und k) ∧ (¬ und → poB T und k < 40) ∧ poB T und k ≤ 40 := by
  unfold left at h
  unfold poB
  by_cases hu : und
  · rw [cif_t hu] at h ⊢
    exact ⟨fun _ => by omega, fun q => absurd hu q, by omega⟩
  · rw [cif_f hu] at h ⊢
    exact ⟨fun q => absurd q hu, fun _ => by omega, by omega⟩
/-- at the end: none -/
theorem poB_out {T : TS} {und : Prop} (hcu : tcu T ≤ 40) : (und → poB T und (left T und) = 0) ∧ (¬ und → poB T und (left T und) = 40) := by
  unfold poB left
  by_cases hu : und
  · rw [cif_t hu, cif_t hu]
    exact ⟨fun _ => by omega, fun q => absurd hu q⟩
  · rw [cif_f hu, cif_f hu]
    exact ⟨fun q => absurd q hu, fun _ => by omega⟩
theorem fin_e1 {T : TS} {und : Prop} {p : Nat} (h : und) (hp : p = 0) : fin T und p = uac (ucu T p) 0 := (cif_t h).trans (cif_t hp)
theorem fin_e2 {T : TS} {und : Prop} {p : Nat} (h : und) (hp : ¬ p = 0) : fin T und p = ucu T p := (cif_t h).trans (cif_f hp)
theorem fin_e3 {T : TS} {und : Prop} {p : Nat} (h : ¬ und) (hp : p = 40) : fin T und p = uac (ulv (ucu T p) (tlv T + 1)) 0 := (cif_f h).trans (cif_t hp)
theorem fin_e4 {T : TS} {und : Prop} {p : Nat} (h : ¬ und) (hp : ¬ p = 40) : fin T und p = ucu T p := (cif_f h).trans (cif_f hp)
theorem lft_no {T : TS} {und : Prop} {j : Nat} (h : tV T j = -1) : ¬ lft T und j := fun q => q.1 h
theorem ap_T {T : TS} {und : Prop} {k : Nat} {row : Nat → Int32} (h : und) : ap T True k row = ap T und k row := ap_cg ⟨fun _ => h, fun _ => trivial⟩
theorem ap_F {T : TS} {und : Prop} {k : Nat} {row : Nat → Int32} (h : ¬ und) : ap T False k row = ap T und k row := ap_cg ⟨fun q => q.elim, fun q => h q⟩
theorem ucr_n {T : TS} {j : Nat} (h : tcr T j = 0) : ucr T (upd (tcr T) j 0) = T := by
  show mkT (tK T) (tC T) (tO T) (tR T) (tV T) (tX T) (upd (tcr T) j 0) (tn T) (tlv T) (tcu T) (tac T) (ttm T) (tho T) (tle T) = T
  rw [ml_upn h]
theorem nI_z {n : Nat} (hn : n < 2 ^ 31) : nI n = 0 ↔ n = 0 := ⟨fun h => l0_of hn h, fun h => by rw [h]; rfl⟩
theorem nI_40 {n : Nat} (hn : n < 2 ^ 31) : nI n = 40 ↔ n = 40 := nI_eq (b := 40) hn (by decide)
