/-! the rows that the law puts in, and what its loops keep -/
def R1 (T : TS) : Prop := Inv T ∧ tac T = 0 ∧ tlv T = 0 ∧ tn T = 0 ∧ LK 0 T ∧ tho T = -1
def R0 (T S : TS) (fa fb : Nat → Int32) : Prop := R1 T ∧ R1 S ∧ ∀ j, j < 40 → (tV T j = -1 ∧ tV S j = -1) ∨ (tV T j = 0 ∧ tV S j = 0 ∧ (∀ q, q < 3 → tX T (3 * j + q) = tX S (3 * j + q)) ∧ (tX T (3 * j + 0) = fa j ∧ tX T (3 * j + 1) = fb j ∧ tX T (3 * j + 2) = nI j) ∧ bn (fa j) 100 ∧ bn (fb j) 100)
theorem r1_start : R1 TSI := ⟨invTSI, rfl, rfl, rfl, ⟨fun _ _ => rfl, Or.inl rfl, 0, Nat.le_refl 0, rfl⟩, rfl⟩
theorem r0_start {fa fb : Nat → Int32} : R0 TSI TSI fa fb := ⟨r1_start, r1_start, fun j hj => Or.inl ⟨if_pos hj, if_pos hj⟩⟩
theorem r1_ins {T : TS} (h : R1 T) {j : Nat} (hj : j < 40) (hV : tV T j = -1) {va vb : Int32} (ha : bn va 100) (hb : bn vb 100) :
    sp_insert T (nI j) va vb (nI j) = (0, 0, uV (uX T (upd (upd (upd (tX T) (3 * j) va) (3 * j + 1) vb) (3 * j + 2) (nI j))) (upd (tV T) j 0)) ∧ R1 (uV (uX T (upd (upd (upd (tX T) (3 * j) va) (3 * j + 1) vb) (3 * j + 2) (nI j))) (upd (tV T) j 0)) := by
  have hv : vNew T j = 0 := by
    unfold vNew
    rw [cif_f (fun q => q.1 h.2.1), h.2.2.1]
    rfl
  have es : sp_insert T (nI j) va vb (nI j) = (0, 0, uV (uX T (upd (upd (upd (tX T) (3 * j) va) (3 * j + 1) vb) (3 * j + 2) (nI j))) (upd (tV T) j 0)) := by
    unfold sp_insert
    rw [cif_f (fun q => q ⟨id39 j hj, okV_of (by rw [Int32.toInt_toInt64]; unfold bn at ha; omega), okV_of (by rw [Int32.toInt_toInt64]; unfold bn at hb; omega), okV_of (by rw [Int32.toInt_toInt64, nI_toInt (by omega)]; omega)⟩), ix_n (by omega), cif_f (fun q => q hV), hv]
  have hinv := inv_insert h.1 (nI j) va vb (nI j)
  rw [es] at hinv
  exact ⟨es, hinv, h.2.1, h.2.2.1, h.2.2.2.1, h.2.2.2.2.1, h.2.2.2.2.2⟩
theorem up3_i {X : Nat → Int32} {j : Nat} {a b c : Int32} : upd (upd (upd X (3 * j) a) (3 * j + 1) b) (3 * j + 2) c (3 * j + 0) = a ∧ upd (upd (upd X (3 * j) a) (3 * j + 1) b) (3 * j + 2) c (3 * j + 1) = b ∧ upd (upd (upd X (3 * j) a) (3 * j + 1) b) (3 * j + 2) c (3 * j + 2) = c := by
  refine ⟨?_, ?_, pk_us⟩
  · rw [pk_un (by omega), pk_un (by omega), Nat.add_zero, pk_us]
  · rw [pk_un (by omega), pk_us]
theorem up3_o {X : Nat → Int32} {j i q : Nat} {a b c : Int32} (h : i ≠ j) (hq : q < 3) : upd (upd (upd X (3 * j) a) (3 * j + 1) b) (3 * j + 2) c (3 * i + q) = X (3 * i + q) := by
  rw [pk_un (by omega), pk_un (by omega), pk_un (by omega)]
theorem r0_ins {T S : TS} {fa fb : Nat → Int32} (h : R0 T S fa fb) {j : Nat} (hj : j < 40) (hV : tV T j = -1) {va vb : Int32} (ha : bn va 100) (hb : bn vb 100) :
    ∃ T2 S2 : TS, sp_insert T (nI j) va vb (nI j) = (0, 0, T2) ∧ sp_insert S (nI j) va vb (nI j) = (0, 0, S2) ∧ R0 T2 S2 (upd fa j va) (upd fb j vb) := by
  have hVS : tV S j = -1 := by
    rcases h.2.2 j hj with q | q
    · exact q.2
    · rw [hV] at q; exact absurd q.1 (by decide)
  obtain ⟨e1, h1⟩ := r1_ins h.1 hj hV ha hb
  obtain ⟨e2, h2⟩ := r1_ins h.2.1 hj hVS ha hb
  refine ⟨_, _, e1, e2, h1, h2, fun i hi => ?_⟩
  by_cases e : i = j
  · subst e
    right
    obtain ⟨x1, x2, x3⟩ := up3_i (X := tX T) (j := i) (a := va) (b := vb) (c := nI i)
    obtain ⟨y1, y2, y3⟩ := up3_i (X := tX S) (j := i) (a := va) (b := vb) (c := nI i)
    refine ⟨pk_us, pk_us, fun q hq => ?_, ⟨x1.trans pk_us.symm, x2.trans pk_us.symm, x3⟩, by rw [pk_us]; exact ha, by rw [pk_us]; exact hb⟩
    rcases (show q = 0 ∨ q = 1 ∨ q = 2 by omega) with rfl | rfl | rfl
    · exact x1.trans y1.symm
    · exact x2.trans y2.symm
    · exact x3.trans y3.symm
  · rcases h.2.2 i hi with ⟨a, b⟩ | ⟨a, b, c, ⟨d1, d2, d3⟩, f, g⟩
    · exact Or.inl ⟨(pk_un e).trans a, (pk_un e).trans b⟩
    · refine Or.inr ⟨(pk_un e).trans a, (pk_un e).trans b, fun q hq => (up3_o e hq).trans ((c q hq).trans (up3_o e hq).symm), ⟨?_, ?_, ?_⟩, by rw [pk_un e]; exact f, by rw [pk_un e]; exact g⟩
      · rw [pk_un e]; exact (up3_o e (by decide)).trans d1
      · rw [pk_un e]; exact (up3_o e (by decide)).trans d2
      · exact (up3_o e (by decide)).trans d3
def FAB (X0 : Nat → Int32) (pr : Nat → Prop) (fa fb : Nat → Int32) : Prop := ∀ j, j < 40 → pr j → X0 (3 * j + 0) = fa j ∧ X0 (3 * j + 1) = fb j ∧ X0 (3 * j + 2) = nI j
/-- the loop of the changes, with i of them behind it -/
def L2 (X0 : Nat → Int32) (pr : Nat → Prop) (i : Nat) (T S : TS) : Prop := ∃ K C O, Pln K C O X0 pr i ∧ RS K C O X0 pr i i 0 T ∧ (tho T = -1 ∨ tho T = nI 0) ∧ RS K C O X0 pr i i (400 * i) S
/-- the loop that undoes them -/
def LU (K C O X0 : Nat → Int32) (pr : Nat → Prop) (n lv i : Nat) (T S : TS) : Prop := RS K C O X0 pr n lv 0 T ∧ (tho T = -1 ∨ tho T = nI 0) ∧ RS K C O X0 pr n lv (400 * n + 400 * i) S
theorem r0_rs {T S : TS} {fa fb : Nat → Int32} (h : R0 T S fa fb) : ∃ X0 pr, L2 X0 pr 0 T S ∧ FAB X0 pr fa fb ∧ cL T 0 = NP pr := by
  have hpl : Pln z0 z0 z0 (tX T) (fun j => tV T j ≠ -1) 0 := by
    refine ⟨by decide, fun k a b => by omega, fun j hj hp q hq => ?_⟩
    rcases h.2.2 j hj with ⟨a, -⟩ | ⟨-, -, -, ⟨d1, d2, d3⟩, f, g⟩
    · exact absurd a hp
    · rcases (show q = 0 ∨ q = 1 ∨ q = 2 by omega) with rfl | rfl | rfl
      · rw [d1]; exact f
      · rw [d2]; exact g
      · rw [d3]
        unfold bn
        rw [nI_toInt (by omega)]
        omega
  have v0 : ∀ {U : TS}, (∀ j, j < 40 → tV U j = -1 ∨ tV U j = 0) → ∀ j, j < 40 → ∀ v, v ≤ 12 → tV U j = nI v → v = 0 := by
    intro U hU j hj v hv e
    rcases hU j hj with q | q
    · exact absurd (e.symm.trans q) (nI_m1 (by omega))
    · exact (nI_eq (a := v) (b := 0) (by omega) (by decide)).mp (e.symm.trans q)
  have hT : RS z0 z0 z0 (tX T) (fun j => tV T j ≠ -1) 0 0 0 T := by
    refine ⟨h.1.1, ⟨h.1.2.2.2.1, fun k a b => by omega⟩, ⟨fun j hj => Iff.rfl, fun j hj v hv e q hq => ?_⟩, h.1.2.2.2.2.1, h.1.2.1, h.1.2.2.1, fun k a b => by omega⟩
    obtain rfl := v0 (fun j hj => (h.2.2 j hj).elim (fun z => Or.inl z.1) (fun z => Or.inr z.1)) j hj v hv e
    rfl
  have hS : RS z0 z0 z0 (tX T) (fun j => tV T j ≠ -1) 0 0 (400 * 0) S := by
    refine ⟨h.2.1.1, ⟨h.2.1.2.2.2.1, fun k a b => by omega⟩, ⟨fun j hj => ?_, fun j hj v hv e q hq => ?_⟩, h.2.1.2.2.2.2.1, h.2.1.2.1, h.2.1.2.2.1, fun k a b => by omega⟩
    · show (tV S j ≠ -1) ↔ (tV T j ≠ -1)
      rcases h.2.2 j hj with ⟨a, b⟩ | ⟨a, b, -⟩
      · rw [a, b]
      · rw [a, b]
    · obtain rfl := v0 (fun j hj => (h.2.2 j hj).elim (fun z => Or.inl z.2) (fun z => Or.inr z.2.1)) j hj v hv e
      rcases h.2.2 j hj with ⟨-, b⟩ | ⟨-, -, c, -⟩
      · rw [e] at b; exact absurd b (nI_m1 (by omega))
      · exact (c q hq).symm
  refine ⟨tX T, fun j => tV T j ≠ -1, ⟨z0, z0, z0, hpl, hT, Or.inl h.1.2.2.2.2.2, hS⟩, fun j hj hp => ?_, rs_np hT⟩
  rcases h.2.2 j hj with ⟨a, -⟩ | ⟨-, -, -, d, -⟩
  · exact absurd a hp
  · exact d
theorem one_free {T : TS} (h : tho T = -1 ∨ tho T = nI 0) : ¬ (isHeld T ∧ tho T ≠ nI 0) := fun q => h.elim q.1.1 q.2
theorem bn_a {a : Nat} (h : a < 19) : bn (nI a - 9) 100 := by
  have e : (nI a - 9).toInt = (a : Int) - 9 := pk_sub_toInt (a := a) (b := 9) (by omega) (by decide)
  unfold bn
  rw [e]
  omega
theorem bn_b {a : Nat} (h : a < 201) : bn (nI a - 100) 100 := by
  have e : (nI a - 100).toInt = (a : Int) - 100 := pk_sub_toInt (a := a) (b := 100) (by omega) (by decide)
  unfold bn
  rw [e]
  omega
theorem rs_ul {K C O X0 : Nat → Int32} {pr : Nat → Prop} {n lv t : Nat} {T : TS} {x y : Int32} (h : RS K C O X0 pr n lv t T) (hk : LK t (ule (uho T x) y)) : RS K C O X0 pr n lv t (ule (uho T x) y) := ⟨h.1, h.2.1, h.2.2.1, hk, h.2.2.2.2⟩
