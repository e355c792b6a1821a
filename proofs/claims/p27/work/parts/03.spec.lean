/-! WHAT EACH CALL DOES, on the abstract state: the code of the exception (0 for none), the answer, the new state -/
abbrev inR (x lo hi : Int32) : Prop := lo ≤ x ∧ x ≤ hi
abbrev okV (v : Int64) : Prop := -1000000000 ≤ v ∧ v ≤ 1000000000
abbrev okO (k c o : Int32) : Prop := (k = 0 ∧ inR o (-1000) 1000) ∨ (k = 1 ∧ inR o (-9) 9 ∧ o ≠ 0) ∨ (k ≠ 0 ∧ k ≠ 1 ∧ inR o 0 2 ∧ o ≠ c)
abbrev okCh (k c o : Int32) : Prop := inR k 0 2 ∧ inR c 0 2 ∧ okO k c o
abbrev ix (x : Int32) : Nat := x.toNatClampNeg
abbrev Rs : Type := Int32 × Int32 × TS
abbrev sumE (k c o : Int32) (j : Int32) : Int32 := ((k * 31 + c) * 2003 + o + 1001) * 7 + j
abbrev sumM (y : Int32) : Int32 := y - y / 65521 * 65521
abbrev sumOf (T : TS) (j : Nat) : Int32 := sumM (sumE (tK T j) (tC T j) (tO T j) (nI j))
abbrev putC (T : TS) (j : Nat) (k c o : Int32) : TS := uK (uC (uO T (upd (tO T) j o)) (upd (tC T) j c)) (upd (tK T) j k)
abbrev drf (T : TS) (j : Nat) : Prop := sumOf T j ≠ tR T j
noncomputable def fdU (T : TS) : Nat → Nat → Int32
  | 0, _ => 0
  | r + 1, k => cif (drf T (k + 1)) (nI (k + 1)) (fdU T r (k + 1))
noncomputable def fdr (T : TS) : Int32 := fdU T (tlv T) 0
abbrev isHeld (T : TS) : Prop := tho T ≠ -1 ∧ ttm T < tle T
abbrev has (T : TS) (w : Int32) : Prop := isHeld T ∧ tho T = w
noncomputable def owner (T : TS) : Int32 := cif (ttm T < tle T) (tho T) (-1)
abbrev crd (T : TS) (w : Int32) : Prop := tcr T (ix w) ≠ 0
abbrev rowOf (T : TS) (j : Nat) : Nat → Int32 := fun c => tX T (3 * j + c)
noncomputable def putR (row : Nat → Int32) (c : Nat) (r : Int64) : Option (Nat → Int32) := cif (okV r) (some (upd row c r.toInt32)) none
abbrev swp (row : Nat → Int32) (c d : Nat) : Nat → Int32 := upd (upd row c (row d)) d (row c)
/-- one change on a row of values, or its undoing -/
noncomputable def ap (T : TS) (und : Prop) (k : Nat) (row : Nat → Int32) : Option (Nat → Int32) :=
  cif (tK T k = 0) (putR row (ix (tC T k)) (cif und ((row (ix (tC T k))).toInt64 - (tO T k).toInt64) ((row (ix (tC T k))).toInt64 + (tO T k).toInt64)))
    (cif (tK T k = 1)
      (cif und (cif ((row (ix (tC T k))).toInt64 - (row (ix (tC T k))).toInt64 / (tO T k).toInt64 * (tO T k).toInt64 = 0) (putR row (ix (tC T k)) ((row (ix (tC T k))).toInt64 / (tO T k).toInt64)) none)
        (putR row (ix (tC T k)) ((row (ix (tC T k))).toInt64 * (tO T k).toInt64)))
      (some (swp row (ix (tC T k)) (ix (tO T k)))))
noncomputable def brU (T : TS) : Nat → Nat → (Nat → Int32) → Option (Nat → Int32)
  | 0, _, row => some row
  | r + 1, k, row => match ap T False (k + 1) row with
    | none => none
    | some row' => brU T r (k + 1) row'
noncomputable def brD (T : TS) : Nat → Nat → (Nat → Int32) → Option (Nat → Int32)
  | 0, _, row => some row
  | r + 1, k, row => match ap T True k row with
    | none => none
    | some row' => brD T r (k - 1) row'
noncomputable def bring (T : TS) (row : Nat → Int32) (f t : Nat) : Option (Nat → Int32) := match brU T (t - f) f row with
  | none => none
  | some row' => brD T (f - t) f row'
abbrev wrX (X : Nat → Int32) (j : Nat) (row : Nat → Int32) : Nat → Int32 := upd (upd (upd X (3 * j) (row 0)) (3 * j + 1) (row 1)) (3 * j + 2) (row 2)
noncomputable def stp (T : TS) (und : Prop) (j : Nat) : Option TS := match ap T und (tlv T + 1) (rowOf T j) with
  | none => none
  | some row => some (uV (uX T (wrX (tX T) j row)) (upd (tV T) j (cif und (tV T j - 1) (tV T j + 1))))
abbrev lft (T : TS) (und : Prop) (j : Nat) : Prop := tV T j ≠ -1 ∧ ((und ∧ nI (tlv T + 1) ≤ tV T j) ∨ (¬ und ∧ ¬ nI (tlv T + 1) ≤ tV T j))
noncomputable def idB (T : TS) (und : Prop) (k : Nat) : Nat := cif und (tcu T - 1 - k) (tcu T + k)
noncomputable def poB (T : TS) (und : Prop) (k : Nat) : Nat := cif und (tcu T - k) (tcu T + k)
noncomputable def left (T : TS) (und : Prop) : Nat := cif und (tcu T) (40 - tcu T)
/-- the rows of a step: how it ended (0 passed all, 1 blocked, 2 crashed), rows passed, rows changed, the state -/
noncomputable def sgo (und : Prop) (cs : Int32) : Nat → Nat → Nat → TS → Nat × Nat × Nat × TS
  | 0, k, ch, T => (0, k, ch, T)
  | r + 1, k, ch, T => cif (lft T und (idB T und k))
      (match stp T und (idB T und k) with
        | none => (1, k, ch, T)
        | some T' => cif (nI (ch + 1) = cs) (2, k, ch + 1, T') (sgo und cs r (k + 1) (ch + 1) T'))
      (sgo und cs r (k + 1) ch T)
noncomputable def fin (T : TS) (und : Prop) (p : Nat) : TS := cif und (cif (p = 0) (uac (ucu T p) 0) (ucu T p)) (cif (p = 40) (ulv (uac (ucu T p) 0) (tlv T + 1)) (ucu T p))
noncomputable def stR (und : Prop) (w : Nat) (q : Nat × Nat × Nat × TS) : Int32 × TS :=
  cif (q.1 = 0) (nI q.2.2.1, fin q.2.2.2 und (poB q.2.2.2 und q.2.1))
    (cif (q.1 = 1) (nI q.2.2.1 - 100, ucu q.2.2.2 (poB q.2.2.2 und q.2.1)) (nI q.2.2.1, ucr q.2.2.2 (upd (tcr q.2.2.2) w 1)))
noncomputable def cntV (V : Nat → Int32) (q : Int32 → Prop) : Nat → Nat
  | 0 => 0
  | j + 1 => cntV V q j + cif (q (V j)) 1 0
noncomputable abbrev pres (T : TS) : Nat := cntV (tV T) (fun x => x ≠ -1) 40
noncomputable abbrev hav (T : TS) : Nat := cntV (tV T) (fun x => nI (tlv T) < x) 40
/-! the calls -/
noncomputable def sp_addChange (T : TS) (k c o : Int32) : Rs := cif (¬ okCh k c o) (1, 0, T) (cif (tn T = 12) (2, 0, T) (0, nI (tn T + 1), putC (un T (tn T + 1)) (tn T + 1) k c o))
noncomputable def sp_edit (T : TS) (h k c o : Int32) : Rs := cif (¬ okCh k c o) (1, 0, T) (cif (¬ inR h 1 (nI (tn T))) (2, 0, T) (cif (tac T ≠ 0 ∧ h = nI (tlv T + 1)) (3, 0, T) (0, sumOf (putC T (ix h) k c o) (ix h), putC T (ix h) k c o)))
noncomputable def sp_checksum (T : TS) (h : Int32) : Rs := cif (¬ inR h 1 (nI (tn T))) (1, 0, T) (0, sumOf T (ix h), T)
noncomputable def stOf (T : TS) (h : Int32) : Int32 := cif (h ≤ nI (tlv T)) 2 (cif (h = nI (tlv T + 1)) (tac T) 0)
noncomputable def sp_state (T : TS) (h : Int32) : Rs := cif (¬ inR h 1 (nI (tn T))) (1, 0, T) (0, stOf T h, T)
noncomputable def vNew (T : TS) (j : Nat) : Int32 := cif (tac T ≠ 0 ∧ nI j < nI (tcu T)) (nI (tlv T + 1)) (nI (tlv T))
noncomputable def sp_insert (T : TS) (i f g h : Int32) : Rs := cif (¬ (inR i 0 39 ∧ okV f.toInt64 ∧ okV g.toInt64 ∧ okV h.toInt64)) (1, 0, T) (cif (tV T (ix i) ≠ -1) (2, 0, T) (0, vNew T (ix i), uV (uX T (upd (upd (upd (tX T) (3 * ix i) f) (3 * ix i + 1) g) (3 * ix i + 2) h)) (upd (tV T) (ix i) (vNew T (ix i)))))
noncomputable def sp_write (T : TS) (i c v : Int32) : Rs := cif (¬ (inR i 0 39 ∧ inR c 0 2 ∧ okV v.toInt64)) (1, 0, T) (cif (tV T (ix i) = -1) (2, 0, T) (0, tX T (3 * ix i + ix c), uX T (upd (tX T) (3 * ix i + ix c) v)))
noncomputable def sp_delete (T : TS) (i : Int32) : Rs := cif (¬ inR i 0 39) (1, 0, T) (cif (tV T (ix i) = -1) (2, 0, T) (0, tV T (ix i), uV T (upd (tV T) (ix i) (-1))))
noncomputable def sp_value (T : TS) (i c : Int32) : Rs := cif (¬ (inR i 0 39 ∧ inR c 0 2)) (1, 0, T) (cif (tV T (ix i) = -1) (2, 0, T) (0, tX T (3 * ix i + ix c), T))
noncomputable def sp_version (T : TS) (i : Int32) : Rs := cif (¬ inR i 0 39) (1, 0, T) (0, tV T (ix i), T)
noncomputable def sp_rowsAt (T : TS) (v : Int32) : Rs := cif (¬ inR v 0 12) (1, 0, T) (0, nI (cntV (tV T) (fun x => x = v) 40), T)
noncomputable def sp_valueAt (T : TS) (i c v : Int32) : Rs := cif (¬ (inR i 0 39 ∧ inR c 0 2 ∧ inR v 0 (nI (tn T)))) (1, 0, T) (cif (tV T (ix i) = -1) (2, 0, T) (match bring T (rowOf T (ix i)) (ix (tV T (ix i))) (ix v) with
  | none => (3, 0, T)
  | some row => (0, row (ix c), T)))
noncomputable def sp_take (T : TS) (w e : Int32) : Rs := cif (¬ (inR w 0 3 ∧ inR e 1 100)) (1, 0, T) (cif (crd T w ∨ (isHeld T ∧ tho T ≠ w)) (2, 0, T) (0, ttm T + e, ule (uho T w) (ttm T + e)))
noncomputable def sp_giveBack (T : TS) (w : Int32) : Rs := cif (¬ inR w 0 3) (1, 0, T) (cif (crd T w ∨ ¬ has T w) (2, 0, T) (0, 0, uho T (-1)))
noncomputable def sp_restart (T : TS) (w : Int32) : Rs := cif (¬ inR w 0 3) (1, 0, T) (cif (¬ crd T w) (2, 0, T) (0, b2i (has T w), ucr T (upd (tcr T) (ix w) 0)))
noncomputable def sp_pass (T : TS) (t : Int32) : Rs := cif (¬ inR t 1 1000) (1, 0, T) (0, ttm T + t, utm T (ttm T + t))
noncomputable def sp_begin (T : TS) (w : Int32) : Rs := cif (¬ inR w 0 3) (1, 0, T) (cif ((crd T w ∨ ¬ has T w) ∨ tac T ≠ 0 ∨ fdr T ≠ 0 ∨ tlv T = tn T) (2, 0, T) (0, nI (tlv T + 1), uR (ucu (uac T 1) 0) (upd (tR T) (tlv T + 1) (sumOf T (tlv T + 1)))))
noncomputable def lvU (T : TS) : Nat := cif (tac T = 0) (tlv T - 1) (tlv T)
noncomputable def sp_undo (T : TS) (w : Int32) : Rs := cif (¬ inR w 0 3) (1, 0, T) (cif ((crd T w ∨ ¬ has T w) ∨ tac T = 3 ∨ (tac T = 0 ∧ (tlv T = 0 ∨ drf T (tlv T)))) (2, 0, T) (0, nI (lvU T + 1), ucu (uac (ulv T (lvU T)) 3) 40))
noncomputable def sp_step (T : TS) (w n c : Int32) : Rs := cif (¬ (inR w 0 3 ∧ inR n 1 40 ∧ inR c 0 40)) (1, 0, T) (cif ((crd T w ∨ ¬ has T w) ∨ tac T = 0) (2, 0, T) (0, stR (tac T = 3) (ix w) (sgo (tac T = 3) c (min (ix n) (left T (tac T = 3))) 0 0 T)))
noncomputable def sp_cursor (T : TS) : Rs := cif (tac T = 0) (1, 0, T) (0, nI (tcu T), T)
noncomputable def sp_share (T : TS) : Int32 × UInt32 := cif (tac T = 0 ∨ pres T = 0) (1, 0) (0, FP.fdiv (FP.i2f (nI (hav T))) (FP.i2f (nI (pres T))))
/-! what always holds -/
abbrev okAt (T : TS) (j : Nat) : Prop := okCh (tK T j) (tC T j) (tO T j)
def Inv (T : TS) : Prop := (tn T ≤ 12 ∧ tlv T ≤ tn T ∧ tcu T ≤ 40) ∧ (tac T = 0 ∨ ((tac T = 1 ∨ tac T = 3) ∧ tlv T < tn T)) ∧ (∀ j, 1 ≤ j → j ≤ tn T → okAt T j) ∧ (∀ j, j < 120 → okV (tX T j).toInt64) ∧ (∀ j, j < 4 → tcr T j = 0 ∨ tcr T j = 1) ∧
  (∀ j, j < 40 → tV T j = -1 ∨ tV T j = nI (tlv T) ∨ (tac T ≠ 0 ∧ tV T j = nI (tlv T + 1))) ∧ (∀ j, j < 40 → tac T = 1 → j < tcu T → tV T j = -1 ∨ tV T j = nI (tlv T + 1)) ∧ (∀ j, j < 40 → tac T = 3 → tcu T ≤ j → tV T j = -1 ∨ tV T j = nI (tlv T))
abbrev TS0 : TS := mkT (fun _ => 0) (fun _ => 0) (fun _ => 0) (fun _ => 0) (fun _ => -1) (fun _ => 0) (fun _ => 0) 0 0 0 0 0 (-1) 0
/-! small rows on ranges -/
theorem inR_a {x lo hi h1 : Int32} (e : h1.toInt = hi.toInt + 1) (a : ¬ x < lo) (b : x < h1) : inR x lo hi := by
  refine ⟨Int32.not_lt.mp a, ?_⟩
  have b' := Int32.lt_iff_toInt_lt.mp b
  exact Int32.le_iff_toInt_le.mpr (by omega)
theorem inR_b {x lo hi : Int32} (a : ¬ x < lo) (b : ¬ hi < x) : inR x lo hi := ⟨Int32.not_lt.mp a, Int32.not_lt.mp b⟩
theorem nR_a {x lo hi : Int32} (a : x < lo) : ¬ inR x lo hi := fun h => Int32.not_le.mpr a h.1
theorem nR_b {x lo hi : Int32} (a : hi < x) : ¬ inR x lo hi := fun h => Int32.not_le.mpr a h.2
theorem nR_c {x lo hi h1 : Int32} (e : h1.toInt = hi.toInt + 1) (a : ¬ x < h1) : ¬ inR x lo hi := fun h => by
  have q1 := Int32.le_iff_toInt_le.mp h.2
  have q2 : ¬ x.toInt < h1.toInt := fun q => a (Int32.lt_iff_toInt_lt.mpr q)
  omega
theorem nR_d {x lo hi h1 : Int32} (e : h1.toInt = hi.toInt + 1) (a : h1 ≤ x) : ¬ inR x lo hi := nR_c e (Int32.not_lt.mpr a)
theorem inR_n {x hi : Int32} (n : Nat) (e : hi.toInt = n) (h : inR x 0 hi) : ∃ j : Nat, j ≤ n ∧ x = nI j := nI_of2 e (Int32.not_lt.mpr h.1) h.2
theorem inR_1 {x : Int32} {n : Nat} (hn : n < 2 ^ 31) (h : inR x 1 (nI n)) : ∃ k : Nat, k < n ∧ x = nI (k + 1) := by
  have h1 := Int32.le_iff_toInt_le.mp h.1
  have e1 : (1 : Int32).toInt = 1 := by decide
  have e0 : (0 : Int32).toInt = 0 := by decide
  obtain ⟨j, hj, rfl⟩ := nI_of2 (M := nI n) (nI_toInt hn) (x := x) (fun q => by have := Int32.lt_iff_toInt_lt.mp q; omega) h.2
  rw [nI_toInt (by omega), e1] at h1
  exact ⟨j - 1, by omega, by rw [Nat.sub_add_cancel (by omega)]⟩
theorem ix_n {j : Nat} (h : j < 2 ^ 31) : ix (nI j) = j := nI_clamp h
theorem okV_t {v : Int64} (a : ¬ v < -1000000000) (b : ¬ 1000000000 < v) : okV v := ⟨Int64.not_lt.mp a, Int64.not_lt.mp b⟩
theorem okV_a {v : Int64} (a : v < -1000000000) : ¬ okV v := fun h => Int64.not_le.mpr a h.1
theorem okV_b {v : Int64} (a : 1000000000 < v) : ¬ okV v := fun h => Int64.not_le.mpr a h.2
theorem nI_12 {n : Nat} (hn : n ≤ 12) : (12 : Int32) ≤ nI n ↔ 12 ≤ n := nI_leI (a := 12) (by decide) (by omega)
theorem okO_0 {k c o : Int32} (h : k = 0) : okO k c o ↔ inR o (-1000) 1000 := by
  subst h
  constructor
  · rintro (h | h | h)
    · exact h.2
    · exact absurd h.1 (by decide)
    · exact absurd rfl h.1
  · exact fun h => Or.inl ⟨rfl, h⟩
theorem okO_1 {k c o : Int32} (h : k = 1) : okO k c o ↔ (inR o (-9) 9 ∧ o ≠ 0) := by
  subst h
  constructor
  · rintro (h | h | h)
    · exact absurd h.1 (by decide)
    · exact h.2
    · exact absurd rfl h.2.1
  · exact fun h => Or.inr (Or.inl ⟨rfl, h⟩)
theorem okO_2 {k c o : Int32} (h0 : k ≠ 0) (h1 : k ≠ 1) : okO k c o ↔ (inR o 0 2 ∧ o ≠ c) := by
  constructor
  · rintro (h | h | h)
    · exact absurd h.1 h0
    · exact absurd h.1 h1
    · exact h.2.2
  · exact fun h => Or.inr (Or.inr ⟨h0, h1, h⟩)
theorem okC_n {c : Int32} (h : inR c 0 2) : ∃ j : Nat, j < 3 ∧ c = nI j := by
  obtain ⟨j, hj, e⟩ := inR_n 2 (by decide) h
  exact ⟨j, by omega, e⟩
theorem b2i_iff {q q' : Prop} (h : q ↔ q') : b2i q = b2i q' := by rw [propext h]
theorem putR_is {row : Nat → Int32} {c : Nat} {v : Int64} : (putR row c v).isSome = true ↔ okV v := by
  unfold putR
  by_cases h : okV v
  · rw [cif_t h]; exact ⟨fun _ => h, fun _ => rfl⟩
  · rw [cif_f h]; exact ⟨fun q => (by cases q), fun q => absurd q h⟩
theorem putR_eq {row tr : Nat → Int32} {c : Nat} {v : Int64} {row' : Nat → Int32} (hr : ∀ q, q < 3 → tr q = row q) (h : putR row c v = some row') : ∀ q, q < 3 → cif (okV v) (upd tr c v.toInt32) tr q = row' q := by
  unfold putR at h
  by_cases k : okV v
  · rw [cif_t k] at h
    cases h
    intro q hq
    rw [cif_t k]
    unfold upd
    split
    · rfl
    · exact hr q hq
  · rw [cif_f k] at h; cases h
theorem tl_ne {x : Int32} (h : ¬ x = 0) : ¬ x.toInt64 = 0 := fun e => h (by
  have q : x.toInt64.toInt = (0 : Int64).toInt := by rw [e]
  rw [Int32.toInt_toInt64] at q
  exact Int32.toInt_inj.mp q)
theorem ap_0 {T : TS} {und : Prop} {k c : Nat} {row : Nat → Int32} (h : tK T k = 0) (e : tC T k = nI c) (hc : c < 3) : ap T und k row = putR row c (cif und ((row c).toInt64 - (tO T k).toInt64) ((row c).toInt64 + (tO T k).toInt64)) := by
  unfold ap
  rw [cif_t h, e, ix_n (by omega)]
theorem ap_1 {T : TS} {und : Prop} {k c : Nat} {row : Nat → Int32} (h : tK T k = 1) (e : tC T k = nI c) (hc : c < 3) : ap T und k row = cif und (cif ((row c).toInt64 - (row c).toInt64 / (tO T k).toInt64 * (tO T k).toInt64 = 0) (putR row c ((row c).toInt64 / (tO T k).toInt64)) none) (putR row c ((row c).toInt64 * (tO T k).toInt64)) := by
  unfold ap
  rw [cif_f (by rw [h]; decide), cif_t h, e, ix_n (by omega)]
theorem ap_2 {T : TS} {und : Prop} {k c o : Nat} {row : Nat → Int32} (h0 : tK T k ≠ 0) (h1 : tK T k ≠ 1) (e : tC T k = nI c) (hc : c < 3) (e2 : tO T k = nI o) (ho : o < 3) : ap T und k row = some (swp row c o) := by
  unfold ap
  rw [cif_f h0, cif_f h1, e, e2, ix_n (by omega), ix_n (by omega)]
theorem swp_eq {row tr : Nat → Int32} {c o : Nat} (hr : ∀ q, q < 3 → tr q = row q) (hc : c < 3) (ho : o < 3) : ∀ q, q < 3 → swp tr c o q = swp row c o q := by
  intro q hq
  simp only [swp, upd, hr c hc, hr o ho, hr q hq]
theorem ap_put {T : TS} {und : Prop} {k c : Nat} {tr row u : Nat → Int32} {v w : Int64} (hrow : ∀ q, q < 3 → tr q = row q) (hc : c < 3) (e : ap T und k row = putR row c v) (hv : w = v) (hu : u = cif (okV w) (upd tr c w.toInt32) tr) : b2i (okV w) = b2i ((ap T und k row).isSome = true) ∧ ∀ row2, ap T und k row = some row2 → ∀ q, q < 3 → u q = row2 q := by
  subst hv
  rw [e]
  refine ⟨b2i_iff putR_is.symm, fun row2 h2 => ?_⟩
  rw [hu]
  exact putR_eq hrow h2
theorem b01 {x : Int32} (h : x = 0 ∨ x = 1) : x = b2i (x ≠ 0) := by
  rcases h with rfl | rfl
  · exact b2i_f' (fun q => q rfl)
  · exact b2i_t' (by decide)
theorem cntV_t {V : Nat → Int32} {q : Int32 → Prop} {j : Nat} (h : q (V j)) : cntV V q (j + 1) = cntV V q j + 1 := by
  show cntV V q j + cif (q (V j)) 1 0 = _
  rw [cif_t h]
theorem cntV_f {V : Nat → Int32} {q : Int32 → Prop} {j : Nat} (h : ¬ q (V j)) : cntV V q (j + 1) = cntV V q j := by
  show cntV V q j + cif (q (V j)) 1 0 = _
  rw [cif_f h, Nat.add_zero]
/-! the change that runs or is being undone -/
abbrev unD (T : TS) (und : Prop) : Prop := (tac T = 1 ∧ ¬ und) ∨ (tac T = 3 ∧ und)
theorem un1 {T : TS} {und : Prop} (hu : unD T und) (h : tac T = 1) : ¬ und := by
  rcases hu with q | q
  · exact q.2
  · rw [q.1] at h; exact absurd h (by decide)
theorem un3 {T : TS} {und : Prop} (hu : unD T und) (h : ¬ tac T = 1) : und := by
  rcases hu with q | q
  · exact absurd q.1 h
  · exact q.2
theorem left_t {T : TS} {und : Prop} (h : und) : nI (tcu T) = nI (left T und) := by unfold left; rw [cif_t h]
theorem left_f {T : TS} {und : Prop} (h : ¬ und) : nI (40 - tcu T) = nI (left T und) := by unfold left; rw [cif_f h]
theorem poB_t {T : TS} {und : Prop} {k : Nat} (h : und) : nI (tcu T - k) = nI (poB T und k) := by unfold poB; rw [cif_t h]
theorem poB_f {T : TS} {und : Prop} {k : Nat} (h : ¬ und) : nI (tcu T + k) = nI (poB T und k) := by unfold poB; rw [cif_f h]
theorem idB_t {T : TS} {und : Prop} {k : Nat} (h : und) : nI (tcu T - 1 - k) = nI (idB T und k) := by unfold idB; rw [cif_t h]
theorem idB_f {T : TS} {und : Prop} {k : Nat} (h : ¬ und) : nI (tcu T + k) = nI (idB T und k) := by unfold idB; rw [cif_f h]
theorem nw_t {T : TS} {j : Nat} (h : tac T ≠ 0) (h2 : nI j < nI (tcu T)) : nI (tlv T + 1) = vNew T j := (cif_t ⟨h, h2⟩).symm
theorem nw_a {T : TS} {j : Nat} (h : ¬ tac T ≠ 0) : nI (tlv T) = vNew T j := (cif_f fun q => h q.1).symm
theorem nw_b {T : TS} {j : Nat} (h : nI (tcu T) ≤ nI j) : nI (tlv T) = vNew T j := (cif_f fun q => Int32.not_lt.mpr h q.2).symm
theorem brU_0 {T : TS} {k : Nat} {row : Nat → Int32} : brU T 0 k row = some row := rfl
theorem brD_0 {T : TS} {k : Nat} {row : Nat → Int32} : brD T 0 k row = some row := rfl
theorem brU_s {T : TS} {r k : Nat} {row row2 : Nat → Int32} (h : ap T False (k + 1) row = some row2) : brU T (r + 1) k row = brU T r (k + 1) row2 := by
  show (match ap T False (k + 1) row with | none => none | some row' => brU T r (k + 1) row') = _
  rw [h]
theorem brU_n {T : TS} {r k : Nat} {row : Nat → Int32} (h : ap T False (k + 1) row = none) : brU T (r + 1) k row = none := by
  show (match ap T False (k + 1) row with | none => none | some row' => brU T r (k + 1) row') = _
  rw [h]
theorem brD_s {T : TS} {r k : Nat} {row row2 : Nat → Int32} (h : ap T True k row = some row2) : brD T (r + 1) k row = brD T r (k - 1) row2 := by
  show (match ap T True k row with | none => none | some row' => brD T r (k - 1) row') = _
  rw [h]
theorem brD_n {T : TS} {r k : Nat} {row : Nat → Int32} (h : ap T True k row = none) : brD T (r + 1) k row = none := by
  show (match ap T True k row with | none => none | some row' => brD T r (k - 1) row') = _
  rw [h]
theorem bring_n {T : TS} {f t : Nat} {row : Nat → Int32} (h : brU T (t - f) f row = none) : bring T row f t = none := by unfold bring; rw [h]
theorem bring_s {T : TS} {f t : Nat} {row row2 : Nat → Int32} (h : brU T (t - f) f row = some row2) : bring T row f t = brD T (f - t) f row2 := by unfold bring; rw [h]
theorem is_n {α : Type} {x : Option α} (h : ¬ x.isSome = true) : x = none := by cases x <;> simp_all
theorem is_s {α : Type} {x : Option α} (h : x.isSome = true) : ∃ y, x = some y := by
  cases x with
  | none => cases h
  | some y => exact ⟨y, rfl⟩
theorem bring_up {T : TS} {f : Nat} {row : Nat → Int32} : bring T row f (f + 1) = ap T False (f + 1) row := by
  cases h : ap T False (f + 1) row with
  | none => exact bring_n (by rw [show f + 1 - f = 0 + 1 by omega]; exact brU_n h)
  | some row2 => rw [bring_s (row2 := row2) (by rw [show f + 1 - f = 0 + 1 by omega]; exact brU_s h), show f - (f + 1) = 0 by omega]; rfl
theorem bring_dn {T : TS} {f : Nat} {row : Nat → Int32} : bring T row (f + 1) f = ap T True (f + 1) row := by
  rw [bring_s (row2 := row) (by rw [show f - (f + 1) = 0 by omega]; rfl), show f + 1 - f = 0 + 1 by omega]
  cases h : ap T True (f + 1) row with
  | none => exact brD_n h
  | some row2 => rw [brD_s h]; rfl
theorem cpRow {X tr : Nat → Int32} {j : Nat} : ∀ q, q < 3 → (upd (upd (upd tr 0 (X (3 * j + 0))) 1 (X (3 * j + 1))) 2 (X (3 * j + 2))) q = X (3 * j + q) := by
  intro q hq
  rcases (show q = 0 ∨ q = 1 ∨ q = 2 by omega) with rfl | rfl | rfl <;> simp [upd]
theorem wrX_eq {X u row : Nat → Int32} {j : Nat} (h : ∀ q, q < 3 → u q = row q) : wrX X j u = wrX X j row := by
  unfold wrX
  rw [h 0 (by decide), h 1 (by decide), h 2 (by decide)]
theorem stp_ok {T : TS} {und : Prop} {j : Nat} {x : Int32} {u row2 : Nat → Int32} (h : ap T und (tlv T + 1) (rowOf T j) = some row2) (hu : ∀ q, q < 3 → u q = row2 q) (hx : x = cif und (tV T j - 1) (tV T j + 1)) : stp T und j = some (uV (uX T (wrX (tX T) j u)) (upd (tV T) j x)) := by
  unfold stp
  rw [h, wrX_eq hu, hx]
theorem stp_n {T : TS} {und : Prop} {j : Nat} (h : ap T und (tlv T + 1) (rowOf T j) = none) : stp T und j = none := by unfold stp; rw [h]
/-- which version a row has that is to be changed -/
abbrev vF (T : TS) (und : Prop) (f : Nat) : Prop := (¬ und ∧ f = tlv T) ∨ (und ∧ f = tlv T + 1)
theorem ap_cg {T : TS} {u v : Prop} (h : u ↔ v) {k : Nat} {row : Nat → Int32} : ap T u k row = ap T v k row := by rw [propext h]
theorem chg_up {T : TS} {und : Prop} {f j : Nat} (hf : vF T und f) (h : ¬ und) : bring T (rowOf T j) f (f + 1) = ap T und (tlv T + 1) (rowOf T j) := by
  rcases hf with ⟨-, rfl⟩ | ⟨q, -⟩
  · rw [bring_up]; exact ap_cg ⟨fun q => q.elim, fun q => h q⟩
  · exact absurd q h
theorem chg_dn {T : TS} {und : Prop} {f j : Nat} (hf : vF T und f) (h : und) : bring T (rowOf T j) f (f - 1) = ap T und (tlv T + 1) (rowOf T j) := by
  rcases hf with ⟨q, -⟩ | ⟨-, rfl⟩
  · exact absurd h q
  · rw [Nat.add_sub_cancel, bring_dn]; exact ap_cg ⟨fun _ => h, fun _ => trivial⟩
theorem chg_1 {T : TS} {und : Prop} {f j : Nat} (ef : tV T j = nI f) (h : ¬ und) : nI (f + 1) = cif und (tV T j - 1) (tV T j + 1) := by
  rw [cif_f h, ef]; exact (nI_1 f).symm
theorem chg_3 {T : TS} {und : Prop} {f j : Nat} (ef : tV T j = nI f) (hf : vF T und f) (h : und) : nI (f - 1) = cif und (tV T j - 1) (tV T j + 1) := by
  rw [cif_t h, ef]
  rcases hf with ⟨q, -⟩ | ⟨-, rfl⟩
  · exact absurd h q
  · exact (pk_sub (b := 1) (by omega)).symm
theorem fin_0 {T : TS} {und : Prop} (h : left T und ≠ 0) (hcu : tcu T ≤ 40) : fin T und (tcu T) = T := by
  unfold fin
  unfold left at h
  by_cases hu : und
  · rw [cif_t hu] at h ⊢
    rw [cif_f h]
  · rw [cif_f hu] at h ⊢
    rw [cif_f (by omega)]
theorem fin_1 {T : TS} {und : Prop} (h : left T und = 0) (hcu : tcu T ≤ 40) (hu : ¬ und) : fin T und (tcu T) = uac (ulv T (tlv T + 1)) 0 := by
  unfold fin
  unfold left at h
  rw [cif_f hu] at h ⊢
  rw [cif_t (by omega)]
theorem fin_3 {T : TS} {und : Prop} (h : left T und = 0) (hu : und) : fin T und (tcu T) = uac T 0 := by
  unfold fin
  unfold left at h
  rw [cif_t hu] at h ⊢
  rw [cif_t h]
theorem lft_le {n : Nat} (hn : n < 2 ^ 31) : nI n ≤ 0 ↔ n = 0 := by
  constructor
  · intro h
    rcases Nat.eq_zero_or_pos n with q | q
    · exact q
    · exact absurd h (nI_nle q hn)
  · rintro rfl
    exact Int32.le_iff_toInt_le.mpr (by decide)
/-! what holds while a step runs: all but where the cursor stands among the rows -/
def InvW (T : TS) : Prop := (tn T ≤ 12 ∧ tlv T ≤ tn T ∧ tcu T ≤ 40) ∧ (tac T = 0 ∨ ((tac T = 1 ∨ tac T = 3) ∧ tlv T < tn T)) ∧ (∀ j, 1 ≤ j → j ≤ tn T → okAt T j) ∧ (∀ j, j < 120 → okV (tX T j).toInt64) ∧ (∀ j, j < 4 → tcr T j = 0 ∨ tcr T j = 1) ∧
  (∀ j, j < 40 → tV T j = -1 ∨ tV T j = nI (tlv T) ∨ (tac T ≠ 0 ∧ tV T j = nI (tlv T + 1)))
theorem Inv.w {T : TS} (h : Inv T) : InvW T := ⟨h.1, h.2.1, h.2.2.1, h.2.2.2.1, h.2.2.2.2.1, h.2.2.2.2.2.1⟩
theorem nI_m1 {n : Nat} (h : n < 2 ^ 31) : nI n ≠ -1 := fun e => by
  have q := nI_toInt h
  rw [e] at q
  have q2 : (-1 : Int32).toInt = -1 := by decide
  omega
theorem nI_s {n : Nat} (h : n < 2 ^ 30) : ¬ nI (n + 1) ≤ nI n := nI_ge (by omega) (by omega)
/-- a row that is to be changed: its version -/
theorem vF_of {T : TS} {und : Prop} {j : Nat} (hI : InvW T) (hj : j < 40) (h : lft T und j) : ∃ f, tV T j = nI f ∧ vF T und f ∧ f ≤ 12 ∧ f ≤ tn T := by
  obtain ⟨⟨h1, h2, h3⟩, h4, -, -, -, h6⟩ := hI
  obtain ⟨n1, n2⟩ := h
  rcases h6 j hj with q | q | ⟨q0, q⟩
  · exact absurd q n1
  · rcases n2 with ⟨u, k⟩ | ⟨u, k⟩
    · rw [q] at k
      exact absurd k (nI_s (by omega))
    · exact ⟨tlv T, q, Or.inl ⟨u, rfl⟩, by omega, by omega⟩
  · rcases n2 with ⟨u, k⟩ | ⟨u, k⟩
    · rcases h4 with z | ⟨-, z⟩
      · exact absurd z q0
      · exact ⟨tlv T + 1, q, Or.inr ⟨u, rfl⟩, by omega, by omega⟩
    · exact absurd (by rw [q]; exact Int32.le_refl _) k
theorem cifP {α : Type} {P : α → Prop} {q : Prop} {x y : α} (h1 : q → P x) (h2 : ¬ q → P y) : P (cif q x y) := by
  by_cases h : q
  · rw [cif_t h]; exact h1 h
  · rw [cif_f h]; exact h2 h
theorem idB_lt {T : TS} {und : Prop} {k : Nat} (hcu : tcu T ≤ 40) (h : k < left T und) : idB T und k < 40 ∧ (und → k < tcu T) := by
  unfold left at h
  unfold idB
  by_cases hu : und
  · rw [cif_t hu] at h ⊢
    exact ⟨by omega, fun _ => h⟩
  · rw [cif_f hu] at h ⊢
    exact ⟨by omega, fun q => absurd q hu⟩
theorem left_le {T : TS} {und : Prop} (hcu : tcu T ≤ 40) : left T und ≤ 40 := by
  unfold left
  by_cases hu : und
  · rw [cif_t hu]; exact hcu
  · rw [cif_f hu]; omega
theorem left_cg {T T1 : TS} {und : Prop} (h : tcu T1 = tcu T) : left T1 und = left T und := by unfold left; rw [h]
theorem poB_cg {T T1 : TS} {und : Prop} {k : Nat} (h : tcu T1 = tcu T) : poB T1 und k = poB T und k := by unfold poB; rw [h]
theorem poB_le {T : TS} {und : Prop} {k : Nat} (hcu : tcu T ≤ 40) (h : k ≤ left T und) : poB T und k ≤ 40 ∧ (und → k ≤ tcu T) := by
  unfold left at h
  unfold poB
  by_cases hu : und
  · rw [cif_t hu] at h ⊢
    exact ⟨by omega, fun _ => h⟩
  · rw [cif_f hu] at h ⊢
    exact ⟨by omega, fun q => absurd q hu⟩
/-- what a row's change leaves as it was -/
abbrev keepR (T T2 : TS) : Prop := tac T2 = tac T ∧ tcu T2 = tcu T ∧ tlv T2 = tlv T ∧ tcr T2 = tcr T
theorem stp_keep {T T2 : TS} {und : Prop} {j : Nat} (h : stp T und j = some T2) : keepR T T2 := by
  unfold stp at h
  cases hap : ap T und (tlv T + 1) (rowOf T j) with
  | none => rw [hap] at h; cases h
  | some row => rw [hap] at h; cases h; exact ⟨rfl, rfl, rfl, rfl⟩
theorem sgo_skip {und : Prop} {cs : Int32} {r k ch : Nat} {T : TS} (h : ¬ lft T und (idB T und k)) : sgo und cs (r + 1) k ch T = sgo und cs r (k + 1) ch T := cif_f h
theorem sgo_blk {und : Prop} {cs : Int32} {r k ch : Nat} {T : TS} (h : lft T und (idB T und k)) (e : stp T und (idB T und k) = none) : sgo und cs (r + 1) k ch T = (1, k, ch, T) := by
  refine (cif_t h).trans ?_
  rw [e]
theorem sgo_cr {und : Prop} {cs : Int32} {r k ch : Nat} {T T2 : TS} (h : lft T und (idB T und k)) (e : stp T und (idB T und k) = some T2) (hc : nI (ch + 1) = cs) : sgo und cs (r + 1) k ch T = (2, k, ch + 1, T2) := by
  refine (cif_t h).trans ?_
  rw [e]
  exact cif_t hc
theorem sgo_go {und : Prop} {cs : Int32} {r k ch : Nat} {T T2 : TS} (h : lft T und (idB T und k)) (e : stp T und (idB T und k) = some T2) (hc : ¬ nI (ch + 1) = cs) : sgo und cs (r + 1) k ch T = sgo und cs r (k + 1) (ch + 1) T2 := by
  refine (cif_t h).trans ?_
  rw [e]
  exact cif_f hc
theorem stR_0 {und : Prop} {w k ch : Nat} {T : TS} : stR und w (0, k, ch, T) = (nI ch, fin T und (poB T und k)) := cif_t rfl
theorem stR_1 {und : Prop} {w k ch : Nat} {T : TS} : stR und w (1, k, ch, T) = (nI ch - 100, ucu T (poB T und k)) := (cif_f (by decide : ¬ (1 : Nat) = 0)).trans (cif_t rfl)
theorem stR_2 {und : Prop} {w k ch : Nat} {T : TS} : stR und w (2, k, ch, T) = (nI ch, ucr T (upd (tcr T) w 1)) := (cif_f (by decide : ¬ (2 : Nat) = 0)).trans (cif_f (by decide : ¬ (2 : Nat) = 1))
theorem fin_cu {T : TS} {und : Prop} {p : Nat} : fin (ucu T p) und p = fin T und p := rfl
theorem unD_cg {T T1 : TS} {und : Prop} (h : tac T1 = tac T) (hu : unD T und) : unD T1 und := by unfold unD at *; rw [h]; exact hu
theorem getD_s {α : Type} {x : Option α} {y d : α} (h : x = some y) : x.getD d = y := by rw [h]; rfl
theorem getD_n {α : Type} {x : Option α} {d : α} (h : x = none) : x.getD d = d := by rw [h]; rfl
theorem okV_i {v : Int64} (h : okV v) : v.toInt32.toInt64 = v := by
  have h1 := Int64.le_iff_toInt_le.mp h.1
  have h2 := Int64.le_iff_toInt_le.mp h.2
  have e1 : (-1000000000 : Int64).toInt = -1000000000 := by decide
  have e2 : (1000000000 : Int64).toInt = 1000000000 := by decide
  rw [e1] at h1
  rw [e2] at h2
  apply Int64.toInt_inj.mp
  rw [Int32.toInt_toInt64, Int64.toInt_toInt32]
  apply Int.bmod_eq_of_le
  · omega
  · omega
theorem ap_okV {T : TS} {und : Prop} {k : Nat} {row row2 : Nat → Int32} (hok : okAt T k) (hr : ∀ q, q < 3 → okV (row q).toInt64) (h : ap T und k row = some row2) : ∀ q, q < 3 → okV (row2 q).toInt64 := by
  obtain ⟨c, hc, ec⟩ := okC_n hok.2.1
  have put : ∀ v : Int64, putR row c v = some row2 → ∀ q, q < 3 → okV (row2 q).toInt64 := by
    intro v hv q hq
    unfold putR at hv
    by_cases k : okV v
    · rw [cif_t k] at hv
      cases hv
      unfold upd
      split
      · rw [okV_i k]; exact k
      · exact hr q hq
    · rw [cif_f k] at hv; cases hv
  by_cases h0 : tK T k = 0
  · rw [ap_0 h0 ec hc] at h
    exact put _ h
  · by_cases h1 : tK T k = 1
    · rw [ap_1 h1 ec hc] at h
      by_cases hu : und
      · rw [cif_t hu] at h
        by_cases hd : (row c).toInt64 - (row c).toInt64 / (tO T k).toInt64 * (tO T k).toInt64 = 0
        · rw [cif_t hd] at h; exact put _ h
        · rw [cif_f hd] at h; cases h
      · rw [cif_f hu] at h; exact put _ h
    · obtain ⟨ho9, -⟩ := (okO_2 h0 h1).mp hok.2.2
      obtain ⟨o, ho, eo⟩ := okC_n ho9
      rw [ap_2 h0 h1 ec hc eo ho] at h
      cases h
      intro q hq
      simp only [swp, upd]
      split
      · exact hr c hc
      · split
        · exact hr o ho
        · exact hr q hq
theorem wrX_okV {X row : Nat → Int32} {j : Nat} (hX : ∀ i, i < 120 → okV (X i).toInt64) (hr : ∀ q, q < 3 → okV (row q).toInt64) : ∀ i, i < 120 → okV (wrX X j row i).toInt64 := by
  intro i hi
  simp only [wrX, upd]
  split
  · exact hr 2 (by decide)
  · split
    · exact hr 1 (by decide)
    · split
      · exact hr 0 (by decide)
      · exact hX i hi
theorem stp_inv {T T2 : TS} {und : Prop} {j : Nat} (hI : InvW T) (hu : unD T und) (hj : j < 40) (hl : lft T und j) (h : stp T und j = some T2) : InvW T2 := by
  obtain ⟨f, ef, hf, hf12, hfn⟩ := vF_of hI hj hl
  have hac : tac T ≠ 0 := by
    rcases hu with q | q <;> (rw [q.1]; decide)
  obtain ⟨g1, g2, g3, g4, g5, g6⟩ := hI
  have hlv : tlv T < tn T := by
    rcases g2 with q | q
    · exact absurd q hac
    · exact q.2
  cases hap : ap T und (tlv T + 1) (rowOf T j) with
  | none => rw [stp_n hap] at h; cases h
  | some row =>
    have e : T2 = uV (uX T (wrX (tX T) j row)) (upd (tV T) j (cif und (tV T j - 1) (tV T j + 1))) := by
      unfold stp at h
      rw [hap] at h
      exact (Option.some.inj h).symm
    subst e
    have hr : ∀ q, q < 3 → okV (rowOf T j q).toInt64 := fun q hq => g4 _ (by omega)
    refine ⟨g1, g2, g3, wrX_okV g4 (ap_okV (g3 _ (by omega) (by omega)) hr hap), g5, fun i hi => ?_⟩
    show upd (tV T) j (cif und (tV T j - 1) (tV T j + 1)) i = -1 ∨ upd (tV T) j (cif und (tV T j - 1) (tV T j + 1)) i = nI (tlv T) ∨ (tac T ≠ 0 ∧ upd (tV T) j (cif und (tV T j - 1) (tV T j + 1)) i = nI (tlv T + 1))
    by_cases hij : i = j
    · have e1 : upd (tV T) j (cif und (tV T j - 1) (tV T j + 1)) i = cif und (tV T j - 1) (tV T j + 1) := by simp [upd, hij]
      rw [e1]
      rcases hf with ⟨q, rfl⟩ | ⟨q, rfl⟩
      · exact Or.inr (Or.inr ⟨hac, (chg_1 ef q).symm⟩)
      · refine Or.inr (Or.inl ?_)
        rw [← chg_3 ef (Or.inr ⟨q, rfl⟩) q, Nat.add_sub_cancel]
    · have e1 : upd (tV T) j (cif und (tV T j - 1) (tV T j + 1)) i = tV T i := by simp [upd, hij]
      rw [e1]
      exact g6 i hi
/-! the lock, rows and counts, for the calls -/
theorem own_has {T : TS} {j : Nat} (hj : j < 2 ^ 31) : owner T = nI j ↔ has T (nI j) := by
  unfold owner
  by_cases h : ttm T < tle T
  · rw [cif_t h]
    exact ⟨fun e => ⟨⟨by rw [e]; exact nI_m1 hj, h⟩, e⟩, fun e => e.2⟩
  · rw [cif_f h]
    exact ⟨fun e => absurd e.symm (nI_m1 hj), fun e => absurd e.1.2 h⟩
theorem own_no {T : TS} {x : Int32} (h : owner T = -1 ∨ owner T = x) : ¬ (isHeld T ∧ tho T ≠ x) := by
  rintro ⟨⟨h1, h2⟩, h3⟩
  unfold owner at h
  rw [cif_t h2] at h
  exact h.elim h1 h3
theorem own_yes {T : TS} {x : Int32} (h1 : ¬ owner T = -1) (h2 : ¬ owner T = x) : isHeld T ∧ tho T ≠ x := by
  unfold owner at h1 h2
  by_cases h : ttm T < tle T
  · rw [cif_t h] at h1 h2; exact ⟨⟨h1, h⟩, h2⟩
  · rw [cif_f h] at h1; exact absurd rfl h1
theorem crd_n {T : TS} {j : Nat} (hj : j < 2 ^ 31) : crd T (nI j) ↔ tcr T j ≠ 0 := by
  show tcr T (ix (nI j)) ≠ 0 ↔ _
  rw [ix_n hj]
/-- at work: not crashed, and has the lock -/
theorem atw_t {T : TS} {j : Nat} (hj : j < 4) (h : ¬ tcr T j ≠ 0 ∧ owner T = nI j) : ¬ (crd T (nI j) ∨ ¬ has T (nI j)) := by
  rintro (q | q)
  · exact h.1 ((crd_n (by omega)).mp q)
  · exact q ((own_has (by omega)).mp h.2)
theorem atw_f {T : TS} {j : Nat} (hj : j < 4) (h : tcr T j ≠ 0 ∨ owner T ≠ nI j) : crd T (nI j) ∨ ¬ has T (nI j) :=
  h.elim (fun q => Or.inl ((crd_n (by omega)).mpr q)) (fun q => Or.inr fun e => q ((own_has (by omega)).mpr e))
theorem vN_of {T : TS} {j : Nat} (hI : InvW T) (hj : j < 40) (h : tV T j ≠ -1) : ∃ f, tV T j = nI f ∧ f ≤ 12 ∧ f ≤ tn T := by
  obtain ⟨⟨h1, h2, h3⟩, h4, -, -, -, h6⟩ := hI
  rcases h6 j hj with q | q | ⟨q0, q⟩
  · exact absurd q h
  · exact ⟨tlv T, q, by omega, by omega⟩
  · rcases h4 with z | ⟨-, z⟩
    · exact absurd z q0
    · exact ⟨tlv T + 1, q, by omega, by omega⟩
theorem cnt_cg {V : Nat → Int32} {q q' : Int32 → Prop} : ∀ n, (∀ j, j < n → (q (V j) ↔ q' (V j))) → cntV V q n = cntV V q' n
  | 0, _ => rfl
  | n + 1, h => by
    have e := cnt_cg n (fun j hj => h j (by omega))
    by_cases k : q (V n)
    · rw [cntV_t k, cntV_t ((h n (by omega)).mp k), e]
    · rw [cntV_f k, cntV_f (fun z => k ((h n (by omega)).mpr z)), e]
theorem cnt_le {V : Nat → Int32} {q : Int32 → Prop} : ∀ n, cntV V q n ≤ n
  | 0 => Nat.le_refl _
  | n + 1 => by
    have e := cnt_le (V := V) (q := q) n
    by_cases k : q (V n)
    · rw [cntV_t k]; omega
    · rw [cntV_f k]; omega
theorem pres_eq {T : TS} (hI : InvW T) : cntV (tV T) (fun y => 0 ≤ y) 40 = pres T := by
  refine cnt_cg 40 fun j hj => ?_
  by_cases h : tV T j = -1
  · rw [h]; decide
  · obtain ⟨f, ef, hf, -⟩ := vN_of hI hj h
    rw [ef]
    exact ⟨fun _ => nI_m1 (by omega), fun _ => nI_pos' (by omega)⟩
theorem hav_eq {T : TS} (hI : InvW T) : cntV (tV T) (fun y => nI (tlv T + 1) ≤ y) 40 = hav T := by
  have hl : tlv T ≤ 12 := Nat.le_trans hI.1.2.1 hI.1.1
  refine cnt_cg 40 fun j hj => ?_
  by_cases h : tV T j = -1
  · rw [h]
    have e1 : (-1 : Int32).toInt = -1 := by decide
    rw [Int32.le_iff_toInt_le, Int32.lt_iff_toInt_lt, nI_toInt (by omega), nI_toInt (by omega), e1]
    omega
  · obtain ⟨f, ef, hf, -⟩ := vN_of hI hj h
    rw [ef, nI_leI (by omega) (by omega), nI_ltI (by omega) (by omega)]
    omega
theorem min_nI {b l : Nat} (hb : b < 2 ^ 31) (hl : l < 2 ^ 31) : (if nI l < nI b then nI l else nI b) = nI (min b l) := by
  by_cases h : l < b
  · rw [if_pos ((nI_ltI hl hb).mpr h), Nat.min_eq_right (by omega)]
  · rw [if_neg (fun q => h ((nI_ltI hl hb).mp q)), Nat.min_eq_left (by omega)]
theorem unD_of {T : TS} (hI : InvW T) (h : tac T ≠ 0) : unD T (tac T = 3) := by
  rcases hI.2.1 with q | ⟨q | q, -⟩
  · exact absurd q h
  · exact Or.inl ⟨q, by rw [q]; decide⟩
  · exact Or.inr ⟨q, q⟩
theorem inR_nn {x : Int32} {n : Nat} (hn : n < 2 ^ 31) (h : inR x 0 (nI n)) : ∃ j : Nat, j ≤ n ∧ x = nI j := nI_of2 (nI_toInt hn) (Int32.not_lt.mpr h.1) h.2
theorem tn_12 {n : Nat} (hn : n ≤ 12) (h : 12 ≤ n) : n = 12 := by omega
