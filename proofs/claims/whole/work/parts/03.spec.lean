/-! WHAT EACH CALL DOES, on the abstract state: the code of the exception (0 for none), the answer, the new state -/
abbrev inR (x lo hi : Int32) : Prop := lo ≤ x ∧ x ≤ hi
abbrev okV (v : Int64) : Prop := -1000000000 ≤ v ∧ v ≤ 1000000000
abbrev okO (k c o : Int32) : Prop := (k = 0 ∧ inR o (-1000) 1000) ∨ (k = 1 ∧ inR o (-9) 9 ∧ o ≠ 0) ∨ (k ≠ 0 ∧ k ≠ 1 ∧ inR o 0 2 ∧ o ≠ c)
abbrev okCh (k c o : Int32) : Prop := inR k 0 2 ∧ inR c 0 2 ∧ okO k c o
abbrev ix (x : Int32) : Nat := x.toNatClampNeg
abbrev Rs : Type := Int32 × Int32 × TS
abbrev sumE (k c o : Int32) (j : Int32) : Int32 := ((k * 31 + c) * 2003 + o + 1001) * 7 + j
abbrev sumM (y : Int32) : Int32 := y - y / 65521 * 65521
abbrev sumOf (T : TS) (j : Nat) : Int32 := sumM (sumE (tK T j) (tC T j) (tO T j) (nI j))
abbrev putC (T : TS) (j : Nat) (k c o : Int32) : TS := uK (uC (uO T (upd (tO T) j o)) (upd (tC T) j c)) (upd (tK T) j k)
abbrev drf (T : TS) (j : Nat) : Prop := sumOf T j ≠ tR T j
noncomputable def fdU (T : TS) : Nat → Nat → Int32
  | 0, _ => 0
  | r + 1, k => cif (drf T (k + 1)) (nI (k + 1)) (fdU T r (k + 1))
noncomputable def fdr (T : TS) : Int32 := fdU T (tlv T) 0
abbrev isHeld (T : TS) : Prop := tho T ≠ -1 ∧ ttm T < tle T
abbrev has (T : TS) (w : Int32) : Prop := isHeld T ∧ tho T = w
noncomputable def owner (T : TS) : Int32 := cif (ttm T < tle T) (tho T) (-1)
abbrev crd (T : TS) (w : Int32) : Prop := tcr T (ix w) ≠ 0
abbrev rowOf (T : TS) (j : Nat) : Nat → Int32 := fun c => tX T (3 * j + c)
noncomputable def putR (row : Nat → Int32) (c : Nat) (r : Int64) : Option (Nat → Int32) := cif (okV r) (some (upd row c r.toInt32)) none
abbrev swp (row : Nat → Int32) (c d : Nat) : Nat → Int32 := upd (upd row c (row d)) d (row c)
/-- one change on a row of values, or its undoing -/
noncomputable def ap (T : TS) (und : Prop) (k : Nat) (row : Nat → Int32) : Option (Nat → Int32) :=
  cif (tK T k = 0) (putR row (ix (tC T k)) (cif und ((row (ix (tC T k))).toInt64 - (tO T k).toInt64) ((row (ix (tC T k))).toInt64 + (tO T k).toInt64)))
    (cif (tK T k = 1)
      (cif und (cif ((row (ix (tC T k))).toInt64 - (row (ix (tC T k))).toInt64 / (tO T k).toInt64 * (tO T k).toInt64 = 0) (putR row (ix (tC T k)) ((row (ix (tC T k))).toInt64 / (tO T k).toInt64)) none)
        (putR row (ix (tC T k)) ((row (ix (tC T k))).toInt64 * (tO T k).toInt64)))
      (some (swp row (ix (tC T k)) (ix (tO T k)))))
noncomputable def brU (T : TS) : Nat → Nat → (Nat → Int32) → Option (Nat → Int32)
  | 0, _, row => some row
  | r + 1, k, row => match ap T False (k + 1) row with
    | none => none
    | some row' => brU T r (k + 1) row'
noncomputable def brD (T : TS) : Nat → Nat → (Nat → Int32) → Option (Nat → Int32)
  | 0, _, row => some row
  | r + 1, k, row => match ap T True k row with
    | none => none
    | some row' => brD T r (k - 1) row'
noncomputable def bring (T : TS) (row : Nat → Int32) (f t : Nat) : Option (Nat → Int32) := match brU T (t - f) f row with
  | none => none
  | some row' => brD T (f - t) f row'
abbrev wrX (X : Nat → Int32) (j : Nat) (row : Nat → Int32) : Nat → Int32 := upd (upd (upd X (3 * j) (row 0)) (3 * j + 1) (row 1)) (3 * j + 2) (row 2)
noncomputable def stp (T : TS) (und : Prop) (j : Nat) : Option TS := match ap T und (tlv T + 1) (rowOf T j) with
  | none => none
  | some row => some (uV (uX T (wrX (tX T) j row)) (upd (tV T) j (cif und (tV T j - 1) (tV T j + 1))))
abbrev lft (T : TS) (und : Prop) (j : Nat) : Prop := tV T j ≠ -1 ∧ ((und ∧ nI (tlv T + 1) ≤ tV T j) ∨ (¬ und ∧ ¬ nI (tlv T + 1) ≤ tV T j))
noncomputable def idB (T : TS) (und : Prop) (k : Nat) : Nat := cif und (tcu T - 1 - k) (tcu T + k)
noncomputable def poB (T : TS) (und : Prop) (k : Nat) : Nat := cif und (tcu T - k) (tcu T + k)
noncomputable def left (T : TS) (und : Prop) : Nat := cif und (tcu T) (40 - tcu T)
/-- the rows of a step: how it ended (0 passed all, 1 blocked, 2 crashed), rows passed, rows changed, the state -/
noncomputable def sgo (und : Prop) (cs : Int32) : Nat → Nat → Nat → TS → Nat × Nat × Nat × TS
  | 0, k, ch, T => (0, k, ch, T)
  | r + 1, k, ch, T => cif (lft T und (idB T und k))
      (match stp T und (idB T und k) with
        | none => (1, k, ch, T)
        | some T' => cif (nI (ch + 1) = cs) (2, k, ch + 1, T') (sgo und cs r (k + 1) (ch + 1) T'))
      (sgo und cs r (k + 1) ch T)
noncomputable def fin (T : TS) (und : Prop) (p : Nat) : TS := cif und (cif (p = 0) (uac (ucu T p) 0) (ucu T p)) (cif (p = 40) (ulv (uac (ucu T p) 0) (tlv T + 1)) (ucu T p))
noncomputable def stR (und : Prop) (w : Nat) (q : Nat × Nat × Nat × TS) : Int32 × TS :=
  cif (q.1 = 0) (nI q.2.2.1, fin q.2.2.2 und (poB q.2.2.2 und q.2.1))
    (cif (q.1 = 1) (nI q.2.2.1 - 100, ucu q.2.2.2 (poB q.2.2.2 und q.2.1)) (nI q.2.2.1, ucr q.2.2.2 (upd (tcr q.2.2.2) w 1)))
noncomputable def cntV (V : Nat → Int32) (q : Int32 → Prop) : Nat → Nat
  | 0 => 0
  | j + 1 => cntV V q j + cif (q (V j)) 1 0
noncomputable abbrev pres (T : TS) : Nat := cntV (tV T) (fun x => x ≠ -1) 40
noncomputable abbrev hav (T : TS) : Nat := cntV (tV T) (fun x => nI (tlv T) < x) 40
/-! the calls -/
noncomputable def sp_addChange (T : TS) (k c o : Int32) : Rs := cif (¬ okCh k c o) (1, 0, T) (cif (tn T = 12) (2, 0, T) (0, nI (tn T + 1), putC (un T (tn T + 1)) (tn T + 1) k c o))
noncomputable def sp_edit (T : TS) (h k c o : Int32) : Rs := cif (¬ okCh k c o) (1, 0, T) (cif (¬ inR h 1 (nI (tn T))) (2, 0, T) (cif (tac T ≠ 0 ∧ h = nI (tlv T + 1)) (3, 0, T) (0, sumOf (putC T (ix h) k c o) (ix h), putC T (ix h) k c o)))
noncomputable def sp_checksum (T : TS) (h : Int32) : Rs := cif (¬ inR h 1 (nI (tn T))) (1, 0, T) (0, sumOf T (ix h), T)
noncomputable def stOf (T : TS) (h : Int32) : Int32 := cif (h ≤ nI (tlv T)) 2 (cif (h = nI (tlv T + 1)) (tac T) 0)
noncomputable def sp_state (T : TS) (h : Int32) : Rs := cif (¬ inR h 1 (nI (tn T))) (1, 0, T) (0, stOf T h, T)
noncomputable def vNew (T : TS) (j : Nat) : Int32 := cif (tac T ≠ 0 ∧ nI j < nI (tcu T)) (nI (tlv T + 1)) (nI (tlv T))
noncomputable def sp_insert (T : TS) (i f g h : Int32) : Rs := cif (¬ (inR i 0 39 ∧ okV f.toInt64 ∧ okV g.toInt64 ∧ okV h.toInt64)) (1, 0, T) (cif (tV T (ix i) ≠ -1) (2, 0, T) (0, vNew T (ix i), uV (uX T (upd (upd (upd (tX T) (3 * ix i) f) (3 * ix i + 1) g) (3 * ix i + 2) h)) (upd (tV T) (ix i) (vNew T (ix i)))))
noncomputable def sp_write (T : TS) (i c v : Int32) : Rs := cif (¬ (inR i 0 39 ∧ inR c 0 2 ∧ okV v.toInt64)) (1, 0, T) (cif (tV T (ix i) = -1) (2, 0, T) (0, tX T (3 * ix i + ix c), uX T (upd (tX T) (3 * ix i + ix c) v)))
noncomputable def sp_delete (T : TS) (i : Int32) : Rs := cif (¬ inR i 0 39) (1, 0, T) (cif (tV T (ix i) = -1) (2, 0, T) (0, tV T (ix i), uV T (upd (tV T) (ix i) (-1))))
noncomputable def sp_value (T : TS) (i c : Int32) : Rs := cif (¬ (inR i 0 39 ∧ inR c 0 2)) (1, 0, T) (cif (tV T (ix i) = -1) (2, 0, T) (0, tX T (3 * ix i + ix c), T))
noncomputable def sp_version (T : TS) (i : Int32) : Rs := cif (¬ inR i 0 39) (1, 0, T) (0, tV T (ix i), T)
noncomputable def sp_rowsAt (T : TS) (v : Int32) : Rs := cif (¬ inR v 0 12) (1, 0, T) (0, nI (cntV (tV T) (fun x => x = v) 40), T)
noncomputable def sp_valueAt (T : TS) (i c v : Int32) : Rs := cif (¬ (inR i 0 39 ∧ inR c 0 2 ∧ inR v 0 (nI (tn T)))) (1, 0, T) (cif (tV T (ix i) = -1) (2, 0, T) (match bring T (rowOf T (ix i)) (ix (tV T (ix i))) (ix v) with
  | none => (3, 0, T)
  | some row => (0, row (ix c), T)))
noncomputable def sp_take (T : TS) (w e : Int32) : Rs := cif (¬ (inR w 0 3 ∧ inR e 1 100)) (1, 0, T) (cif (crd T w ∨ (isHeld T ∧ tho T ≠ w)) (2, 0, T) (0, ttm T + e, ule (uho T w) (ttm T + e)))
noncomputable def sp_giveBack (T : TS) (w : Int32) : Rs := cif (¬ inR w 0 3) (1, 0, T) (cif (crd T w ∨ ¬ has T w) (2, 0, T) (0, 0, uho T (-1)))
noncomputable def sp_restart (T : TS) (w : Int32) : Rs := cif (¬ inR w 0 3) (1, 0, T) (cif (¬ crd T w) (2, 0, T) (0, b2i (has T w), ucr T (upd (tcr T) (ix w) 0)))
noncomputable def sp_pass (T : TS) (t : Int32) : Rs := cif (¬ inR t 1 1000) (1, 0, T) (0, ttm T + t, utm T (ttm T + t))
noncomputable def sp_begin (T : TS) (w : Int32) : Rs := cif (¬ inR w 0 3) (1, 0, T) (cif ((crd T w ∨ ¬ has T w) ∨ tac T ≠ 0 ∨ fdr T ≠ 0 ∨ tlv T = tn T) (2, 0, T) (0, nI (tlv T + 1), uR (ucu (uac T 1) 0) (upd (tR T) (tlv T + 1) (sumOf T (tlv T + 1)))))
noncomputable def lvU (T : TS) : Nat := cif (tac T = 0) (tlv T - 1) (tlv T)
noncomputable def sp_undo (T : TS) (w : Int32) : Rs := cif (¬ inR w 0 3) (1, 0, T) (cif ((crd T w ∨ ¬ has T w) ∨ tac T = 3 ∨ (tac T = 0 ∧ (tlv T = 0 ∨ drf T (tlv T)))) (2, 0, T) (0, nI (lvU T + 1), ucu (uac (ulv T (lvU T)) 3) 40))
noncomputable def sp_step (T : TS) (w n c : Int32) : Rs := cif (¬ (inR w 0 3 ∧ inR n 1 40 ∧ inR c 0 40)) (1, 0, T) (cif ((crd T w ∨ ¬ has T w) ∨ tac T = 0) (2, 0, T) (0, stR (tac T = 3) (ix w) (sgo (tac T = 3) c (min (ix n) (left T (tac T = 3))) 0 0 T)))
noncomputable def sp_cursor (T : TS) : Rs := cif (tac T = 0) (1, 0, T) (0, nI (tcu T), T)
noncomputable def sp_share (T : TS) : Int32 × UInt32 := cif (tac T = 0 ∨ pres T = 0) (1, 0) (0, FP.fdiv (FP.i2f (nI (hav T))) (FP.i2f (nI (pres T))))
/-! what always holds -/
abbrev okAt (T : TS) (j : Nat) : Prop := okCh (tK T j) (tC T j) (tO T j)
def Inv (T : TS) : Prop := (tn T ≤ 12 ∧ tlv T ≤ tn T ∧ tcu T ≤ 40) ∧ (tac T = 0 ∨ ((tac T = 1 ∨ tac T = 3) ∧ tlv T < tn T)) ∧ (∀ j, 1 ≤ j → j ≤ tn T → okAt T j) ∧ (∀ j, j < 120 → okV (tX T j).toInt64) ∧ (∀ j, j < 4 → tcr T j = 0 ∨ tcr T j = 1) ∧
  (∀ j, j < 40 → tV T j = -1 ∨ tV T j = nI (tlv T) ∨ (tac T ≠ 0 ∧ tV T j = nI (tlv T + 1))) ∧ (∀ j, j < 40 → tac T = 1 → j < tcu T → tV T j = -1 ∨ tV T j = nI (tlv T + 1)) ∧ (∀ j, j < 40 → tac T = 3 → tcu T ≤ j → tV T j = -1 ∨ tV T j = nI (tlv T))
abbrev TS0 : TS := mkT (fun _ => 0) (fun _ => 0) (fun _ => 0) (fun _ => 0) (fun _ => -1) (fun _ => 0) (fun _ => 0) 0 0 0 0 0 (-1) 0
/-! small rows on ranges -/
theorem inR_a {x lo hi h1 : Int32} (e : h1.toInt = hi.toInt + 1) (a : ¬ x < lo) (b : x < h1) : inR x lo hi := by
  refine ⟨Int32.not_lt.mp a, ?_⟩
  have b' := Int32.lt_iff_toInt_lt.mp b
  exact Int32.le_iff_toInt_le.mpr (by omega)
theorem inR_b {x lo hi : Int32} (a : ¬ x < lo) (b : ¬ hi < x) : inR x lo hi := ⟨Int32.not_lt.mp a, Int32.not_lt.mp b⟩
theorem nR_a {x lo hi : Int32} (a : x < lo) : ¬ inR x lo hi := fun h => Int32.not_le.mpr a h.1
theorem nR_b {x lo hi : Int32} (a : hi < x) : ¬ inR x lo hi := fun h => Int32.not_le.mpr a h.2
theorem nR_c {x lo hi h1 : Int32} (e : h1.toInt = hi.toInt + 1) (a : ¬ x < h1) : ¬ inR x lo hi := fun h => by
  have q1 := Int32.le_iff_toInt_le.mp h.2
  have q2 : ¬ x.toInt < h1.toInt := fun q => a (Int32.lt_iff_toInt_lt.mpr q)
  omega
theorem nR_d {x lo hi h1 : Int32} (e : h1.toInt = hi.toInt + 1) (a : h1 ≤ x) : ¬ inR x lo hi := nR_c e (Int32.not_lt.mpr a)
theorem inR_n {x hi : Int32} (n : Nat) (e : hi.toInt = n) (h : inR x 0 hi) : ∃ j : Nat, j ≤ n ∧ x = nI j := nI_of2 e (Int32.not_lt.mpr h.1) h.2
theorem inR_1 {x : Int32} {n : Nat} (hn : n < 2 ^ 31) (h : inR x 1 (nI n)) : ∃ k : Nat, k < n ∧ x = nI (k + 1) := by
  have h1 := Int32.le_iff_toInt_le.mp h.1
  have e1 : (1 : Int32).toInt = 1 := by decide
  have e0 : (0 : Int32).toInt = 0 := by decide
  obtain ⟨j, hj, rfl⟩ := nI_of2 (M := nI n) (nI_toInt hn) (x := x) (fun q => by have := Int32.lt_iff_toInt_lt.mp q; omega) h.2
  rw [nI_toInt (by omega), e1] at h1
  exact ⟨j - 1, by omega, by rw [Nat.sub_add_cancel (by omega)]⟩
theorem ix_n {j : Nat} (h : j < 2 ^ 31) : ix (nI j) = j := nI_clamp h
theorem okV_t {v : Int64} (a : ¬ v < -1000000000) (b : ¬ 1000000000 < v) : okV v := ⟨Int64.not_lt.mp a, Int64.not_lt.mp b⟩
theorem okV_a {v : Int64} (a : v < -1000000000) : ¬ okV v := fun h => Int64.not_le.mpr a h.1
theorem okV_b {v : Int64} (a : 1000000000 < v) : ¬ okV v := fun h => Int64.not_le.mpr a h.2
theorem nI_12 {n : Nat} (hn : n ≤ 12) : (12 : Int32) ≤ nI n ↔ 12 ≤ n := nI_leI (a := 12) (by decide) (by omega)
theorem okO_0 {k c o : Int32} (h : k = 0) : okO k c o ↔ inR o (-1000) 1000 := by
  subst h
  constructor
  · rintro (h | h | h)
    · exact h.2
    · exact absurd h.1 (by decide)
    · exact absurd rfl h.1
  · exact fun h => Or.inl ⟨rfl, h⟩
theorem okO_1 {k c o : Int32} (h : k = 1) : okO k c o ↔ (inR o (-9) 9 ∧ o ≠ 0) := by
  subst h
  constructor
  · rintro (h | h | h)
    · exact absurd h.1 (by decide)
    · exact h.2
    · exact absurd rfl h.2.1
  · exact fun h => Or.inr (Or.inl ⟨rfl, h⟩)
theorem okO_2 {k c o : Int32} (h0 : k ≠ 0) (h1 : k ≠ 1) : okO k c o ↔ (inR o 0 2 ∧ o ≠ c) := by
  constructor
  · rintro (h | h | h)
    · exact absurd h.1 h0
    · exact absurd h.1 h1
    · exact h.2.2
  · exact fun h => Or.inr (Or.inr ⟨h0, h1, h⟩)
theorem okC_n {c : Int32} (h : inR c 0 2) : ∃ j : Nat, j < 3 ∧ c = nI j := by
  obtain ⟨j, hj, e⟩ := inR_n 2 (by decide) h
  exact ⟨j, by omega, e⟩
theorem b2i_iff {q q' : Prop} (h : q ↔ q') : b2i q = b2i q' := by rw [propext h]
theorem putR_is {row : Nat → Int32} {c : Nat} {v : Int64} : (putR row c v).isSome = true ↔ okV v := by
  unfold putR
  by_cases h : okV v
  · rw [cif_t h]; exact ⟨fun _ => h, fun _ => rfl⟩
  · rw [cif_f h]; exact ⟨fun q => (by cases q), fun q => absurd q h⟩
theorem putR_eq {row tr : Nat → Int32} {c : Nat} {v : Int64} {row' : Nat → Int32} (hr : ∀ q, q < 3 → tr q = row q) (h : putR row c v = some row') : ∀ q, q < 3 → cif (okV v) (upd tr c v.toInt32) tr q = row' q := by
  unfold putR at h
  by_cases k : okV v
  · rw [cif_t k] at h
    cases h
    intro q hq
    rw [cif_t k]
    unfold upd
    split
    · rfl
    · exact hr q hq
  · rw [cif_f k] at h; cases h
theorem tl_ne {x : Int32} (h : ¬ x = 0) : ¬ x.toInt64 = 0 := fun e => h (by
  have q : x.toInt64.toInt = (0 : Int64).toInt := by rw [e]
  rw [Int32.toInt_toInt64] at q
  exact Int32.toInt_inj.mp q)
theorem ap_0 {T : TS} {und : Prop} {k c : Nat} {row : Nat → Int32} (h : tK T k = 0) (e : tC T k = nI c) (hc : c < 3) : ap T und k row = putR row c (cif und ((row c).toInt64 - (tO T k).toInt64) ((row c).toInt64 + (tO T k).toInt64)) := by
  unfold ap
  rw [cif_t h, e, ix_n (by omega)]
theorem ap_1 {T : TS} {und : Prop} {k c : Nat} {row : Nat → Int32} (h : tK T k = 1) (e : tC T k = nI c) (hc : c < 3) : ap T und k row = cif und (cif ((row c).toInt64 - (row c).toInt64 / (tO T k).toInt64 * (tO T k).toInt64 = 0) (putR row c ((row c).toInt64 / (tO T k).toInt64)) none) (putR row c ((row c).toInt64 * (tO T k).toInt64)) := by
  unfold ap
  rw [cif_f (by rw [h]; decide), cif_t h, e, ix_n (by omega)]
theorem ap_2 {T : TS} {und : Prop} {k c o : Nat} {row : Nat → Int32} (h0 : tK T k ≠ 0) (h1 : tK T k ≠ 1) (e : tC T k = nI c) (hc : c < 3) (e2 : tO T k = nI o) (ho : o < 3) : ap T und k row = some (swp row c o) := by
  unfold ap
  rw [cif_f h0, cif_f h1, e, e2, ix_n (by omega), ix_n (by omega)]
theorem swp_eq {row tr : Nat → Int32} {c o : Nat} (hr : ∀ q, q < 3 → tr q = row q) (hc : c < 3) (ho : o < 3) : ∀ q, q < 3 → swp tr c o q = swp row c o q := by
  intro q hq
  simp only [swp, upd, hr c hc, hr o ho, hr q hq]
theorem ap_put {T : TS} {und : Prop} {k c : Nat} {tr row u : Nat → Int32} {v w : Int64} (hrow : ∀ q, q < 3 → tr q = row q) (hc : c < 3) (e : ap T und k row = putR row c v) (hv : w = v) (hu : u = cif (okV w) (upd tr c w.toInt32) tr) : b2i (okV w) = b2i ((ap T und k row).isSome = true) ∧ ∀ row2, ap T und k row = some row2 → ∀ q, q < 3 → u q = row2 q := by
  subst hv
  rw [e]
  refine ⟨b2i_iff putR_is.symm, fun row2 h2 => ?_⟩
  rw [hu]
  exact putR_eq hrow h2
theorem b01 {x : Int32} (h : x = 0 ∨ x = 1) : x = b2i (x ≠ 0) := by
  rcases h with rfl | rfl
  · exact b2i_f' (fun q => q rfl)
  · exact b2i_t' (by decide)
theorem cntV_t {V : Nat → Int32} {q : Int32 → Prop} {j : Nat} (h : q (V j)) : cntV V q (j + 1) = cntV V q j + 1 := by
  show cntV V q j + cif (q (V j)) 1 0 = _
  rw [cif_t h]
theorem cntV_f {V : Nat → Int32} {q : Int32 → Prop} {j : Nat} (h : ¬ q (V j)) : cntV V q (j + 1) = cntV V q j := by
  show cntV V q j + cif (q (V j)) 1 0 = _
  rw [cif_f h, Nat.add_zero]
