/-! what the law's calls answer, where they are refused -/
theorem rf_0 {q : Rs} {c1 c2 c3 r v : Int32} {T : TS} (e : q = (0, v, T)) (h : hRr q c1 c2 c3 r) : r = v := by subst e; exact h.1 rfl
theorem rf_1 {q : Rs} {c1 c2 c3 r : Int32} {T : TS} (e : q = (1, 0, T)) (h : hRr q c1 c2 c3 r) : r = c1 := by subst e; exact h.2.1 rfl
theorem rf_2 {q : Rs} {c1 c2 c3 r : Int32} {T : TS} (e : q = (2, 0, T)) (h : hRr q c1 c2 c3 r) : r = c2 := by subst e; exact h.2.2.1 rfl
theorem rf_3 {q : Rs} {c1 c2 c3 r : Int32} {T : TS} (e : q = (3, 0, T)) (h : hRr q c1 c2 c3 r) : r = c3 := by subst e; exact h.2.2.2 rfl
theorem rz_k {q : Rs} {j : Int32} {T : TS} {a b b1 n : Nat} (e : q = (j, 0, T)) (hj : j ≠ 0) (h : a + n ≤ b) (h9 : b + gw q ≤ b1) : a + (n + 1) ≤ b1 := by
  rw [gw_1 (by rw [e]; exact hj)] at h9
  omega
theorem rz_0 {q : Rs} {a b b1 n : Nat} (h : a + n ≤ b) (h9 : b + gw q ≤ b1) : a + n ≤ b1 := by omega
theorem q1_addChange {T : TS} {k c o : Int32} (hq : ¬ okCh k c o) : sp_addChange T k c o = (1, 0, T) := by unfold sp_addChange; exact cif_t hq
theorem q1_edit {T : TS} {h k c o : Int32} (hq : ¬ okCh k c o) : sp_edit T h k c o = (1, 0, T) := by unfold sp_edit; exact cif_t hq
theorem q1_checksum {T : TS} {h : Int32} (hq : ¬ inR h 1 (nI (tn T))) : sp_checksum T h = (1, 0, T) := by unfold sp_checksum; exact cif_t hq
theorem q1_state {T : TS} {h : Int32} (hq : ¬ inR h 1 (nI (tn T))) : sp_state T h = (1, 0, T) := by unfold sp_state; exact cif_t hq
theorem q1_insert {T : TS} {i f g h : Int32} (hq : ¬ (inR i 0 39 ∧ okV f.toInt64 ∧ okV g.toInt64 ∧ okV h.toInt64)) : sp_insert T i f g h = (1, 0, T) := by unfold sp_insert; exact cif_t hq
theorem q1_write {T : TS} {i c v : Int32} (hq : ¬ (inR i 0 39 ∧ inR c 0 2 ∧ okV v.toInt64)) : sp_write T i c v = (1, 0, T) := by unfold sp_write; exact cif_t hq
theorem q1_delete {T : TS} {i : Int32} (hq : ¬ inR i 0 39) : sp_delete T i = (1, 0, T) := by unfold sp_delete; exact cif_t hq
theorem q1_value {T : TS} {i c : Int32} (hq : ¬ (inR i 0 39 ∧ inR c 0 2)) : sp_value T i c = (1, 0, T) := by unfold sp_value; exact cif_t hq
theorem q1_version {T : TS} {i : Int32} (hq : ¬ inR i 0 39) : sp_version T i = (1, 0, T) := by unfold sp_version; exact cif_t hq
theorem q1_rowsAt {T : TS} {v : Int32} (hq : ¬ inR v 0 12) : sp_rowsAt T v = (1, 0, T) := by unfold sp_rowsAt; exact cif_t hq
theorem q1_valueAt {T : TS} {i c v : Int32} (hq : ¬ (inR i 0 39 ∧ inR c 0 2 ∧ inR v 0 (nI (tn T)))) : sp_valueAt T i c v = (1, 0, T) := by unfold sp_valueAt; exact cif_t hq
theorem q1_take {T : TS} {w e : Int32} (hq : ¬ (inR w 0 3 ∧ inR e 1 100)) : sp_take T w e = (1, 0, T) := by unfold sp_take; exact cif_t hq
theorem q1_giveBack {T : TS} {w : Int32} (hq : ¬ inR w 0 3) : sp_giveBack T w = (1, 0, T) := by unfold sp_giveBack; exact cif_t hq
theorem q1_restart {T : TS} {w : Int32} (hq : ¬ inR w 0 3) : sp_restart T w = (1, 0, T) := by unfold sp_restart; exact cif_t hq
theorem q1_pass {T : TS} {t : Int32} (hq : ¬ inR t 1 1000) : sp_pass T t = (1, 0, T) := by unfold sp_pass; exact cif_t hq
theorem q1_begin {T : TS} {w : Int32} (hq : ¬ inR w 0 3) : sp_begin T w = (1, 0, T) := by unfold sp_begin; exact cif_t hq
theorem q1_undo {T : TS} {w : Int32} (hq : ¬ inR w 0 3) : sp_undo T w = (1, 0, T) := by unfold sp_undo; exact cif_t hq
theorem q1_step {T : TS} {w n c : Int32} (hq : ¬ (inR w 0 3 ∧ inR n 1 40 ∧ inR c 0 40)) : sp_step T w n c = (1, 0, T) := by unfold sp_step; exact cif_t hq
theorem q2_addChange {T : TS} {k c o : Int32} (hq : okCh k c o) (h2 : tn T = 12) : sp_addChange T k c o = (2, 0, T) := by
  unfold sp_addChange
  rw [cif_f (fun q => q hq)]
  exact cif_t h2
theorem q2_edit {T : TS} {h k c o : Int32} (hq : okCh k c o) (h2 : ¬ inR h 1 (nI (tn T))) : sp_edit T h k c o = (2, 0, T) := by
  unfold sp_edit
  rw [cif_f (fun q => q hq)]
  exact cif_t h2
theorem q2_insert {T : TS} {i f g h : Int32} (hq : (inR i 0 39 ∧ okV f.toInt64 ∧ okV g.toInt64 ∧ okV h.toInt64)) (h2 : tV T (ix i) ≠ -1) : sp_insert T i f g h = (2, 0, T) := by
  unfold sp_insert
  rw [cif_f (fun q => q hq)]
  exact cif_t h2
theorem q2_write {T : TS} {i c v : Int32} (hq : (inR i 0 39 ∧ inR c 0 2 ∧ okV v.toInt64)) (h2 : tV T (ix i) = -1) : sp_write T i c v = (2, 0, T) := by
  unfold sp_write
  rw [cif_f (fun q => q hq)]
  exact cif_t h2
theorem q2_delete {T : TS} {i : Int32} (hq : inR i 0 39) (h2 : tV T (ix i) = -1) : sp_delete T i = (2, 0, T) := by
  unfold sp_delete
  rw [cif_f (fun q => q hq)]
  exact cif_t h2
theorem q2_value {T : TS} {i c : Int32} (hq : (inR i 0 39 ∧ inR c 0 2)) (h2 : tV T (ix i) = -1) : sp_value T i c = (2, 0, T) := by
  unfold sp_value
  rw [cif_f (fun q => q hq)]
  exact cif_t h2
theorem q2_valueAt {T : TS} {i c v : Int32} (hq : (inR i 0 39 ∧ inR c 0 2 ∧ inR v 0 (nI (tn T)))) (h2 : tV T (ix i) = -1) : sp_valueAt T i c v = (2, 0, T) := by
  unfold sp_valueAt
  rw [cif_f (fun q => q hq)]
  exact cif_t h2
theorem q2_take {T : TS} {w e : Int32} (hq : (inR w 0 3 ∧ inR e 1 100)) (h2 : crd T w ∨ (isHeld T ∧ tho T ≠ w)) : sp_take T w e = (2, 0, T) := by
  unfold sp_take
  rw [cif_f (fun q => q hq)]
  exact cif_t h2
theorem q2_giveBack {T : TS} {w : Int32} (hq : inR w 0 3) (h2 : crd T w ∨ ¬ has T w) : sp_giveBack T w = (2, 0, T) := by
  unfold sp_giveBack
  rw [cif_f (fun q => q hq)]
  exact cif_t h2
theorem q2_begin {T : TS} {w : Int32} (hq : inR w 0 3) (h2 : (crd T w ∨ ¬ has T w) ∨ tac T ≠ 0 ∨ fdr T ≠ 0 ∨ tlv T = tn T) : sp_begin T w = (2, 0, T) := by
  unfold sp_begin
  rw [cif_f (fun q => q hq)]
  exact cif_t h2
theorem q2_undo {T : TS} {w : Int32} (hq : inR w 0 3) (h2 : (crd T w ∨ ¬ has T w) ∨ tac T = 3 ∨ (tac T = 0 ∧ (tlv T = 0 ∨ drf T (tlv T)))) : sp_undo T w = (2, 0, T) := by
  unfold sp_undo
  rw [cif_f (fun q => q hq)]
  exact cif_t h2
theorem q2_step {T : TS} {w n c : Int32} (hq : (inR w 0 3 ∧ inR n 1 40 ∧ inR c 0 40)) (h2 : (crd T w ∨ ¬ has T w) ∨ tac T = 0) : sp_step T w n c = (2, 0, T) := by
  unfold sp_step
  rw [cif_f (fun q => q hq)]
  exact cif_t h2
theorem id39 : ∀ j, j < 40 → inR (nI j) 0 39 := by decide +kernel
theorem id3 : ∀ j, j < 4 → inR (nI j) 0 3 := by decide +kernel
theorem q0_version {T : TS} {j : Nat} (hj : j < 40) : sp_version T (nI j) = (0, tV T j, T) := by
  unfold sp_version
  rw [cif_f (fun q => q (id39 j hj)), ix_n (by omega)]
theorem V_neg {T : TS} (hI : Inv T) {j : Nat} (hj : j < 40) (h : tV T j < 0) : tV T j = -1 := by
  have hl : tlv T ≤ 12 := Nat.le_trans hI.1.2.1 hI.1.1
  rcases hI.2.2.2.2.2.1 j hj with e | e | ⟨-, e⟩
  · exact e
  · rw [e] at h; exact absurd h (nI_pos (by omega))
  · rw [e] at h; exact absurd h (nI_pos (by omega))
theorem V_pos {x : Int32} (h : ¬ x < 0) : x ≠ -1 := fun e => h (by rw [e]; decide)
theorem tn12 {k : Nat} (hk : k ≤ 12) (h : ¬ nI k < 12) : k = 12 := by
  have h2 : ¬ k < 12 := fun q => h ((nI_ltI (a := k) (b := 12) (by omega) (by decide)).mpr q)
  omega
theorem own_nhas {T : TS} {w : Int32} (h : ¬ owner T = w) : ¬ has T w := fun q => h (by
  unfold owner
  rw [cif_t q.1.2]
  exact q.2)
theorem own_held {T : TS} {w : Int32} (h : ¬ owner T < 0) (h2 : ¬ owner T = w) : isHeld T ∧ tho T ≠ w := by
  by_cases ht : ttm T < tle T
  · have e : owner T = tho T := by unfold owner; exact cif_t ht
    rw [e] at h h2
    exact ⟨⟨fun q => h (by rw [q]; decide), ht⟩, h2⟩
  · have e : owner T = -1 := by unfold owner; exact cif_f ht
    rw [e] at h
    exact absurd (by decide) h
/-! the arguments that are out of range -/
theorem aN1 : ∀ n, n < 997 → ¬ inR ((-1) - (nI n - nI n / 70 * 70)) 0 39 := by decide +kernel
theorem aN2 : ∀ n, n < 997 → ¬ inR (40 + (nI n - nI n / 70 * 70)) 0 39 := by decide +kernel
theorem aO1 : ∀ n, n < 997 → ¬ inR (3 + (nI n - nI n / 70 * 70)) 0 2 := by decide +kernel
theorem aO2 : ∀ n, n < 997 → ¬ inR ((-1) - (nI n - nI n / 70 * 70)) 0 2 := by decide +kernel
theorem aA1 : ∀ n, n < 997 → ¬ okCh 0 0 (1001 + nI n) := by decide +kernel
theorem aA2 : ∀ n, n < 997 → ¬ okCh 1 1 (10 + nI n) := by decide +kernel
theorem aA3 : ¬ okCh 1 0 0 := by decide
theorem aA4 : ¬ okCh 2 1 1 := by decide
theorem aA5 {f : Int32} (h : ¬ inR f 0 2) : ¬ okCh 2 1 f := fun q => by
  rcases q.2.2 with ⟨h1, -⟩ | ⟨h1, -⟩ | ⟨-, -, h1, -⟩
  · exact absurd h1 (by decide)
  · exact absurd h1 (by decide)
  · exact h h1
theorem aA6 {f : Int32} (h : ¬ inR f 0 2) : ¬ okCh f 0 1 := fun q => h q.1
theorem aA7 {f : Int32} (h : ¬ inR f 0 2) : ¬ okCh 0 f 1 := fun q => h q.2.1
theorem aA8 : ¬ okCh 2 2 2 := by decide
theorem aA9 : okCh 0 0 1 := by decide
theorem aE1 {k n : Nat} (hk : k ≤ 12) (hn : n < 997) : ¬ inR (nI k + 1 + nI n) 1 (nI k) := by
  rw [nI_1, nI_add]
  exact fun q => absurd ((nI_leI (by omega) (by omega)).mp q.2) (by omega)
theorem aE2 : ∀ n, n < 997 → ¬ (1 : Int32) ≤ -(nI n) := by decide +kernel
theorem aE3 {k : Nat} {n : Nat} (hn : n < 997) : ¬ inR (-(nI n)) 1 (nI k) := fun q => aE2 n hn q.1
theorem aS1 {k : Nat} (hk : k ≤ 12) : ¬ inR (nI k + 1) 1 (nI k) := by
  rw [nI_1]
  exact fun q => absurd ((nI_leI (by omega) (by omega)).mp q.2) (by omega)
theorem aS2 {k : Nat} : ¬ inR 0 1 (nI k) := fun q => absurd q.1 (by decide)
theorem aI1 : ∀ n, n < 997 → ¬ okV (1000000001 + nI n).toInt64 := by decide +kernel
theorem aI2 : ∀ n, n < 997 → ¬ okV ((-1000000001) - nI n).toInt64 := by decide +kernel
theorem aR1 : ∀ n, n < 997 → ¬ inR (13 + nI n) 0 12 := by decide +kernel
theorem aV1 {k : Nat} (hk : k ≤ 12) : ¬ inR (nI k + 1) 0 (nI k) := by
  rw [nI_1]
  exact fun q => absurd ((nI_leI (by omega) (by omega)).mp q.2) (by omega)
theorem aT1 : ∀ n, n < 997 → ¬ inR (4 + nI n) 0 3 := by decide +kernel
theorem aT2 : ∀ n, n < 997 → ¬ inR (101 + nI n) 1 100 := by decide +kernel
theorem aP1 : ∀ n, n < 997 → ¬ inR (1001 + nI n) 1 1000 := by decide +kernel
theorem aB1 : ∀ n, n < 997 → ¬ inR ((-1) - nI n) 0 3 := by decide +kernel
theorem a0n {k : Nat} (hk : k ≤ 12) : inR 0 0 (nI k) := ⟨by decide, (show nI 0 ≤ nI k from (nI_leI (by decide) (by omega)).mpr (Nat.zero_le k))⟩
