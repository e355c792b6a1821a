/-! every call keeps what always holds -/
theorem invTSI : Inv TSI := by
  refine ⟨⟨by decide, by decide, by decide⟩, Or.inl rfl, fun j h1 h2 => absurd h2 (by show ¬ j ≤ 0; omega), fun j _ => by show okV ((0 : Int32).toInt64); decide, fun j _ => Or.inl rfl, fun j h => Or.inl ?_, fun j h h1 => absurd h1 (by show ¬ ((0 : Int32) = 1); decide), fun j h h1 => absurd h1 (by show ¬ ((0 : Int32) = 3); decide)⟩
  show (if j < 40 then (-1 : Int32) else 0) = -1
  exact if_pos h
abbrev pI (R : Rs) : Prop := Inv R.2.2
theorem inv_addChange {T : TS} (hI : Inv T) (k c o : Int32) : Inv (sp_addChange T k c o).2.2 := by
  unfold sp_addChange
  refine cifP (P := pI) (fun _ => hI) (fun h => cifP (P := pI) (fun _ => hI) (fun hn => ?_))
  obtain ⟨⟨h1, h2, h3⟩, h4, h5, h6, h7, h8, h9, h10⟩ := hI
  refine ⟨⟨(by show tn T + 1 ≤ 12; omega), (by show tlv T ≤ tn T + 1; omega), h3⟩, ?_, ?_, h6, h7, h8, h9, h10⟩
  · rcases h4 with q | ⟨q, z⟩
    · exact Or.inl q
    · exact Or.inr ⟨q, by show tlv T < tn T + 1; omega⟩
  · intro j j1 j2
    have j2 : j ≤ tn T + 1 := j2
    show okCh (upd (tK T) (tn T + 1) k j) (upd (tC T) (tn T + 1) c j) (upd (tO T) (tn T + 1) o j)
    by_cases e : j = tn T + 1
    · subst e
      rw [pk_us, pk_us, pk_us]
      exact Classical.not_not.mp h
    · rw [pk_un e, pk_un e, pk_un e]
      exact h5 j j1 (by omega)
theorem inv_edit {T : TS} (hI : Inv T) (x k c o : Int32) : Inv (sp_edit T x k c o).2.2 := by
  unfold sp_edit
  refine cifP (P := pI) (fun _ => hI) (fun h => cifP (P := pI) (fun _ => hI) (fun _ => cifP (P := pI) (fun _ => hI) (fun _ => ?_)))
  obtain ⟨⟨h1, h2, h3⟩, h4, h5, h6, h7, h8, h9, h10⟩ := hI
  refine ⟨⟨h1, h2, h3⟩, h4, ?_, h6, h7, h8, h9, h10⟩
  intro j j1 j2
  show okCh (upd (tK T) (ix x) k j) (upd (tC T) (ix x) c j) (upd (tO T) (ix x) o j)
  by_cases e : j = ix x
  · subst e
    rw [pk_us, pk_us, pk_us]
    exact Classical.not_not.mp h
  · rw [pk_un e, pk_un e, pk_un e]
    exact h5 j j1 j2
theorem inv_checksum {T : TS} (hI : Inv T) (h : Int32) : Inv (sp_checksum T h).2.2 := by
  unfold sp_checksum
  exact cifP (P := pI) (fun _ => hI) (fun _ => hI)
theorem inv_state {T : TS} (hI : Inv T) (h : Int32) : Inv (sp_state T h).2.2 := by
  unfold sp_state
  exact cifP (P := pI) (fun _ => hI) (fun _ => hI)
theorem inv_value {T : TS} (hI : Inv T) (i c : Int32) : Inv (sp_value T i c).2.2 := by
  unfold sp_value
  exact cifP (P := pI) (fun _ => hI) (fun _ => cifP (P := pI) (fun _ => hI) (fun _ => hI))
theorem inv_version {T : TS} (hI : Inv T) (i : Int32) : Inv (sp_version T i).2.2 := by
  unfold sp_version
  exact cifP (P := pI) (fun _ => hI) (fun _ => hI)
theorem inv_rowsAt {T : TS} (hI : Inv T) (i : Int32) : Inv (sp_rowsAt T i).2.2 := by
  unfold sp_rowsAt
  exact cifP (P := pI) (fun _ => hI) (fun _ => hI)
theorem inv_valueAt {T : TS} (hI : Inv T) (i c v : Int32) : Inv (sp_valueAt T i c v).2.2 := by
  unfold sp_valueAt
  refine cifP (P := pI) (fun _ => hI) (fun _ => cifP (P := pI) (fun _ => hI) (fun _ => ?_))
  cases bring T (rowOf T (ix i)) (ix (tV T (ix i))) (ix v) with
  | none => exact hI
  | some row => exact hI
theorem inv_cursor {T : TS} (hI : Inv T) : Inv (sp_cursor T).2.2 := by
  unfold sp_cursor
  exact cifP (P := pI) (fun _ => hI) (fun _ => hI)
theorem inv_pass {T : TS} (hI : Inv T) (t : Int32) : Inv (sp_pass T t).2.2 := by
  unfold sp_pass
  exact cifP (P := pI) (fun _ => hI) (fun _ => ⟨hI.1, hI.2.1, hI.2.2.1, hI.2.2.2.1, hI.2.2.2.2.1, hI.2.2.2.2.2.1, hI.2.2.2.2.2.2.1, hI.2.2.2.2.2.2.2⟩)
theorem inv_take {T : TS} (hI : Inv T) (w e : Int32) : Inv (sp_take T w e).2.2 := by
  unfold sp_take
  exact cifP (P := pI) (fun _ => hI) (fun _ => cifP (P := pI) (fun _ => hI) (fun _ => ⟨hI.1, hI.2.1, hI.2.2.1, hI.2.2.2.1, hI.2.2.2.2.1, hI.2.2.2.2.2.1, hI.2.2.2.2.2.2.1, hI.2.2.2.2.2.2.2⟩))
theorem inv_giveBack {T : TS} (hI : Inv T) (w : Int32) : Inv (sp_giveBack T w).2.2 := by
  unfold sp_giveBack
  exact cifP (P := pI) (fun _ => hI) (fun _ => cifP (P := pI) (fun _ => hI) (fun _ => ⟨hI.1, hI.2.1, hI.2.2.1, hI.2.2.2.1, hI.2.2.2.2.1, hI.2.2.2.2.2.1, hI.2.2.2.2.2.2.1, hI.2.2.2.2.2.2.2⟩))
theorem inv_ucr {T : TS} (hI : Inv T) (w : Nat) {x : Int32} (hx : x = 0 ∨ x = 1) : Inv (ucr T (upd (tcr T) w x)) := by
  refine ⟨hI.1, hI.2.1, hI.2.2.1, hI.2.2.2.1, fun j hj => ?_, hI.2.2.2.2.2.1, hI.2.2.2.2.2.2.1, hI.2.2.2.2.2.2.2⟩
  show upd (tcr T) w x j = 0 ∨ upd (tcr T) w x j = 1
  by_cases e : j = w
  · subst e
    rw [pk_us]
    exact hx
  · rw [pk_un e]
    exact hI.2.2.2.2.1 j hj
theorem inv_restart {T : TS} (hI : Inv T) (w : Int32) : Inv (sp_restart T w).2.2 := by
  unfold sp_restart
  exact cifP (P := pI) (fun _ => hI) (fun _ => cifP (P := pI) (fun _ => hI) (fun _ => inv_ucr hI _ (Or.inl rfl)))
theorem okV_upd {X : Nat → Int32} (h : ∀ j, j < 120 → okV (X j).toInt64) (k : Nat) {x : Int32} (hx : okV x.toInt64) : ∀ j, j < 120 → okV (upd X k x j).toInt64 := by
  intro j hj
  by_cases e : j = k
  · subst e
    rw [pk_us]
    exact hx
  · rw [pk_un e]
    exact h j hj
theorem inv_write {T : TS} (hI : Inv T) (i c v : Int32) : Inv (sp_write T i c v).2.2 := by
  unfold sp_write
  refine cifP (P := pI) (fun _ => hI) (fun h => cifP (P := pI) (fun _ => hI) (fun _ => ?_))
  exact ⟨hI.1, hI.2.1, hI.2.2.1, okV_upd hI.2.2.2.1 _ (Classical.not_not.mp h).2.2, hI.2.2.2.2.1, hI.2.2.2.2.2.1, hI.2.2.2.2.2.2.1, hI.2.2.2.2.2.2.2⟩
/-- a row's version is set -/
theorem inv_uV {T : TS} (hI : Inv T) {j : Nat} {x : Int32} (h6 : x = -1 ∨ x = nI (tlv T) ∨ (tac T ≠ 0 ∧ x = nI (tlv T + 1))) (h7 : tac T = 1 → j < tcu T → x = -1 ∨ x = nI (tlv T + 1)) (h8 : tac T = 3 → tcu T ≤ j → x = -1 ∨ x = nI (tlv T)) : Inv (uV T (upd (tV T) j x)) := by
  refine ⟨hI.1, hI.2.1, hI.2.2.1, hI.2.2.2.1, hI.2.2.2.2.1, fun k hk => ?_, fun k hk => ?_, fun k hk => ?_⟩
  · show upd (tV T) j x k = -1 ∨ upd (tV T) j x k = nI (tlv T) ∨ (tac T ≠ 0 ∧ upd (tV T) j x k = nI (tlv T + 1))
    by_cases e : k = j
    · subst e; rw [pk_us]; exact h6
    · rw [pk_un e]; exact hI.2.2.2.2.2.1 k hk
  · show tac T = 1 → k < tcu T → upd (tV T) j x k = -1 ∨ upd (tV T) j x k = nI (tlv T + 1)
    by_cases e : k = j
    · subst e; rw [pk_us]; exact h7
    · rw [pk_un e]; exact hI.2.2.2.2.2.2.1 k hk
  · show tac T = 3 → tcu T ≤ k → upd (tV T) j x k = -1 ∨ upd (tV T) j x k = nI (tlv T)
    by_cases e : k = j
    · subst e; rw [pk_us]; exact h8
    · rw [pk_un e]; exact hI.2.2.2.2.2.2.2 k hk
theorem inv_uX {T : TS} (hI : Inv T) {X : Nat → Int32} (h : ∀ j, j < 120 → okV (X j).toInt64) : Inv (uX T X) := ⟨hI.1, hI.2.1, hI.2.2.1, h, hI.2.2.2.2.1, hI.2.2.2.2.2.1, hI.2.2.2.2.2.2.1, hI.2.2.2.2.2.2.2⟩
theorem inv_delete {T : TS} (hI : Inv T) (i : Int32) : Inv (sp_delete T i).2.2 := by
  unfold sp_delete
  exact cifP (P := pI) (fun _ => hI) (fun _ => cifP (P := pI) (fun _ => hI) (fun _ => inv_uV hI (Or.inl rfl) (fun _ _ => Or.inl rfl) (fun _ _ => Or.inl rfl)))
theorem inv_insert {T : TS} (hI : Inv T) (i f g h : Int32) : Inv (sp_insert T i f g h).2.2 := by
  unfold sp_insert
  refine cifP (P := pI) (fun _ => hI) (fun hc => cifP (P := pI) (fun _ => hI) (fun _ => ?_))
  obtain ⟨hi, hf, hg, hh⟩ := Classical.not_not.mp hc
  obtain ⟨j, hj, rfl⟩ := inR_n 39 (by decide) hi
  have hcu : tcu T ≤ 40 := hI.1.2.2
  rw [ix_n (j := j) (by omega)]
  refine inv_uV (T := uX T (upd (upd (upd (tX T) (3 * j) f) (3 * j + 1) g) (3 * j + 2) h)) (inv_uX hI (okV_upd (okV_upd (okV_upd hI.2.2.2.1 _ hf) _ hg) _ hh)) ?_ ?_ ?_
  · show vNew T j = -1 ∨ vNew T j = nI (tlv T) ∨ (tac T ≠ 0 ∧ vNew T j = nI (tlv T + 1))
    unfold vNew
    by_cases q : tac T ≠ 0 ∧ nI j < nI (tcu T)
    · rw [cif_t q]; exact Or.inr (Or.inr ⟨q.1, rfl⟩)
    · rw [cif_f q]; exact Or.inr (Or.inl rfl)
  · show tac T = 1 → j < tcu T → vNew T j = -1 ∨ vNew T j = nI (tlv T + 1)
    intro q1 q2
    right
    exact (nw_t (by rw [q1]; decide) ((nI_ltI (by omega) (by omega)).mpr q2)).symm
  · show tac T = 3 → tcu T ≤ j → vNew T j = -1 ∨ vNew T j = nI (tlv T)
    intro q1 q2
    right
    exact (nw_b ((nI_leI (by omega) (by omega)).mpr q2)).symm
theorem inv_begin {T : TS} (hI : Inv T) (w : Int32) : Inv (sp_begin T w).2.2 := by
  unfold sp_begin
  refine cifP (P := pI) (fun _ => hI) (fun _ => cifP (P := pI) (fun _ => hI) (fun h => ?_))
  obtain ⟨⟨h1, h2, h3⟩, h4, h5, h6, h7, h8, h9, h10⟩ := hI
  have a0 : tac T = 0 := Classical.byContradiction fun q => h (Or.inr (Or.inl q))
  have hl : tlv T ≠ tn T := fun q => h (Or.inr (Or.inr (Or.inr q)))
  refine ⟨⟨h1, h2, by show 0 ≤ 40; omega⟩, Or.inr ⟨Or.inl rfl, by show tlv T < tn T; omega⟩, h5, h6, h7, fun j hj => ?_, fun j hj q1 q2 => absurd q2 (by show ¬ j < 0; omega), fun j hj q1 q2 => absurd q1 (by show ¬ ((1 : Int32) = 3); decide)⟩
  rcases h8 j hj with q | q | q
  · exact Or.inl q
  · exact Or.inr (Or.inl q)
  · exact absurd a0 q.1
theorem inv_undo {T : TS} (hI : Inv T) (w : Int32) : Inv (sp_undo T w).2.2 := by
  unfold sp_undo
  refine cifP (P := pI) (fun _ => hI) (fun _ => cifP (P := pI) (fun _ => hI) (fun h => ?_))
  obtain ⟨⟨h1, h2, h3⟩, h4, h5, h6, h7, h8, h9, h10⟩ := hI
  have n3 : tac T ≠ 3 := fun q => h (Or.inr (Or.inl q))
  have key : lvU T < tn T ∧ ∀ j, j < 40 → tV T j = -1 ∨ tV T j = nI (lvU T) ∨ tV T j = nI (lvU T + 1) := by
    unfold lvU
    by_cases a0 : tac T = 0
    · rw [cif_t a0]
      have l0 : tlv T ≠ 0 := fun q => h (Or.inr (Or.inr ⟨a0, Or.inl q⟩))
      refine ⟨by omega, fun j hj => ?_⟩
      rw [Nat.sub_add_cancel (by omega)]
      rcases h8 j hj with q | q | q
      · exact Or.inl q
      · exact Or.inr (Or.inr q)
      · exact absurd a0 q.1
    · rw [cif_f a0]
      rcases h4 with q | ⟨-, q⟩
      · exact absurd q a0
      · refine ⟨q, fun j hj => ?_⟩
        rcases h8 j hj with q | q | q
        · exact Or.inl q
        · exact Or.inr (Or.inl q)
        · exact Or.inr (Or.inr q.2)
  have k1 := key.1
  refine ⟨⟨h1, by show lvU T ≤ tn T; omega, Nat.le_refl 40⟩, Or.inr ⟨Or.inr rfl, k1⟩, h5, h6, h7, fun j hj => ?_, fun j hj q1 q2 => absurd q1 (by show ¬ ((3 : Int32) = 1); decide), fun j hj q1 q2 => absurd q2 (by show ¬ 40 ≤ j; omega)⟩
  rcases key.2 j hj with q | q | q
  · exact Or.inl q
  · exact Or.inr (Or.inl q)
  · exact Or.inr (Or.inr ⟨by show (3 : Int32) ≠ 0; decide, q⟩)
/-! the step -/
theorem inv_cu {T : TS} {und : Prop} {p q : Nat} (hu : unD T und) (h : Inv (ucu T p)) (hq : q ≤ 40) (h1 : ¬ und → q ≤ p) (h2 : und → p ≤ q) : Inv (ucu T q) := by
  refine ⟨⟨h.1.1, h.1.2.1, hq⟩, h.2.1, h.2.2.1, h.2.2.2.1, h.2.2.2.2.1, h.2.2.2.2.2.1, fun j hj q1 q2 => ?_, fun j hj q1 q2 => ?_⟩
  · have q2 : j < q := q2
    have n := h1 (un1 hu q1)
    exact h.2.2.2.2.2.2.1 j hj q1 (by show j < p; omega)
  · have q2 : q ≤ j := q2
    have n := h2 (un3 hu (by show ¬ tac T = 1; rw [show tac T = 3 from q1]; decide))
    exact h.2.2.2.2.2.2.2 j hj q1 (by show p ≤ j; omega)
/-- one row more is passed: it isn't one to be changed -/
theorem inv_pass1 {T : TS} {und : Prop} {k : Nat} (hu : unD T und) (hk : k < left T und) (hcu : tcu T ≤ 40) (h : Inv (ucu T (poB T und k))) (hl : ¬ lft T und (idB T und k)) : Inv (ucu T (poB T und (k + 1))) := by
  have hV := h.2.2.2.2.2.1
  have hlv : tlv T ≤ tn T := h.1.2.1
  have hn : tn T ≤ 12 := h.1.1
  have hle := poB_le (T := T) (und := und) (k := k + 1) hcu (by omega)
  refine ⟨⟨h.1.1, h.1.2.1, hle.1⟩, h.2.1, h.2.2.1, h.2.2.2.1, h.2.2.2.2.1, h.2.2.2.2.2.1, fun j hj q1 q2 => ?_, fun j hj q1 q2 => ?_⟩
  · have u := un1 hu q1
    have q2 : j < poB T und (k + 1) := q2
    have hp := h.2.2.2.2.2.2.1 j hj q1
    unfold poB at q2 hp
    rw [cif_f u] at q2 hp
    by_cases e : j < tcu T + k
    · exact hp e
    · have e : j = tcu T + k := by omega
      have ei : idB T und k = j := by unfold idB; rw [cif_f u, e]
      rw [ei] at hl
      show tV T j = -1 ∨ tV T j = nI (tlv T + 1)
      rcases hV j hj with q | q | q
      · exact Or.inl q
      · by_cases m : tV T j = -1
        · exact Or.inl m
        · refine absurd ⟨m, Or.inr ⟨u, ?_⟩⟩ hl
          rw [show tV T j = nI (tlv T) from q]
          exact nI_s (by omega)
      · exact Or.inr q.2
  · have u := un3 hu (by show ¬ tac T = 1; rw [show tac T = 3 from q1]; decide)
    have q2 : poB T und (k + 1) ≤ j := q2
    have hp := h.2.2.2.2.2.2.2 j hj q1
    have hp : poB T und k ≤ j → tV T j = -1 ∨ tV T j = nI (tlv T) := hp
    unfold poB at q2 hp
    unfold left at hk
    rw [cif_t u] at q2 hp hk
    by_cases e : tcu T - k ≤ j
    · exact hp e
    · have e : j = tcu T - 1 - k := by omega
      have ei : idB T und k = j := by unfold idB; rw [cif_t u, e]
      rw [ei] at hl
      show tV T j = -1 ∨ tV T j = nI (tlv T)
      rcases hV j hj with q | q | q
      · exact Or.inl q
      · exact Or.inr q
      · by_cases m : tV T j = -1
        · exact Or.inl m
        · refine absurd ⟨m, Or.inl ⟨u, ?_⟩⟩ hl
          rw [show tV T j = nI (tlv T + 1) from q.2]
          exact Int32.le_refl _
theorem stp_V {T T2 : TS} {und : Prop} {j : Nat} (h : stp T und j = some T2) : ∃ X x, T2 = uV (uX T X) (upd (tV T) j x) ∧ x = cif und (tV T j - 1) (tV T j + 1) := by
  unfold stp at h
  cases hap : ap T und (tlv T + 1) (rowOf T j) with
  | none => rw [hap] at h; cases h
  | some row => rw [hap] at h; cases h; exact ⟨_, _, rfl, rfl⟩
/-- one row more is passed: it is changed -/
theorem inv_stp1 {T T2 : TS} {und : Prop} {k : Nat} (hu : unD T und) (hk : k < left T und) (hcu : tcu T ≤ 40) (h : Inv (ucu T (poB T und k))) (hl : lft T und (idB T und k)) (e : stp T und (idB T und k) = some T2) : Inv (ucu T2 (poB T2 und (k + 1))) := by
  have hw : InvW T := ⟨⟨h.1.1, h.1.2.1, hcu⟩, h.2.1, h.2.2.1, h.2.2.2.1, h.2.2.2.2.1, h.2.2.2.2.2.1⟩
  have hid := idB_lt (T := T) (und := und) (k := k) hcu hk
  have hw2 := stp_inv hw hu hid.1 hl e
  have hle := poB_le (T := T) (und := und) (k := k + 1) hcu (by omega)
  obtain ⟨f, ef, hf, hf12, hfn⟩ := vF_of hw hid.1 hl
  obtain ⟨X, x, rfl, hx⟩ := stp_V e
  refine ⟨⟨hw2.1.1, hw2.1.2.1, hle.1⟩, hw2.2.1, hw2.2.2.1, hw2.2.2.2.1, hw2.2.2.2.2.1, hw2.2.2.2.2.2, fun j hj q1 q2 => ?_, fun j hj q1 q2 => ?_⟩
  · have u := un1 hu q1
    have q2 : j < poB T und (k + 1) := q2
    have hp := h.2.2.2.2.2.2.1 j hj q1
    have hp : j < poB T und k → tV T j = -1 ∨ tV T j = nI (tlv T + 1) := hp
    unfold poB at q2 hp
    rw [cif_f u] at q2 hp
    show upd (tV T) (idB T und k) x j = -1 ∨ upd (tV T) (idB T und k) x j = nI (tlv T + 1)
    by_cases e9 : j = idB T und k
    · right
      rw [e9, pk_us, hx, ← chg_1 ef u]
      rcases hf with ⟨-, rfl⟩ | ⟨q, -⟩
      · rfl
      · exact absurd q u
    · rw [pk_un e9]
      unfold idB at e9
      rw [cif_f u] at e9
      exact hp (by omega)
  · have u := un3 hu (by show ¬ tac T = 1; rw [show tac T = 3 from q1]; decide)
    have q2 : poB T und (k + 1) ≤ j := q2
    have hp := h.2.2.2.2.2.2.2 j hj q1
    have hp : poB T und k ≤ j → tV T j = -1 ∨ tV T j = nI (tlv T) := hp
    unfold poB at q2 hp
    unfold left at hk
    rw [cif_t u] at q2 hp hk
    show upd (tV T) (idB T und k) x j = -1 ∨ upd (tV T) (idB T und k) x j = nI (tlv T)
    by_cases e9 : j = idB T und k
    · right
      rw [e9, pk_us, hx, ← chg_3 ef hf u]
      rcases hf with ⟨q, -⟩ | ⟨-, rfl⟩
      · exact absurd u q
      · rfl
    · rw [pk_un e9]
      unfold idB at e9
      rw [cif_t u] at e9
      exact hp (by omega)
theorem sgo_inv {und : Prop} {cs : Int32} : ∀ (r k ch : Nat) (T : TS), unD T und → k + r ≤ left T und → tcu T ≤ 40 → Inv (ucu T (poB T und k)) →
    keepR T (sgo und cs r k ch T).2.2.2 ∧ k ≤ (sgo und cs r k ch T).2.1 ∧ (sgo und cs r k ch T).2.1 ≤ left T und ∧ Inv (ucu (sgo und cs r k ch T).2.2.2 (poB (sgo und cs r k ch T).2.2.2 und (sgo und cs r k ch T).2.1)) := by
  intro r
  induction r with
  | zero => exact fun k ch T hu hk hcu h => ⟨⟨rfl, rfl, rfl, rfl⟩, Nat.le_refl k, hk, h⟩
  | succ r ih =>
    intro k ch T hu hk hcu h
    by_cases hl : lft T und (idB T und k)
    · cases e : stp T und (idB T und k) with
      | none =>
        rw [sgo_blk hl e]
        exact ⟨⟨rfl, rfl, rfl, rfl⟩, Nat.le_refl k, by show k ≤ left T und; omega, h⟩
      | some T2 =>
        have hk2 := stp_keep e
        have h2 := inv_stp1 hu (by omega) hcu h hl e
        have hu2 : unD T2 und := unD_cg hk2.1 hu
        have hcu2 : tcu T2 ≤ 40 := by rw [hk2.2.1]; exact hcu
        have hlf : left T2 und = left T und := left_cg hk2.2.1
        by_cases hc : nI (ch + 1) = cs
        · rw [sgo_cr hl e hc]
          refine ⟨hk2, Nat.le_refl k, by show k ≤ left T und; omega, ?_⟩
          have hk9 : k + 1 ≤ left T2 und := by rw [hlf]; omega
          show Inv (ucu T2 (poB T2 und k))
          refine inv_cu (p := poB T2 und (k + 1)) hu2 h2 (poB_le hcu2 (by omega)).1 (fun u => ?_) (fun u => ?_)
          · unfold poB; rw [cif_f u, cif_f u]; omega
          · unfold poB; rw [cif_t u, cif_t u]; omega
        · rw [sgo_go hl e hc]
          obtain ⟨i1, i2, i3, i4⟩ := ih (k + 1) (ch + 1) T2 hu2 (by rw [hlf]; omega) hcu2 h2
          exact ⟨⟨i1.1.trans hk2.1, i1.2.1.trans hk2.2.1, i1.2.2.1.trans hk2.2.2.1, i1.2.2.2.trans hk2.2.2.2⟩, by omega, by rw [← hlf]; exact i3, i4⟩
    · rw [sgo_skip hl]
      obtain ⟨i1, i2, i3, i4⟩ := ih (k + 1) ch T hu (by omega) hcu (inv_pass1 hu (by omega) hcu h hl)
      exact ⟨i1, by omega, i3, i4⟩
theorem inv_fin {T : TS} {und : Prop} {p : Nat} (hu : unD T und) (h : Inv (ucu T p)) : Inv (fin T und p) := by
  unfold fin
  have hlt : tlv T < tn T := by
    rcases h.2.1 with q | q
    · have q : tac T = 0 := q
      rcases hu with z | z
      · rw [z.1] at q; exact absurd q (by decide)
      · rw [z.1] at q; exact absurd q (by decide)
    · exact q.2
  refine cifP (P := Inv) (fun u => cifP (P := Inv) (fun e => ?_) (fun _ => h)) (fun u => cifP (P := Inv) (fun e => ?_) (fun _ => h))
  · have a3 : tac T = 3 := hu.elim (fun z => absurd u z.2) (fun z => z.1)
    refine ⟨h.1, Or.inl rfl, h.2.2.1, h.2.2.2.1, h.2.2.2.2.1, fun j hj => ?_, fun j hj q => absurd q (by show ¬ ((0 : Int32) = 1); decide), fun j hj q => absurd q (by show ¬ ((0 : Int32) = 3); decide)⟩
    rcases h.2.2.2.2.2.2.2 j hj a3 (by show p ≤ j; omega) with q | q
    · exact Or.inl q
    · exact Or.inr (Or.inl q)
  · have a1 : tac T = 1 := hu.elim (fun z => z.1) (fun z => absurd z.2 u)
    refine ⟨⟨h.1.1, hlt, h.1.2.2⟩, Or.inl rfl, h.2.2.1, h.2.2.2.1, h.2.2.2.2.1, fun j hj => ?_, fun j hj q => absurd q (by show ¬ ((0 : Int32) = 1); decide), fun j hj q => absurd q (by show ¬ ((0 : Int32) = 3); decide)⟩
    rcases h.2.2.2.2.2.2.1 j hj a1 (by show j < p; omega) with q | q
    · exact Or.inl q
    · exact Or.inr (Or.inl q)
theorem inv_step {T : TS} (hI : Inv T) (w n c : Int32) : Inv (sp_step T w n c).2.2 := by
  unfold sp_step
  refine cifP (P := pI) (fun _ => hI) (fun _ => cifP (P := pI) (fun _ => hI) (fun h => ?_))
  have ha : tac T ≠ 0 := fun q => h (Or.inr q)
  have hu : unD T (tac T = 3) := unD_of hI.w ha
  have hcu : tcu T ≤ 40 := hI.1.2.2
  have h0 : Inv (ucu T (poB T (tac T = 3) 0)) := by
    rw [poB_0]
    exact ⟨hI.1, hI.2.1, hI.2.2.1, hI.2.2.2.1, hI.2.2.2.2.1, hI.2.2.2.2.2.1, hI.2.2.2.2.2.2.1, hI.2.2.2.2.2.2.2⟩
  obtain ⟨k1, k2, k3, k4⟩ := sgo_inv (cs := c) (min (ix n) (left T (tac T = 3))) 0 0 T hu (by omega) hcu h0
  show Inv (stR (tac T = 3) (ix w) (sgo (tac T = 3) c (min (ix n) (left T (tac T = 3))) 0 0 T)).2
  generalize sgo (tac T = 3) c (min (ix n) (left T (tac T = 3))) 0 0 T = q at k1 k2 k3 k4
  obtain ⟨m, k, ch, T2⟩ := q
  have hu2 : unD T2 (tac T = 3) := unD_cg k1.1 hu
  unfold stR
  refine cifP (P := fun R : Int32 × TS => Inv R.2) (fun _ => inv_fin hu2 k4) (fun _ => cifP (P := fun R : Int32 × TS => Inv R.2) (fun _ => k4) (fun _ => ?_))
  have hcu2 : tcu T2 ≤ 40 := by rw [show tcu T2 = tcu T from k1.2.1]; exact hcu
  have k3 : k ≤ left T2 (tac T = 3) := by rw [left_cg k1.2.1]; exact k3
  have h9 : Inv (ucu T2 (tcu T2)) := by
    refine inv_cu hu2 k4 hcu2 (fun u => ?_) (fun u => ?_)
    · show tcu T2 ≤ poB T2 (tac T = 3) k
      unfold poB; rw [cif_f u]; omega
    · show poB T2 (tac T = 3) k ≤ tcu T2
      unfold poB; rw [cif_t u]; omega
  exact inv_ucr (T := T2) ⟨h9.1, h9.2.1, h9.2.2.1, h9.2.2.2.1, h9.2.2.2.2.1, h9.2.2.2.2.2.1, h9.2.2.2.2.2.2.1, h9.2.2.2.2.2.2.2⟩ _ (Or.inr rfl)
