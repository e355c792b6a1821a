/-! the changes that the law makes, on bounded values: never blocked, and undone exactly -/
abbrev bn (x : Int32) (B : Int) : Prop := -B ≤ x.toInt ∧ x.toInt ≤ B
theorem okV_of {v : Int64} (h : -1000000000 ≤ v.toInt ∧ v.toInt ≤ 1000000000) : okV v := by
  have e1 : (-1000000000 : Int64).toInt = -1000000000 := by decide
  have e2 : (1000000000 : Int64).toInt = 1000000000 := by decide
  exact ⟨Int64.le_iff_toInt_le.mpr (by rw [e1]; exact h.1), Int64.le_iff_toInt_le.mpr (by rw [e2]; exact h.2)⟩
theorem n_add {x o : Int32} {B : Int} (hx : bn x B) (ho : bn o 100) (hB : B ≤ 300000000) : okV (x.toInt64 + o.toInt64) ∧ bn (x.toInt64 + o.toInt64).toInt32 (B + 100) := by
  have e : (x.toInt64 + o.toInt64).toInt = x.toInt + o.toInt := by
    rw [Int64.toInt_add, Int32.toInt_toInt64, Int32.toInt_toInt64]
    apply Int.bmod_eq_of_le <;> omega
  have h : okV (x.toInt64 + o.toInt64) := okV_of (by rw [e]; omega)
  have e2 : (x.toInt64 + o.toInt64).toInt32.toInt = x.toInt + o.toInt := by rw [← Int32.toInt_toInt64, okV_i h, e]
  refine ⟨h, ?_⟩
  unfold bn
  rw [e2]
  omega
theorem n_mul {x o : Int32} {B : Int} (hx : bn x B) (ho : 1 ≤ o.toInt ∧ o.toInt ≤ 3) (hB : B ≤ 300000000) : okV (x.toInt64 * o.toInt64) ∧ bn (x.toInt64 * o.toInt64).toInt32 (3 * B) ∧ (x.toInt64 * o.toInt64) / o.toInt64 = x.toInt64 := by
  have ho3 : o.toInt = 1 ∨ o.toInt = 2 ∨ o.toInt = 3 := by omega
  have e : (x.toInt64 * o.toInt64).toInt = x.toInt * o.toInt := by
    rw [Int64.toInt_mul, Int32.toInt_toInt64, Int32.toInt_toInt64]
    rcases ho3 with h | h | h <;> rw [h] <;> apply Int.bmod_eq_of_le <;> omega
  have h : okV (x.toInt64 * o.toInt64) := okV_of (by rw [e]; rcases ho3 with h | h | h <;> rw [h] <;> omega)
  have e2 : (x.toInt64 * o.toInt64).toInt32.toInt = x.toInt * o.toInt := by rw [← Int32.toInt_toInt64, okV_i h, e]
  refine ⟨h, ?_, ?_⟩
  · unfold bn
    rw [e2]
    rcases ho3 with h | h | h <;> rw [h] <;> omega
  · apply Int64.toInt_inj.mp
    have hne : o.toInt64 ≠ -1 := fun q => by
      have h9 : o.toInt64.toInt = (-1 : Int64).toInt := by rw [q]
      rw [Int32.toInt_toInt64, show (-1 : Int64).toInt = -1 by decide] at h9
      omega
    rw [Int64.toInt_div_of_ne_right _ _ hne, e, Int32.toInt_toInt64, Int32.toInt_toInt64]
    exact Int.mul_tdiv_cancel _ (by omega)
/-- a change as the law makes them -/
def lawOp (k c o : Int32) : Prop := (k = 0 ∧ inR c 0 2 ∧ bn o 100) ∨ (k = 1 ∧ inR c 0 2 ∧ 1 ≤ o.toInt ∧ o.toInt ≤ 3) ∨ (k = 2 ∧ inR c 0 2 ∧ inR o 0 2 ∧ o ≠ c)
noncomputable def opF (k c o : Int32) (row : Nat → Int32) : Nat → Int32 :=
  cif (k = 0) (upd row (ix c) ((row (ix c)).toInt64 + o.toInt64).toInt32) (cif (k = 1) (upd row (ix c) ((row (ix c)).toInt64 * o.toInt64).toInt32) (swp row (ix c) (ix o)))
theorem opF_0 {k c o : Int32} {row : Nat → Int32} {j : Nat} (h : k = 0) (e : c = nI j) (hj : j < 3) : opF k c o row = upd row j ((row j).toInt64 + o.toInt64).toInt32 := by
  unfold opF; rw [cif_t h, e, ix_n (by omega)]
theorem opF_1 {k c o : Int32} {row : Nat → Int32} {j : Nat} (h : k = 1) (e : c = nI j) (hj : j < 3) : opF k c o row = upd row j ((row j).toInt64 * o.toInt64).toInt32 := by
  unfold opF; rw [cif_f (by rw [h]; decide), cif_t h, e, ix_n (by omega)]
theorem opF_2 {k c o : Int32} {row : Nat → Int32} {j i : Nat} (h : k = 2) (e : c = nI j) (hj : j < 3) (e2 : o = nI i) (hi : i < 3) : opF k c o row = swp row j i := by
  unfold opF; rw [cif_f (by rw [h]; decide), cif_f (by rw [h]; decide), e, e2, ix_n (by omega), ix_n (by omega)]
theorem upd_cg {r r2 : Nat → Int32} (h : ∀ q, q < 3 → r q = r2 q) (j : Nat) {x y : Int32} (e : x = y) : ∀ q, q < 3 → upd r j x q = upd r2 j y q := by
  intro q hq
  simp only [upd]
  split
  · exact e
  · exact h q hq
theorem opF_cg {k c o : Int32} (hl : lawOp k c o) {r r2 : Nat → Int32} (h : ∀ q, q < 3 → r q = r2 q) : ∀ q, q < 3 → opF k c o r q = opF k c o r2 q := by
  rcases hl with ⟨h0, hc, -⟩ | ⟨h0, hc, -⟩ | ⟨h0, hc, ho, -⟩
  · obtain ⟨j, hj, ec⟩ := okC_n hc
    rw [opF_0 h0 ec hj, opF_0 h0 ec hj]
    exact upd_cg h j (by rw [h j hj])
  · obtain ⟨j, hj, ec⟩ := okC_n hc
    rw [opF_1 h0 ec hj, opF_1 h0 ec hj]
    exact upd_cg h j (by rw [h j hj])
  · obtain ⟨j, hj, ec⟩ := okC_n hc
    obtain ⟨i, hi, eo⟩ := okC_n ho
    rw [opF_2 h0 ec hj eo hi, opF_2 h0 ec hj eo hi]
    exact swp_eq h hj hi
theorem ap_fwd {T : TS} {k : Nat} {row : Nat → Int32} {B : Int} (hl : lawOp (tK T k) (tC T k) (tO T k)) (hr : ∀ q, q < 3 → bn (row q) B) (hB : B ≤ 300000000) (h0 : 0 ≤ B) :
    ap T False k row = some (opF (tK T k) (tC T k) (tO T k) row) ∧ ∀ q, q < 3 → bn (opF (tK T k) (tC T k) (tO T k) row q) (3 * B + 100) := by
  rcases hl with ⟨hk, hc, ho⟩ | ⟨hk, hc, ho⟩ | ⟨hk, hc, ho, -⟩
  · obtain ⟨j, hj, ec⟩ := okC_n hc
    obtain ⟨n1, n2⟩ := n_add (hr j hj) ho hB
    rw [ap_0 hk ec hj, opF_0 hk ec hj, cif_f id]
    unfold putR
    rw [cif_t n1]
    refine ⟨rfl, fun q hq => ?_⟩
    simp only [upd]
    split
    · unfold bn at *; omega
    · have := hr q hq; unfold bn at *; omega
  · obtain ⟨j, hj, ec⟩ := okC_n hc
    obtain ⟨n1, n2, -⟩ := n_mul (hr j hj) ho hB
    rw [ap_1 hk ec hj, opF_1 hk ec hj, cif_f id]
    unfold putR
    rw [cif_t n1]
    refine ⟨rfl, fun q hq => ?_⟩
    simp only [upd]
    split
    · unfold bn at *; omega
    · have := hr q hq; unfold bn at *; omega
  · obtain ⟨j, hj, ec⟩ := okC_n hc
    obtain ⟨i, hi, eo⟩ := okC_n ho
    rw [ap_2 (by rw [hk]; decide) (by rw [hk]; decide) ec hj eo hi, opF_2 hk ec hj eo hi]
    refine ⟨rfl, fun q hq => ?_⟩
    have h1 := hr j hj
    have h2 := hr i hi
    have h3 := hr q hq
    simp only [swp, upd]
    split
    · unfold bn at *; omega
    · split
      · unfold bn at *; omega
      · unfold bn at *; omega
theorem ap_bwd {T : TS} {k : Nat} {row row2 : Nat → Int32} {B : Int} (hl : lawOp (tK T k) (tC T k) (tO T k)) (hr : ∀ q, q < 3 → bn (row q) B) (hB : B ≤ 300000000) (h0 : 0 ≤ B)
    (he : ∀ q, q < 3 → row2 q = opF (tK T k) (tC T k) (tO T k) row q) : ∃ w, ap T True k row2 = some w ∧ ∀ q, q < 3 → w q = row q := by
  rcases hl with ⟨hk, hc, ho⟩ | ⟨hk, hc, ho⟩ | ⟨hk, hc, ho, hne⟩
  · obtain ⟨j, hj, ec⟩ := okC_n hc
    obtain ⟨n1, n2⟩ := n_add (hr j hj) ho hB
    rw [opF_0 hk ec hj] at he
    have ej : row2 j = ((row j).toInt64 + (tO T k).toInt64).toInt32 := by rw [he j hj]; exact pk_us
    have e1 : (row2 j).toInt64 - (tO T k).toInt64 = (row j).toInt64 := by rw [ej, okV_i n1, Int64.add_sub_cancel]
    rw [ap_0 hk ec hj, cif_t trivial, e1]
    unfold putR
    have hv : okV (row j).toInt64 := okV_of (by rw [Int32.toInt_toInt64]; have := hr j hj; unfold bn at this; omega)
    rw [cif_t hv]
    refine ⟨_, rfl, fun q hq => ?_⟩
    simp only [upd]
    split
    · next h => rw [Int32.toInt32_toInt64, h]
    · next h => rw [he q hq]; exact pk_un h
  · obtain ⟨j, hj, ec⟩ := okC_n hc
    obtain ⟨n1, n2, n3⟩ := n_mul (hr j hj) ho hB
    rw [opF_1 hk ec hj] at he
    have ej : row2 j = ((row j).toInt64 * (tO T k).toInt64).toInt32 := by rw [he j hj]; exact pk_us
    have e1 : (row2 j).toInt64 = (row j).toInt64 * (tO T k).toInt64 := by rw [ej, okV_i n1]
    rw [ap_1 hk ec hj, cif_t trivial, e1, n3, cif_t (Int64.sub_self _)]
    unfold putR
    have hv : okV (row j).toInt64 := okV_of (by rw [Int32.toInt_toInt64]; have := hr j hj; unfold bn at this; omega)
    rw [cif_t hv]
    refine ⟨_, rfl, fun q hq => ?_⟩
    simp only [upd]
    split
    · next h => rw [Int32.toInt32_toInt64, h]
    · next h => rw [he q hq]; exact pk_un h
  · obtain ⟨j, hj, ec⟩ := okC_n hc
    obtain ⟨i, hi, eo⟩ := okC_n ho
    have hij : j ≠ i := fun q => hne (by rw [ec, eo, q])
    rw [opF_2 hk ec hj eo hi] at he
    rw [ap_2 (by rw [hk]; decide) (by rw [hk]; decide) ec hj eo hi]
    refine ⟨_, rfl, fun q hq => ?_⟩
    have e1 := he j hj
    have e2 := he i hi
    have e3 := he q hq
    simp only [swp, upd] at *
    split
    · next h => rw [e1]; simp [hij, h]
    · next h =>
      split
      · next h2 => rw [e2]; simp [h2]
      · next h2 => rw [e3]; simp [h, h2]
