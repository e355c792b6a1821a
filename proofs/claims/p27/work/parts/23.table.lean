/-! the table at each level of the law's changes, and what a step does with it -/
noncomputable def hist (K C O X0 : Nat → Int32) : Nat → Nat → Int32
  | 0 => X0
  | k + 1 => fun i => opF (K (k + 1)) (C (k + 1)) (O (k + 1)) (fun q => hist K C O X0 k (3 * (i / 3) + q)) (i % 3)
theorem hist_s {K C O X0 : Nat → Int32} {k j q : Nat} (hq : q < 3) : hist K C O X0 (k + 1) (3 * j + q) = opF (K (k + 1)) (C (k + 1)) (O (k + 1)) (fun q => hist K C O X0 k (3 * j + q)) q := by
  show opF (K (k + 1)) (C (k + 1)) (O (k + 1)) (fun q9 => hist K C O X0 k (3 * ((3 * j + q) / 3) + q9)) ((3 * j + q) % 3) = _
  rw [show (3 * j + q) / 3 = j by omega, show (3 * j + q) % 3 = q by omega]
def bB : Nat → Int
  | 0 => 100
  | k + 1 => 3 * bB k + 100
theorem bB_ok : ∀ k, k ≤ 8 → 0 ≤ bB k ∧ bB k ≤ 300000000 := by decide
/-- the law's plan: at most eight changes of its kind, small values at the start -/
def Pln (K C O X0 : Nat → Int32) (pr : Nat → Prop) (n : Nat) : Prop := n ≤ 8 ∧ (∀ k, 1 ≤ k → k ≤ n → lawOp (K k) (C k) (O k)) ∧ ∀ j, j < 40 → pr j → ∀ q, q < 3 → bn (X0 (3 * j + q)) 100
/-- the list of a ledger is the plan's -/
def Lst (K C O : Nat → Int32) (n : Nat) (T : TS) : Prop := tn T = n ∧ ∀ k, 1 ≤ k → k ≤ n → tK T k = K k ∧ tC T k = C k ∧ tO T k = O k
/-- which rows are present, and each holds the values of its version's level -/
def Cnt (h : Nat → Nat → Int32) (pr : Nat → Prop) (T : TS) : Prop := (∀ j, j < 40 → (tV T j ≠ -1 ↔ pr j)) ∧ ∀ j, j < 40 → ∀ v, v ≤ 12 → tV T j = nI v → ∀ q, q < 3 → tX T (3 * j + q) = h v (3 * j + q)
noncomputable abbrev gl (T : TS) (und : Prop) : Nat := cif und (tlv T) (tlv T + 1)
noncomputable abbrev cL (T : TS) (g : Nat) : Nat := cntV (tV T) (fun y => y = nI g) 40
def Keep (T T2 : TS) : Prop := tn T2 = tn T ∧ tK T2 = tK T ∧ tC T2 = tC T ∧ tO T2 = tO T ∧ tR T2 = tR T ∧ ttm T2 = ttm T ∧ tho T2 = tho T ∧ tle T2 = tle T
abbrev PT (K C O : Nat → Int32) : TS := mkT K C O (fun _ => 0) (fun _ => 0) (fun _ => 0) (fun _ => 0) 0 0 0 0 0 0 0
section PLN
variable {K C O X0 : Nat → Int32} {pr : Nat → Prop} {n : Nat}
theorem hist_bn (hp : Pln K C O X0 pr n) : ∀ k, k ≤ n → ∀ j, j < 40 → pr j → ∀ q, q < 3 → bn (hist K C O X0 k (3 * j + q)) (bB k) := by
  intro k
  induction k with
  | zero => exact fun _ j hj hpr q hq => hp.2.2 j hj hpr q hq
  | succ k ih =>
    intro hk j hj hpr q hq
    have hb := bB_ok k (by have := hp.1; omega)
    have hlo : lawOp (K (k + 1)) (C (k + 1)) (O (k + 1)) := hp.2.1 _ (by omega) hk
    obtain ⟨-, f2⟩ := ap_fwd (T := PT K C O) (k := k + 1) (row := fun q => hist K C O X0 k (3 * j + q)) (B := bB k) hlo (fun q hq => ih (by omega) j hj hpr q hq) hb.2 hb.1
    rw [hist_s hq]
    exact f2 q hq
theorem ap_up (hp : Pln K C O X0 pr n) {T : TS} (hl : Lst K C O n T) {k j : Nat} (hk : k + 1 ≤ n) (hj : j < 40) (hpr : pr j) {row : Nat → Int32} (hr : ∀ q, q < 3 → row q = hist K C O X0 k (3 * j + q)) :
    ∃ w, ap T False (k + 1) row = some w ∧ ∀ q, q < 3 → w q = hist K C O X0 (k + 1) (3 * j + q) := by
  obtain ⟨e1, e2, e3⟩ := hl.2 (k + 1) (by omega) hk
  have hlo : lawOp (tK T (k + 1)) (tC T (k + 1)) (tO T (k + 1)) := by rw [e1, e2, e3]; exact hp.2.1 _ (by omega) hk
  have hb := bB_ok k (by have := hp.1; omega)
  obtain ⟨f1, -⟩ := ap_fwd hlo (row := row) (B := bB k) (fun q hq => by rw [hr q hq]; exact hist_bn hp k (by omega) j hj hpr q hq) hb.2 hb.1
  refine ⟨_, f1, fun q hq => ?_⟩
  rw [hist_s hq, ← e1, ← e2, ← e3]
  exact opF_cg hlo hr q hq
theorem ap_dn (hp : Pln K C O X0 pr n) {T : TS} (hl : Lst K C O n T) {k j : Nat} (hk : k + 1 ≤ n) (hj : j < 40) (hpr : pr j) {row : Nat → Int32} (hr : ∀ q, q < 3 → row q = hist K C O X0 (k + 1) (3 * j + q)) :
    ∃ w, ap T True (k + 1) row = some w ∧ ∀ q, q < 3 → w q = hist K C O X0 k (3 * j + q) := by
  obtain ⟨e1, e2, e3⟩ := hl.2 (k + 1) (by omega) hk
  have hlo : lawOp (tK T (k + 1)) (tC T (k + 1)) (tO T (k + 1)) := by rw [e1, e2, e3]; exact hp.2.1 _ (by omega) hk
  have hb := bB_ok k (by have := hp.1; omega)
  exact ap_bwd hlo (row := fun q => hist K C O X0 k (3 * j + q)) (B := bB k) (fun q hq => hist_bn hp k (by omega) j hj hpr q hq) hb.2 hb.1
    (fun q hq => by rw [hr q hq, hist_s hq, ← e1, ← e2, ← e3])
theorem cnt_put {h : Nat → Nat → Int32} {T : TS} {j g : Nat} {w : Nat → Int32} (hc : Cnt h pr T) (hg : g ≤ 12) (hprj : pr j) (hw : ∀ q, q < 3 → w q = h g (3 * j + q)) :
    Cnt h pr (uV (uX T (wrX (tX T) j w)) (upd (tV T) j (nI g))) := by
  refine ⟨fun i hi => ?_, fun i hi v hv ev q hq => ?_⟩
  · show upd (tV T) j (nI g) i ≠ -1 ↔ pr i
    by_cases e : i = j
    · subst e
      rw [pk_us]
      exact ⟨fun _ => hprj, fun _ => nI_m1 (by omega)⟩
    · rw [pk_un e]
      exact hc.1 i hi
  · have ev : upd (tV T) j (nI g) i = nI v := ev
    show wrX (tX T) j w (3 * i + q) = h v (3 * i + q)
    by_cases e : i = j
    · subst e
      rw [pk_us] at ev
      obtain rfl : g = v := (nI_eq (by omega) (by omega)).mp ev
      rw [← hw q hq]
      rcases (show q = 0 ∨ q = 1 ∨ q = 2 by omega) with rfl | rfl | rfl <;> simp [wrX, upd]
    · rw [pk_un e] at ev
      rw [← hc.2 i hi v hv ev q hq]
      simp only [wrX]
      rw [pk_un (by omega), pk_un (by omega), pk_un (by omega)]
theorem stp_go (hp : Pln K C O X0 pr n) {T : TS} (hl : Lst K C O n T) {und : Prop} {j : Nat} (hu : unD T und) (hI : InvW T) (hc : Cnt (hist K C O X0) pr T) (hj : j < 40) (hlf : lft T und j) :
    ∃ X : Nat → Int32, stp T und j = some (uV (uX T X) (upd (tV T) j (nI (gl T und)))) ∧ tV T j ≠ nI (gl T und) ∧ Cnt (hist K C O X0) pr (uV (uX T X) (upd (tV T) j (nI (gl T und)))) := by
  obtain ⟨f, ef, hf, hf12, hfn⟩ := vF_of hI hj hlf
  have hac : tac T ≠ 0 := by
    rcases hu with q | q <;> (rw [q.1]; decide)
  have hlv : tlv T + 1 ≤ n := by
    rcases hI.2.1 with q | q
    · exact absurd q hac
    · have := hl.1; omega
  have hn := hp.1
  have hprj : pr j := (hc.1 j hj).mp hlf.1
  have hrow : ∀ q, q < 3 → rowOf T j q = hist K C O X0 f (3 * j + q) := fun q hq => hc.2 j hj f hf12 ef q hq
  rcases hf with ⟨u, rfl⟩ | ⟨u, rfl⟩
  · obtain ⟨w, hw, hq⟩ := ap_up hp hl (k := tlv T) hlv hj hprj hrow
    have hap : ap T und (tlv T + 1) (rowOf T j) = some w := by rw [ap_cg (v := False) ⟨u, False.elim⟩]; exact hw
    have eg : gl T und = tlv T + 1 := cif_f u
    rw [eg]
    refine ⟨wrX (tX T) j w, ?_, ?_, cnt_put hc (by omega) hprj hq⟩
    · unfold stp
      rw [hap, chg_1 ef u]
    · rw [ef]
      exact fun q => absurd ((nI_eq (by omega) (by omega)).mp q) (by omega)
  · obtain ⟨w, hw, hq⟩ := ap_dn hp hl (k := tlv T) hlv hj hprj hrow
    have hap : ap T und (tlv T + 1) (rowOf T j) = some w := by rw [ap_cg (v := True) ⟨fun _ => trivial, fun _ => u⟩]; exact hw
    have eg : gl T und = tlv T := cif_t u
    have e3 := chg_3 ef (Or.inr ⟨u, rfl⟩) u
    rw [Nat.add_sub_cancel] at e3
    rw [eg]
    refine ⟨wrX (tX T) j w, ?_, ?_, cnt_put hc (by omega) hprj hq⟩
    · unfold stp
      rw [hap, e3]
    · rw [ef]
      exact fun q => absurd ((nI_eq (by omega) (by omega)).mp q) (by omega)
theorem cnt_up0 {V : Nat → Int32} {q : Int32 → Prop} {j : Nat} {x : Int32} : ∀ n, n ≤ j → cntV (upd V j x) q n = cntV V q n := by
  intro n
  induction n with
  | zero => exact fun _ => rfl
  | succ n ih =>
    intro h
    have e : upd V j x n = V n := pk_un (by omega)
    by_cases k : q (V n)
    · rw [cntV_t (by rw [e]; exact k), cntV_t k, ih (by omega)]
    · rw [cntV_f (by rw [e]; exact k), cntV_f k, ih (by omega)]
theorem cnt_up1 {V : Nat → Int32} {q : Int32 → Prop} {j : Nat} {x : Int32} (h1 : ¬ q (V j)) (h2 : q x) : ∀ n, j < n → cntV (upd V j x) q n = cntV V q n + 1 := by
  intro n
  induction n with
  | zero => exact fun h => absurd h (Nat.not_lt_zero _)
  | succ n ih =>
    intro h
    by_cases e : n = j
    · subst e
      rw [cntV_t (by rw [pk_us]; exact h2), cntV_f h1, cnt_up0 n (Nat.le_refl n)]
    · have e2 : upd V j x n = V n := pk_un e
      by_cases k : q (V n)
      · rw [cntV_t (by rw [e2]; exact k), cntV_t k, ih (by omega)]
      · rw [cntV_f (by rw [e2]; exact k), cntV_f k, ih (by omega)]
theorem cnt_cg2 {V V2 : Nat → Int32} {q q2 : Int32 → Prop} : ∀ n, (∀ j, j < n → (q (V j) ↔ q2 (V2 j))) → cntV V q n = cntV V2 q2 n := by
  intro n
  induction n with
  | zero => exact fun _ => rfl
  | succ n ih =>
    intro h
    by_cases k : q (V n)
    · rw [cntV_t k, cntV_t ((h n (by omega)).mp k), ih (fun j hj => h j (by omega))]
    · rw [cntV_f k, cntV_f (fun z => k ((h n (by omega)).mpr z)), ih (fun j hj => h j (by omega))]
theorem sgo_all (hp : Pln K C O X0 pr n) {und : Prop} {cs : Int32} : ∀ (r k ch : Nat) (T : TS), Lst K C O n T → unD T und → InvW T → Cnt (hist K C O X0) pr T → k + r ≤ left T und → ch + r ≤ 1000 → (cs = 0 ∨ ¬ nI ch = cs) →
    ∃ (m k2 ch2 : Nat) (X V : Nat → Int32), sgo und cs r k ch T = (m, k2, ch2, uV (uX T X) V) ∧ Cnt (hist K C O X0) pr (uV (uX T X) V) ∧
      ((m = 0 ∧ k2 = k + r ∧ (cs = 0 ∨ ¬ nI ch2 = cs)) ∨ (m = 2 ∧ nI ch2 = cs ∧ k2 ≤ k + r)) ∧
      cntV V (fun y => y = nI (gl T und)) 40 + ch = cntV (tV T) (fun y => y = nI (gl T und)) 40 + ch2 ∧ ch ≤ ch2 ∧ ch2 ≤ ch + r ∧ (m = 2 → ch + 1 ≤ ch2) := by
  intro r
  induction r with
  | zero => exact fun k ch T hl hu hI hc hk hch hcs => ⟨0, k, ch, tX T, tV T, rfl, hc, Or.inl ⟨rfl, rfl, hcs⟩, rfl, Nat.le_refl _, Nat.le_refl _, fun h => absurd h (by decide)⟩
  | succ r ih =>
    intro k ch T hl hu hI hc hk hch hcs
    by_cases hlf : lft T und (idB T und k)
    · have hj := (idB_lt (T := T) (und := und) (k := k) hI.1.2.2 (by omega)).1
      obtain ⟨X, es, ene, hc2⟩ := stp_go hp hl hu hI hc hj hlf
      have hI2 := stp_inv hI hu hj hlf es
      have ec := cnt_up1 (V := tV T) (q := fun y => y = nI (gl T und)) (x := nI (gl T und)) ene rfl 40 hj
      by_cases hcr : nI (ch + 1) = cs
      · exact ⟨2, k, ch + 1, X, upd (tV T) (idB T und k) (nI (gl T und)), sgo_cr hlf es hcr, hc2, Or.inr ⟨rfl, hcr, by omega⟩, by rw [ec]; omega, by omega, by omega, fun _ => Nat.le_refl _⟩
      · obtain ⟨m, k2, ch2, X2, V2, e, i1, i2, i3, i4, i5, i6⟩ := ih (k + 1) (ch + 1) (uV (uX T X) (upd (tV T) (idB T und k) (nI (gl T und)))) hl hu hI2 hc2 (show k + 1 + r ≤ left T und by omega) (by omega) (Or.inr hcr)
        refine ⟨m, k2, ch2, X2, V2, (sgo_go hlf es hcr).trans e, i1, ?_, ?_, by omega, by omega, fun h => by have := i6 h; omega⟩
        · rcases i2 with ⟨a, b, c⟩ | ⟨a, b, c⟩
          · exact Or.inl ⟨a, by omega, c⟩
          · exact Or.inr ⟨a, b, by omega⟩
        · have i3 : cntV V2 (fun y => y = nI (gl T und)) 40 + (ch + 1) = cntV (upd (tV T) (idB T und k) (nI (gl T und))) (fun y => y = nI (gl T und)) 40 + ch2 := i3
          rw [ec] at i3
          omega
    · obtain ⟨m, k2, ch2, X2, V2, e, i1, i2, i3, i4, i5, i6⟩ := ih (k + 1) ch T hl hu hI hc (by omega) (by omega) hcs
      refine ⟨m, k2, ch2, X2, V2, (sgo_skip hlf).trans e, i1, ?_, i3, i4, by omega, i6⟩
      rcases i2 with ⟨a, b, c⟩ | ⟨a, b, c⟩
      · exact Or.inl ⟨a, by omega, c⟩
      · exact Or.inr ⟨a, b, by omega⟩
theorem nI_0' {c : Nat} (hc : c < 2 ^ 31) (h : nI c = 0) : c = 0 := (nI_eq (a := c) (b := 0) hc (by decide)).mp h
/-- a step, by a worker with the lock -/
theorem step_all (hp : Pln K C O X0 pr n) {T : TS} (hl : Lst K C O n T) (hI : Inv T) (hc : Cnt (hist K C O X0) pr T) (ha : tac T ≠ 0) {w b c : Nat} (hw : w < 4) (hb : 1 ≤ b ∧ b ≤ 40) (hcc : c ≤ 40) (hcr : tcr T w = 0) (hown : has T (nI w)) :
    ∃ (ch : Nat) (T2 : TS), sp_step T (nI w) (nI b) (nI c) = (0, nI ch, T2) ∧ Inv T2 ∧ Cnt (hist K C O X0) pr T2 ∧ Keep T T2 ∧ ch ≤ 40 ∧ cL T2 (gl T (tac T = 3)) = cL T (gl T (tac T = 3)) + ch ∧
      ((0 < c ∧ ch = c ∧ tac T2 = tac T ∧ tcu T2 = tcu T ∧ tlv T2 = tlv T ∧ tcr T2 = upd (tcr T) w 1) ∨
       ((c = 0 ∨ ch ≠ c) ∧ tcr T2 = tcr T ∧ ((tac T2 = 0 ∧ tlv T2 = gl T (tac T = 3) ∧ left T (tac T = 3) ≤ b) ∨ (tac T2 = tac T ∧ tlv T2 = tlv T ∧ tcu T2 = poB T (tac T = 3) b ∧ b < left T (tac T = 3))))) := by
  have hu : unD T (tac T = 3) := unD_of hI.w ha
  have hcu : tcu T ≤ 40 := hI.1.2.2
  have hlf : left T (tac T = 3) ≤ 40 := left_le hcu
  have hs : sp_step T (nI w) (nI b) (nI c) = (0, stR (tac T = 3) w (sgo (tac T = 3) (nI c) (min b (left T (tac T = 3))) 0 0 T)) := by
    unfold sp_step
    rw [cif_f (fun q => q ⟨id3 w hw, ⟨(nI_leI (a := 1) (by decide) (by omega)).mpr hb.1, (nI_leI (b := 40) (by omega) (by decide)).mpr hb.2⟩, ⟨(nI_leI (a := 0) (by decide) (by omega)).mpr (Nat.zero_le c), (nI_leI (b := 40) (by omega) (by decide)).mpr hcc⟩⟩),
      cif_f (fun q => q.elim (fun q => q.elim (fun q => q (by rw [ix_n (by omega)]; exact hcr)) (fun q => q hown)) ha), ix_n (by omega), ix_n (by omega)]
  have hinv := inv_step hI (nI w) (nI b) (nI c)
  obtain ⟨m, k2, ch2, X, V, e, i1, i2, i3, i4, i5, i6⟩ := sgo_all hp (cs := nI c) (min b (left T (tac T = 3))) 0 0 T hl hu hI.w hc (by omega) (by omega)
    (by
      by_cases h0 : c = 0
      · exact Or.inl (by rw [h0]; rfl)
      · exact Or.inr (fun q => h0 ((nI_eq (a := 0) (b := c) (by decide) (by omega)).mp q).symm))
  rw [hs, e] at hinv
  rw [hs, e]
  have i3 : cntV V (fun y => y = nI (gl T (tac T = 3))) 40 = cL T (gl T (tac T = 3)) + ch2 := by
    have : cntV V (fun y => y = nI (gl T (tac T = 3))) 40 + 0 = cL T (gl T (tac T = 3)) + ch2 := i3
    omega
  rcases i2 with ⟨rfl, rfl, hq⟩ | ⟨rfl, hq, hk2⟩
  · rw [stR_0] at hinv ⊢
    have hq2 : c = 0 ∨ ch2 ≠ c := by
      rcases hq with q | q
      · exact Or.inl (nI_0' (by omega) q)
      · exact Or.inr (fun z => q (by rw [z]))
    by_cases hfin : left T (tac T = 3) ≤ b
    · have hm : 0 + min b (left T (tac T = 3)) = left T (tac T = 3) := by omega
      rw [hm] at hinv ⊢
      by_cases u : tac T = 3
      · have ep : poB (uV (uX T X) V) (tac T = 3) (left T (tac T = 3)) = 0 := by
          unfold poB left; rw [cif_t u, cif_t u]; show tcu T - tcu T = 0; omega
        have ef : fin (uV (uX T X) V) (tac T = 3) 0 = uac (ucu (uV (uX T X) V) 0) 0 := by unfold fin; rw [cif_t u, cif_t rfl]
        rw [ep, ef] at hinv ⊢
        exact ⟨ch2, _, rfl, hinv, i1, ⟨rfl, rfl, rfl, rfl, rfl, rfl, rfl, rfl⟩, by omega, i3, Or.inr ⟨hq2, rfl, Or.inl ⟨rfl, (cif_t u).symm, hfin⟩⟩⟩
      · have ep : poB (uV (uX T X) V) (tac T = 3) (left T (tac T = 3)) = 40 := by
          unfold poB left; rw [cif_f u, cif_f u]; show tcu T + (40 - tcu T) = 40; omega
        have ef : fin (uV (uX T X) V) (tac T = 3) 40 = ulv (uac (ucu (uV (uX T X) V) 40) 0) (tlv T + 1) := by unfold fin; rw [cif_f u, cif_t rfl]
        rw [ep, ef] at hinv ⊢
        exact ⟨ch2, _, rfl, hinv, i1, ⟨rfl, rfl, rfl, rfl, rfl, rfl, rfl, rfl⟩, by omega, i3, Or.inr ⟨hq2, rfl, Or.inl ⟨rfl, (cif_f u).symm, hfin⟩⟩⟩
    · have hm : 0 + min b (left T (tac T = 3)) = b := by omega
      rw [hm] at hinv ⊢
      have ef : fin (uV (uX T X) V) (tac T = 3) (poB (uV (uX T X) V) (tac T = 3) b) = ucu (uV (uX T X) V) (poB T (tac T = 3) b) := by
        rw [show poB (uV (uX T X) V) (tac T = 3) b = poB T (tac T = 3) b from rfl]
        have hne : (tac T = 3 → poB T (tac T = 3) b ≠ 0) ∧ (¬ tac T = 3 → poB T (tac T = 3) b ≠ 40) := by
          unfold poB left at *
          refine ⟨fun u => ?_, fun u => ?_⟩
          · rw [cif_t u] at hfin ⊢; omega
          · rw [cif_f u] at hfin ⊢; omega
        unfold fin
        by_cases u : tac T = 3
        · rw [cif_t u, cif_f (hne.1 u)]
        · rw [cif_f u, cif_f (hne.2 u)]
      rw [ef] at hinv ⊢
      exact ⟨ch2, _, rfl, hinv, i1, ⟨rfl, rfl, rfl, rfl, rfl, rfl, rfl, rfl⟩, by omega, i3, Or.inr ⟨hq2, rfl, Or.inr ⟨rfl, rfl, rfl, by omega⟩⟩⟩
  · rw [stR_2] at hinv ⊢
    have h1 := i6 rfl
    have hcc2 : ch2 = c := (nI_eq (by omega) (by omega)).mp hq
    exact ⟨ch2, _, rfl, hinv, i1, ⟨rfl, rfl, rfl, rfl, rfl, rfl, rfl, rfl⟩, by omega, i3, Or.inl ⟨by omega, hcc2, rfl, rfl, rfl, rfl⟩⟩
end PLN
