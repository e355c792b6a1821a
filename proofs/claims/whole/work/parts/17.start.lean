theorem lp_lt {L i : Nat} (hL : L ≤ 2560) (hi : i ≤ 2560) : (Int32.ofNat L - 5 < nI i) ↔ L < i + 5 := by
  have h := pk_sub_toInt (a := L) (b := 5) (by omega) (by decide)
  have h2 := nI_toInt (n := i) (by omega)
  show (nI L - nI 5 < nI i) ↔ L < i + 5
  constructor
  · intro q
    have q := Int32.lt_iff_toInt_lt.mp q
    omega
  · intro q
    exact Int32.lt_iff_toInt_lt.mpr (by omega)
set_option maxHeartbeats 4000000 in
set_option maxRecDepth 100000 in
/-- the end, with 1 -/
theorem law_end {p : Program} {l : Launch} {e : Env} {s : State} {m : MethodId} {below : List Frame} {meth : Method} {c : Code} {b L : Nat} {xs : Nat → Int32} {G : va_G} {cy : Nat → ClassId} {cells slots : Nat} (C0 : lw_C p l s m meth c b L xs G cy) (hcl : cells ≤ 1077) (hsl : slots ≤ 8842) {H : Heap} {locs : List Loc} {ls : Array Slot} (hS : va_S (fun q : Nat => s.heap.size ≤ q) s.heap H locs) : W p l e room_1 s m #[Value.ref b] below meth c H locs cells slots (lw_Z below #[Value.ref b] s) (F0 m 1511 ls []) := by
  obtain ⟨hL, ⟨hx, hb, hr, hml, hown, hts0, hX, hbl, hlocks, hgv⟩, hlt, hK, hN, hE⟩ := C0
  have hb9 : c.code = cL_law := hb
  refine lv_iconst (v := 1) hx hb9 dL_law_1511 (by decide) ?_
  refine va_forget (fun q hq => hS.2.2 q hq) ?_
  refine W.widen (k := 1077) (n := 8842) hcl hsl ?_
  refine W.base ?_
  have hd0 := Drawn.sameBut.refl s.drawn lw_cs
  exact lw_ret hd0 hx hb hr hlocks dL_law_1512
set_option maxHeartbeats 4000000 in
set_option maxRecDepth 100000 in
/-- the loop -/
theorem law_loop {p : Program} {l : Launch} {e : Env} {s : State} {m : MethodId} {below : List Frame} {meth : Method} {c : Code} {b L : Nat} {xs : Nat → Int32} {G : va_G} {cy : Nat → ClassId} {mm a : Nat → Nat} {o od : Nat} (C0 : lw_C p l s m meth c b L xs G cy) :
    ∀ (n i : Nat) (T : TS) (rf : Int32) (sp : Nat → Int64) (tr : Nat → Int32) (f : Nat → Int64) (d : Nat → UInt64) (cells slots : Nat) (H : Heap) (locs : List Loc) (ls : Array Slot), i ≤ L → L < i + 5 * n + 5 → cells + n ≤ 1077 → slots + 6 * n ≤ 8842 → Inv T → va_P G vwCl (wW cy mm a T rf sp T tr o f od d) H → va_D (fun q : Nat => s.heap.size ≤ q) (wW cy mm a T rf sp T tr o f od d) → va_S (fun q : Nat => s.heap.size ≤ q) s.heap H locs → lv_has ls 8 [(0, .ref b), (1, .ref (a 0)), (2, .ref (mm 0)), (3, .ref o), (4, .ref od), (5, .int (nI i))] →
      W p l e room_1 s m #[Value.ref b] below meth c H locs cells slots (lw_Z below #[Value.ref b] s) (F0 m 28 ls []) := by
  obtain ⟨hL, ⟨hx, hb, hr, hml, hown, hts0, hX, hbl, hlocks, hgv⟩, hlt, hK, hN, hE⟩ := id C0
  have hb : c.code = cL_law := hb
  have hbA : ¬ (fun q : Nat => s.heap.size ≤ q) b := Nat.not_le.mpr hbl
  intro n
  induction n with
  | zero =>
    intro i T rf sp tr f d cells slots H locs ls hi hn hc1 hs1 hI hP hD hS hl
    refine lv_iload hx hb dL_law_28 (lv_at hl 5 rfl) ?_
    refine lv_aload_n hx hb dL_law_30 rfl (lv_at hl 0 rfl) ?_
    refine va_slen hx hb hX hbl hbA hS dL_law_31 ?_
    refine lv_iconst (v := 5) hx hb dL_law_32 (by decide) ?_
    refine lv_isub hx hb dL_law_33 ?_
    refine lv_icmp_gt (tgt := 1511) hx hb dL_law_34 (by decide) (fun _ => ?_) (fun c_9 => absurd ((lp_lt hL (by omega)).mpr (by omega)) c_9)
    exact law_end C0 (by omega) (by omega) hS
  | succ n ih =>
    intro i T rf sp tr f d cells slots H locs ls hi hn hc1 hs1 hI hP hD hS hl
    refine lv_iload hx hb dL_law_28 (lv_at hl 5 rfl) ?_
    refine lv_aload_n hx hb dL_law_30 rfl (lv_at hl 0 rfl) ?_
    refine va_slen hx hb hX hbl hbA hS dL_law_31 ?_
    refine lv_iconst (v := 5) hx hb dL_law_32 (by decide) ?_
    refine lv_isub hx hb dL_law_33 ?_
    refine lv_icmp_gt (tgt := 1511) hx hb dL_law_34 (by decide) (fun _ => ?_) (fun c_9 => ?_)
    · exact law_end C0 (by omega) (by omega) hS
    have hi5 : i + 5 ≤ L := Nat.le_of_not_lt fun q => c_9 ((lp_lt hL (by omega)).mpr q)
    have KK : lw_K p l e s m below meth c b G cy mm a o od i cells slots := by
      intro T rf sp tr f d H locs ls hI hP hD hS hl
      refine lv_iinc (v := nI (i + 5)) (lv' := [(5, .int (nI (i + 5))), (0, .ref b), (1, .ref (a 0)), (2, .ref (mm 0)), (3, .ref o), (4, .ref od)]) hx hb dL_law_1505 hl (k := 5) rfl (nI_add i 5) (by decide) rfl (fun ls hl => ?_)
      refine lv_goto (tgt := 28) hx hb dL_law_1508 (by decide) ?_
      exact ih (i + 5) T rf sp tr f d (cells + 1) (slots + 6) H locs ls hi5 (by omega) (by omega) (by omega) hI hP hD hS (lv_sub hl [1, 2, 3, 4, 5, 0] rfl)
    refine lv_aload_n hx hb dL_law_37 rfl (lv_at hl 0 rfl) ?_
    refine lv_iload hx hb dL_law_38 (lv_at hl 5 rfl) ?_
    refine va_sld hx hb hX hbl hbA hS (vp_in_nI (by omega) (by omega)) dL_law_40 ?_
    refine lv_bipush (v := 31) hx hb dL_law_41 (by decide) ?_
    refine lv_iand hx hb dL_law_43 ?_
    obtain ⟨q, hq, eq⟩ := pk_andE (xs (nI i).toNatClampNeg) (m := 31) 5 (by decide)
    refine ml_eqi (nI q) eq ?_
    by_cases h24 : q < 24
    · rcases (show q = 0 ∨ q = 1 ∨ q = 2 ∨ q = 3 ∨ q = 4 ∨ q = 5 ∨ q = 6 ∨ q = 7 ∨ q = 8 ∨ q = 9 ∨ q = 10 ∨ q = 11 ∨ q = 12 ∨ q = 13 ∨ q = 14 ∨ q = 15 ∨ q = 16 ∨ q = 17 ∨ q = 18 ∨ q = 19 ∨ q = 20 ∨ q = 21 ∨ q = 22 ∨ q = 23 by omega) with rfl | rfl | rfl | rfl | rfl | rfl | rfl | rfl | rfl | rfl | rfl | rfl | rfl | rfl | rfl | rfl | rfl | rfl | rfl | rfl | rfl | rfl | rfl | rfl
      · refine lv_tableIn (tgt := 156) (off := 112) hx hb dL_law_44 (by decide) (by decide) (by decide) (by decide) ?_
        exact k_addChange C0 hi5 (by omega) (by omega) hI hP hD hS hl KK
      · refine lv_tableIn (tgt := 236) (off := 192) hx hb dL_law_44 (by decide) (by decide) (by decide) (by decide) ?_
        exact k_edit C0 hi5 (by omega) (by omega) hI hP hD hS hl KK
      · refine lv_tableIn (tgt := 328) (off := 284) hx hb dL_law_44 (by decide) (by decide) (by decide) (by decide) ?_
        exact k_changes C0 hi5 (by omega) (by omega) hI hP hD hS hl KK
      · refine lv_tableIn (tgt := 341) (off := 297) hx hb dL_law_44 (by decide) (by decide) (by decide) (by decide) ?_
        exact k_checksum C0 hi5 (by omega) (by omega) hI hP hD hS hl KK
      · refine lv_tableIn (tgt := 397) (off := 353) hx hb dL_law_44 (by decide) (by decide) (by decide) (by decide) ?_
        exact k_state C0 hi5 (by omega) (by omega) hI hP hD hS hl KK
      · refine lv_tableIn (tgt := 453) (off := 409) hx hb dL_law_44 (by decide) (by decide) (by decide) (by decide) ?_
        exact k_level C0 hi5 (by omega) (by omega) hI hP hD hS hl KK
      · refine lv_tableIn (tgt := 466) (off := 422) hx hb dL_law_44 (by decide) (by decide) (by decide) (by decide) ?_
        exact k_drifted C0 hi5 (by omega) (by omega) hI hP hD hS hl KK
      · refine lv_tableIn (tgt := 479) (off := 435) hx hb dL_law_44 (by decide) (by decide) (by decide) (by decide) ?_
        exact k_insert C0 hi5 (by omega) (by omega) hI hP hD hS hl KK
      · refine lv_tableIn (tgt := 571) (off := 527) hx hb dL_law_44 (by decide) (by decide) (by decide) (by decide) ?_
        exact k_write C0 hi5 (by omega) (by omega) hI hP hD hS hl KK
      · refine lv_tableIn (tgt := 651) (off := 607) hx hb dL_law_44 (by decide) (by decide) (by decide) (by decide) ?_
        exact k_delete C0 hi5 (by omega) (by omega) hI hP hD hS hl KK
      · refine lv_tableIn (tgt := 707) (off := 663) hx hb dL_law_44 (by decide) (by decide) (by decide) (by decide) ?_
        exact k_value C0 hi5 (by omega) (by omega) hI hP hD hS hl KK
      · refine lv_tableIn (tgt := 775) (off := 731) hx hb dL_law_44 (by decide) (by decide) (by decide) (by decide) ?_
        exact k_version C0 hi5 (by omega) (by omega) hI hP hD hS hl KK
      · refine lv_tableIn (tgt := 831) (off := 787) hx hb dL_law_44 (by decide) (by decide) (by decide) (by decide) ?_
        exact k_rowsAt C0 hi5 (by omega) (by omega) hI hP hD hS hl KK
      · refine lv_tableIn (tgt := 887) (off := 843) hx hb dL_law_44 (by decide) (by decide) (by decide) (by decide) ?_
        exact k_valueAt C0 hi5 (by omega) (by omega) hI hP hD hS hl KK
      · refine lv_tableIn (tgt := 967) (off := 923) hx hb dL_law_44 (by decide) (by decide) (by decide) (by decide) ?_
        exact k_take C0 hi5 (by omega) (by omega) hI hP hD hS hl KK
      · refine lv_tableIn (tgt := 1035) (off := 991) hx hb dL_law_44 (by decide) (by decide) (by decide) (by decide) ?_
        exact k_giveBack C0 hi5 (by omega) (by omega) hI hP hD hS hl KK
      · refine lv_tableIn (tgt := 1071) (off := 1027) hx hb dL_law_44 (by decide) (by decide) (by decide) (by decide) ?_
        exact k_holder C0 hi5 (by omega) (by omega) hI hP hD hS hl KK
      · refine lv_tableIn (tgt := 1084) (off := 1040) hx hb dL_law_44 (by decide) (by decide) (by decide) (by decide) ?_
        exact k_restart C0 hi5 (by omega) (by omega) hI hP hD hS hl KK
      · refine lv_tableIn (tgt := 1147) (off := 1103) hx hb dL_law_44 (by decide) (by decide) (by decide) (by decide) ?_
        exact k_pass C0 hi5 (by omega) (by omega) hI hP hD hS hl KK
      · refine lv_tableIn (tgt := 1203) (off := 1159) hx hb dL_law_44 (by decide) (by decide) (by decide) (by decide) ?_
        exact k_begin C0 hi5 (by omega) (by omega) hI hP hD hS hl KK
      · refine lv_tableIn (tgt := 1259) (off := 1215) hx hb dL_law_44 (by decide) (by decide) (by decide) (by decide) ?_
        exact k_undo C0 hi5 (by omega) (by omega) hI hP hD hS hl KK
      · refine lv_tableIn (tgt := 1315) (off := 1271) hx hb dL_law_44 (by decide) (by decide) (by decide) (by decide) ?_
        exact k_step C0 hi5 (by omega) (by omega) hI hP hD hS hl KK
      · refine lv_tableIn (tgt := 1395) (off := 1351) hx hb dL_law_44 (by decide) (by decide) (by decide) (by decide) ?_
        exact k_cursor C0 hi5 (by omega) (by omega) hI hP hD hS hl KK
      · refine lv_tableIn (tgt := 1439) (off := 1395) hx hb dL_law_44 (by decide) (by decide) (by decide) (by decide) ?_
        exact k_share C0 hi5 (by omega) (by omega) hI hP hD hS hl KK
    · refine lv_tableOut (tgt := 1505) hx hb dL_law_44 (Or.inr (by rw [nI_toInt (by omega)]; omega)) (by decide) ?_
      refine W.widen (k := cells + 1) (n := slots + 6) (Nat.le_succ _) (Nat.le_add_right _ 6) ?_
      exact KK T rf sp tr f d H locs ls hI hP hD hS hl
/-! the words of the start -/
theorem st_in : ∀ q ∈ mlS, Cond.stringRef "Migrationledger" q.1 q.2 ∈ lw_tbl := by decide +kernel
abbrev dz : Nat → UInt64 := fun _ => 0
set_option maxHeartbeats 4000000 in
set_option maxRecDepth 100000 in
theorem whole_start {p : Program} {e : Env} {s : State} {m : MethodId} {below : List Frame} {meth : Method} {c : Code} (l : Launch) (hflags : l.flags = flags0) {b L : Nat} {xs : Nat → Int32} (hL : L ≤ 2560) (C0 : lw_At p s m meth c b L xs) : W p l e room_1 s m #[Value.ref b] below meth c s.heap [] 0 0 (lw_Z below #[Value.ref b] s) (entryFrame m ([Value.ref b] : List Value).toArray 8) := by
  obtain ⟨hx, hb, hr, hml, hown, hts0, hX, hbl, hlocks, hgv⟩ := id C0
  have hb : c.code = cL_law := hb
  have hown : s.vm.findClass RL = some m.cls := hown
  have hts : ∀ w ∈ wsL_law, w.before #[Value.ref b] s = true := fun w h => hts0 w (wsL_law_in w h)
  have hlt : l.stackTraces = false := by unfold Launch.stackTraces; rw [hflags]; decide +kernel
  have hA : ∀ q : Nat, s.heap.size ≤ q → (fun q : Nat => s.heap.size ≤ q) q := fun _ h => h
  have hbA : ¬ (fun q : Nat => s.heap.size ≤ q) b := Nat.not_le.mpr hbl
  have hgs := flat_of_before _ hgv
  obtain ⟨c0, iS0, hKn0⟩ := u_known (C := RX0) (T := TX0) (N := 5) (n := 5) hts0 inX0 (hts (.instantiable RX0 5) (by decide +kernel))
  obtain ⟨c1, iS1, hKn1⟩ := u_known (C := RX1) (T := TX1) (N := 4) (n := 4) hts0 inX1 (hts (.instantiable RX1 4) (by decide +kernel))
  obtain ⟨c2, iS2, hKn2⟩ := u_known (C := RX2) (T := TX2) (N := 2) (n := 2) hts0 inX2 (hts (.instantiable RX2 2) (by decide +kernel))
  obtain ⟨c3, iS3, hKn3⟩ := u_known (C := RX3) (T := TX3) (N := 7) (n := 7) hts0 inX3 (hts (.instantiable RX3 7) (by decide +kernel))
  obtain ⟨c4, iS4, hKn4⟩ := u_known (C := RX4) (T := TX4) (N := 16) (n := 16) hts0 inX4 (hts (.instantiable RX4 16) (by decide +kernel))
  obtain ⟨G, hKc⟩ : ∃ G : va_G, ∀ (k : Nat) (q : vw_C), vwCl[k]? = some q → u_Kn s q.1 q.2.1 q.2.2 (G.1 k) (G.2 k) := by
    refine ⟨(fun k => if k = 0 then c0 else if k = 1 then c1 else if k = 2 then c2 else if k = 3 then c3 else c4, fun k => if k = 0 then iS0 else if k = 1 then iS1 else if k = 2 then iS2 else if k = 3 then iS3 else iS4), ?_⟩
    intro k q hq
    match k, hq with
    | 0, hq => cases hq; exact hKn0
    | 1, hq => cases hq; exact hKn1
    | 2, hq => cases hq; exact hKn2
    | 3, hq => cases hq; exact hKn3
    | 4, hq => cases hq; exact hKn4
    | k + 5, hq => simp [vwCl] at hq
  obtain ⟨a0, k0, m0, hf0, hk0, hn0⟩ := Cond.arrayClass_spec (hts (.arrayClass .int) (by decide +kernel))
  obtain ⟨a1, k1, m1, hf1, hk1, hn1⟩ := Cond.arrayClass_spec (hts (.arrayClass .long) (by decide +kernel))
  obtain ⟨a2, k2, m2, hf2, hk2, hn2⟩ := Cond.arrayClass_spec (hts (.arrayClass .boolean) (by decide +kernel))
  obtain ⟨a3, k3, m3, hf3, hk3, hn3⟩ := Cond.arrayClass_spec (hts (.arrayClass .double) (by decide +kernel))
  obtain ⟨cy, hcy⟩ : ∃ cy : Nat → ClassId, ∀ (k : Nat) (q : ClassId × FieldType), (tyA cy)[k]? = some q → ArrOfT s q.1 q.2 ∧ va_RA s q.1 q.2 := by
    refine ⟨fun k => if k = 0 then a0 else if k = 1 then a1 else if k = 2 then a2 else a3, ?_⟩
    intro k q hq
    match k, hq with
    | 0, hq => cases hq; exact ⟨fun n z => ⟨fun k h => (by cases h), k0, hk0, m0, hn0⟩, hf0⟩
    | 1, hq => cases hq; exact ⟨fun n z => ⟨fun k h => (by cases h), k1, hk1, m1, hn1⟩, hf1⟩
    | 2, hq => cases hq; exact ⟨fun n z => ⟨fun k h => (by cases h), k2, hk2, m2, hn2⟩, hf2⟩
    | 3, hq => cases hq; exact ⟨fun n z => ⟨fun k h => (by cases h), k3, hk3, m3, hn3⟩, hf3⟩
    | k + 4, hq => simp at hq
  have hK : va_K G vwCl (tyA cy) s := ⟨hKc, hcy⟩
  have hN0 := hts0 (.methodLinkNest RX0 49 yX3_isTableValue "Migrationledger") (by decide +kernel)
  have hN1 := hts0 (.methodLinkNest RX3 9 yX0_init "Migrationledger") (by decide +kernel)
  have hN2 := hts0 (.methodLinkNest RX3 25 yX1_init "Migrationledger") (by decide +kernel)
  have hN : ml_N s := ⟨va_Nw.of rfl hN0, va_Nw.of rfl hN1, va_Nw.of rfl hN2⟩
  have hst : ml_st s := fun q hq => by
    have h := hts0 _ (st_in q hq)
    obtain ⟨-, -, -, z, -, -, -, -, -, hev⟩ := Cond.stringRef_spec (show s.vm.findClass "Migrationledger" = some c3 from hKn3.2.1) h
    exact ⟨z, vk_R.of h hev⟩
  have hca : ml_ca s := ⟨⟨va_Nw.of rfl (hts0 (.castable eIA eIA) (by decide +kernel)), va_Nw.of rfl (hts0 (.castable eIS eIS) (by decide +kernel)), va_Nw.of rfl (hts0 (.castable eIB eIB) (by decide +kernel))⟩, ⟨va_Nc.of (hgs (.not (.castable eIS eIA)) (by decide +kernel)), va_Nc.of (hgs (.not (.castable eIB eIA)) (by decide +kernel)), va_Nc.of (hgs (.not (.castable eIS eIB)) (by decide +kernel)), va_Nc.of (hgs (.not (.castable eIB eIS)) (by decide +kernel))⟩, va_Nw.of rfl (hts0 (.declares ⟨"java/lang/RuntimeException", "<init>", "(Ljava/lang/String;)V"⟩) (by decide +kernel)), va_Nw.of rfl (hts0 (.declares ⟨"java/lang/Exception", "<init>", "(Ljava/lang/String;)V"⟩) (by decide +kernel)), va_Nw.of rfl (hts0 (.declares ⟨"java/lang/Throwable", "<init>", "(Ljava/lang/String;)V"⟩) (by decide +kernel))⟩
  have hE : ml_eX (fun q : Nat => s.heap.size ≤ q) s s.heap := ⟨vx_Zqof (hts0 (.laysStatic Bundle.tN "UNASSIGNED_STACK" Bundle.steD) (by decide +kernel)) (hts0 (.initialized Bundle.tN) (by decide +kernel)) (hgs (.isRef (.static Bundle.tN "UNASSIGNED_STACK" Bundle.steD)) (by decide +kernel)) (fun _ h => Nat.not_le.mpr h), vx_Zqof (hts0 (.laysStatic Bundle.tN "SUPPRESSED_SENTINEL" Bundle.listD) (by decide +kernel)) (hts0 (.initialized Bundle.tN) (by decide +kernel)) (hgs (.isRef (.static Bundle.tN "SUPPRESSED_SENTINEL" Bundle.listD)) (by decide +kernel)) (fun _ h => Nat.not_le.mpr h), hst, hca⟩
  have hS : va_S (fun q : Nat => s.heap.size ≤ q) s.heap s.heap [] := va_S.rf
  have hP : va_P G vwCl [] s.heap := fun k q h => by simp at h
  have hD : va_D (fun q : Nat => s.heap.size ≤ q) [] := ⟨fun i j p q h => by simp at h, fun k q h => by simp at h⟩
  have hl := lv_entry ([.ref b]) (n := 8) (Nat.le_of_ble_eq_true rfl)
  rw [lg_entry_eq]
  generalize (lg_sl ([.ref b]) ++ List.replicate (8 - (lg_sl ([.ref b])).length) Slot.unset).toArray = ls at hl ⊢
  have hl : lv_has ls 8 [(0, .ref b)] := hl
  refine va_new (ci := 3) (fs := [.null, .null, .null, .null, .int 0, .int 0, .int 0]) (C := RX3) (T := TX3) (N := 7) hx hb hts inlX3 tyX3 tyX3_ok hown (hts (.classLink RL 8 RX3) (by decide +kernel)) (hts (.instantiable RX3 7) (by decide +kernel)) (hts (.initialized RX3) (by decide +kernel)) hK hP hD hS hA rfl (fun j hj => by rcases (show j = 0 ∨ j = 1 ∨ j = 2 ∨ j = 3 ∨ j = 4 ∨ j = 5 ∨ j = 6 by omega) with rfl | rfl | rfl | rfl | rfl | rfl | rfl <;> rfl) (Nat.le_of_ble_eq_true rfl) (Nat.le_of_ble_eq_true rfl) dL_law_0 (fun q0 H hP hD hS => ?_)
  have hP : va_P G vwCl [(q0, .inr (3, [.null, .null, .null, .null, .int 0, .int 0, .int 0]))] H := hP
  have hD : va_D (fun q : Nat => s.heap.size ≤ q) [(q0, .inr (3, [.null, .null, .null, .null, .int 0, .int 0, .int 0]))] := hD
  refine W.widen (k := 1) (n := 7) (Nat.le_of_ble_eq_true rfl) (Nat.le_of_ble_eq_true rfl) ?_
  refine lv_dup hx hb dL_law_3 rfl ?_
  have hPc := hP.sub (ws' := [(q0, .inr (3, [.null, .null, .null, .null, .int 0, .int 0, .int 0]))]) [0] rfl
  have hDc := hD.sub (ws' := [(q0, .inr (3, [.null, .null, .null, .null, .int 0, .int 0, .int 0]))]) [0] (by decide) rfl
  have hFc := va_free (wc := [(q0, .inr (3, [.null, .null, .null, .null, .int 0, .int 0, .int 0]))]) hD hS hA [0] rfl
  refine va_callv (va_runI (As := []) (rest := [.ref q0]) ⟨hx, hb, hml, hown, hts⟩ (c_X3_init l G cy q0 H.size) (cwI 0 hts gL_law_X3_init rfl rfl rfl (hts (.initialized RX3) (by decide +kernel)) (hts (.methodLink RL 83 yX3_init) (by decide +kernel)) (hts (.instanceMethod yX3_init) (by decide +kernel)) rfl (by decide +kernel) ⟨Nat.le_of_ble_eq_true rfl, Nat.le_of_ble_eq_true rfl⟩) ⟨ml_blind, fun U hU hW => ⟨rfl, by rw [hU], by rw [hU]; exact hPc, va_K.moved hW.alike hK, hDc.weaken (fun _ _ _ _ => trivial), ml_N.warm hW hN⟩⟩ rfl rfl hl.1 rfl (lv_room (Nat.le_of_ble_eq_true rfl)) dL_law_4 ⟨Nat.le_of_ble_eq_true rfl, Nat.le_of_ble_eq_true rfl⟩) hS (fun q _ h => hFc q h) hFc (fun a t H1 locs ht hvm hw hB hz1 hk1 hS => ?_)
  obtain ⟨hP1, hK1, hD1⟩ := hB
  rw [ht] at hP1
  obtain rfl : a 0 = q0 := hw
  obtain ⟨hP, hD⟩ := va_join (wr := []) (w1 := (wC a cy TSI z0)) hP hD [0] [] rfl rfl (by decide) (by decide) hk1 hFc hP1 hD1
  generalize H1 = H at hP hS ⊢
  have hP : va_P G vwCl (wC a cy TSI z0) H := hP
  have hD : va_D (fun q : Nat => s.heap.size ≤ q) (wC a cy TSI z0) := hD
  refine W.widen (k := 12) (n := 233) (Nat.le_of_ble_eq_true rfl) (Nat.le_of_ble_eq_true rfl) ?_
  refine lv_astore_n (lv' := [(1, .ref (a 0)), (0, .ref b)]) hx hb dL_law_7 rfl hl (by decide) rfl (fun ls hl => ?_)
  refine va_new (ci := 4) (fs := [.int 0, .int 0, .null, .null, .null, .null, .int 0, .int 0, .int 0, .null, .null, .null, .int 0, .int 0, .int 0, .null]) (C := RX4) (T := TX4) (N := 16) hx hb hts inlX4 tyX4 tyX4_ok hown (hts (.classLink RL 84 RX4) (by decide +kernel)) (hts (.instantiable RX4 16) (by decide +kernel)) (hts (.initialized RX4) (by decide +kernel)) hK hP hD hS hA rfl (fun j hj => by rcases (show j = 0 ∨ j = 1 ∨ j = 2 ∨ j = 3 ∨ j = 4 ∨ j = 5 ∨ j = 6 ∨ j = 7 ∨ j = 8 ∨ j = 9 ∨ j = 10 ∨ j = 11 ∨ j = 12 ∨ j = 13 ∨ j = 14 ∨ j = 15 by omega) with rfl | rfl | rfl | rfl | rfl | rfl | rfl | rfl | rfl | rfl | rfl | rfl | rfl | rfl | rfl | rfl <;> rfl) (Nat.le_of_ble_eq_true rfl) (Nat.le_of_ble_eq_true rfl) dL_law_8 (fun q8 H hP hD hS => ?_)
  have hP : va_P G vwCl (wC a cy TSI z0 ++ [(q8, .inr (4, [.int 0, .int 0, .null, .null, .null, .null, .int 0, .int 0, .int 0, .null, .null, .null, .int 0, .int 0, .int 0, .null]))]) H := hP
  have hD : va_D (fun q : Nat => s.heap.size ≤ q) (wC a cy TSI z0 ++ [(q8, .inr (4, [.int 0, .int 0, .null, .null, .null, .null, .int 0, .int 0, .int 0, .null, .null, .null, .int 0, .int 0, .int 0, .null]))]) := hD
  refine W.widen (k := 13) (n := 249) (Nat.le_of_ble_eq_true rfl) (Nat.le_of_ble_eq_true rfl) ?_
  refine lv_dup hx hb dL_law_11 rfl ?_
  have hPc := hP.sub (ws' := [(q8, .inr (4, [.int 0, .int 0, .null, .null, .null, .null, .int 0, .int 0, .int 0, .null, .null, .null, .int 0, .int 0, .int 0, .null]))]) [12] rfl
  have hDc := hD.sub (ws' := [(q8, .inr (4, [.int 0, .int 0, .null, .null, .null, .null, .int 0, .int 0, .int 0, .null, .null, .null, .int 0, .int 0, .int 0, .null]))]) [12] (by decide) rfl
  have hFc := va_free (wc := [(q8, .inr (4, [.int 0, .int 0, .null, .null, .null, .null, .int 0, .int 0, .int 0, .null, .null, .null, .int 0, .int 0, .int 0, .null]))]) hD hS hA [12] rfl
  refine va_callv (va_runI (As := []) (rest := [.ref q8]) ⟨hx, hb, hml, hown, hts⟩ (c_X4_init l G cy q8 H.size) (cwI 0 hts gL_law_X4_init rfl rfl rfl (hts (.initialized RX4) (by decide +kernel)) (hts (.methodLink RL 86 yX4_init) (by decide +kernel)) (hts (.instanceMethod yX4_init) (by decide +kernel)) rfl (by decide +kernel) ⟨Nat.le_of_ble_eq_true rfl, Nat.le_of_ble_eq_true rfl⟩) ⟨ml_blind, fun U hU hW => ⟨rfl, by rw [hU], by rw [hU]; exact hPc, va_K.moved hW.alike hK, hDc.weaken (fun _ _ _ _ => trivial), ml_N.warm hW hN⟩⟩ rfl rfl hl.1 rfl (lv_room (Nat.le_of_ble_eq_true rfl)) dL_law_12 ⟨Nat.le_of_ble_eq_true rfl, Nat.le_of_ble_eq_true rfl⟩) hS (fun q _ h => hFc q h) hFc (fun mm t H1 locs ht hvm hw hB hz1 hk1 hS => ?_)
  obtain ⟨hP1, hK1, hD1⟩ := hB
  rw [ht] at hP1
  obtain rfl : mm 0 = q8 := hw
  obtain ⟨hP, hD⟩ := va_join (wr := (wC a cy TSI z0)) (w1 := (wM mm cy TSI 0 zL)) hP hD [12] [0, 1, 2, 3, 4, 5, 6, 7, 8, 9, 10, 11] rfl rfl (by decide) (by decide) hk1 hFc hP1 hD1
  generalize H1 = H at hP hS ⊢
  have hP : va_P G vwCl ((wC a cy TSI z0) ++ (wM mm cy TSI 0 zL)) H := hP
  have hD : va_D (fun q : Nat => s.heap.size ≤ q) ((wC a cy TSI z0) ++ (wM mm cy TSI 0 zL)) := hD
  refine W.widen (k := 21) (n := 468) (Nat.le_of_ble_eq_true rfl) (Nat.le_of_ble_eq_true rfl) ?_
  refine lv_astore_n (lv' := [(2, .ref (mm 0)), (1, .ref (a 0)), (0, .ref b)]) hx hb dL_law_15 rfl hl (by decide) rfl (fun ls hl => ?_)
  refine lv_iconst (v := 1) hx hb dL_law_16 (by decide) ?_
  refine ml_newa (atype := .long) (a0 := (1, .inr (.inl zL))) hx hb (hts (.arrayClass .long) (by decide +kernel)) rfl (Or.inr (Or.inl rfl)) 1 (by decide) rfl hK hP hD hS hA (fun _ => rfl) (by decide) (N' := 1) (by decide) (Nat.le_of_ble_eq_true rfl) (Nat.le_of_ble_eq_true rfl) (Nat.le_of_ble_eq_true rfl) dL_law_17 (fun o H hP hD hS => ?_)
  refine W.widen (k := 22) (n := 469) (Nat.le_of_ble_eq_true rfl) (Nat.le_of_ble_eq_true rfl) ?_
  refine lv_astore_n (lv' := [(3, .ref o), (2, .ref (mm 0)), (1, .ref (a 0)), (0, .ref b)]) hx hb dL_law_19 rfl hl (by decide) rfl (fun ls hl => ?_)
  refine lv_iconst (v := 1) hx hb dL_law_20 (by decide) ?_
  refine ml_newa (atype := .double) (a0 := (1, .inr (.inr (.inr (.inl dz))))) hx hb (hts (.arrayClass .double) (by decide +kernel)) rfl (Or.inr (Or.inr (Or.inr rfl))) 3 (by decide) rfl hK hP hD hS hA (fun _ => rfl) (by decide) (N' := 1) (by decide) (Nat.le_of_ble_eq_true rfl) (Nat.le_of_ble_eq_true rfl) (Nat.le_of_ble_eq_true rfl) dL_law_21 (fun od H hP hD hS => ?_)
  refine W.widen (k := 23) (n := 470) (Nat.le_of_ble_eq_true rfl) (Nat.le_of_ble_eq_true rfl) ?_
  refine lv_astore (lv' := [(4, .ref od), (3, .ref o), (2, .ref (mm 0)), (1, .ref (a 0)), (0, .ref b)]) hx hb dL_law_23 hl (by decide) rfl (fun ls hl => ?_)
  refine lv_iconst (v := 0) hx hb dL_law_25 (by decide) ?_
  refine lv_istore (lv' := [(5, .int 0), (4, .ref od), (3, .ref o), (2, .ref (mm 0)), (1, .ref (a 0)), (0, .ref b)]) hx hb dL_law_26 hl (by decide) rfl (fun ls hl => ?_)
  have hP := hP.sub (ws' := (wW cy mm a TSI 0 zL TSI z0 o zL od dz)) [22, 12, 13, 14, 15, 16, 17, 18, 19, 20, 21, 0, 1, 2, 3, 4, 5, 6, 7, 8, 9, 10, 11] rfl
  have hD := hD.sub (ws' := (wW cy mm a TSI 0 zL TSI z0 o zL od dz)) [22, 12, 13, 14, 15, 16, 17, 18, 19, 20, 21, 0, 1, 2, 3, 4, 5, 6, 7, 8, 9, 10, 11] (by decide) rfl
  exact law_loop ⟨hL, C0, hlt, hK, hN, hE⟩ 512 0 TSI 0 zL z0 zL dz 23 470 _ _ ls (Nat.zero_le L) (by omega) (by decide) (by decide) invTSI hP hD hS (lv_sub hl [5, 4, 3, 2, 1, 0] rfl)
