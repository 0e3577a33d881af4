/-! The law: what the tables and the statics say at its entry; its loop; its walk from the entry. -/
theorem va_notold {s : State} : ∀ a : Nat, a < s.heap.size → ¬ (fun q : Nat => s.heap.size ≤ q) a := fun a h => Nat.not_le.mpr h
theorem str_of {s : State} {b : Nat} {k : Nat} {tx : String} (h1 : (Cond.stringRef RX1 k tx).before #[Value.ref b] s = true) (h2 : (Cond.exactly (.string RX1 k) "java/lang/String").before #[Value.ref b] s = true) : ∃ a, vk_R RX1 k tx a s := by
  obtain ⟨a, c, cA, kA, q1, -⟩ := Cond.exactly_spec (args := #[Value.ref b]) (first := s) (o := none) (s := s) (idx := []) (t := .string RX1 k) (cls := "java/lang/String") h2
  exact ⟨a, vk_R.of h1 q1⟩
set_option maxHeartbeats 4000000 in
set_option maxRecDepth 100000 in
theorem env_of {s : State} {b : Nat} (hts : ∀ w ∈ lw_tbl, w.before #[Value.ref b] s = true) (hgv : (Jvm.Cond.and given_1 narrow_1).before #[Value.ref b] s = true) : envE (fun q : Nat => s.heap.size ≤ q) s := by
  have hq := flat_of_before _ hgv
  have hn : envN s := ⟨va_Nw.of rfl (hts (.methodLinkNest RX1 171 yX0_productsRead RX1) (List.mem_of_getElem? (i := 312) (by decide +kernel))), va_Nw.of rfl (hts (.methodLinkNest RX1 36 yX0_init RX1) (List.mem_of_getElem? (i := 54) (by decide +kernel))), va_Nw.of rfl (hts (.methodLinkNest RX1 99 yX0_firstError RX1) (List.mem_of_getElem? (i := 118) (by decide +kernel)))⟩
  have hc : envC s := ⟨va_Nw.of rfl (hts (.castable "java/lang/IndexOutOfBoundsException" "java/lang/IndexOutOfBoundsException") (List.mem_of_getElem? (i := 226) (by decide +kernel))), va_Nw.of rfl (hts (.castable "java/lang/IllegalStateException" "java/lang/IllegalStateException") (List.mem_of_getElem? (i := 298) (by decide +kernel))), va_Nw.of rfl (hts (.castable "java/lang/IllegalArgumentException" "java/lang/IllegalArgumentException") (List.mem_of_getElem? (i := 330) (by decide +kernel))), va_Nc.of (hq (.not (.castable "java/lang/IllegalStateException" "java/lang/IndexOutOfBoundsException")) (by decide +kernel)), va_Nc.of (hq (.not (.castable "java/lang/IllegalArgumentException" "java/lang/IndexOutOfBoundsException")) (by decide +kernel)), va_Nw.of rfl (hts (.declares (Bundle.initS "java/lang/RuntimeException")) (List.mem_of_getElem? (i := 228) (by decide +kernel))), va_Nw.of rfl (hts (.declares (Bundle.initS "java/lang/Exception")) (List.mem_of_getElem? (i := 230) (by decide +kernel))), va_Nw.of rfl (hts (.declares (Bundle.initS "java/lang/Throwable")) (List.mem_of_getElem? (i := 232) (by decide +kernel)))⟩
  have hs : envS s := ⟨str_of (hts (.stringRef RX1 76 "table is out of range") (List.mem_of_getElem? (i := 337) (by decide +kernel))) (hq (.exactly (.string RX1 76) "java/lang/String") (by decide +kernel)), str_of (hts (.stringRef RX1 81 "there is no such way") (List.mem_of_getElem? (i := 351) (by decide +kernel))) (hq (.exactly (.string RX1 81) "java/lang/String") (by decide +kernel)), str_of (hts (.stringRef RX1 96 "the text is full") (List.mem_of_getElem? (i := 380) (by decide +kernel))) (hq (.exactly (.string RX1 96) "java/lang/String") (by decide +kernel)), str_of (hts (.stringRef RX1 103 "no state is recorded") (List.mem_of_getElem? (i := 395) (by decide +kernel))) (hq (.exactly (.string RX1 103) "java/lang/String") (by decide +kernel)), str_of (hts (.stringRef RX1 114 "there is no snapshot") (List.mem_of_getElem? (i := 403) (by decide +kernel))) (hq (.exactly (.string RX1 114) "java/lang/String") (by decide +kernel)), str_of (hts (.stringRef RX1 118 "there is no such point") (List.mem_of_getElem? (i := 418) (by decide +kernel))) (hq (.exactly (.string RX1 118) "java/lang/String") (by decide +kernel)), str_of (hts (.stringRef RX1 134 "there is no such letter") (List.mem_of_getElem? (i := 483) (by decide +kernel))) (hq (.exactly (.string RX1 134) "java/lang/String") (by decide +kernel)), str_of (hts (.stringRef RX1 160 "functions is out of range") (List.mem_of_getElem? (i := 532) (by decide +kernel))) (hq (.exactly (.string RX1 160) "java/lang/String") (by decide +kernel)), str_of (hts (.stringRef RX1 165 "there is no such function") (List.mem_of_getElem? (i := 265) (by decide +kernel))) (hq (.exactly (.string RX1 165) "java/lang/String") (by decide +kernel)), str_of (hts (.stringRef RX1 167 "there is no such variable") (List.mem_of_getElem? (i := 365) (by decide +kernel))) (hq (.exactly (.string RX1 167) "java/lang/String") (by decide +kernel)), str_of (hts (.stringRef RX1 169 "the text is not valid") (List.mem_of_getElem? (i := 305) (by decide +kernel))) (hq (.exactly (.string RX1 169) "java/lang/String") (by decide +kernel))⟩
  have ht : envT (fun q : Nat => s.heap.size ≤ q) s s.heap := by
    obtain ⟨t, h1, h2⟩ := va_Tof (args := #[Value.ref b]) (s := s) (tm := .static RX1 "VARIABLE_TABLES" "[I") (ty := .int) (N := 4) (f := fun j => .int (VT j)) (A := fun q : Nat => s.heap.size ≤ q) (by decide) (hq (.arrayOf (.static RX1 "VARIABLE_TABLES" "[I") .int) (by decide +kernel)) (va_eqt (z := 4) (hq (.eq (.length (.static RX1 "VARIABLE_TABLES" "[I")) (.int 4)) (by decide +kernel))) (fun j hj => by
      match j, hj with
      | 0, _ => exact va_eqt (z := 43690) (hq (.eq (.elem (.static RX1 "VARIABLE_TABLES" "[I") (.int 0)) (.int 43690)) (by decide +kernel))
      | 1, _ => exact va_eqt (z := 52428) (hq (.eq (.elem (.static RX1 "VARIABLE_TABLES" "[I") (.int 1)) (.int 52428)) (by decide +kernel))
      | 2, _ => exact va_eqt (z := 61680) (hq (.eq (.elem (.static RX1 "VARIABLE_TABLES" "[I") (.int 2)) (.int 61680)) (by decide +kernel))
      | 3, _ => exact va_eqt (z := 65280) (hq (.eq (.elem (.static RX1 "VARIABLE_TABLES" "[I") (.int 3)) (.int 65280)) (by decide +kernel))
      | j + 4, hj => exact absurd hj (by omega)) va_notold
    exact ⟨t, va_Zref (hts (.laysStatic RX1 "VARIABLE_TABLES" "[I") (List.mem_of_getElem? (i := 74) (by decide +kernel))) (hts (.initialized RX1) (List.mem_of_getElem? (i := 32) (by decide +kernel))) h1 va_notold, h2⟩
  have hz : envZ (fun q : Nat => s.heap.size ≤ q) s s.heap := ⟨vx_Zqof (hts (.laysStatic Bundle.tN "UNASSIGNED_STACK" Bundle.steD) (List.mem_of_getElem? (i := 251) (by decide +kernel))) (hts (.initialized Bundle.tN) (List.mem_of_getElem? (i := 35) (by decide +kernel))) (hq (.isRef (.static Bundle.tN "UNASSIGNED_STACK" Bundle.steD)) (by decide +kernel)) va_notold, vx_Zqof (hts (.laysStatic Bundle.tN "SUPPRESSED_SENTINEL" Bundle.listD) (List.mem_of_getElem? (i := 253) (by decide +kernel))) (hts (.initialized Bundle.tN) (List.mem_of_getElem? (i := 35) (by decide +kernel))) (hq (.isRef (.static Bundle.tN "SUPPRESSED_SENTINEL" Bundle.listD)) (by decide +kernel)) va_notold⟩
  exact ⟨hn, hc, hs, ht, hz⟩
theorem and31 (x : Int32) : ∃ j, j < 32 ∧ x &&& 31 = nI j := by
  have h5 : ∀ i, 5 ≤ i → bt (x &&& 31) i = false := fun i hi => by
    rw [b_and]
    rcases Nat.lt_or_ge i 32 with h | h
    · rw [(by decide +kernel : ∀ i, i < 32 → 5 ≤ i → bt 31 i = false) i h hi, Bool.and_false]
    · rw [b_big (x := (31 : Int32)) h, Bool.and_false]
  obtain ⟨n, hn, e⟩ := tb_of (fun i hi => h5 i (by omega))
  refine ⟨n, ?_, e⟩
  refine Nat.lt_pow_two_of_testBit (n := 5) n (fun i hi => ?_)
  rcases Nat.lt_or_ge i 32 with h | h
  · have := h5 i hi
    rw [e, b_nI, decide_eq_true h, Bool.true_and] at this
    exact this
  · exact Nat.testBit_lt_two_pow (Nat.lt_of_lt_of_le hn (Nat.le_trans (by decide : 65536 ≤ 2 ^ 32) (Nat.pow_le_pow_right (by decide) h)))
set_option maxHeartbeats 4000000 in
set_option maxRecDepth 100000 in
theorem law_loop {p : Program} {l : Launch} (hst : l.stackTraces = false) {e : Env} {s : State} {m : MethodId} {below : List Frame} {meth : Method} {c : Code} {b L : Nat} {xs : Nat → Int32} (hL : L ≤ 2560) (C0 : lw_At p s m meth c b L xs) (hE : envE (fun q : Nat => s.heap.size ≤ q) s) {D : va_G} {q : Nat → Nat} {cq : Nat → ClassId} {o9 : Nat} {co : ClassId} {qm : Nat → Nat} {cm : Nat → ClassId} (hK : va_K D vwCl (tyA cq co cm) s) :
    ∀ (r t : Nat) (σ : LwS), okS σ → 5 * t ≤ L → L < 5 * (t + r) → ∀ (H : Heap) (locs : List Loc), va_P D vwCl (wA q cq o9 co qm cm σ) H → va_D (fun q : Nat => s.heap.size ≤ q) (wA q cq o9 co qm cm σ) → va_S (fun q : Nat => s.heap.size ≤ q) s.heap H locs → ∀ ls : Array Slot, lv_has ls 7 (lvA b q o9 qm (5 * t)) → W p l e room_1 s m #[Value.ref b] below meth c H locs (14 + t) (322 + 6 * t) (lw_Z below #[Value.ref b] s) (F0 m 23 ls []) := by
  obtain ⟨hx, hb, hr, hml, hown, hts, hX, hbl, hlocks, hgv⟩ := id C0
  have hA : ∀ q : Nat, s.heap.size ≤ q → (fun q : Nat => s.heap.size ≤ q) q := fun _ h => h
  have hbA : ¬ (fun q : Nat => s.heap.size ≤ q) b := Nat.not_le.mpr hbl
  intro r
  induction r with
  | zero =>
    intro t σ _ h1 h2
    exact absurd h2 (by omega)
  | succ r ih =>
    intro t σ hok ht1 ht2 H locs hP hD hS ls hl
    refine lv_iload hx hb dL_law_23 (lv_at hl 4 rfl) ?_
    refine lv_aload_n hx hb dL_law_25 rfl (lv_at hl 0 rfl) ?_
    refine va_slen hx hb hX hbl hbA hS dL_law_26 ?_
    refine lv_iconst (v := 5) hx hb dL_law_27 (by decide) ?_
    refine lv_isub hx hb dL_law_28 ?_
    have e1 : (nI L - nI 5).toInt = (L : Int) - 5 := pk_sub_toInt (by omega) (by omega)
    have e2 : (nI (5 * t)).toInt = ((5 * t : Nat) : Int) := nI_toInt (by omega)
    refine lv_icmp_gt (tgt := 1665) hx hb dL_law_29 (by decide) (fun c1 => ?_) (fun c1 => ?_)
    · refine lv_iconst (v := 1) hx hb dL_law_1665 (by decide) ?_
      refine va_forget (fun q hq => hS.2.2 q hq) ?_
      refine W.widen (k := 1049) (n := 8580) (by omega) (by omega) ?_
      exact lw_ret hx hb hr hlocks dL_law_1666
    · have hle : 5 * t + 5 ≤ L := by
        rw [Int32.lt_iff_toInt_lt] at c1
        have e3 : (Int32.ofNat L - 5).toInt = (L : Int) - 5 := e1
        rw [e3, e2] at c1
        omega
      have kk : ∀ σ2 : LwS, okS σ2 → ∀ (H2 : Heap) (locs2 : List Loc), va_P D vwCl (wA q cq o9 co qm cm σ2) H2 → va_D (fun q : Nat => s.heap.size ≤ q) (wA q cq o9 co qm cm σ2) → va_S (fun q : Nat => s.heap.size ≤ q) s.heap H2 locs2 → ∀ ls2 : Array Slot, lv_has ls2 7 (lvA b q o9 qm (5 * t)) → W p l e room_1 s m #[Value.ref b] below meth c H2 locs2 (14 + t + 1) (322 + 6 * t + 6) (lw_Z below #[Value.ref b] s) (F0 m 1659 ls2 []) := by
        intro σ2 hok2 H2 locs2 hP2 hD2 hS2 ls2 hl2
        refine lv_iinc (v := nI (5 * (t + 1))) (lv' := [(4, .int (nI (5 * (t + 1)))), (0, .ref b), (1, .ref (q 0)), (2, .ref (qm 0)), (3, .ref o9)]) hx hb dL_law_1659 hl2 (k := 4) rfl (nI_add (5 * t) 5) (by decide) rfl (fun ls hl => ?_)
        refine lv_goto (tgt := 23) hx hb dL_law_1662 (by decide) ?_
        refine W.widen (k := 14 + (t + 1)) (n := 322 + 6 * (t + 1)) (by omega) (by omega) ?_
        exact ih (t + 1) σ2 hok2 (by omega) (by omega) H2 locs2 hP2 hD2 hS2 ls (lv_sub hl [1, 2, 3, 4, 0] rfl)
      refine lv_aload_n hx hb dL_law_32 rfl (lv_at hl 0 rfl) ?_
      refine lv_iload hx hb dL_law_33 (lv_at hl 4 rfl) ?_
      refine va_sld hx hb hX hbl hbA hS (i := nI (5 * t)) (vp_in_nI (by omega) (by omega)) dL_law_35 ?_
      refine lv_bipush (v := 31) hx hb dL_law_36 (by decide) ?_
      refine lv_iand hx hb dL_law_38 ?_
      obtain ⟨j, hj, ej⟩ := and31 (xs (nI (5 * t)).toNatClampNeg)
      refine lv_is (nI j) ej ?_
      have hj2 : j = 0 ∨ j = 1 ∨ j = 2 ∨ j = 3 ∨ j = 4 ∨ j = 5 ∨ j = 6 ∨ j = 7 ∨ j = 8 ∨ j = 9 ∨ j = 10 ∨ j = 11 ∨ j = 12 ∨ j = 13 ∨ j = 14 ∨ j = 15 ∨ j = 16 ∨ j = 17 ∨ j = 18 ∨ j = 19 ∨ j = 20 ∨ j = 21 ∨ j = 22 ∨ j = 23 ∨ j = 24 ∨ j = 25 ∨ j = 26 ∨ j = 27 ∨ 28 ≤ j := by omega
      rcases hj2 with h | h | h | h | h | h | h | h | h | h | h | h | h | h | h | h | h | h | h | h | h | h | h | h | h | h | h | h | h
      · subst h
        refine lv_tableIn (tgt := 164) hx hb dL_law_39 (by decide) (by decide) (show _ = some _ from rfl) (by decide) ?_
        exact k_define hst hL C0 hE hK σ hok H locs hP hD hS (5 * t) hle ls hl (by omega) (by omega) kk
      · subst h
        refine lv_tableIn (tgt := 220) hx hb dL_law_39 (by decide) (by decide) (show _ = some _ from rfl) (by decide) ?_
        exact k_setTable hst hL C0 hE hK σ hok H locs hP hD hS (5 * t) hle ls hl (by omega) (by omega) kk
      · subst h
        refine lv_tableIn (tgt := 288) hx hb dL_law_39 (by decide) (by decide) (show _ = some _ from rfl) (by decide) ?_
        exact k_join hst hL C0 hE hK σ hok H locs hP hD hS (5 * t) hle ls hl (by omega) (by omega) kk
      · subst h
        refine lv_tableIn (tgt := 380) hx hb dL_law_39 (by decide) (by decide) (show _ = some _ from rfl) (by decide) ?_
        exact k_fix hst hL C0 hE hK σ hok H locs hP hD hS (5 * t) hle ls hl (by omega) (by omega) kk
      · subst h
        refine lv_tableIn (tgt := 476) hx hb dL_law_39 (by decide) (by decide) (show _ = some _ from rfl) (by decide) ?_
        exact k_substitute hst hL C0 hE hK σ hok H locs hP hD hS (5 * t) hle ls hl (by omega) (by omega) kk
      · subst h
        refine lv_tableIn (tgt := 556) hx hb dL_law_39 (by decide) (by decide) (show _ = some _ from rfl) (by decide) ?_
        exact k_type hst hL C0 hE hK σ hok H locs hP hD hS (5 * t) hle ls hl (by omega) (by omega) kk
      · subst h
        refine lv_tableIn (tgt := 614) hx hb dL_law_39 (by decide) (by decide) (show _ = some _ from rfl) (by decide) ?_
        exact k_clearText hst hL C0 hE hK σ hok H locs hP hD hS (5 * t) hle ls hl (by omega) (by omega) kk
      · subst h
        refine lv_tableIn (tgt := 627) hx hb dL_law_39 (by decide) (by decide) (show _ = some _ from rfl) (by decide) ?_
        exact k_textError hst hL C0 hE hK σ hok H locs hP hD hS (5 * t) hle ls hl (by omega) (by omega) kk
      · subst h
        refine lv_tableIn (tgt := 640) hx hb dL_law_39 (by decide) (by decide) (show _ = some _ from rfl) (by decide) ?_
        exact k_textProducts hst hL C0 hE hK σ hok H locs hP hD hS (5 * t) hle ls hl (by omega) (by omega) kk
      · subst h
        refine lv_tableIn (tgt := 684) hx hb dL_law_39 (by decide) (by decide) (show _ = some _ from rfl) (by decide) ?_
        exact k_undo hst hL C0 hE hK σ hok H locs hP hD hS (5 * t) hle ls hl (by omega) (by omega) kk
      · subst h
        refine lv_tableIn (tgt := 728) hx hb dL_law_39 (by decide) (by decide) (show _ = some _ from rfl) (by decide) ?_
        exact k_takeSnapshot hst hL C0 hE hK σ hok H locs hP hD hS (5 * t) hle ls hl (by omega) (by omega) kk
      · subst h
        refine lv_tableIn (tgt := 741) hx hb dL_law_39 (by decide) (by decide) (show _ = some _ from rfl) (by decide) ?_
        exact k_restoreSnapshot hst hL C0 hE hK σ hok H locs hP hD hS (5 * t) hle ls hl (by omega) (by omega) kk
      · subst h
        refine lv_tableIn (tgt := 785) hx hb dL_law_39 (by decide) (by decide) (show _ = some _ from rfl) (by decide) ?_
        exact k_tableOf hst hL C0 hE hK σ hok H locs hP hD hS (5 * t) hle ls hl (by omega) (by omega) kk
      · subst h
        refine lv_tableIn (tgt := 841) hx hb dL_law_39 (by decide) (by decide) (show _ = some _ from rfl) (by decide) ?_
        exact k_valueAt hst hL C0 hE hK σ hok H locs hP hD hS (5 * t) hle ls hl (by omega) (by omega) kk
      · subst h
        refine lv_tableIn (tgt := 909) hx hb dL_law_39 (by decide) (by decide) (show _ = some _ from rfl) (by decide) ?_
        exact k_weightOf hst hL C0 hE hK σ hok H locs hP hD hS (5 * t) hle ls hl (by omega) (by omega) kk
      · subst h
        refine lv_tableIn (tgt := 965) hx hb dL_law_39 (by decide) (by decide) (show _ = some _ from rfl) (by decide) ?_
        exact k_dependsOn hst hL C0 hE hK σ hok H locs hP hD hS (5 * t) hle ls hl (by omega) (by omega) kk
      · subst h
        refine lv_tableIn (tgt := 1040) hx hb dL_law_39 (by decide) (by decide) (show _ = some _ from rfl) (by decide) ?_
        exact k_productsByHalves hst hL C0 hE hK σ hok H locs hP hD hS (5 * t) hle ls hl (by omega) (by omega) kk
      · subst h
        refine lv_tableIn (tgt := 1096) hx hb dL_law_39 (by decide) (by decide) (show _ = some _ from rfl) (by decide) ?_
        exact k_productsBySums hst hL C0 hE hK σ hok H locs hP hD hS (5 * t) hle ls hl (by omega) (by omega) kk
      · subst h
        refine lv_tableIn (tgt := 1152) hx hb dL_law_39 (by decide) (by decide) (show _ = some _ from rfl) (by decide) ?_
        exact k_degreeOf hst hL C0 hE hK σ hok H locs hP hD hS (5 * t) hle ls hl (by omega) (by omega) kk
      · subst h
        refine lv_tableIn (tgt := 1208) hx hb dL_law_39 (by decide) (by decide) (show _ = some _ from rfl) (by decide) ?_
        exact k_printedLength hst hL C0 hE hK σ hok H locs hP hD hS (5 * t) hle ls hl (by omega) (by omega) kk
      · subst h
        refine lv_tableIn (tgt := 1264) hx hb dL_law_39 (by decide) (by decide) (show _ = some _ from rfl) (by decide) ?_
        exact k_printedLetter hst hL C0 hE hK σ hok H locs hP hD hS (5 * t) hle ls hl (by omega) (by omega) kk
      · subst h
        refine lv_tableIn (tgt := 1332) hx hb dL_law_39 (by decide) (by decide) (show _ = some _ from rfl) (by decide) ?_
        exact k_distanceByTrying hst hL C0 hE hK σ hok H locs hP hD hS (5 * t) hle ls hl (by omega) (by omega) kk
      · subst h
        refine lv_tableIn (tgt := 1388) hx hb dL_law_39 (by decide) (by decide) (show _ = some _ from rfl) (by decide) ?_
        exact k_distanceBySums hst hL C0 hE hK σ hok H locs hP hD hS (5 * t) hle ls hl (by omega) (by omega) kk
      · subst h
        refine lv_tableIn (tgt := 1444) hx hb dL_law_39 (by decide) (by decide) (show _ = some _ from rfl) (by decide) ?_
        exact k_isSelfDual hst hL C0 hE hK σ hok H locs hP hD hS (5 * t) hle ls hl (by omega) (by omega) kk
      · subst h
        refine lv_tableIn (tgt := 1507) hx hb dL_law_39 (by decide) (by decide) (show _ = some _ from rfl) (by decide) ?_
        exact k_isMonotone hst hL C0 hE hK σ hok H locs hP hD hS (5 * t) hle ls hl (by omega) (by omega) kk
      · subst h
        refine lv_tableIn (tgt := 1570) hx hb dL_law_39 (by decide) (by decide) (show _ = some _ from rfl) (by decide) ?_
        exact k_areEnough hst hL C0 hE hK σ hok H locs hP hD hS (5 * t) hle ls hl (by omega) (by omega) kk
      · subst h
        refine lv_tableIn (tgt := 1633) hx hb dL_law_39 (by decide) (by decide) (show _ = some _ from rfl) (by decide) ?_
        exact k_fewestEnough hst hL C0 hE hK σ hok H locs hP hD hS (5 * t) hle ls hl (by omega) (by omega) kk
      · subst h
        refine lv_tableIn (tgt := 1646) hx hb dL_law_39 (by decide) (by decide) (show _ = some _ from rfl) (by decide) ?_
        exact k_recordedStates hst hL C0 hE hK σ hok H locs hP hD hS (5 * t) hle ls hl (by omega) (by omega) kk
      · refine lv_tableOut (tgt := 1659) hx hb dL_law_39 (Or.inr (by rw [nI_toInt (by omega)]; omega)) (by decide) ?_
        refine W.widen (k := 14 + t + 1) (n := 322 + 6 * t + 6) (by omega) (by omega) ?_
        exact kk σ hok H locs hP hD hS ls hl
set_option maxHeartbeats 4000000 in
set_option maxRecDepth 100000 in
theorem whole_start {p : Program} {e : Env} {s : State} {m : MethodId} {below : List Frame} {meth : Method} {c : Code} (l : Launch) (hflags : l.flags = flags0) {b L : Nat} {xs : Nat → Int32} (hL : L ≤ 2560) (C0 : lw_At p s m meth c b L xs) : W p l e room_1 s m #[Value.ref b] below meth c s.heap [] 0 0 (lw_Z below #[Value.ref b] s) (entryFrame m ([Value.ref b] : List Value).toArray 7) := by
  have hst : l.stackTraces = false := by unfold Launch.stackTraces; rw [hflags]; decide +kernel
  obtain ⟨hx, hb, hr, hml, hown, hts, hX, hbl, hlocks, hgv⟩ := id C0
  have hE := env_of hts hgv
  have hown : s.vm.findClass RL = some m.cls := hown
  have htsL : ∀ w ∈ wsL_law, w.before #[Value.ref b] s = true := fun w hw => hts w (wsL_law_in w hw)
  have hA : ∀ q : Nat, s.heap.size ≤ q → (fun q : Nat => s.heap.size ≤ q) q := fun _ h => h
  have hbA : ¬ (fun q : Nat => s.heap.size ≤ q) b := Nat.not_le.mpr hbl
  obtain ⟨c0, iS0, hKn0⟩ := u_known (C := RX0) (T := TX0) (N := 4) (n := 4) hts inX0 (hts (.instantiable RX0 4) (List.mem_of_getElem? (i := 53) (by decide +kernel)))
  obtain ⟨c1, iS1, hKn1⟩ := u_known (C := RX1) (T := TX1) (N := 11) (n := 11) hts inX1 (hts (.instantiable RX1 11) (List.mem_of_getElem? (i := 45) (by decide +kernel)))
  obtain ⟨c2, iS2, hKn2⟩ := u_known (C := RX2) (T := TX2) (N := 10) (n := 10) hts inX2 (hts (.instantiable RX2 10) (List.mem_of_getElem? (i := 534) (by decide +kernel)))
  obtain ⟨D, hKc⟩ : ∃ D : va_G, ∀ (k : Nat) (q : vw_C), vwCl[k]? = some q → u_Kn s q.1 q.2.1 q.2.2 (D.1 k) (D.2 k) := by
    refine ⟨(fun k => if k = 0 then c0 else if k = 1 then c1 else c2, fun k => if k = 0 then iS0 else if k = 1 then iS1 else iS2), ?_⟩
    intro k q hq
    match k, hq with
    | 0, hq => cases hq; exact hKn0
    | 1, hq => cases hq; exact hKn1
    | 2, hq => cases hq; exact hKn2
    | k + 3, hq => simp [vwCl] at hq
  have hS : va_S (fun q : Nat => s.heap.size ≤ q) s.heap s.heap [] := va_S.rf
  have hK : va_K D vwCl [] s := ⟨hKc, fun k q h => by simp at h⟩
  have hP : va_P D vwCl [] s.heap := fun k q h => by simp at h
  have hD : va_D (fun q : Nat => s.heap.size ≤ q) [] := ⟨fun i j p q h => by simp at h, fun k q h => by simp at h⟩
  have hl := lv_entry ([.ref b]) (n := 7) (Nat.le_of_ble_eq_true rfl)
  rw [lg_entry_eq]
  generalize (lg_sl ([.ref b]) ++ List.replicate (7 - (lg_sl ([.ref b])).length) Slot.unset).toArray = ls at hl ⊢
  have hl : lv_has ls 7 [(0, .ref b)] := hl
  refine va_new (ci := 1) (fs := [.null, .null, .int 0, .null, .int 0, .null, .int 0, .null, .null, .null, .int 0]) (C := RX1) (T := TX1) (N := 11) hx hb hts inX1 tyX1 tyX1_ok hown (hts (.classLink RL 8 RX1) (List.mem_of_getElem? (i := 44) (by decide +kernel))) (hts (.instantiable RX1 11) (List.mem_of_getElem? (i := 45) (by decide +kernel))) (hts (.initialized RX1) (List.mem_of_getElem? (i := 32) (by decide +kernel))) hK hP hD hS hA rfl (by decide) (Nat.le_of_ble_eq_true rfl) (Nat.le_of_ble_eq_true rfl) dL_law_0 (fun a0 H hP hD hS => ?_)
  have hP : va_P D vwCl [(a0, .inr (1, [.null, .null, .int 0, .null, .int 0, .null, .int 0, .null, .null, .null, .int 0]))] H := hP
  have hD : va_D (fun q : Nat => s.heap.size ≤ q) [(a0, .inr (1, [.null, .null, .int 0, .null, .int 0, .null, .int 0, .null, .null, .null, .int 0]))] := hD
  refine W.widen (k := 1) (n := 11) (Nat.le_of_ble_eq_true rfl) (Nat.le_of_ble_eq_true rfl) ?_
  refine lv_dup hx hb dL_law_3 rfl ?_
  have hPc := hP.sub (ws' := [(a0, .inr (1, [.null, .null, .int 0, .null, .int 0, .null, .int 0, .null, .null, .null, .int 0]))]) [0] rfl
  have hDc := hD.sub (ws' := [(a0, .inr (1, [.null, .null, .int 0, .null, .int 0, .null, .int 0, .null, .null, .null, .int 0]))]) [0] (by decide) rfl
  have hKc := hK.sub (tys' := []) [] rfl
  have hFc := va_free (wc := [(a0, .inr (1, [.null, .null, .int 0, .null, .int 0, .null, .int 0, .null, .null, .null, .int 0]))]) hD hS hA [0] rfl
  refine va_callv (va_runI (As := []) (rest := [.ref a0]) ⟨hx, hb, hml, hown, htsL⟩ (c_X1_init l D a0 H.size) (cwI 0 htsL gL_law_X1_init rfl rfl rfl (hts (.initialized RX1) (List.mem_of_getElem? (i := 32) (by decide +kernel))) (hts (.methodLink RL 94 yX1_init) (List.mem_of_getElem? (i := 46) (by decide +kernel))) (hts (.instanceMethod yX1_init) (List.mem_of_getElem? (i := 47) (by decide +kernel))) rfl (by decide +kernel) ⟨Nat.le_of_ble_eq_true rfl, Nat.le_of_ble_eq_true rfl⟩) ⟨fun a U g mk z => ⟨z.1, z.2.1, z.2.2.1, va_K.moved (u := U) (U := U.calling g mk a) (Vm.Alike.refl U.vm) z.2.2.2.1, z.2.2.2.2.1, z.2.2.2.2.2.blind g mk a⟩, fun U hU hW => ⟨rfl, by rw [hU], by rw [hU]; exact hPc, va_K.moved hW.alike hKc, hDc.weaken (fun _ _ _ _ => trivial), hE.at hS hU hW hFc⟩⟩ rfl rfl hl.1 rfl (lv_room (Nat.le_of_ble_eq_true rfl)) dL_law_4 ⟨Nat.le_of_ble_eq_true rfl, Nat.le_of_ble_eq_true rfl⟩) hS (fun q _ h => hFc q h) hFc (fun u9 t8 H1 locs ht hvm hw hB hz1 hk1 hS => ?_)
  obtain ⟨q, cq, h0, hP1, hK1, hD1⟩ := hB
  subst h0
  rw [ht] at hP1
  have hK1 := va_K.moved hvm.symm hK1
  obtain ⟨hP, hD⟩ := va_join (wr := []) (w1 := (wB q cq fX1_init (fun _ => 0) (fun _ => 0) (fun _ => 0) (fun _ => 0) (fun _ => 0) 0 0 0 fX0_init.1 fX0_init.2.1 fX0_init.2.2.1 fX0_init.2.2.2 0)) hP hD [0] [] rfl rfl (by decide) (by decide) hk1 hFc hP1 hD1
  have hK := (hK.sub (tys' := []) [] rfl).app hK1
  generalize H1 = H at hP hS ⊢
  have hP : va_P D vwCl (wB q cq fX1_init (fun _ => 0) (fun _ => 0) (fun _ => 0) (fun _ => 0) (fun _ => 0) 0 0 0 fX0_init.1 fX0_init.2.1 fX0_init.2.2.1 fX0_init.2.2.2 0) H := hP
  have hD : va_D (fun q : Nat => s.heap.size ≤ q) (wB q cq fX1_init (fun _ => 0) (fun _ => 0) (fun _ => 0) (fun _ => 0) (fun _ => 0) 0 0 0 fX0_init.1 fX0_init.2.1 fX0_init.2.2.1 fX0_init.2.2.2 0) := hD
  have hK : va_K D vwCl (tyB cq) s := hK
  refine W.widen (k := 8) (n := 195) (Nat.le_of_ble_eq_true rfl) (Nat.le_of_ble_eq_true rfl) ?_
  refine lv_astore_n (lv' := [(1, .ref (q 0)), (0, .ref b)]) hx hb dL_law_7 rfl hl (by decide) rfl (fun ls hl => ?_)
  refine va_new (ci := 2) (fs := [.null, .null, .null, .int 0, .int 0, .null, .int 0, .int 0, .int 0, .int 0]) (C := RX2) (T := TX2) (N := 10) hx hb hts inX2 tyX2 tyX2_ok hown (hts (.classLink RL 95 RX2) (List.mem_of_getElem? (i := 533) (by decide +kernel))) (hts (.instantiable RX2 10) (List.mem_of_getElem? (i := 534) (by decide +kernel))) (hts (.initialized RX2) (List.mem_of_getElem? (i := 34) (by decide +kernel))) hK hP hD hS hA rfl (by decide) (Nat.le_of_ble_eq_true rfl) (Nat.le_of_ble_eq_true rfl) dL_law_8 (fun a0 H hP hD hS => ?_)
  have hP : va_P D vwCl ((wB q cq fX1_init (fun _ => 0) (fun _ => 0) (fun _ => 0) (fun _ => 0) (fun _ => 0) 0 0 0 fX0_init.1 fX0_init.2.1 fX0_init.2.2.1 fX0_init.2.2.2 0) ++ [(a0, .inr (2, [.null, .null, .null, .int 0, .int 0, .null, .int 0, .int 0, .int 0, .int 0]))]) H := hP
  have hD : va_D (fun q : Nat => s.heap.size ≤ q) ((wB q cq fX1_init (fun _ => 0) (fun _ => 0) (fun _ => 0) (fun _ => 0) (fun _ => 0) 0 0 0 fX0_init.1 fX0_init.2.1 fX0_init.2.2.1 fX0_init.2.2.2 0) ++ [(a0, .inr (2, [.null, .null, .null, .int 0, .int 0, .null, .int 0, .int 0, .int 0, .int 0]))]) := hD
  refine W.widen (k := 9) (n := 205) (Nat.le_of_ble_eq_true rfl) (Nat.le_of_ble_eq_true rfl) ?_
  refine lv_dup hx hb dL_law_11 rfl ?_
  have hPc := hP.sub (ws' := [(a0, .inr (2, [.null, .null, .null, .int 0, .int 0, .null, .int 0, .int 0, .int 0, .int 0]))]) [8] rfl
  have hDc := hD.sub (ws' := [(a0, .inr (2, [.null, .null, .null, .int 0, .int 0, .null, .int 0, .int 0, .int 0, .int 0]))]) [8] (by decide) rfl
  have hKc := hK.sub (tys' := []) [] rfl
  have hFc := va_free (wc := [(a0, .inr (2, [.null, .null, .null, .int 0, .int 0, .null, .int 0, .int 0, .int 0, .int 0]))]) hD hS hA [8] rfl
  refine va_callv (va_runI (As := []) (rest := [.ref a0]) ⟨hx, hb, hml, hown, htsL⟩ (c_X2_init l D a0 H.size) (cwI 0 htsL gL_law_X2_init rfl rfl rfl (hts (.initialized RX2) (List.mem_of_getElem? (i := 34) (by decide +kernel))) (hts (.methodLink RL 97 yX2_init) (List.mem_of_getElem? (i := 535) (by decide +kernel))) (hts (.instanceMethod yX2_init) (List.mem_of_getElem? (i := 536) (by decide +kernel))) rfl (by decide +kernel) ⟨Nat.le_of_ble_eq_true rfl, Nat.le_of_ble_eq_true rfl⟩) ⟨fun a U g mk z => ⟨z.1, z.2.1, z.2.2.1, va_K.moved (u := U) (U := U.calling g mk a) (Vm.Alike.refl U.vm) z.2.2.2.1, z.2.2.2.2.1, z.2.2.2.2.2.blind g mk a⟩, fun U hU hW => ⟨rfl, by rw [hU], by rw [hU]; exact hPc, va_K.moved hW.alike hKc, hDc.weaken (fun _ _ _ _ => trivial), hE.at hS hU hW hFc⟩⟩ rfl rfl hl.1 rfl (lv_room (Nat.le_of_ble_eq_true rfl)) dL_law_12 ⟨Nat.le_of_ble_eq_true rfl, Nat.le_of_ble_eq_true rfl⟩) hS (fun q _ h => hFc q h) hFc (fun u9 t8 H1 locs ht hvm hw hB hz1 hk1 hS => ?_)
  obtain ⟨qm, cm, h0, hP1, hK1, hD1⟩ := hB
  subst h0
  rw [ht] at hP1
  have hK1 := va_K.moved hvm.symm hK1
  obtain ⟨hP, hD⟩ := va_join (wr := (wB q cq fX1_init (fun _ => 0) (fun _ => 0) (fun _ => 0) (fun _ => 0) (fun _ => 0) 0 0 0 fX0_init.1 fX0_init.2.1 fX0_init.2.2.1 fX0_init.2.2.2 0)) (w1 := (wM qm cm fX2_init (fun _ => 0) (fun _ => 0) (fun _ => 0) 0 0 0 0 0 0)) hP hD [8] [0, 1, 2, 3, 4, 5, 6, 7] rfl rfl (by decide) (by decide) hk1 hFc hP1 hD1
  have hK := (hK.sub (tys' := (tyB cq)) [0, 1, 2, 3, 4, 5] rfl).app hK1
  generalize H1 = H at hP hS ⊢
  have hP : va_P D vwCl ((wB q cq fX1_init (fun _ => 0) (fun _ => 0) (fun _ => 0) (fun _ => 0) (fun _ => 0) 0 0 0 fX0_init.1 fX0_init.2.1 fX0_init.2.2.1 fX0_init.2.2.2 0) ++ (wM qm cm fX2_init (fun _ => 0) (fun _ => 0) (fun _ => 0) 0 0 0 0 0 0)) H := hP
  have hD : va_D (fun q : Nat => s.heap.size ≤ q) ((wB q cq fX1_init (fun _ => 0) (fun _ => 0) (fun _ => 0) (fun _ => 0) (fun _ => 0) 0 0 0 fX0_init.1 fX0_init.2.1 fX0_init.2.2.1 fX0_init.2.2.2 0) ++ (wM qm cm fX2_init (fun _ => 0) (fun _ => 0) (fun _ => 0) 0 0 0 0 0 0)) := hD
  have hK : va_K D vwCl (tyB cq ++ tyM cm) s := hK
  refine W.widen (k := 13) (n := 321) (Nat.le_of_ble_eq_true rfl) (Nat.le_of_ble_eq_true rfl) ?_
  refine lv_astore_n (lv' := [(2, .ref (qm 0)), (1, .ref (q 0)), (0, .ref b)]) hx hb dL_law_15 rfl hl (by decide) rfl (fun ls hl => ?_)
  refine lv_iconst (v := 1) hx hb dL_law_16 (by decide) ?_
  refine va_newa (atype := .long) (ty := .long) (n := 1) (N' := 1) (a0 := (1, .inr (.inl (fun _ => 0)))) hx hb (hts (.arrayClass .long) (List.mem_of_getElem? (i := 773) (by decide +kernel))) rfl hK hP hD hS hA (fun _ => rfl) (by decide) rfl (by decide) (Nat.le_of_ble_eq_true rfl) (Nat.le_of_ble_eq_true rfl) dL_law_17 (fun o9 co H hK hP hD hS => ?_)
  refine W.widen (k := 14 + 0) (n := 322 + 6 * 0) (Nat.le_of_ble_eq_true rfl) (Nat.le_of_ble_eq_true rfl) ?_
  refine lv_astore_n (lv' := [(3, .ref o9), (2, .ref (qm 0)), (1, .ref (q 0)), (0, .ref b)]) hx hb dL_law_19 rfl hl (by decide) rfl (fun ls hl => ?_)
  refine lv_iconst (v := 0) hx hb dL_law_20 (by decide) ?_
  refine lv_istore (lv' := [(4, .int 0), (3, .ref o9), (2, .ref (qm 0)), (1, .ref (q 0)), (0, .ref b)]) hx hb dL_law_21 hl (by decide) rfl (fun ls hl => ?_)
  have hinit : fX2_init = fX1_init := init_eq.symm
  rw [hinit] at hP hD
  have hP : va_P D vwCl (wA q cq o9 co qm cm (fX1_init, fun _ => 0, fun _ => 0, fun _ => 0, fun _ => 0, fun _ => 0, 0, 0, 0, 0, 0, fX0_init.1, fX0_init.2.1, fX0_init.2.2.1, fX0_init.2.2.2, 0, 0, fun _ => 0)) H := hP.sub [13, 0, 1, 2, 3, 4, 5, 6, 7, 8, 9, 10, 11, 12] rfl
  have hD : va_D (fun q : Nat => s.heap.size ≤ q) (wA q cq o9 co qm cm (fX1_init, fun _ => 0, fun _ => 0, fun _ => 0, fun _ => 0, fun _ => 0, 0, 0, 0, 0, 0, fX0_init.1, fX0_init.2.1, fX0_init.2.2.1, fX0_init.2.2.2, 0, 0, fun _ => 0)) := hD.sub [13, 0, 1, 2, 3, 4, 5, 6, 7, 8, 9, 10, 11, 12] (by decide) rfl
  have hK : va_K D vwCl (tyA cq co cm) s := hK.sub [10, 0, 1, 2, 3, 4, 5, 6, 7, 8, 9] rfl
  have h0 : tbs (fun _ => 0) := fun _ => tb_0
  have hT : tbs fX1_init := by
    have h1 : tbs (lp sX1_init_85 4 0 (fun _ => 0)) := lp_holds (fun _ (a : Nat → Int32) => tbs a) sX1_init_85 4 0 (fun _ => 0) (fun j a _ _ h => upd_tbs h j (tb_VT j)) h0
    exact upd_tbs (upd_tbs h1 4 tb_0) 5 tb_all
  exact law_loop hst hL C0 hE hK (L + 1) 0 (fX1_init, fun _ => 0, fun _ => 0, fun _ => 0, fun _ => 0, fun _ => 0, 0, 0, 0, 0, 0, fX0_init.1, fX0_init.2.1, fX0_init.2.2.1, fX0_init.2.2.2, 0, 0, fun _ => 0) ⟨hT, h0, h0, Nat.zero_le _, Nat.zero_le _, fun _ => rfl⟩ (Nat.zero_le _) (by omega) H _ hP hD hS ls (lv_sub hl [4, 3, 2, 1, 0] rfl)
