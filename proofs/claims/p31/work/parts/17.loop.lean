/-! The law: what the tables and the statics say at its entry; its loop; its walk from the entry. -/
theorem va_notold {s : State} : ∀ a : Nat, a < s.heap.size → ¬ (fun q : Nat => s.heap.size ≤ q) a := fun a h => Nat.not_le.mpr h
theorem str_of {s : State} {b : Nat} {k : Nat} {tx : String} (h1 : (Cond.stringRef RX1 k tx).before #[Value.ref b] s = true) (h2 : (Cond.exactly (.string RX1 k) "java/lang/String").before #[Value.ref b] s = true) : ∃ a, vk_R RX1 k tx a s := by
  obtain ⟨a, c, cA, kA, q1, -⟩ := Cond.exactly_spec (args := #[Value.ref b]) (first := s) (o := none) (s := s) (idx := []) (t := .string RX1 k) (cls := "java/lang/String") h2
  exact ⟨a, vk_R.of h1 q1⟩
set_option maxHeartbeats 4000000 in
set_option maxRecDepth 100000 in
theorem env_of {s : State} {b : Nat} (hts : ∀ w ∈ lw_tbl, w.before #[Value.ref b] s = true) (hgv : (Jvm.Cond.and given_1 narrow_1).before #[Value.ref b] s = true) : envE (fun q : Nat => s.heap.size ≤ q) s := by
  have hq := flat_of_before _ hgv
  have hn : envN s := ⟨va_Nw.of rfl (hts (.methodLinkNest RX1 171 yX0_productsRead RX1) (List.mem_of_getElem? (i := 396) (by decide +kernel))), va_Nw.of rfl (hts (.methodLinkNest RX1 36 yX0_init RX1) (List.mem_of_getElem? (i := 41) (by decide +kernel))), va_Nw.of rfl (hts (.methodLinkNest RX1 99 yX0_firstError RX1) (List.mem_of_getElem? (i := 246) (by decide +kernel)))⟩
  have hc : envC s := ⟨va_Nw.of rfl (hts (.castable "java/lang/IllegalStateException" "java/lang/IllegalStateException") (List.mem_of_getElem? (i := 224) (by decide +kernel))), va_Nw.of rfl (hts (.declares (Bundle.initS "java/lang/RuntimeException")) (List.mem_of_getElem? (i := 108) (by decide +kernel))), va_Nw.of rfl (hts (.declares (Bundle.initS "java/lang/Exception")) (List.mem_of_getElem? (i := 110) (by decide +kernel))), va_Nw.of rfl (hts (.declares (Bundle.initS "java/lang/Throwable")) (List.mem_of_getElem? (i := 112) (by decide +kernel)))⟩
  have hs : envS s := str_of (hts (.stringRef RX1 103 "no state is recorded") (List.mem_of_getElem? (i := 383) (by decide +kernel))) (hq (.exactly (.string RX1 103) "java/lang/String") (by decide +kernel))
  have ht : envT (fun q : Nat => s.heap.size ≤ q) s s.heap := by
    obtain ⟨t, h1, h2⟩ := va_Tof (args := #[Value.ref b]) (s := s) (tm := .static RX1 "VARIABLE_TABLES" "[I") (ty := .int) (N := 4) (f := fun j => .int (VT j)) (A := fun q : Nat => s.heap.size ≤ q) (by decide) (hq (.arrayOf (.static RX1 "VARIABLE_TABLES" "[I") .int) (by decide +kernel)) (va_eqt (z := 4) (hq (.eq (.length (.static RX1 "VARIABLE_TABLES" "[I")) (.int 4)) (by decide +kernel))) (fun j hj => by
      match j, hj with
      | 0, _ => exact va_eqt (z := 43690) (hq (.eq (.elem (.static RX1 "VARIABLE_TABLES" "[I") (.int 0)) (.int 43690)) (by decide +kernel))
      | 1, _ => exact va_eqt (z := 52428) (hq (.eq (.elem (.static RX1 "VARIABLE_TABLES" "[I") (.int 1)) (.int 52428)) (by decide +kernel))
      | 2, _ => exact va_eqt (z := 61680) (hq (.eq (.elem (.static RX1 "VARIABLE_TABLES" "[I") (.int 2)) (.int 61680)) (by decide +kernel))
      | 3, _ => exact va_eqt (z := 65280) (hq (.eq (.elem (.static RX1 "VARIABLE_TABLES" "[I") (.int 3)) (.int 65280)) (by decide +kernel))
      | j + 4, hj => exact absurd hj (by omega)) va_notold
    exact ⟨t, va_Zref (hts (.laysStatic RX1 "VARIABLE_TABLES" "[I") (List.mem_of_getElem? (i := 61) (by decide +kernel))) (hts (.initialized RX1) (List.mem_of_getElem? (i := 20) (by decide +kernel))) h1 va_notold, h2⟩
  have hz : envZ (fun q : Nat => s.heap.size ≤ q) s s.heap := ⟨vx_Zqof (hts (.laysStatic Bundle.tN "UNASSIGNED_STACK" Bundle.steD) (List.mem_of_getElem? (i := 131) (by decide +kernel))) (hts (.initialized Bundle.tN) (List.mem_of_getElem? (i := 22) (by decide +kernel))) (hq (.isRef (.static Bundle.tN "UNASSIGNED_STACK" Bundle.steD)) (by decide +kernel)) va_notold, vx_Zqof (hts (.laysStatic Bundle.tN "SUPPRESSED_SENTINEL" Bundle.listD) (List.mem_of_getElem? (i := 133) (by decide +kernel))) (hts (.initialized Bundle.tN) (List.mem_of_getElem? (i := 22) (by decide +kernel))) (hq (.isRef (.static Bundle.tN "SUPPRESSED_SENTINEL" Bundle.listD)) (by decide +kernel)) va_notold⟩
  exact ⟨hn, hc, hs, ht, hz⟩
set_option maxHeartbeats 4000000 in
set_option maxRecDepth 100000 in
theorem law_loop {p : Program} {l : Launch} (hst : l.stackTraces = false) {e : Env} {s : State} {m : MethodId} {below : List Frame} {meth : Method} {c : Code} {b L : Nat} {xs : Nat → Int32} (hL : L ≤ 260) (hx : p.tables.exec = Jvm.exec) (hb : c.code = cL_law) (hr : meth.sig.returnType = ret) (hml : c.maxLocals = 15) (hown : s.vm.findClass RL = some m.cls) (hts : ∀ w ∈ wsL_law, w.before #[Value.ref b] s = true) (hX : va_X b L xs s s.heap) (hbl : b < s.heap.size) {A : Nat → Prop} (hA : ∀ q : Nat, s.heap.size ≤ q → A q) (hbA : ¬ A b) (hE : envE A s) {D : va_G} {q : Nat → Nat} {cq : Nat → ClassId} (hK : va_K D vwCl (tyB cq) s) (S : Nat → Int32) (h : Int32) (hlocks : meth.locks = false) (hfg : ∀ q : Nat, q < s.heap.size → ¬ A q) (N : Nat) (hN : N < 32) : ∀ (r i : Nat), i + r = N → ∀ (T R X M P : Nat → Int32) (n z : Nat) (w f d v : Int32), tbs T → tbs R → n ≤ 4 → pch P → ∀ (H : Heap) (locs : List Loc), va_P D vwCl (wB q cq T R S X M P (nI n) h (nI 0) w f d v (nI z)) H → va_D A (wB q cq T R S X M P (nI n) h (nI 0) w f d v (nI z)) → va_S A s.heap H locs → ∀ ls : Array Slot, lv_has ls 15 [(0, .ref b), (1, .ref (q 0)), (2, .int 1), (3, .int (nI N)), (4, .int (nI i))] → W p l e room_1 s m #[Value.ref b] below meth c H locs (8 + i) (195 + 6 * i) (lw_Z below #[Value.ref b] s) (F0 m 46 ls []) := by
  intro r
  induction r with
  | zero =>
    intro i hi T R X M P n z w f d v hT hR hn hP9 H locs hP hD hS ls hl
    obtain rfl : i = N := by omega
    refine lv_iload hx hb dL_law_46 (lv_at hl 4 rfl) ?_
    refine lv_iload_n hx hb dL_law_48 rfl (lv_at hl 3 rfl) ?_
    refine lv_icmp_ge (tgt := 627) hx hb dL_law_49 (by decide) (fun c_1 => ?_) (fun c_1 => ?_)
    · refine lv_iload_n hx hb dL_law_627 rfl (lv_at hl 2 rfl) ?_
      refine lv_if_eq (tgt := 642) hx hb dL_law_628 (by decide) (fun c_2 => ?_) (fun c_2 => ?_)
      · exact absurd c_2 (by decide)
      · refine lv_aload_n hx hb dL_law_631 rfl (lv_at hl 1 rfl) ?_
        have hPc := hP.sub (ws' := (wB q cq T R S X M P (nI n) h (nI 0) w f d v (nI z))) [0, 1, 2, 3, 4, 5, 6, 7] rfl
        have hKc := hK.sub (tys' := (tyB cq)) [0, 1, 2, 3, 4, 5] rfl
        refine vp_callSi (va_Run.run (va_runS (As := [.ref (q 0)]) (rest := []) ⟨hx, hb, hml, hown, hts⟩ (c_L_enough l D q cq T R S X M P n h (nI 0) w f d v (nI z) (by omega) (fun i _ => hT i)) (va_cwS 1 hts gL_law_L_enough rfl rfl rfl (by decide +kernel) ⟨Nat.le_of_ble_eq_true rfl, Nat.le_of_ble_eq_true rfl⟩) ⟨fun a U g mk z => ⟨z.1, z.2.1, va_K.moved (u := U) (U := U.calling g mk a) (Vm.Alike.refl U.vm) z.2.2.1, z.2.2.2.blind g mk a⟩, fun U hU hW => ⟨rfl, by rw [hU]; exact hPc, va_K.moved hW.alike hKc, hE.at0 hS hU hW⟩⟩ rfl rfl hl.1 rfl (lv_room (Nat.le_of_ble_eq_true rfl)) dL_law_632 ⟨(by show (8 + i) + 0 ≤ 122; omega), (by show (195 + 6 * i) + 0 ≤ 1087; omega)⟩)) (fun r9 hr => ?_)
        subst r9
        refine lv_is 1 rfl ?_
        refine lv_if_eq (tgt := 642) hx hb dL_law_635 (by decide) (fun c_3 => ?_) (fun c_3 => ?_)
        · exact absurd c_3 (by decide)
        · refine lv_iconst (v := 1) hx hb dL_law_638 (by decide) ?_
          refine lv_goto (tgt := 643) hx hb dL_law_639 (by decide) ?_
          refine va_forget (fun q hq => Nat.le_of_not_lt (fun z => hfg _ z (hS.2.2 q hq))) ?_
          refine W.widen (k := 122) (n := 1087) (by omega) (by omega) ?_
          exact lw_ret hx hb hr hlocks dL_law_643
    · exact absurd (nI_le (a := i) (b := i) (by omega) (by omega)) c_1
  | succ r ih =>
    intro i hi T R X M P n z w f d v hT hR hn hP9 H locs hP hD hS ls hl
    refine lv_iload hx hb dL_law_46 (lv_at hl 4 rfl) ?_
    refine lv_iload_n hx hb dL_law_48 rfl (lv_at hl 3 rfl) ?_
    refine lv_icmp_ge (tgt := 627) hx hb dL_law_49 (by decide) (fun c_1 => ?_) (fun c_1 => ?_)
    · exact absurd c_1 (nI_ge (a := i) (b := N) (by omega) (by omega))
    · refine lv_iload_n hx hb dL_law_52 rfl (lv_at hl 2 rfl) ?_
      refine lv_if_eq (tgt := 627) hx hb dL_law_53 (by decide) (fun c_2 => ?_) (fun c_2 => ?_)
      · exact absurd c_2 (by decide)
      · refine k_turn hst hL hx hb hr hml hown hts hX hbl hA hbA hE hK S h T R X M P n z w f d v hT hR hn hP9 N i (by omega) H locs hP hD hS ls (lv_sub hl [0, 1, 2, 3, 4] rfl) (by omega) (by omega) (fun T R X M P n z w f d v hT hR hn hP9 H locs hP hD hS ls hl => ?_)
        refine W.widen (k := 8 + (i + 1)) (n := 195 + 6 * (i + 1)) (by omega) (by omega) ?_
        exact ih (i + 1) (by omega) T R X M P n z w f d v hT hR hn hP9 H locs hP hD hS ls hl
set_option maxHeartbeats 4000000 in
set_option maxRecDepth 100000 in
theorem law_start {p : Program} {l : Launch} (hst : l.stackTraces = false) {e : Env} {s : State} {m : MethodId} {below : List Frame} {meth : Method} {c : Code} {b L : Nat} {xs : Nat → Int32} (hL : L ≤ 260) (hx : p.tables.exec = Jvm.exec) (hb : c.code = cL_law) (hr : meth.sig.returnType = ret) (hml : c.maxLocals = 15) (hown : s.vm.findClass RL = some m.cls) (hts : ∀ w ∈ wsL_law, w.before #[Value.ref b] s = true) (hX : va_X b L xs s s.heap) (hbl : b < s.heap.size) {A : Nat → Prop} (hA : ∀ q : Nat, s.heap.size ≤ q → A q) (hbA : ¬ A b) (hE : envE A s) {D : va_G} {q : Nat → Nat} {cq : Nat → ClassId} (hK : va_K D vwCl (tyB cq) s) (hlocks : meth.locks = false) (hfg : ∀ q : Nat, q < s.heap.size → ¬ A q) (H : Heap) (locs : List Loc) (hP : va_P D vwCl (wB q cq fX1_init (fun _ => 0) (fun _ => 0) (fun _ => 0) (fun _ => 0) (fun _ => 0) (nI 0) 0 (nI 0) 0 0 0 0 (nI 0)) H) (hD : va_D A (wB q cq fX1_init (fun _ => 0) (fun _ => 0) (fun _ => 0) (fun _ => 0) (fun _ => 0) (nI 0) 0 (nI 0) 0 0 0 0 (nI 0))) (hS : va_S A s.heap H locs) (ls : Array Slot) (hl : lv_has ls 15 [(0, .ref b)]) : W p l e room_1 s m #[Value.ref b] below meth c H locs (8 + 0) (195 + 6 * 0) (lw_Z below #[Value.ref b] s) (F0 m 7 ls [.ref (q 0)]) := by
  have hT := init_tbs
  have h0 : tbs (fun _ => 0) := fun _ => tb_0
  refine lv_astore_n (lv' := [(1, .ref (q 0)), (0, .ref b)]) hx hb dL_law_7 rfl hl (by decide) rfl (fun ls hl => ?_)
  refine lv_aload_n hx hb dL_law_8 rfl (lv_at hl 0 rfl) ?_
  refine lv_iconst (v := 0) hx hb dL_law_9 (by decide) ?_
  have hPc := hP.sub (ws' := (wB q cq fX1_init (fun _ => 0) (fun _ => 0) (fun _ => 0) (fun _ => 0) (fun _ => 0) (nI 0) 0 (nI 0) 0 0 0 0 (nI 0))) [0, 1, 2, 3, 4, 5, 6, 7] rfl
  have hKc := hK.sub (tys' := (tyB cq)) [0, 1, 2, 3, 4, 5] rfl
  have hDc := hD.sub (ws' := (wB q cq fX1_init (fun _ => 0) (fun _ => 0) (fun _ => 0) (fun _ => 0) (fun _ => 0) (nI 0) 0 (nI 0) 0 0 0 0 (nI 0))) [0, 1, 2, 3, 4, 5, 6, 7] (by decide) rfl
  have hFc := va_free (wc := (wB q cq fX1_init (fun _ => 0) (fun _ => 0) (fun _ => 0) (fun _ => 0) (fun _ => 0) (nI 0) 0 (nI 0) 0 0 0 0 (nI 0))) hD hS hA [0, 1, 2, 3, 4, 5, 6, 7] rfl
  refine va_calli (va_runS (As := [.ref (q 0), .int 0]) (rest := []) ⟨hx, hb, hml, hown, hts⟩ (c_L_function l D q cq H.size fX1_init (fun _ => 0) (fun _ => 0) (fun _ => 0) (fun _ => 0) (fun _ => 0) (nI 0) 0 (nI 0) 0 0 0 0 (nI 0) 0 (fun i _ => hT i) (by omega)) (va_cwS 2 hts gL_law_L_function rfl rfl rfl (by decide +kernel) ⟨Nat.le_of_ble_eq_true rfl, Nat.le_of_ble_eq_true rfl⟩) ⟨fun a U g mk z => ⟨z.1, z.2.1, z.2.2.1, va_K.moved (u := U) (U := U.calling g mk a) (Vm.Alike.refl U.vm) z.2.2.2.1, z.2.2.2.2.1, z.2.2.2.2.2.blind g mk a⟩, fun U hU hW => ⟨rfl, by rw [hU], by rw [hU]; exact hPc, va_K.moved hW.alike hKc, hDc.weaken (fun _ _ _ _ => trivial), hE.at hS hU hW hFc⟩⟩ rfl rfl hl.1 rfl (lv_room (Nat.le_of_ble_eq_true rfl)) dL_law_10 ⟨(by show (8 + 0) + 0 ≤ 122; omega), (by show (195 + 6 * 0) + 0 ≤ 1087; omega)⟩) hS (fun q _ h => hFc q h) hFc (fun r9 u9 t8 H1 locs ht hvm hw hB hz1 hk1 hS => ?_)
  obtain ⟨hP1, hD1⟩ := hB
  rw [ht] at hP1
  obtain ⟨hP, hD⟩ := va_join (wr := []) (w1 := (wB q cq fX1_init (fun _ => 0) (fun _ => 0) (fun _ => 0) ((fL_function fX1_init (fun _ => 0) 0).2) (fun _ => 0) (nI 0) 0 (nI 0) 0 0 0 0 (nI 0))) hP hD [0, 1, 2, 3, 4, 5, 6, 7] [] rfl rfl (by decide) (by decide) hk1 hFc hP1 hD1
  have hP := hP.sub (ws' := (wB q cq fX1_init (fun _ => 0) (fun _ => 0) (fun _ => 0) ((fL_function fX1_init (fun _ => 0) 0).2) (fun _ => 0) (nI 0) 0 (nI 0) 0 0 0 0 (nI 0))) [0, 1, 2, 3, 4, 5, 6, 7] rfl
  have hD := hD.sub (ws' := (wB q cq fX1_init (fun _ => 0) (fun _ => 0) (fun _ => 0) ((fL_function fX1_init (fun _ => 0) 0).2) (fun _ => 0) (nI 0) 0 (nI 0) 0 0 0 0 (nI 0))) [0, 1, 2, 3, 4, 5, 6, 7] (by decide) rfl
  generalize H1 = H at hP hS ⊢
  subst r9
  refine lv_is 1 rfl ?_
  refine lv_if_eq (tgt := 27) hx hb dL_law_13 (by decide) (fun c_1 => ?_) (fun c_1 => ?_)
  · exact absurd c_1 (by decide)
  · refine lv_aload_n hx hb dL_law_16 rfl (lv_at hl 0 rfl) ?_
    have hPc := hP.sub (ws' := (wB q cq fX1_init (fun _ => 0) (fun _ => 0) (fun _ => 0) ((fL_function fX1_init (fun _ => 0) 0).2) (fun _ => 0) (nI 0) 0 (nI 0) 0 0 0 0 (nI 0))) [0, 1, 2, 3, 4, 5, 6, 7] rfl
    have hKc := hK.sub (tys' := (tyB cq)) [0, 1, 2, 3, 4, 5] rfl
    refine vp_callSi (va_Run.run (va_runS (As := [.ref (q 0)]) (rest := []) ⟨hx, hb, hml, hown, hts⟩ (c_L_enough l D q cq fX1_init (fun _ => 0) (fun _ => 0) (fun _ => 0) ((fL_function fX1_init (fun _ => 0) 0).2) (fun _ => 0) 0 0 (nI 0) 0 0 0 0 (nI 0) (by omega) (fun i _ => hT i)) (va_cwS 1 hts gL_law_L_enough rfl rfl rfl (by decide +kernel) ⟨Nat.le_of_ble_eq_true rfl, Nat.le_of_ble_eq_true rfl⟩) ⟨fun a U g mk z => ⟨z.1, z.2.1, va_K.moved (u := U) (U := U.calling g mk a) (Vm.Alike.refl U.vm) z.2.2.1, z.2.2.2.blind g mk a⟩, fun U hU hW => ⟨rfl, by rw [hU]; exact hPc, va_K.moved hW.alike hKc, hE.at0 hS hU hW⟩⟩ rfl rfl hl.1 rfl (lv_room (Nat.le_of_ble_eq_true rfl)) dL_law_17 ⟨(by show (8 + 0) + 0 ≤ 122; omega), (by show (195 + 6 * 0) + 0 ≤ 1087; omega)⟩)) (fun r9 hr => ?_)
    subst r9
    refine lv_is 1 rfl ?_
    refine lv_if_eq (tgt := 27) hx hb dL_law_20 (by decide) (fun c_2 => ?_) (fun c_2 => ?_)
    · exact absurd c_2 (by decide)
    · refine lv_iconst (v := 1) hx hb dL_law_23 (by decide) ?_
      refine lv_goto (tgt := 28) hx hb dL_law_24 (by decide) ?_
      refine lv_istore_n (lv' := [(2, .int 1), (1, .ref (q 0)), (0, .ref b)]) hx hb dL_law_28 rfl hl (by decide) rfl (fun ls hl => ?_)
      refine lv_bipush (v := 6) hx hb dL_law_29 (by decide) ?_
      refine lv_aload_n hx hb dL_law_31 rfl (lv_at hl 2 rfl) ?_
      refine lv_iconst (v := 0) hx hb dL_law_32 (by decide) ?_
      refine vp_callSi (va_Run.run (va_runS (As := [.ref b, .int 0]) (rest := [.int 6]) ⟨hx, hb, hml, hown, hts⟩ (c_L_cell l b L xs 0 (by omega) hL) (va_cwS 2 hts gL_law_L_cell rfl rfl rfl (by decide +kernel) ⟨Nat.le_of_ble_eq_true rfl, Nat.le_of_ble_eq_true rfl⟩) ⟨fun a U g mk z => ⟨z.1, va_X.moved (u := U) (U := U.calling g mk a) (Vm.Alike.refl U.vm) z.2⟩, fun U hU hW => ⟨rfl, by show va_X b L xs U U.heap; rw [hU]; exact (hX.kept (hS.2.1 b hbl hbA)).moved hW.alike⟩⟩ rfl rfl hl.1 rfl (lv_room (Nat.le_of_ble_eq_true rfl)) dL_law_33 ⟨(by show (8 + 0) + 0 ≤ 122; omega), (by show (195 + 6 * 0) + 0 ≤ 1087; omega)⟩)) (fun r9 hr => ?_)
      subst r9
      refine lv_bipush (v := 26) hx hb dL_law_36 (by decide) ?_
      refine vp_callSi (va_Run.run (va_runS (As := [.int (cellN L xs 0), .int 26]) (rest := [.int 6]) ⟨hx, hb, hml, hown, hts⟩ (c_L_low l (cellN L xs 0) 26 (by omega)) (va_cwS 2 hts gL_law_L_low rfl rfl rfl (by decide +kernel) ⟨Nat.le_of_ble_eq_true rfl, Nat.le_of_ble_eq_true rfl⟩) ⟨fun _ _ _ _ z => z, fun _ _ _ => ⟨rfl, trivial⟩⟩ rfl rfl hl.1 rfl (lv_room (Nat.le_of_ble_eq_true rfl)) dL_law_38 ⟨(by show (8 + 0) + 0 ≤ 122; omega), (by show (195 + 6 * 0) + 0 ≤ 1087; omega)⟩)) (fun r9 hr => ?_)
      subst r9
      obtain ⟨j26, hj26, ej26⟩ := low_of (cellN L xs 0) (g := 26) (by decide) (by decide)
      refine lv_is (nI j26) ej26 ?_
      refine lv_iadd hx hb dL_law_41 ?_
      refine lv_is (nI (6 + j26)) (by first | exact nI_add _ _ | rfl) ?_
      refine lv_istore_n (lv' := [(3, .int (nI (6 + j26))), (2, .int 1), (1, .ref (q 0)), (0, .ref b)]) hx hb dL_law_42 rfl hl (by decide) rfl (fun ls hl => ?_)
      refine lv_iconst (v := 0) hx hb dL_law_43 (by decide) ?_
      refine lv_istore (lv' := [(4, .int 0), (3, .int (nI (6 + j26))), (2, .int 1), (1, .ref (q 0)), (0, .ref b)]) hx hb dL_law_44 hl (by decide) rfl (fun ls hl => ?_)
      exact law_loop hst hL hx hb hr hml hown hts hX hbl hA hbA hE hK (fun _ => 0) 0 hlocks hfg (6 + j26) (by omega) (6 + j26) 0 (Nat.zero_add _) fX1_init (fun _ => 0) (fun _ => 0) ((fL_function fX1_init (fun _ => 0) 0).2) (fun _ => 0) 0 0 0 0 0 0 hT h0 (Nat.zero_le _) (fun _ => rfl) H _ hP hD hS ls (lv_sub hl [4, 3, 2, 1, 0] rfl)
set_option maxHeartbeats 4000000 in
set_option maxRecDepth 100000 in
theorem whole_start {p : Program} {e : Env} {s : State} {m : MethodId} {below : List Frame} {meth : Method} {c : Code} (l : Launch) (hflags : l.flags = flags0) {b L : Nat} {xs : Nat → Int32} (hL : L ≤ 260) (C0 : lw_At p s m meth c b L xs) : W p l e room_1 s m #[Value.ref b] below meth c s.heap [] 0 0 (lw_Z below #[Value.ref b] s) (entryFrame m ([Value.ref b] : List Value).toArray 15) := by
  have hst : l.stackTraces = false := by unfold Launch.stackTraces; rw [hflags]; decide +kernel
  obtain ⟨hx, hb, hr, hml, hown, hts, hX, hbl, hlocks, hgv⟩ := id C0
  have hE := env_of hts hgv
  have hown : s.vm.findClass RL = some m.cls := hown
  have htsT := hts
  have hA : ∀ q : Nat, s.heap.size ≤ q → (fun q : Nat => s.heap.size ≤ q) q := fun _ h => h
  have hbA : ¬ (fun q : Nat => s.heap.size ≤ q) b := Nat.not_le.mpr hbl
  obtain ⟨c0, iS0, hKn0⟩ := u_known (C := RX0) (T := TX0) (N := 4) (n := 4) hts inX0 (hts (.instantiable RX0 4) (List.mem_of_getElem? (i := 40) (by decide +kernel)))
  obtain ⟨c1, iS1, hKn1⟩ := u_known (C := RX1) (T := TX1) (N := 11) (n := 11) hts inX1 (hts (.instantiable RX1 11) (List.mem_of_getElem? (i := 32) (by decide +kernel)))
  obtain ⟨D, hKc⟩ : ∃ D : va_G, ∀ (k : Nat) (q : vw_C), vwCl[k]? = some q → u_Kn s q.1 q.2.1 q.2.2 (D.1 k) (D.2 k) := by
    refine ⟨(fun k => if k = 0 then c0 else c1, fun k => if k = 0 then iS0 else iS1), ?_⟩
    intro k q hq
    match k, hq with
    | 0, hq => cases hq; exact hKn0
    | 1, hq => cases hq; exact hKn1
    | k + 2, hq => simp [vwCl] at hq
  have hS : va_S (fun q : Nat => s.heap.size ≤ q) s.heap s.heap [] := va_S.rf
  have hK : va_K D vwCl [] s := ⟨hKc, fun k q h => by simp at h⟩
  have hP : va_P D vwCl [] s.heap := fun k q h => by simp at h
  have hD : va_D (fun q : Nat => s.heap.size ≤ q) [] := ⟨fun i j p q h => by simp at h, fun k q h => by simp at h⟩
  have hl := lv_entry ([.ref b]) (n := 15) (Nat.le_of_ble_eq_true rfl)
  rw [lg_entry_eq]
  generalize (lg_sl ([.ref b]) ++ List.replicate (15 - (lg_sl ([.ref b])).length) Slot.unset).toArray = ls at hl ⊢
  have hl : lv_has ls 15 [(0, .ref b)] := hl
  refine va_new (ci := 1) (fs := [.null, .null, .int 0, .null, .int 0, .null, .int 0, .null, .null, .null, .int 0]) (C := RX1) (T := TX1) (N := 11) hx hb hts inX1 tyX1 tyX1_ok hown (hts (.classLink RL 10 RX1) (List.mem_of_getElem? (i := 31) (by decide +kernel))) (hts (.instantiable RX1 11) (List.mem_of_getElem? (i := 32) (by decide +kernel))) (hts (.initialized RX1) (List.mem_of_getElem? (i := 20) (by decide +kernel))) hK hP hD hS hA rfl (by decide) (Nat.le_of_ble_eq_true rfl) (Nat.le_of_ble_eq_true rfl) dL_law_0 (fun a0 H hP hD hS => ?_)
  have hP : va_P D vwCl [(a0, .inr (1, [.null, .null, .int 0, .null, .int 0, .null, .int 0, .null, .null, .null, .int 0]))] H := hP
  have hD : va_D (fun q : Nat => s.heap.size ≤ q) [(a0, .inr (1, [.null, .null, .int 0, .null, .int 0, .null, .int 0, .null, .null, .null, .int 0]))] := hD
  refine W.widen (k := 1) (n := 11) (Nat.le_of_ble_eq_true rfl) (Nat.le_of_ble_eq_true rfl) ?_
  refine lv_dup hx hb dL_law_3 rfl ?_
  have hts : ∀ w ∈ wsL_law, w.before #[Value.ref b] s = true := fun w hw => hts w (wsL_law_in w hw)
  have hPc := hP.sub (ws' := [(a0, .inr (1, [.null, .null, .int 0, .null, .int 0, .null, .int 0, .null, .null, .null, .int 0]))]) [0] rfl
  have hDc := hD.sub (ws' := [(a0, .inr (1, [.null, .null, .int 0, .null, .int 0, .null, .int 0, .null, .null, .null, .int 0]))]) [0] (by decide) rfl
  have hKc := hK.sub (tys' := []) [] rfl
  have hFc := va_free (wc := [(a0, .inr (1, [.null, .null, .int 0, .null, .int 0, .null, .int 0, .null, .null, .null, .int 0]))]) hD hS hA [0] rfl
  refine va_callv (va_runI (As := []) (rest := [.ref a0]) ⟨hx, hb, hml, hown, hts⟩ (c_X1_init l D a0 H.size) (cwI 0 hts gL_law_X1_init rfl rfl rfl (htsT (.initialized RX1) (List.mem_of_getElem? (i := 20) (by decide +kernel))) (htsT (.methodLink RL 103 yX1_init) (List.mem_of_getElem? (i := 33) (by decide +kernel))) (htsT (.instanceMethod yX1_init) (List.mem_of_getElem? (i := 34) (by decide +kernel))) rfl (by decide +kernel) ⟨Nat.le_of_ble_eq_true rfl, Nat.le_of_ble_eq_true rfl⟩) ⟨fun a U g mk z => ⟨z.1, z.2.1, z.2.2.1, va_K.moved (u := U) (U := U.calling g mk a) (Vm.Alike.refl U.vm) z.2.2.2.1, z.2.2.2.2.1, z.2.2.2.2.2.blind g mk a⟩, fun U hU hW => ⟨rfl, by rw [hU], by rw [hU]; exact hPc, va_K.moved hW.alike hKc, hDc.weaken (fun _ _ _ _ => trivial), hE.at hS hU hW hFc⟩⟩ rfl rfl hl.1 rfl (lv_room (Nat.le_of_ble_eq_true rfl)) dL_law_4 ⟨Nat.le_of_ble_eq_true rfl, Nat.le_of_ble_eq_true rfl⟩) hS (fun q _ h => hFc q h) hFc (fun u9 t8 H1 locs ht hvm hw hB hz1 hk1 hS => ?_)
  obtain ⟨q, cq, h0, hP1, hK1, hD1⟩ := hB
  subst h0
  rw [ht] at hP1
  have hK := va_K.moved hvm.symm hK1
  obtain ⟨hP, hD⟩ := va_join (wr := []) (w1 := (wB q cq fX1_init (fun _ => 0) (fun _ => 0) (fun _ => 0) (fun _ => 0) (fun _ => 0) 0 0 0 fX0_init.1 fX0_init.2.1 fX0_init.2.2.1 fX0_init.2.2.2 0)) hP hD [0] [] rfl rfl (by decide) (by decide) hk1 hFc hP1 hD1
  generalize H1 = H at hP hS ⊢
  have hP : va_P D vwCl (wB q cq fX1_init (fun _ => 0) (fun _ => 0) (fun _ => 0) (fun _ => 0) (fun _ => 0) (nI 0) 0 (nI 0) 0 0 0 0 (nI 0)) H := hP
  have hD : va_D (fun q : Nat => s.heap.size ≤ q) (wB q cq fX1_init (fun _ => 0) (fun _ => 0) (fun _ => 0) (fun _ => 0) (fun _ => 0) (nI 0) 0 (nI 0) 0 0 0 0 (nI 0)) := hD
  have hK : va_K D vwCl (tyB cq) s := hK
  refine W.widen (k := 8 + 0) (n := 195 + 6 * 0) (Nat.le_of_ble_eq_true rfl) (Nat.le_of_ble_eq_true rfl) ?_
  exact law_start hst hL hx hb hr hml hown hts hX hbl hA hbA hE hK hlocks (fun q9 h9 => Nat.not_le.mpr h9) H _ hP hD hS ls hl
