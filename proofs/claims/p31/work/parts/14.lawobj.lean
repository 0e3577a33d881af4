/-- what the law reads out of the script: behind its end it makes numbers up -/
def cellN (L : Nat) (xs : Nat → Int32) (j : Nat) : Int32 := if j < L then xs j else 40503 * nI j + 977
set_option maxHeartbeats 4000000 in
theorem c_L_cell (l : Launch) (b9 L9 : Nat) (xs9 : Nat → Int32) (j9 : Nat) (hj9 : j9 < 2 ^ 20) (hL9 : L9 ≤ 260) : Met l yL_cell wsL_cell ({ frames := 0, cells := 0, slots := 0, locals := 0 }) (va_Pc [.ref b9, .int (nI j9)] (fun U => va_X b9 L9 xs9 U U.heap)) (vp_Si (fun r9 => r9 = cellN L9 xs9 j9)) 0 0 (fun _ => False) := by
  refine Met.ofW (cc := cL_cell) (maxL := 2) (ret := (some .int)) (by decide) rfl ?_
  intro p e s m args below meth c s₁ B hml hv
  obtain ⟨rfl, hX⟩ := hv
  have hx := B.exec
  have hb := B.bytes
  have hr := B.returns
  have hts := atoms_spec (ws := wsL_cell) B.pre
  have hown : s.vm.findClass RL = some m.cls := findClass_of_methodNamed B.named
  have hlocks := B.notSynchronized
  have hS : va_S (fun _ => False) s.heap s.heap [] := va_S.rf
  have hbl : b9 < s.heap.size := by
    obtain ⟨scr, h1, -⟩ := hX
    exact (Array.getElem?_eq_some_iff.mp h1).1
  have hl := lv_entry ([.ref b9, .int (nI j9)]) (n := 2) (Nat.le_of_ble_eq_true rfl)
  rw [lg_entry_eq]
  generalize (lg_sl ([.ref b9, .int (nI j9)]) ++ List.replicate (2 - (lg_sl ([.ref b9, .int (nI j9)])).length) Slot.unset).toArray = ls at hl ⊢
  have hl : lv_has ls 2 [(0, .ref b9), (1, .int (nI j9))] := hl
  refine lv_iload_n hx hb dL_cell_0 rfl (lv_at hl 1 rfl) ?_
  refine lv_aload_n hx hb dL_cell_1 rfl (lv_at hl 0 rfl) ?_
  refine va_slen hx hb hX hbl (fun z => z) hS dL_cell_2 ?_
  refine lv_icmp_ge (tgt := 12) hx hb dL_cell_3 (by decide) (fun c_1 => ?_) (fun c_1 => ?_)
  · have hn : ¬ j9 < L9 := fun q => nI_ge (a := j9) (b := L9) q (by omega) c_1
    refine lv_ldc (v := 40503) hx hb hown (hts (.constant RL 8 (40503)) (List.mem_of_getElem? (i := 1) rfl)) dL_cell_12 ?_
    refine lv_iload_n hx hb dL_cell_14 rfl (lv_at hl 1 rfl) ?_
    refine lv_imul hx hb dL_cell_15 ?_
    refine lv_sipush (v := 977) hx hb dL_cell_16 (by decide) ?_
    refine lv_iadd hx hb dL_cell_19 ?_
    exact W.iret (v := 40503 * nI j9 + 977) hx hb hr (fun t9 ht hW => ⟨_, rfl, (if_neg hn).symm, ht⟩) (fun q h => nomatch h) dL_cell_20
  · have hn : j9 < L9 := Nat.lt_of_not_le (fun q => c_1 (nI_le (a := L9) (b := j9) q (by omega)))
    refine lv_aload_n hx hb dL_cell_6 rfl (lv_at hl 0 rfl) ?_
    refine lv_iload_n hx hb dL_cell_7 rfl (lv_at hl 1 rfl) ?_
    refine va_sld hx hb hX hbl (fun z => z) hS (i := nI j9) (vp_in_nI hn (by omega)) dL_cell_8 ?_
    rw [nI_clamp (by omega)]
    refine lv_goto (tgt := 20) hx hb dL_cell_9 (by decide) ?_
    exact W.iret (v := xs9 j9) hx hb hr (fun t9 ht hW => ⟨_, rfl, (if_pos hn).symm, ht⟩) (fun q h => nomatch h) dL_cell_20
def sL_function_141 (i2 : Nat) (a2 : Unit) : Unit := ()
def sL_function_97 (i1 : Nat) (a1 : Unit) : Unit := ()
def fL_function (T : Nat → Int32) (M : Nat → Int32) (x : Nat) : Int32 × (Nat → Int32) := (1, (fX1_distanceBySums T M x).2)
set_option maxHeartbeats 4000000 in
set_option maxRecDepth 100000 in
theorem c_L_function (l : Launch) (D : va_G) (q : Nat → Nat) (cq : Nat → ClassId) (sz : Nat) (T : Nat → Int32) (R : Nat → Int32) (S : Nat → Int32) (X : Nat → Int32) (M : Nat → Int32) (P : Nat → Int32) (n : Int32) (h : Int32) (k : Int32) (w : Int32) (f : Int32) (d : Int32) (v : Int32) (z : Int32) (x : Nat) (hT9 : ∀ i, i < 6 → tb (T i)) (hx6 : x < 6) : Met l yL_function wsL_function ({ frames := 3, cells := 0, slots := 0, locals := 67 }) (va_Pc [.ref (q 0), .int (nI x)] (fun U => U.heap.size = sz ∧ va_P D vwCl (wB q cq T R S X M P n h k w f d v z) U.heap ∧ va_K D vwCl (tyB cq) U ∧ va_D (fun _ => True) (wB q cq T R S X M P n h k w f d v z) ∧ envE (va_A (wB q cq T R S X M P n h k w f d v z) sz) U)) (va_Qi (fun r9 (_ : Unit) => r9 = (fL_function T M x).1) (fun _ t9 => va_P D vwCl (wB q cq T R S X ((fL_function T M x).2) P n h k w f d v z) t9.heap ∧ va_D (va_A (wB q cq T R S X M P n h k w f d v z) sz) (wB q cq T R S X ((fL_function T M x).2) P n h k w f d v z)) (va_A (wB q cq T R S X M P n h k w f d v z) sz)) 0 0 (va_A (wB q cq T R S X M P n h k w f d v z) sz) := by
  refine Met.ofW (cc := cL_function) (maxL := 7) (ret := (some .boolean)) (by decide) rfl ?_
  intro p e s m args below meth c s₁ B hml hv
  obtain ⟨rfl, hsz, hP, hK, hD0, hE⟩ := hv
  have hx := B.exec
  have hb := B.bytes
  have hr := B.returns
  have hts := atoms_spec (ws := wsL_function) B.pre
  have hown : s.vm.findClass RL = some m.cls := findClass_of_methodNamed B.named
  have hlocks := B.notSynchronized
  subst hsz
  have hD := hD0.self (sz := s.heap.size)
  generalize hAe : va_A (wB q cq T R S X M P n h k w f d v z) s.heap.size = A at hD hE ⊢
  have hA : ∀ q : Nat, s.heap.size ≤ q → A q := fun q h => by rw [← hAe]; exact Or.inr h
  have hS : va_S A s.heap s.heap [] := va_S.rf
  have hP : va_P D vwCl (wB q cq T R S X M P n h k w f d v z) s.heap := hP
  have hl := lv_entry ([.ref (q 0), .int (nI x)]) (n := 7) (Nat.le_of_ble_eq_true rfl)
  rw [lg_entry_eq]
  generalize (lg_sl ([.ref (q 0), .int (nI x)]) ++ List.replicate (7 - (lg_sl ([.ref (q 0), .int (nI x)])).length) Slot.unset).toArray = ls at hl ⊢
  have hl : lv_has ls 7 [(0, .ref (q 0)), (1, .int (nI x))] := hl
  refine lv_aload_n hx hb dL_function_0 rfl (lv_at hl 0 rfl) ?_
  refine lv_iload_n hx hb dL_function_1 rfl (lv_at hl 1 rfl) ?_
  have hPc := hP.sub (ws' := (wB q cq T R S X M P n h k w f d v z)) [0, 1, 2, 3, 4, 5, 6, 7] rfl
  have hKc := hK.sub (tys' := (tyB cq)) [0, 1, 2, 3, 4, 5] rfl
  refine vp_callSi (va_Run.run (va_runV (As := [.int (nI x)]) (rest := []) ⟨hx, hb, hml, hown, hts⟩ (c_X1_tableOf l D q cq T R S X M P n h k w f d v z x (by omega)) (cwV 1 hts gL_function_X1_tableOf rfl rfl rfl (by decide +kernel) ⟨Nat.le_of_ble_eq_true rfl, Nat.le_of_ble_eq_true rfl⟩) ⟨fun a U g mk z => ⟨z.1, z.2.1, va_K.moved (u := U) (U := U.calling g mk a) (Vm.Alike.refl U.vm) z.2.2.1, z.2.2.2.blind g mk a⟩, va_recv hKc hPc (ci := 1) (q0 := 0) rfl rfl, fun U hU hW => ⟨rfl, by rw [hU]; exact hPc, va_K.moved hW.alike hKc, hE.at0 hS hU hW⟩⟩ rfl rfl hl.1 rfl (lv_room (Nat.le_of_ble_eq_true rfl)) dL_function_2 ⟨(Nat.zero_le _), (Nat.zero_le _)⟩)) (fun r9 hr => ?_)
  subst r9
  refine lv_istore_n (lv' := [(2, .int (fX1_tableOf T x)), (0, .ref (q 0)), (1, .int (nI x))]) hx hb dL_function_5 rfl hl (by decide) rfl (fun ls hl => ?_)
  refine lv_aload_n hx hb dL_function_6 rfl (lv_at hl 1 rfl) ?_
  refine lv_iload_n hx hb dL_function_7 rfl (lv_at hl 2 rfl) ?_
  have hPc := hP.sub (ws' := (wB q cq T R S X M P n h k w f d v z)) [0, 1, 2, 3, 4, 5, 6, 7] rfl
  have hKc := hK.sub (tys' := (tyB cq)) [0, 1, 2, 3, 4, 5] rfl
  refine vp_callSi (va_Run.run (va_runV (As := [.int (nI x)]) (rest := []) ⟨hx, hb, hml, hown, hts⟩ (c_X1_productsByHalves l D q cq T R S X M P n h k w f d v z x (by omega)) (cwV 1 hts gL_function_X1_productsByHalves rfl rfl rfl (by decide +kernel) ⟨Nat.le_of_ble_eq_true rfl, Nat.le_of_ble_eq_true rfl⟩) ⟨fun a U g mk z => ⟨z.1, z.2.1, va_K.moved (u := U) (U := U.calling g mk a) (Vm.Alike.refl U.vm) z.2.2.1, z.2.2.2.blind g mk a⟩, va_recv hKc hPc (ci := 1) (q0 := 0) rfl rfl, fun U hU hW => ⟨rfl, by rw [hU]; exact hPc, va_K.moved hW.alike hKc, hE.at0 hS hU hW⟩⟩ rfl rfl hl.1 rfl (lv_room (Nat.le_of_ble_eq_true rfl)) dL_function_8 ⟨(Nat.zero_le _), (Nat.zero_le _)⟩)) (fun r9 hr => ?_)
  subst r9
  refine lv_istore_n (lv' := [(3, .int (fX1_productsByHalves T x)), (2, .int (fX1_tableOf T x)), (0, .ref (q 0)), (1, .int (nI x))]) hx hb dL_function_11 rfl hl (by decide) rfl (fun ls hl => ?_)
  refine lv_iload_n hx hb dL_function_12 rfl (lv_at hl 1 rfl) ?_
  refine lv_if_lt (tgt := 91) hx hb dL_function_13 (by decide) (fun c_1 => ?_) (fun c_1 => ?_)
  · exact absurd c_1 (tb_pos (hT9 x hx6))
  · refine lv_iload_n hx hb dL_function_16 rfl (lv_at hl 1 rfl) ?_
    refine lv_ldc (v := 65535) hx hb hown (hts (.constant RL 33 (65535)) (List.mem_of_getElem? (i := 1) rfl)) dL_function_17 ?_
    refine lv_icmp_gt (tgt := 91) hx hb dL_function_19 (by decide) (fun c_2 => ?_) (fun c_2 => ?_)
    · exact absurd c_2 (tb_le (hT9 x hx6))
    · refine lv_iload_n hx hb dL_function_22 rfl (lv_at hl 0 rfl) ?_
      refine vp_callSi (va_Run.run (va_runS (As := [.int (fX1_productsByHalves T x)]) (rest := []) ⟨hx, hb, hml, hown, hts⟩ (c_L_summed l (fX1_productsByHalves T x)) (va_cwS 1 hts gL_function_L_summed rfl rfl rfl (by decide +kernel) ⟨Nat.le_of_ble_eq_true rfl, Nat.le_of_ble_eq_true rfl⟩) ⟨fun _ _ _ _ z => z, fun _ _ _ => ⟨rfl, trivial⟩⟩ rfl rfl hl.1 rfl (lv_room (Nat.le_of_ble_eq_true rfl)) dL_function_23 ⟨(Nat.zero_le _), (Nat.zero_le _)⟩)) (fun r9 hr => ?_)
      subst r9
      refine lv_iload_n hx hb dL_function_26 rfl (lv_at hl 1 rfl) ?_
      refine lv_icmp_ne (tgt := 91) hx hb dL_function_27 (by decide) (fun c_3 => ?_) (fun c_3 => ?_)
      · exact absurd (summed_ok (hT9 x hx6)) c_3
      · refine lv_aload_n hx hb dL_function_30 rfl (lv_at hl 2 rfl) ?_
        refine lv_iload_n hx hb dL_function_31 rfl (lv_at hl 3 rfl) ?_
        have hPc := hP.sub (ws' := (wB q cq T R S X M P n h k w f d v z)) [0, 1, 2, 3, 4, 5, 6, 7] rfl
        have hKc := hK.sub (tys' := (tyB cq)) [0, 1, 2, 3, 4, 5] rfl
        refine vp_callSi (va_Run.run (va_runV (As := [.int (nI x)]) (rest := []) ⟨hx, hb, hml, hown, hts⟩ (c_X1_productsBySums l D q cq T R S X M P n h k w f d v z x (by omega)) (cwV 1 hts gL_function_X1_productsBySums rfl rfl rfl (by decide +kernel) ⟨Nat.le_of_ble_eq_true rfl, Nat.le_of_ble_eq_true rfl⟩) ⟨fun a U g mk z => ⟨z.1, z.2.1, va_K.moved (u := U) (U := U.calling g mk a) (Vm.Alike.refl U.vm) z.2.2.1, z.2.2.2.blind g mk a⟩, va_recv hKc hPc (ci := 1) (q0 := 0) rfl rfl, fun U hU hW => ⟨rfl, by rw [hU]; exact hPc, va_K.moved hW.alike hKc, hE.at0 hS hU hW⟩⟩ rfl rfl hl.1 rfl (lv_room (Nat.le_of_ble_eq_true rfl)) dL_function_32 ⟨(Nat.zero_le _), (Nat.zero_le _)⟩)) (fun r9 hr => ?_)
        subst r9
        refine lv_iload_n hx hb dL_function_35 rfl (lv_at hl 0 rfl) ?_
        refine lv_icmp_ne (tgt := 91) hx hb dL_function_36 (by decide) (fun c_4 => ?_) (fun c_4 => ?_)
        · exact absurd (bySums_ok T x (hT9 x hx6)) c_4
        · refine lv_aload_n hx hb dL_function_39 rfl (lv_at hl 2 rfl) ?_
          refine lv_iload_n hx hb dL_function_40 rfl (lv_at hl 3 rfl) ?_
          have hPc := hP.sub (ws' := (wB q cq T R S X M P n h k w f d v z)) [0, 1, 2, 3, 4, 5, 6, 7] rfl
          have hKc := hK.sub (tys' := (tyB cq)) [0, 1, 2, 3, 4, 5] rfl
          refine vp_callSi (va_Run.run (va_runV (As := [.int (nI x)]) (rest := []) ⟨hx, hb, hml, hown, hts⟩ (c_X1_degreeOf l D q cq T R S X M P n h k w f d v z x (by omega)) (cwV 1 hts gL_function_X1_degreeOf rfl rfl rfl (by decide +kernel) ⟨Nat.le_of_ble_eq_true rfl, Nat.le_of_ble_eq_true rfl⟩) ⟨fun a U g mk z => ⟨z.1, z.2.1, va_K.moved (u := U) (U := U.calling g mk a) (Vm.Alike.refl U.vm) z.2.2.1, z.2.2.2.blind g mk a⟩, va_recv hKc hPc (ci := 1) (q0 := 0) rfl rfl, fun U hU hW => ⟨rfl, by rw [hU]; exact hPc, va_K.moved hW.alike hKc, hE.at0 hS hU hW⟩⟩ rfl rfl hl.1 rfl (lv_room (Nat.le_of_ble_eq_true rfl)) dL_function_41 ⟨(Nat.zero_le _), (Nat.zero_le _)⟩)) (fun r9 hr => ?_)
          subst r9
          refine lv_iload_n hx hb dL_function_44 rfl (lv_at hl 0 rfl) ?_
          refine vp_callSi (va_Run.run (va_runS (As := [.int (fX1_productsByHalves T x)]) (rest := [.int (fX1_degreeOf T x)]) ⟨hx, hb, hml, hown, hts⟩ (c_L_degree l (fX1_productsByHalves T x)) (va_cwS 1 hts gL_function_L_degree rfl rfl rfl (by decide +kernel) ⟨Nat.le_of_ble_eq_true rfl, Nat.le_of_ble_eq_true rfl⟩) ⟨fun _ _ _ _ z => z, fun _ _ _ => ⟨rfl, trivial⟩⟩ rfl rfl hl.1 rfl (lv_room (Nat.le_of_ble_eq_true rfl)) dL_function_45 ⟨(Nat.zero_le _), (Nat.zero_le _)⟩)) (fun r9 hr => ?_)
          subst r9
          refine lv_icmp_ne (tgt := 91) hx hb dL_function_48 (by decide) (fun c_5 => ?_) (fun c_5 => ?_)
          · exact absurd (degree_ok (hT9 x hx6)) c_5
          · refine lv_aload_n hx hb dL_function_51 rfl (lv_at hl 2 rfl) ?_
            refine lv_iload_n hx hb dL_function_52 rfl (lv_at hl 3 rfl) ?_
            have hPc := hP.sub (ws' := (wB q cq T R S X M P n h k w f d v z)) [0, 1, 2, 3, 4, 5, 6, 7] rfl
            have hKc := hK.sub (tys' := (tyB cq)) [0, 1, 2, 3, 4, 5] rfl
            refine vp_callSi (va_Run.run (va_runV (As := [.int (nI x)]) (rest := []) ⟨hx, hb, hml, hown, hts⟩ (c_X1_weightOf l D q cq T R S X M P n h k w f d v z x (by omega)) (cwV 1 hts gL_function_X1_weightOf rfl rfl rfl (by decide +kernel) ⟨Nat.le_of_ble_eq_true rfl, Nat.le_of_ble_eq_true rfl⟩) ⟨fun a U g mk z => ⟨z.1, z.2.1, va_K.moved (u := U) (U := U.calling g mk a) (Vm.Alike.refl U.vm) z.2.2.1, z.2.2.2.blind g mk a⟩, va_recv hKc hPc (ci := 1) (q0 := 0) rfl rfl, fun U hU hW => ⟨rfl, by rw [hU]; exact hPc, va_K.moved hW.alike hKc, hE.at0 hS hU hW⟩⟩ rfl rfl hl.1 rfl (lv_room (Nat.le_of_ble_eq_true rfl)) dL_function_53 ⟨(Nat.zero_le _), (Nat.zero_le _)⟩)) (fun r9 hr => ?_)
            subst r9
            refine lv_iload_n hx hb dL_function_56 rfl (lv_at hl 1 rfl) ?_
            refine vp_callSi (va_Run.run (va_runS (As := [.int (fX1_tableOf T x)]) (rest := [.int (fX1_weightOf T x)]) ⟨hx, hb, hml, hown, hts⟩ (c_L_bits l (fX1_tableOf T x)) (va_cwS 1 hts gL_function_L_bits rfl rfl rfl (by decide +kernel) ⟨Nat.le_of_ble_eq_true rfl, Nat.le_of_ble_eq_true rfl⟩) ⟨fun _ _ _ _ z => z, fun _ _ _ => ⟨rfl, trivial⟩⟩ rfl rfl hl.1 rfl (lv_room (Nat.le_of_ble_eq_true rfl)) dL_function_57 ⟨(Nat.zero_le _), (Nat.zero_le _)⟩)) (fun r9 hr => ?_)
            subst r9
            refine lv_icmp_ne (tgt := 91) hx hb dL_function_60 (by decide) (fun c_6 => ?_) (fun c_6 => ?_)
            · exact absurd (weight_ok (hT9 x hx6)) c_6
            · refine lv_aload_n hx hb dL_function_63 rfl (lv_at hl 2 rfl) ?_
              refine lv_iload_n hx hb dL_function_64 rfl (lv_at hl 3 rfl) ?_
              have hPc := hP.sub (ws' := (wB q cq T R S X M P n h k w f d v z)) [0, 1, 2, 3, 4, 5, 6, 7] rfl
              have hKc := hK.sub (tys' := (tyB cq)) [0, 1, 2, 3, 4, 5] rfl
              refine vp_callSi (va_Run.run (va_runV (As := [.int (nI x)]) (rest := []) ⟨hx, hb, hml, hown, hts⟩ (c_X1_isSelfDual l D q cq T R S X M P n h k w f d v z x (by omega)) (cwV 1 hts gL_function_X1_isSelfDual rfl rfl rfl (by decide +kernel) ⟨Nat.le_of_ble_eq_true rfl, Nat.le_of_ble_eq_true rfl⟩) ⟨fun a U g mk z => ⟨z.1, z.2.1, va_K.moved (u := U) (U := U.calling g mk a) (Vm.Alike.refl U.vm) z.2.2.1, z.2.2.2.blind g mk a⟩, va_recv hKc hPc (ci := 1) (q0 := 0) rfl rfl, fun U hU hW => ⟨rfl, by rw [hU]; exact hPc, va_K.moved hW.alike hKc, hE.at0 hS hU hW⟩⟩ rfl rfl hl.1 rfl (lv_room (Nat.le_of_ble_eq_true rfl)) dL_function_65 ⟨(Nat.zero_le _), (Nat.zero_le _)⟩)) (fun r9 hr => ?_)
              subst r9
              refine lv_iload_n hx hb dL_function_68 rfl (lv_at hl 1 rfl) ?_
              refine vp_callSi (va_Run.run (va_runS (As := [.int (fX1_tableOf T x)]) (rest := [.int (fX1_isSelfDual T x)]) ⟨hx, hb, hml, hown, hts⟩ (c_L_selfDual l (fX1_tableOf T x)) (va_cwS 1 hts gL_function_L_selfDual rfl rfl rfl (by decide +kernel) ⟨Nat.le_of_ble_eq_true rfl, Nat.le_of_ble_eq_true rfl⟩) ⟨fun _ _ _ _ z => z, fun _ _ _ => ⟨rfl, trivial⟩⟩ rfl rfl hl.1 rfl (lv_room (Nat.le_of_ble_eq_true rfl)) dL_function_69 ⟨(Nat.zero_le _), (Nat.zero_le _)⟩)) (fun r9 hr => ?_)
              subst r9
              refine lv_icmp_ne (tgt := 91) hx hb dL_function_72 (by decide) (fun c_7 => ?_) (fun c_7 => ?_)
              · exact absurd (selfDual_ok _) c_7
              · refine lv_aload_n hx hb dL_function_75 rfl (lv_at hl 2 rfl) ?_
                refine lv_iload_n hx hb dL_function_76 rfl (lv_at hl 3 rfl) ?_
                have hPc := hP.sub (ws' := (wB q cq T R S X M P n h k w f d v z)) [0, 1, 2, 3, 4, 5, 6, 7] rfl
                have hKc := hK.sub (tys' := (tyB cq)) [0, 1, 2, 3, 4, 5] rfl
                refine vp_callSi (va_Run.run (va_runV (As := [.int (nI x)]) (rest := []) ⟨hx, hb, hml, hown, hts⟩ (c_X1_isMonotone l D q cq T R S X M P n h k w f d v z x (by omega)) (cwV 1 hts gL_function_X1_isMonotone rfl rfl rfl (by decide +kernel) ⟨Nat.le_of_ble_eq_true rfl, Nat.le_of_ble_eq_true rfl⟩) ⟨fun a U g mk z => ⟨z.1, z.2.1, va_K.moved (u := U) (U := U.calling g mk a) (Vm.Alike.refl U.vm) z.2.2.1, z.2.2.2.blind g mk a⟩, va_recv hKc hPc (ci := 1) (q0 := 0) rfl rfl, fun U hU hW => ⟨rfl, by rw [hU]; exact hPc, va_K.moved hW.alike hKc, hE.at0 hS hU hW⟩⟩ rfl rfl hl.1 rfl (lv_room (Nat.le_of_ble_eq_true rfl)) dL_function_77 ⟨(Nat.zero_le _), (Nat.zero_le _)⟩)) (fun r9 hr => ?_)
                subst r9
                refine lv_iload_n hx hb dL_function_80 rfl (lv_at hl 1 rfl) ?_
                refine vp_callSi (va_Run.run (va_runS (As := [.int (fX1_tableOf T x)]) (rest := [.int (fX1_isMonotone T x)]) ⟨hx, hb, hml, hown, hts⟩ (c_L_monotone l (fX1_tableOf T x)) (va_cwS 1 hts gL_function_L_monotone rfl rfl rfl (by decide +kernel) ⟨Nat.le_of_ble_eq_true rfl, Nat.le_of_ble_eq_true rfl⟩) ⟨fun _ _ _ _ z => z, fun _ _ _ => ⟨rfl, trivial⟩⟩ rfl rfl hl.1 rfl (lv_room (Nat.le_of_ble_eq_true rfl)) dL_function_81 ⟨(Nat.zero_le _), (Nat.zero_le _)⟩)) (fun r9 hr => ?_)
                subst r9
                refine lv_icmp_ne (tgt := 91) hx hb dL_function_84 (by decide) (fun c_8 => ?_) (fun c_8 => ?_)
                · exact absurd (monotone_ok (hT9 x hx6)) c_8
                · refine lv_iconst (v := 1) hx hb dL_function_87 (by decide) ?_
                  refine lv_goto (tgt := 92) hx hb dL_function_88 (by decide) ?_
                  refine lv_istore (lv' := [(4, .int 1), (3, .int (fX1_productsByHalves T x)), (2, .int (fX1_tableOf T x)), (0, .ref (q 0)), (1, .int (nI x))]) hx hb dL_function_92 hl (by decide) rfl (fun ls hl => ?_)
                  refine lv_iconst (v := 0) hx hb dL_function_94 (by decide) ?_
                  refine lv_istore (lv' := [(5, .int 0), (4, .int 1), (3, .int (fX1_productsByHalves T x)), (2, .int (fX1_tableOf T x)), (0, .ref (q 0)), (1, .int (nI x))]) hx hb dL_function_95 hl (by decide) rfl (fun ls hl => ?_)
                  obtain ⟨F1, hF1⟩ : ∃ z9, z9 = (lp sL_function_97 16 0 ()) := ⟨_, rfl⟩
                  refine vz_cut (fun H1 l1 g1 => ∃ (n1 i1 : Nat) (a1 : Unit) (ls : Array Slot), i1 + n1 = 16 ∧ lp sL_function_97 n1 i1 a1 = F1 ∧ lv_has ls 7 [(5, .int (nI i1)), (4, .int 1), (3, .int (fX1_productsByHalves T x)), (2, .int (fX1_tableOf T x)), (0, .ref (q 0)), (1, .int (nI x))] ∧ (s.heap = H1 ∧ [] = l1) ∧ g1 = F0 m 97 ls []) (fun hj => hj _ _ _ ⟨16, 0, (), ls, (by omega), hF1.symm, lv_sub hl [0, 1, 2, 3, 4, 5] rfl, ⟨rfl, rfl⟩, rfl⟩) ?_
                  rintro H1 l1 g1 ⟨n1, i1, a1, ls, hi1, hf1, hl, ⟨rfl, rfl⟩, rfl⟩
                  revert i1 a1 ls
                  induction n1 with
                  | zero =>
                    intro i1 a1 ls hi1 hf1 hl
                    obtain rfl : 16 = i1 := by omega
                    have hf1 : F1 = a1 := hf1.symm
                    subst hf1
                    refine lv_iload hx hb dL_function_97 (lv_at hl 0 rfl) ?_
                    refine lv_bipush (v := 16) hx hb dL_function_99 (by decide) ?_
                    refine lv_icmp_ge (tgt := 138) hx hb dL_function_101 (by decide) (fun c_9 => ?_) (fun c_9 => ?_)
                    · refine lv_iconst (v := 0) hx hb dL_function_138 (by decide) ?_
                      refine lv_istore (lv' := [(5, .int 0), (4, .int 1), (3, .int (fX1_productsByHalves T x)), (2, .int (fX1_tableOf T x)), (0, .ref (q 0)), (1, .int (nI x))]) hx hb dL_function_139 hl (by decide) rfl (fun ls hl => ?_)
                      obtain ⟨F2, hF2⟩ : ∃ z9, z9 = (lp sL_function_141 4 0 ()) := ⟨_, rfl⟩
                      refine vz_cut (fun H1 l1 g1 => ∃ (n2 i2 : Nat) (a2 : Unit) (ls : Array Slot), i2 + n2 = 4 ∧ lp sL_function_141 n2 i2 a2 = F2 ∧ lv_has ls 7 [(5, .int (nI i2)), (4, .int 1), (3, .int (fX1_productsByHalves T x)), (2, .int (fX1_tableOf T x)), (0, .ref (q 0)), (1, .int (nI x))] ∧ (s.heap = H1 ∧ [] = l1) ∧ g1 = F0 m 141 ls []) (fun hj => hj _ _ _ ⟨4, 0, (), ls, (by omega), hF2.symm, lv_sub hl [0, 1, 2, 3, 4, 5] rfl, ⟨rfl, rfl⟩, rfl⟩) ?_
                      rintro H1 l1 g1 ⟨n2, i2, a2, ls, hi2, hf2, hl, ⟨rfl, rfl⟩, rfl⟩
                      revert i2 a2 ls
                      induction n2 with
                      | zero =>
                        intro i2 a2 ls hi2 hf2 hl
                        obtain rfl : 4 = i2 := by omega
                        have hf2 : F2 = a2 := hf2.symm
                        subst hf2
                        refine lv_iload hx hb dL_function_141 (lv_at hl 0 rfl) ?_
                        refine lv_iconst (v := 4) hx hb dL_function_143 (by decide) ?_
                        refine lv_icmp_ge (tgt := 211) hx hb dL_function_144 (by decide) (fun c_10 => ?_) (fun c_10 => ?_)
                        · refine lv_iload_n hx hb dL_function_211 rfl (lv_at hl 3 rfl) ?_
                          refine vp_callSi (va_Run.run (va_runS (As := [.int (fX1_tableOf T x)]) (rest := []) ⟨hx, hb, hml, hown, hts⟩ (c_L_distance l (fX1_tableOf T x)) (va_cwS 1 hts gL_function_L_distance rfl rfl rfl (by decide +kernel) ⟨Nat.le_of_ble_eq_true rfl, Nat.le_of_ble_eq_true rfl⟩) ⟨fun _ _ _ _ z => z, fun _ _ _ => ⟨rfl, trivial⟩⟩ rfl rfl hl.1 rfl (lv_room (Nat.le_of_ble_eq_true rfl)) dL_function_212 ⟨(Nat.zero_le _), (Nat.zero_le _)⟩)) (fun r9 hr => ?_)
                          subst r9
                          refine lv_istore (lv' := [(5, .int (fL_distance (fX1_tableOf T x))), (4, .int 1), (3, .int (fX1_productsByHalves T x)), (2, .int (fX1_tableOf T x)), (0, .ref (q 0)), (1, .int (nI x))]) hx hb dL_function_215 hl (by decide) rfl (fun ls hl => ?_)
                          refine lv_iload hx hb dL_function_217 (lv_at hl 1 rfl) ?_
                          refine lv_if_eq (tgt := 279) hx hb dL_function_219 (by decide) (fun c_11 => ?_) (fun c_11 => ?_)
                          · exact absurd c_11 (by decide)
                          · refine lv_aload_n hx hb dL_function_222 rfl (lv_at hl 4 rfl) ?_
                            refine lv_iload_n hx hb dL_function_223 rfl (lv_at hl 5 rfl) ?_
                            have hPc := hP.sub (ws' := (wB q cq T R S X M P n h k w f d v z)) [0, 1, 2, 3, 4, 5, 6, 7] rfl
                            have hKc := hK.sub (tys' := (tyB cq)) [0, 1, 2, 3, 4, 5] rfl
                            refine vp_callSi (va_Run.run (va_runV (As := [.int (nI x)]) (rest := []) ⟨hx, hb, hml, hown, hts⟩ (c_X1_distanceByTrying l D q cq T R S X M P n h k w f d v z x (by omega)) (cwV 1 hts gL_function_X1_distanceByTrying rfl rfl rfl (by decide +kernel) ⟨Nat.le_of_ble_eq_true rfl, Nat.le_of_ble_eq_true rfl⟩) ⟨fun a U g mk z => ⟨z.1, z.2.1, va_K.moved (u := U) (U := U.calling g mk a) (Vm.Alike.refl U.vm) z.2.2.1, z.2.2.2.blind g mk a⟩, va_recv hKc hPc (ci := 1) (q0 := 0) rfl rfl, fun U hU hW => ⟨rfl, by rw [hU]; exact hPc, va_K.moved hW.alike hKc, hE.at0 hS hU hW⟩⟩ rfl rfl hl.1 rfl (lv_room (Nat.le_of_ble_eq_true rfl)) dL_function_224 ⟨(Nat.zero_le _), (Nat.zero_le _)⟩)) (fun r9 hr => ?_)
                            subst r9
                            refine lv_iload hx hb dL_function_227 (lv_at hl 0 rfl) ?_
                            refine lv_icmp_ne (tgt := 279) hx hb dL_function_229 (by decide) (fun c_12 => ?_) (fun c_12 => ?_)
                            · exact absurd (trying_ok T x (hT9 x hx6)) c_12
                            · refine lv_aload_n hx hb dL_function_232 rfl (lv_at hl 4 rfl) ?_
                              refine lv_iload_n hx hb dL_function_233 rfl (lv_at hl 5 rfl) ?_
                              have hPc := hP.sub (ws' := (wB q cq T R S X M P n h k w f d v z)) [0, 1, 2, 3, 4, 5, 6, 7] rfl
                              have hKc := hK.sub (tys' := (tyB cq)) [0, 1, 2, 3, 4, 5] rfl
                              have hDc := hD.sub (ws' := (wB q cq T R S X M P n h k w f d v z)) [0, 1, 2, 3, 4, 5, 6, 7] (by decide) rfl
                              have hFc := va_free (wc := (wB q cq T R S X M P n h k w f d v z)) hD hS hA [0, 1, 2, 3, 4, 5, 6, 7] rfl
                              refine va_calli (va_runV (As := [.int (nI x)]) (rest := []) ⟨hx, hb, hml, hown, hts⟩ (c_X1_distanceBySums l D q cq s.heap.size T R S X M P n h k w f d v z x (by omega)) (cwV 1 hts gL_function_X1_distanceBySums rfl rfl rfl (by decide +kernel) ⟨Nat.le_of_ble_eq_true rfl, Nat.le_of_ble_eq_true rfl⟩) ⟨fun a U g mk z => ⟨z.1, z.2.1, z.2.2.1, va_K.moved (u := U) (U := U.calling g mk a) (Vm.Alike.refl U.vm) z.2.2.2.1, z.2.2.2.2.1, z.2.2.2.2.2.blind g mk a⟩, va_recv hKc hPc (ci := 1) (q0 := 0) rfl rfl, fun U hU hW => ⟨rfl, by rw [hU], by rw [hU]; exact hPc, va_K.moved hW.alike hKc, hDc.weaken (fun _ _ _ _ => trivial), hE.at hS hU hW hFc⟩⟩ rfl rfl hl.1 rfl (lv_room (Nat.le_of_ble_eq_true rfl)) dL_function_234 ⟨(Nat.zero_le _), (Nat.zero_le _)⟩) hS (fun q _ h => hFc q h) hFc (fun r9 u9 t8 H1 locs ht hvm hw hB hz1 hk1 hS => ?_)
                              obtain ⟨hP1, hD1⟩ := hB
                              rw [ht] at hP1
                              obtain ⟨hP, hD⟩ := va_join (wr := []) (w1 := (wB q cq T R S X ((fX1_distanceBySums T M x).2) P n h k w f d v z)) hP hD [0, 1, 2, 3, 4, 5, 6, 7] [] rfl rfl (by decide) (by decide) hk1 hFc hP1 hD1
                              have hP := hP.sub (ws' := (wB q cq T R S X ((fX1_distanceBySums T M x).2) P n h k w f d v z)) [0, 1, 2, 3, 4, 5, 6, 7] rfl
                              have hD := hD.sub (ws' := (wB q cq T R S X ((fX1_distanceBySums T M x).2) P n h k w f d v z)) [0, 1, 2, 3, 4, 5, 6, 7] (by decide) rfl
                              generalize H1 = H at hP hS ⊢
                              subst r9
                              refine lv_iload hx hb dL_function_237 (lv_at hl 0 rfl) ?_
                              refine lv_icmp_ne (tgt := 279) hx hb dL_function_239 (by decide) (fun c_13 => ?_) (fun c_13 => ?_)
                              · exact absurd (sums_ok T _ x (hT9 x hx6)) c_13
                              · refine lv_iload hx hb dL_function_242 (lv_at hl 0 rfl) ?_
                                refine lv_bipush (v := 6) hx hb dL_function_244 (by decide) ?_
                                refine lv_icmp_gt (tgt := 279) hx hb dL_function_246 (by decide) (fun c_14 => ?_) (fun c_14 => ?_)
                                · exact absurd c_14 (distance_6 (hT9 x hx6))
                                · refine lv_iload hx hb dL_function_249 (lv_at hl 0 rfl) ?_
                                  refine vz_cut (fun H1 l1 g1 => ∃ (x1_0 : Int32) (ls : Array Slot), x1_0 = (if (fL_distance (fX1_tableOf T x)) = 0 then 1 else 0 : Int32) ∧ lv_has ls 7 [(5, .int (fL_distance (fX1_tableOf T x))), (4, .int 1), (3, .int (fX1_productsByHalves T x)), (2, .int (fX1_tableOf T x)), (0, .ref (q 0)), (1, .int (nI x))] ∧ (H = H1 ∧ locs = l1) ∧ g1 = F0 m 259 ls [.int x1_0]) (fun hj1 => ?_) ?_
                                  · refine lv_if_ne (tgt := 258) hx hb dL_function_251 (by decide) (fun c_15 => ?_) (fun c_15 => ?_)
                                    · refine lv_iconst (v := 0) hx hb dL_function_258 (by decide) ?_
                                      exact hj1 _ _ _ ⟨0, ls, (by (rw [if_neg c_15]); first | done | rfl), lv_sub hl [0, 1, 2, 3, 4, 5] rfl, ⟨rfl, rfl⟩, rfl⟩
                                    · refine lv_iconst (v := 1) hx hb dL_function_254 (by decide) ?_
                                      refine lv_goto (tgt := 259) hx hb dL_function_255 (by decide) ?_
                                      exact hj1 _ _ _ ⟨1, ls, (by (rw [if_pos c_15]); first | done | rfl), lv_sub hl [0, 1, 2, 3, 4, 5] rfl, ⟨rfl, rfl⟩, rfl⟩
                                  rintro H1 l1 g1 ⟨x1_0, ls, ex1_0, hl, ⟨rfl, rfl⟩, rfl⟩
                                  subst x1_0
                                  refine lv_iload_n hx hb dL_function_259 rfl (lv_at hl 2 rfl) ?_
                                  refine vp_callSi (va_Run.run (va_runS (As := [.int (fX1_productsByHalves T x)]) (rest := [.int (if (fL_distance (fX1_tableOf T x)) = 0 then 1 else 0 : Int32)]) ⟨hx, hb, hml, hown, hts⟩ (c_L_degree l (fX1_productsByHalves T x)) (va_cwS 1 hts gL_function_L_degree rfl rfl rfl (by decide +kernel) ⟨Nat.le_of_ble_eq_true rfl, Nat.le_of_ble_eq_true rfl⟩) ⟨fun _ _ _ _ z => z, fun _ _ _ => ⟨rfl, trivial⟩⟩ rfl rfl hl.1 rfl (lv_room (Nat.le_of_ble_eq_true rfl)) dL_function_260 ⟨(Nat.zero_le _), (Nat.zero_le _)⟩)) (fun r9 hr => ?_)
                                  subst r9
                                  refine lv_iconst (v := 2) hx hb dL_function_263 (by decide) ?_
                                  refine vz_cut (fun H1 l1 g1 => ∃ (x2_0 : Int32) (ls : Array Slot), x2_0 = (if 2 ≤ (fL_degree (fX1_productsByHalves T x)) then 0 else 1 : Int32) ∧ lv_has ls 7 [(5, .int (fL_distance (fX1_tableOf T x))), (4, .int 1), (3, .int (fX1_productsByHalves T x)), (2, .int (fX1_tableOf T x)), (0, .ref (q 0)), (1, .int (nI x))] ∧ (H = H1 ∧ locs = l1) ∧ g1 = F0 m 272 ls [.int x2_0, .int (if (fL_distance (fX1_tableOf T x)) = 0 then 1 else 0 : Int32)]) (fun hj2 => ?_) ?_
                                  · refine lv_icmp_ge (tgt := 271) hx hb dL_function_264 (by decide) (fun c_16 => ?_) (fun c_16 => ?_)
                                    · refine lv_iconst (v := 0) hx hb dL_function_271 (by decide) ?_
                                      exact hj2 _ _ _ ⟨0, ls, (by (rw [if_pos c_16]); first | done | rfl), lv_sub hl [0, 1, 2, 3, 4, 5] rfl, ⟨rfl, rfl⟩, rfl⟩
                                    · refine lv_iconst (v := 1) hx hb dL_function_267 (by decide) ?_
                                      refine lv_goto (tgt := 272) hx hb dL_function_268 (by decide) ?_
                                      exact hj2 _ _ _ ⟨1, ls, (by (rw [if_neg c_16]); first | done | rfl), lv_sub hl [0, 1, 2, 3, 4, 5] rfl, ⟨rfl, rfl⟩, rfl⟩
                                  rintro H1 l1 g1 ⟨x2_0, ls, ex2_0, hl, ⟨rfl, rfl⟩, rfl⟩
                                  subst x2_0
                                  refine lv_icmp_ne (tgt := 279) hx hb dL_function_272 (by decide) (fun c_17 => ?_) (fun c_17 => ?_)
                                  · exact absurd (distance_0 (hT9 x hx6)) c_17
                                  · refine lv_iconst (v := 1) hx hb dL_function_275 (by decide) ?_
                                    refine lv_goto (tgt := 280) hx hb dL_function_276 (by decide) ?_
                                    have hq : (fL_function T M x) = (1, (fX1_distanceBySums T M x).2) := Eq.symm (by first | ((rw [fL_function]); (try rw [← hF1]); (try rw [← hF2]); first | done | rfl) | rfl)
                                    exact W.zret (v := 1) hx hb hr rfl (fun t9 ht hW => ⟨⟨1, (), rfl, by rw [hq], by rw [hq]; exact ⟨by rw [ht]; exact hP, hD⟩⟩, hS.F ht⟩) hS.2.2 dL_function_280
                        · exact absurd (nI_le (a := 4) (b := 4) (by omega) (by omega)) c_10
                      | succ n2 ih2 =>
                        intro i2 a2 ls hi2 hf2 hl
                        refine lv_iload hx hb dL_function_141 (lv_at hl 0 rfl) ?_
                        refine lv_iconst (v := 4) hx hb dL_function_143 (by decide) ?_
                        refine lv_icmp_ge (tgt := 211) hx hb dL_function_144 (by decide) (fun c_18 => ?_) (fun c_18 => ?_)
                        · exact absurd c_18 (nI_ge (a := i2) (b := 4) (by omega) (by omega))
                        · refine lv_iload hx hb dL_function_147 (lv_at hl 1 rfl) ?_
                          refine lv_if_eq (tgt := 211) hx hb dL_function_149 (by decide) (fun c_19 => ?_) (fun c_19 => ?_)
                          · exact absurd c_19 (by decide)
                          · refine lv_iload_n hx hb dL_function_152 rfl (lv_at hl 3 rfl) ?_
                            refine lv_iload hx hb dL_function_153 (lv_at hl 0 rfl) ?_
                            refine vp_callSi (va_Run.run (va_runS (As := [.int (nI i2)]) (rest := [.int (fX1_tableOf T x)]) ⟨hx, hb, hml, hown, hts⟩ (cv_L_variable l i2 (by omega)) (va_cwS 1 hts gL_function_L_variable rfl rfl rfl (by decide +kernel) ⟨Nat.le_of_ble_eq_true rfl, Nat.le_of_ble_eq_true rfl⟩) ⟨fun _ _ _ _ z => z, fun _ _ _ => ⟨rfl, trivial⟩⟩ rfl rfl hl.1 rfl (lv_room (Nat.le_of_ble_eq_true rfl)) dL_function_155 ⟨(Nat.zero_le _), (Nat.zero_le _)⟩)) (fun r9 hr => ?_)
                            subst r9
                            refine lv_iconst (v := (-1)) hx hb dL_function_158 (by decide) ?_
                            refine lv_ixor hx hb dL_function_159 ?_
                            refine lv_iand hx hb dL_function_160 ?_
                            refine lv_ldc (v := 65535) hx hb hown (hts (.constant RL 33 (65535)) (List.mem_of_getElem? (i := 1) rfl)) dL_function_161 ?_
                            refine lv_iand hx hb dL_function_163 ?_
                            refine lv_istore (lv' := [(6, .int (((fX1_tableOf T x) &&& ((VT i2) ^^^ (-1))) &&& 65535)), (5, .int (nI i2)), (4, .int 1), (3, .int (fX1_productsByHalves T x)), (2, .int (fX1_tableOf T x)), (0, .ref (q 0)), (1, .int (nI x))]) hx hb dL_function_164 hl (by decide) rfl (fun ls hl => ?_)
                            refine lv_aload_n hx hb dL_function_166 rfl (lv_at hl 5 rfl) ?_
                            refine lv_iload_n hx hb dL_function_167 rfl (lv_at hl 6 rfl) ?_
                            refine lv_iload hx hb dL_function_168 (lv_at hl 1 rfl) ?_
                            have hPc := hP.sub (ws' := (wB q cq T R S X M P n h k w f d v z)) [0, 1, 2, 3, 4, 5, 6, 7] rfl
                            have hKc := hK.sub (tys' := (tyB cq)) [0, 1, 2, 3, 4, 5] rfl
                            refine vp_callSi (va_Run.run (va_runV (As := [.int (nI x), .int (nI i2)]) (rest := []) ⟨hx, hb, hml, hown, hts⟩ (c_X1_dependsOn l D q cq T R S X M P n h k w f d v z x i2 (by omega) (by omega)) (cwV 2 hts gL_function_X1_dependsOn rfl rfl rfl (by decide +kernel) ⟨Nat.le_of_ble_eq_true rfl, Nat.le_of_ble_eq_true rfl⟩) ⟨fun a U g mk z => ⟨z.1, z.2.1, va_K.moved (u := U) (U := U.calling g mk a) (Vm.Alike.refl U.vm) z.2.2.1, z.2.2.2.blind g mk a⟩, va_recv hKc hPc (ci := 1) (q0 := 0) rfl rfl, fun U hU hW => ⟨rfl, by rw [hU]; exact hPc, va_K.moved hW.alike hKc, hE.at0 hS hU hW⟩⟩ rfl rfl hl.1 rfl (lv_room (Nat.le_of_ble_eq_true rfl)) dL_function_170 ⟨(Nat.zero_le _), (Nat.zero_le _)⟩)) (fun r9 hr => ?_)
                            subst r9
                            refine lv_iload hx hb dL_function_173 (lv_at hl 0 rfl) ?_
                            refine lv_iload_n hx hb dL_function_175 rfl (lv_at hl 4 rfl) ?_
                            refine lv_iload hx hb dL_function_176 (lv_at hl 1 rfl) ?_
                            refine vp_callSi (va_Run.run (va_runS (As := [.int (nI i2)]) (rest := [.int (fX1_tableOf T x), .int (((fX1_tableOf T x) &&& ((VT i2) ^^^ (-1))) &&& 65535), .int (fX1_dependsOn T x i2)]) ⟨hx, hb, hml, hown, hts⟩ (cv_L_variable l i2 (by omega)) (va_cwS 1 hts gL_function_L_variable rfl rfl rfl (by decide +kernel) ⟨Nat.le_of_ble_eq_true rfl, Nat.le_of_ble_eq_true rfl⟩) ⟨fun _ _ _ _ z => z, fun _ _ _ => ⟨rfl, trivial⟩⟩ rfl rfl hl.1 rfl (lv_room (Nat.le_of_ble_eq_true rfl)) dL_function_178 ⟨(Nat.zero_le _), (Nat.zero_le _)⟩)) (fun r9 hr => ?_)
                            subst r9
                            refine lv_iand hx hb dL_function_181 ?_
                            refine lv_iconst (v := 1) hx hb dL_function_182 (by decide) ?_
                            refine lv_iload hx hb dL_function_183 (lv_at hl 1 rfl) ?_
                            refine lv_ishl hx hb dL_function_185 ?_
                            refine lv_ishr hx hb dL_function_186 ?_
                            refine vz_cut (fun H1 l1 g1 => ∃ (x3_0 : Int32) (ls : Array Slot), x3_0 = (if (((fX1_tableOf T x) &&& ((VT i2) ^^^ (-1))) &&& 65535) = (((fX1_tableOf T x) &&& (VT i2)) >>> (((1 : Int32) <<< ((nI i2) &&& 31)) &&& 31)) then 0 else 1 : Int32) ∧ lv_has ls 7 [(6, .int (((fX1_tableOf T x) &&& ((VT i2) ^^^ (-1))) &&& 65535)), (5, .int (nI i2)), (4, .int 1), (3, .int (fX1_productsByHalves T x)), (2, .int (fX1_tableOf T x)), (0, .ref (q 0)), (1, .int (nI x))] ∧ (s.heap = H1 ∧ [] = l1) ∧ g1 = F0 m 195 ls [.int x3_0, .int (fX1_dependsOn T x i2)]) (fun hj3 => ?_) ?_
                            · refine lv_icmp_eq (tgt := 194) hx hb dL_function_187 (by decide) (fun c_20 => ?_) (fun c_20 => ?_)
                              · refine lv_iconst (v := 0) hx hb dL_function_194 (by decide) ?_
                                exact hj3 _ _ _ ⟨0, ls, (by (rw [if_pos c_20]); first | done | rfl), lv_sub hl [0, 1, 2, 3, 4, 5, 6] rfl, ⟨rfl, rfl⟩, rfl⟩
                              · refine lv_iconst (v := 1) hx hb dL_function_190 (by decide) ?_
                                refine lv_goto (tgt := 195) hx hb dL_function_191 (by decide) ?_
                                exact hj3 _ _ _ ⟨1, ls, (by (rw [if_neg c_20]); first | done | rfl), lv_sub hl [0, 1, 2, 3, 4, 5, 6] rfl, ⟨rfl, rfl⟩, rfl⟩
                            rintro H1 l1 g1 ⟨x3_0, ls, ex3_0, hl, ⟨rfl, rfl⟩, rfl⟩
                            subst x3_0
                            refine lv_icmp_ne (tgt := 202) hx hb dL_function_195 (by decide) (fun c_21 => ?_) (fun c_21 => ?_)
                            · exact absurd (depends_ok T x (hT9 x hx6) (by omega)) c_21
                            · refine lv_iconst (v := 1) hx hb dL_function_198 (by decide) ?_
                              refine lv_goto (tgt := 203) hx hb dL_function_199 (by decide) ?_
                              refine lv_istore (lv' := [(4, .int 1), (6, .int (((fX1_tableOf T x) &&& ((VT i2) ^^^ (-1))) &&& 65535)), (5, .int (nI i2)), (3, .int (fX1_productsByHalves T x)), (2, .int (fX1_tableOf T x)), (0, .ref (q 0)), (1, .int (nI x))]) hx hb dL_function_203 hl (by decide) rfl (fun ls hl => ?_)
                              refine lv_iinc (v := (nI (i2 + 1))) (lv' := [(5, .int (nI (i2 + 1))), (4, .int 1), (6, .int (((fX1_tableOf T x) &&& ((VT i2) ^^^ (-1))) &&& 65535)), (3, .int (fX1_productsByHalves T x)), (2, .int (fX1_tableOf T x)), (0, .ref (q 0)), (1, .int (nI x))]) hx hb dL_function_205 hl (k := 2) rfl (by first | exact nI_add _ _ | rfl) (by decide) rfl (fun ls hl => ?_)
                              refine lv_goto (tgt := 141) hx hb dL_function_208 (by decide) ?_
                              exact ih2 (i2 + 1) () ls (by omega) ((congrArg (lp sL_function_141 n2 (i2 + 1)) (show () = sL_function_141 i2 a2 from by first | ((rw [sL_function_141]); first | done | rfl) | rfl)).trans hf2) (lv_sub hl [0, 1, 3, 4, 5, 6] rfl)
                    · exact absurd (nI_le (a := 16) (b := 16) (by omega) (by omega)) c_9
                  | succ n1 ih1 =>
                    intro i1 a1 ls hi1 hf1 hl
                    refine lv_iload hx hb dL_function_97 (lv_at hl 0 rfl) ?_
                    refine lv_bipush (v := 16) hx hb dL_function_99 (by decide) ?_
                    refine lv_icmp_ge (tgt := 138) hx hb dL_function_101 (by decide) (fun c_22 => ?_) (fun c_22 => ?_)
                    · exact absurd c_22 (nI_ge (a := i1) (b := 16) (by omega) (by omega))
                    · refine lv_iload hx hb dL_function_104 (lv_at hl 1 rfl) ?_
                      refine lv_if_eq (tgt := 138) hx hb dL_function_106 (by decide) (fun c_23 => ?_) (fun c_23 => ?_)
                      · exact absurd c_23 (by decide)
                      · refine lv_aload_n hx hb dL_function_109 rfl (lv_at hl 4 rfl) ?_
                        refine lv_iload_n hx hb dL_function_110 rfl (lv_at hl 5 rfl) ?_
                        refine lv_iload hx hb dL_function_111 (lv_at hl 0 rfl) ?_
                        have hPc := hP.sub (ws' := (wB q cq T R S X M P n h k w f d v z)) [0, 1, 2, 3, 4, 5, 6, 7] rfl
                        have hKc := hK.sub (tys' := (tyB cq)) [0, 1, 2, 3, 4, 5] rfl
                        refine vp_callSi (va_Run.run (va_runV (As := [.int (nI x), .int (nI i1)]) (rest := []) ⟨hx, hb, hml, hown, hts⟩ (c_X1_valueAt l D q cq T R S X M P n h k w f d v z x i1 (by omega) (by omega)) (cwV 2 hts gL_function_X1_valueAt rfl rfl rfl (by decide +kernel) ⟨Nat.le_of_ble_eq_true rfl, Nat.le_of_ble_eq_true rfl⟩) ⟨fun a U g mk z => ⟨z.1, z.2.1, va_K.moved (u := U) (U := U.calling g mk a) (Vm.Alike.refl U.vm) z.2.2.1, z.2.2.2.blind g mk a⟩, va_recv hKc hPc (ci := 1) (q0 := 0) rfl rfl, fun U hU hW => ⟨rfl, by rw [hU]; exact hPc, va_K.moved hW.alike hKc, hE.at0 hS hU hW⟩⟩ rfl rfl hl.1 rfl (lv_room (Nat.le_of_ble_eq_true rfl)) dL_function_113 ⟨(Nat.zero_le _), (Nat.zero_le _)⟩)) (fun r9 hr => ?_)
                        subst r9
                        refine lv_iload_n hx hb dL_function_116 rfl (lv_at hl 3 rfl) ?_
                        refine lv_iload hx hb dL_function_117 (lv_at hl 0 rfl) ?_
                        refine lv_ishr hx hb dL_function_119 ?_
                        refine lv_iconst (v := 1) hx hb dL_function_120 (by decide) ?_
                        refine lv_iand hx hb dL_function_121 ?_
                        refine lv_icmp_ne (tgt := 129) hx hb dL_function_122 (by decide) (fun c_24 => ?_) (fun c_24 => ?_)
                        · exact absurd (value_ok _ _ _) c_24
                        · refine lv_iconst (v := 1) hx hb dL_function_125 (by decide) ?_
                          refine lv_goto (tgt := 130) hx hb dL_function_126 (by decide) ?_
                          refine lv_istore (lv' := [(4, .int 1), (5, .int (nI i1)), (3, .int (fX1_productsByHalves T x)), (2, .int (fX1_tableOf T x)), (0, .ref (q 0)), (1, .int (nI x))]) hx hb dL_function_130 hl (by decide) rfl (fun ls hl => ?_)
                          refine lv_iinc (v := (nI (i1 + 1))) (lv' := [(5, .int (nI (i1 + 1))), (4, .int 1), (3, .int (fX1_productsByHalves T x)), (2, .int (fX1_tableOf T x)), (0, .ref (q 0)), (1, .int (nI x))]) hx hb dL_function_132 hl (k := 1) rfl (by first | exact nI_add _ _ | rfl) (by decide) rfl (fun ls hl => ?_)
                          refine lv_goto (tgt := 97) hx hb dL_function_135 (by decide) ?_
                          exact ih1 (i1 + 1) () ls (by omega) ((congrArg (lp sL_function_97 n1 (i1 + 1)) (show () = sL_function_97 i1 a1 from by first | ((rw [sL_function_97]); first | done | rfl) | rfl)).trans hf1) (lv_sub hl [0, 1, 2, 3, 4, 5] rfl)
def fL_enough : Int32 := 1
set_option maxHeartbeats 4000000 in
set_option maxRecDepth 100000 in
theorem c_L_enough (l : Launch) (D : va_G) (q : Nat → Nat) (cq : Nat → ClassId) (T : Nat → Int32) (R : Nat → Int32) (S : Nat → Int32) (X : Nat → Int32) (M : Nat → Int32) (P : Nat → Int32) (n : Nat) (h : Int32) (k : Int32) (w : Int32) (f : Int32) (d : Int32) (v : Int32) (z : Int32) (hn : n ≤ 4) (hT9 : ∀ i, i < 6 → tb (T i)) : Met l yL_enough wsL_enough ({ frames := 5, cells := 0, slots := 0, locals := 114 }) (va_Pc [.ref (q 0)] (fun U => va_P D vwCl (wB q cq T R S X M P (nI n) h k w f d v z) U.heap ∧ va_K D vwCl (tyB cq) U ∧ env0 U)) (vp_Si (fun r9 => r9 = (fL_enough))) 0 0 (fun _ => False) := by
  refine Met.ofW (cc := cL_enough) (maxL := 6) (ret := (some .boolean)) (by decide) rfl ?_
  intro p e s m args below meth c s₁ B hml hv
  obtain ⟨rfl, hP, hK, hE⟩ := hv
  have hx := B.exec
  have hb := B.bytes
  have hr := B.returns
  have hts := atoms_spec (ws := wsL_enough) B.pre
  have hown : s.vm.findClass RL = some m.cls := findClass_of_methodNamed B.named
  have hlocks := B.notSynchronized
  have hS : va_S (fun _ => False) s.heap s.heap [] := va_S.rf
  have hP : va_P D vwCl (wB q cq T R S X M P (nI n) h k w f d v z) s.heap := hP
  have hl := lv_entry ([.ref (q 0)]) (n := 6) (Nat.le_of_ble_eq_true rfl)
  rw [lg_entry_eq]
  generalize (lg_sl ([.ref (q 0)]) ++ List.replicate (6 - (lg_sl ([.ref (q 0)])).length) Slot.unset).toArray = ls at hl ⊢
  have hl : lv_has ls 6 [(0, .ref (q 0))] := hl
  refine lv_iconst (v := (-1)) hx hb dL_enough_0 (by decide) ?_
  refine lv_istore_n (lv' := [(1, .int (-1)), (0, .ref (q 0))]) hx hb dL_enough_1 rfl hl (by decide) rfl (fun ls hl => ?_)
  refine lv_aload_n hx hb dL_enough_2 rfl (lv_at hl 1 rfl) ?_
  have hPc := hP.sub (ws' := (wB q cq T R S X M P (nI n) h k w f d v z)) [0, 1, 2, 3, 4, 5, 6, 7] rfl
  have hKc := hK.sub (tys' := (tyB cq)) [0, 1, 2, 3, 4, 5] rfl
  refine vp_callSi (va_Run.run (va_runV (As := []) (rest := []) ⟨hx, hb, hml, hown, hts⟩ (c_X1_recordedStates l D q cq T R S X M P n h k w f d v z) (cwV 0 hts gL_enough_X1_recordedStates rfl rfl rfl (by decide +kernel) ⟨Nat.le_of_ble_eq_true rfl, Nat.le_of_ble_eq_true rfl⟩) ⟨fun a U g mk z => ⟨z.1, z.2.1, va_K.moved (u := U) (U := U.calling g mk a) (Vm.Alike.refl U.vm) z.2.2.1, z.2.2.2.blind g mk a⟩, va_recv hKc hPc (ci := 1) (q0 := 0) rfl rfl, fun U hU hW => ⟨rfl, by rw [hU]; exact hPc, va_K.moved hW.alike hKc, hE.at0 hS hU hW⟩⟩ rfl rfl hl.1 rfl (lv_room (Nat.le_of_ble_eq_true rfl)) dL_enough_3 ⟨(Nat.zero_le _), (Nat.zero_le _)⟩)) (fun r9 hr => ?_)
  subst r9
  refine lv_iconst (v := 4) hx hb dL_enough_6 (by decide) ?_
  refine lv_icmp_gt (tgt := 14) hx hb dL_enough_7 (by decide) (fun c_1 => ?_) (fun c_1 => ?_)
  · exact absurd c_1 (nI_nlt (a := 4) (b := n) (by omega) (by omega))
  · refine lv_iconst (v := 1) hx hb dL_enough_10 (by decide) ?_
    refine lv_goto (tgt := 15) hx hb dL_enough_11 (by decide) ?_
    refine lv_istore_n (lv' := [(2, .int 1), (1, .int (-1)), (0, .ref (q 0))]) hx hb dL_enough_15 rfl hl (by decide) rfl (fun ls hl => ?_)
    refine lv_iconst (v := 1) hx hb dL_enough_16 (by decide) ?_
    refine lv_istore_n (lv' := [(3, .int 1), (2, .int 1), (1, .int (-1)), (0, .ref (q 0))]) hx hb dL_enough_17 rfl hl (by decide) rfl (fun ls hl => ?_)
    obtain ⟨F1, hF1⟩ : ∃ z9, z9 = (lp (sL_enough_18 T) 63 1 (-1)) := ⟨_, rfl⟩
    refine vz_cut (fun H1 l1 g1 => ∃ (n1 i1 : Nat) (a1 : Int32) (ls : Array Slot), i1 + n1 = 64 ∧ lp (sL_enough_18 T) n1 i1 a1 = F1 ∧ 1 ≤ i1 ∧ lv_has ls 6 [(3, .int (nI i1)), (1, .int a1), (2, .int 1), (0, .ref (q 0))] ∧ (s.heap = H1 ∧ [] = l1) ∧ g1 = F0 m 18 ls []) (fun hj => hj _ _ _ ⟨64 - 1, 1, (-1), ls, (by omega), hF1.symm, (by omega), lv_sub hl [0, 2, 1, 3] rfl, ⟨rfl, rfl⟩, rfl⟩) ?_
    rintro H1 l1 g1 ⟨n1, i1, a1, ls, hi1, hf1, hv1_0, hl, ⟨rfl, rfl⟩, rfl⟩
    revert i1 a1 ls
    induction n1 with
    | zero =>
      intro i1 a1 ls hi1 hf1 hv1_0 hl
      obtain rfl : 64 = i1 := by omega
      have hf1 : F1 = a1 := hf1.symm
      subst hf1
      refine lv_iload_n hx hb dL_enough_18 rfl (lv_at hl 0 rfl) ?_
      refine lv_bipush (v := 64) hx hb dL_enough_19 (by decide) ?_
      refine lv_icmp_ge (tgt := 143) hx hb dL_enough_21 (by decide) (fun c_2 => ?_) (fun c_2 => ?_)
      · refine lv_iload_n hx hb dL_enough_143 rfl (lv_at hl 2 rfl) ?_
        refine lv_if_eq (tgt := 159) hx hb dL_enough_144 (by decide) (fun c_3 => ?_) (fun c_3 => ?_)
        · exact absurd c_3 (by decide)
        · refine lv_aload_n hx hb dL_enough_147 rfl (lv_at hl 3 rfl) ?_
          have hPc := hP.sub (ws' := (wB q cq T R S X M P (nI n) h k w f d v z)) [0, 1, 2, 3, 4, 5, 6, 7] rfl
          have hKc := hK.sub (tys' := (tyB cq)) [0, 1, 2, 3, 4, 5] rfl
          refine vp_callSi (va_Run.run (va_runV (As := []) (rest := []) ⟨hx, hb, hml, hown, hts⟩ (c_X1_fewestEnough l D q cq T R S X M P (nI n) h k w f d v z) (cwV 0 hts gL_enough_X1_fewestEnough rfl rfl rfl (by decide +kernel) ⟨Nat.le_of_ble_eq_true rfl, Nat.le_of_ble_eq_true rfl⟩) ⟨fun a U g mk z => ⟨z.1, z.2.1, va_K.moved (u := U) (U := U.calling g mk a) (Vm.Alike.refl U.vm) z.2.2.1, z.2.2.2.blind g mk a⟩, va_recv hKc hPc (ci := 1) (q0 := 0) rfl rfl, fun U hU hW => ⟨rfl, by rw [hU]; exact hPc, va_K.moved hW.alike hKc, hE.at0 hS hU hW⟩⟩ rfl rfl hl.1 rfl (lv_room (Nat.le_of_ble_eq_true rfl)) dL_enough_148 ⟨(Nat.zero_le _), (Nat.zero_le _)⟩)) (fun r9 hr => ?_)
          subst r9
          refine lv_iload_n hx hb dL_enough_151 rfl (lv_at hl 1 rfl) ?_
          refine lv_icmp_ne (tgt := 159) hx hb dL_enough_152 (by decide) (fun c_4 => ?_) (fun c_4 => ?_)
          · exact absurd (by rw [hF1]; exact fewest_ok T hT9) c_4
          · refine lv_iconst (v := 1) hx hb dL_enough_155 (by decide) ?_
            refine lv_goto (tgt := 160) hx hb dL_enough_156 (by decide) ?_
            exact W.zret (v := 1) hx hb hr rfl (fun t9 ht hW => ⟨1, rfl, (by first | ((rw [fL_enough]); (try rw [← hF1]); first | done | rfl) | rfl), ht⟩) (fun q h => nomatch h) dL_enough_160
      · exact absurd (nI_le (a := 64) (b := 64) (by omega) (by omega)) c_2
    | succ n1 ih1 =>
      intro i1 a1 ls hi1 hf1 hv1_0 hl
      refine lv_iload_n hx hb dL_enough_18 rfl (lv_at hl 0 rfl) ?_
      refine lv_bipush (v := 64) hx hb dL_enough_19 (by decide) ?_
      refine lv_icmp_ge (tgt := 143) hx hb dL_enough_21 (by decide) (fun c_5 => ?_) (fun c_5 => ?_)
      · exact absurd c_5 (nI_ge (a := i1) (b := 64) (by omega) (by omega))
      · refine lv_iload_n hx hb dL_enough_24 rfl (lv_at hl 2 rfl) ?_
        refine lv_if_eq (tgt := 143) hx hb dL_enough_25 (by decide) (fun c_6 => ?_) (fun c_6 => ?_)
        · exact absurd c_6 (by decide)
        · refine lv_iconst (v := 0) hx hb dL_enough_28 (by decide) ?_
          refine lv_istore (lv' := [(4, .int 0), (3, .int (nI i1)), (1, .int a1), (2, .int 1), (0, .ref (q 0))]) hx hb dL_enough_29 hl (by decide) rfl (fun ls hl => ?_)
          refine lv_iconst (v := 0) hx hb dL_enough_31 (by decide) ?_
          refine lv_istore (lv' := [(5, .int 0), (4, .int 0), (3, .int (nI i1)), (1, .int a1), (2, .int 1), (0, .ref (q 0))]) hx hb dL_enough_32 hl (by decide) rfl (fun ls hl => ?_)
          obtain ⟨F2, hF2⟩ : ∃ z9, z9 = (lp (sL_enough_34 T i1) 6 0 0) := ⟨_, rfl⟩
          refine vz_cut (fun H1 l1 g1 => ∃ (n2 i2 : Nat) (a2 : Int32) (ls : Array Slot), i2 + n2 = 6 ∧ lp (sL_enough_34 T i1) n2 i2 a2 = F2 ∧ lv_has ls 6 [(5, .int (nI i2)), (4, .int a2), (3, .int (nI i1)), (1, .int a1), (2, .int 1), (0, .ref (q 0))] ∧ (s.heap = H1 ∧ [] = l1) ∧ g1 = F0 m 34 ls []) (fun hj => hj _ _ _ ⟨6, 0, 0, ls, (by omega), hF2.symm, lv_sub hl [0, 1, 2, 3, 4, 5] rfl, ⟨rfl, rfl⟩, rfl⟩) ?_
          rintro H1 l1 g1 ⟨n2, i2, a2, ls, hi2, hf2, hl, ⟨rfl, rfl⟩, rfl⟩
          revert i2 a2 ls
          induction n2 with
          | zero =>
            intro i2 a2 ls hi2 hf2 hl
            obtain rfl : 6 = i2 := by omega
            have hf2 : F2 = a2 := hf2.symm
            subst hf2
            refine lv_iload hx hb dL_enough_34 (lv_at hl 0 rfl) ?_
            refine lv_bipush (v := 6) hx hb dL_enough_36 (by decide) ?_
            refine lv_icmp_ge (tgt := 81) hx hb dL_enough_38 (by decide) (fun c_7 => ?_) (fun c_7 => ?_)
            · refine lv_iload hx hb dL_enough_81 (lv_at hl 1 rfl) ?_
              refine lv_bipush (v := 31) hx hb dL_enough_83 (by decide) ?_
              refine vz_cut (fun H1 l1 g1 => ∃ (x1_0 : Int32) (ls : Array Slot), x1_0 = (if F2 = 31 then 1 else 0 : Int32) ∧ lv_has ls 6 [(5, .int (nI 6)), (4, .int F2), (3, .int (nI i1)), (1, .int a1), (2, .int 1), (0, .ref (q 0))] ∧ (s.heap = H1 ∧ [] = l1) ∧ g1 = F0 m 93 ls [.int x1_0]) (fun hj1 => ?_) ?_
              · refine lv_icmp_ne (tgt := 92) hx hb dL_enough_85 (by decide) (fun c_8 => ?_) (fun c_8 => ?_)
                · refine lv_iconst (v := 0) hx hb dL_enough_92 (by decide) ?_
                  exact hj1 _ _ _ ⟨0, ls, (by (rw [if_neg c_8]); first | done | rfl), lv_sub hl [0, 1, 2, 3, 4, 5] rfl, ⟨rfl, rfl⟩, rfl⟩
                · refine lv_iconst (v := 1) hx hb dL_enough_88 (by decide) ?_
                  refine lv_goto (tgt := 93) hx hb dL_enough_89 (by decide) ?_
                  exact hj1 _ _ _ ⟨1, ls, (by (rw [if_pos c_8]); first | done | rfl), lv_sub hl [0, 1, 2, 3, 4, 5] rfl, ⟨rfl, rfl⟩, rfl⟩
              rintro H1 l1 g1 ⟨x1_0, ls, ex1_0, hl, ⟨rfl, rfl⟩, rfl⟩
              subst x1_0
              refine lv_istore (lv' := [(5, .int (if F2 = 31 then 1 else 0 : Int32)), (4, .int F2), (3, .int (nI i1)), (1, .int a1), (2, .int 1), (0, .ref (q 0))]) hx hb dL_enough_93 hl (by decide) rfl (fun ls hl => ?_)
              refine lv_iload hx hb dL_enough_95 (lv_at hl 0 rfl) ?_
              refine vz_cut (fun H1 l1 g1 => ∃ (x2_0 : Int32) (ls : Array Slot), x2_0 = (if (if F2 = 31 then 1 else 0 : Int32) = 0 then a1 else (if a1 < 0 then (fL_bits (nI i1)) else (if a1 ≤ (fL_bits (nI i1)) then a1 else (fL_bits (nI i1)))) : Int32) ∧ lv_has ls 6 [(5, .int (if F2 = 31 then 1 else 0 : Int32)), (4, .int F2), (3, .int (nI i1)), (1, .int a1), (2, .int 1), (0, .ref (q 0))] ∧ (s.heap = H1 ∧ [] = l1) ∧ g1 = F0 m 120 ls [.int x2_0]) (fun hj2 => ?_) ?_
              · refine lv_if_eq (tgt := 119) hx hb dL_enough_97 (by decide) (fun c_9 => ?_) (fun c_9 => ?_)
                · refine lv_iload_n hx hb dL_enough_119 rfl (lv_at hl 3 rfl) ?_
                  exact hj2 _ _ _ ⟨a1, ls, (by (rw [if_pos c_9]); first | done | rfl), lv_sub hl [0, 1, 2, 3, 4, 5] rfl, ⟨rfl, rfl⟩, rfl⟩
                · refine lv_iload_n hx hb dL_enough_100 rfl (lv_at hl 3 rfl) ?_
                  refine lv_if_lt (tgt := 112) hx hb dL_enough_101 (by decide) (fun c_10 => ?_) (fun c_10 => ?_)
                  · refine lv_iload_n hx hb dL_enough_112 rfl (lv_at hl 2 rfl) ?_
                    refine vp_callSi (va_Run.run (va_runS (As := [.int (nI i1)]) (rest := []) ⟨hx, hb, hml, hown, hts⟩ (c_L_bits l (nI i1)) (va_cwS 1 hts gL_enough_L_bits rfl rfl rfl (by decide +kernel) ⟨Nat.le_of_ble_eq_true rfl, Nat.le_of_ble_eq_true rfl⟩) ⟨fun _ _ _ _ z => z, fun _ _ _ => ⟨rfl, trivial⟩⟩ rfl rfl hl.1 rfl (lv_room (Nat.le_of_ble_eq_true rfl)) dL_enough_113 ⟨(Nat.zero_le _), (Nat.zero_le _)⟩)) (fun r9 hr => ?_)
                    subst r9
                    refine lv_goto (tgt := 120) hx hb dL_enough_116 (by decide) ?_
                    exact hj2 _ _ _ ⟨(fL_bits (nI i1)), ls, (by (rw [if_neg c_9, if_pos c_10]); first | done | rfl), lv_sub hl [0, 1, 2, 3, 4, 5] rfl, ⟨rfl, rfl⟩, rfl⟩
                  · refine lv_iload_n hx hb dL_enough_104 rfl (lv_at hl 2 rfl) ?_
                    refine vp_callSi (va_Run.run (va_runS (As := [.int (nI i1)]) (rest := []) ⟨hx, hb, hml, hown, hts⟩ (c_L_bits l (nI i1)) (va_cwS 1 hts gL_enough_L_bits rfl rfl rfl (by decide +kernel) ⟨Nat.le_of_ble_eq_true rfl, Nat.le_of_ble_eq_true rfl⟩) ⟨fun _ _ _ _ z => z, fun _ _ _ => ⟨rfl, trivial⟩⟩ rfl rfl hl.1 rfl (lv_room (Nat.le_of_ble_eq_true rfl)) dL_enough_105 ⟨(Nat.zero_le _), (Nat.zero_le _)⟩)) (fun r9 hr => ?_)
                    subst r9
                    refine lv_iload_n hx hb dL_enough_108 rfl (lv_at hl 3 rfl) ?_
                    refine lv_icmp_ge (tgt := 119) hx hb dL_enough_109 (by decide) (fun c_11 => ?_) (fun c_11 => ?_)
                    · refine lv_iload_n hx hb dL_enough_119 rfl (lv_at hl 3 rfl) ?_
                      exact hj2 _ _ _ ⟨a1, ls, (by (rw [if_neg c_9, if_neg c_10, if_pos c_11]); first | done | rfl), lv_sub hl [0, 1, 2, 3, 4, 5] rfl, ⟨rfl, rfl⟩, rfl⟩
                    · refine lv_iload_n hx hb dL_enough_112 rfl (lv_at hl 2 rfl) ?_
                      refine vp_callSi (va_Run.run (va_runS (As := [.int (nI i1)]) (rest := []) ⟨hx, hb, hml, hown, hts⟩ (c_L_bits l (nI i1)) (va_cwS 1 hts gL_enough_L_bits rfl rfl rfl (by decide +kernel) ⟨Nat.le_of_ble_eq_true rfl, Nat.le_of_ble_eq_true rfl⟩) ⟨fun _ _ _ _ z => z, fun _ _ _ => ⟨rfl, trivial⟩⟩ rfl rfl hl.1 rfl (lv_room (Nat.le_of_ble_eq_true rfl)) dL_enough_113 ⟨(Nat.zero_le _), (Nat.zero_le _)⟩)) (fun r9 hr => ?_)
                      subst r9
                      refine lv_goto (tgt := 120) hx hb dL_enough_116 (by decide) ?_
                      exact hj2 _ _ _ ⟨(fL_bits (nI i1)), ls, (by (rw [if_neg c_9, if_neg c_10, if_neg c_11]); first | done | rfl), lv_sub hl [0, 1, 2, 3, 4, 5] rfl, ⟨rfl, rfl⟩, rfl⟩
              rintro H1 l1 g1 ⟨x2_0, ls, ex2_0, hl, ⟨rfl, rfl⟩, rfl⟩
              subst x2_0
              refine lv_istore_n (lv' := [(1, .int (if (if F2 = 31 then 1 else 0 : Int32) = 0 then a1 else (if a1 < 0 then (fL_bits (nI i1)) else (if a1 ≤ (fL_bits (nI i1)) then a1 else (fL_bits (nI i1)))) : Int32)), (5, .int (if F2 = 31 then 1 else 0 : Int32)), (4, .int F2), (3, .int (nI i1)), (2, .int 1), (0, .ref (q 0))]) hx hb dL_enough_120 rfl hl (by decide) rfl (fun ls hl => ?_)
              refine lv_aload_n hx hb dL_enough_121 rfl (lv_at hl 5 rfl) ?_
              refine lv_iload_n hx hb dL_enough_122 rfl (lv_at hl 3 rfl) ?_
              have hPc := hP.sub (ws' := (wB q cq T R S X M P (nI n) h k w f d v z)) [0, 1, 2, 3, 4, 5, 6, 7] rfl
              have hKc := hK.sub (tys' := (tyB cq)) [0, 1, 2, 3, 4, 5] rfl
              refine vp_callSi (va_Run.run (va_runV (As := [.int (nI i1)]) (rest := []) ⟨hx, hb, hml, hown, hts⟩ (c_X1_areEnough l D q cq T R S X M P (nI n) h k w f d v z i1 (by omega) (by omega)) (cwV 1 hts gL_enough_X1_areEnough rfl rfl rfl (by decide +kernel) ⟨Nat.le_of_ble_eq_true rfl, Nat.le_of_ble_eq_true rfl⟩) ⟨fun a U g mk z => ⟨z.1, z.2.1, va_K.moved (u := U) (U := U.calling g mk a) (Vm.Alike.refl U.vm) z.2.2.1, z.2.2.2.blind g mk a⟩, va_recv hKc hPc (ci := 1) (q0 := 0) rfl rfl, fun U hU hW => ⟨rfl, by rw [hU]; exact hPc, va_K.moved hW.alike hKc, hE.at0 hS hU hW⟩⟩ rfl rfl hl.1 rfl (lv_room (Nat.le_of_ble_eq_true rfl)) dL_enough_123 ⟨(Nat.zero_le _), (Nat.zero_le _)⟩)) (fun r9 hr => ?_)
              subst r9
              refine lv_iload hx hb dL_enough_126 (lv_at hl 1 rfl) ?_
              refine lv_icmp_ne (tgt := 135) hx hb dL_enough_128 (by decide) (fun c_12 => ?_) (fun c_12 => ?_)
              · exact absurd (by rw [hF2]; exact due_ok T hT9 (by omega) (by omega)) c_12
              · refine lv_iconst (v := 1) hx hb dL_enough_131 (by decide) ?_
                refine lv_goto (tgt := 136) hx hb dL_enough_132 (by decide) ?_
                refine lv_istore_n (lv' := [(2, .int 1), (1, .int (if (if F2 = 31 then 1 else 0 : Int32) = 0 then a1 else (if a1 < 0 then (fL_bits (nI i1)) else (if a1 ≤ (fL_bits (nI i1)) then a1 else (fL_bits (nI i1)))) : Int32)), (5, .int (if F2 = 31 then 1 else 0 : Int32)), (4, .int F2), (3, .int (nI i1)), (0, .ref (q 0))]) hx hb dL_enough_136 rfl hl (by decide) rfl (fun ls hl => ?_)
                refine lv_iinc (v := (nI (i1 + 1))) (lv' := [(3, .int (nI (i1 + 1))), (2, .int 1), (1, .int (if (if F2 = 31 then 1 else 0 : Int32) = 0 then a1 else (if a1 < 0 then (fL_bits (nI i1)) else (if a1 ≤ (fL_bits (nI i1)) then a1 else (fL_bits (nI i1)))) : Int32)), (5, .int (if F2 = 31 then 1 else 0 : Int32)), (4, .int F2), (0, .ref (q 0))]) hx hb dL_enough_137 hl (k := 4) rfl (by first | exact nI_add _ _ | rfl) (by decide) rfl (fun ls hl => ?_)
                refine lv_goto (tgt := 18) hx hb dL_enough_140 (by decide) ?_
                exact ih1 (i1 + 1) (if (if F2 = 31 then 1 else 0 : Int32) = 0 then a1 else (if a1 < 0 then (fL_bits (nI i1)) else (if a1 ≤ (fL_bits (nI i1)) then a1 else (fL_bits (nI i1)))) : Int32) ls (by omega) ((congrArg (lp (sL_enough_18 T) n1 (i1 + 1)) (show (if (if F2 = 31 then 1 else 0 : Int32) = 0 then a1 else (if a1 < 0 then (fL_bits (nI i1)) else (if a1 ≤ (fL_bits (nI i1)) then a1 else (fL_bits (nI i1)))) : Int32) = (sL_enough_18 T) i1 a1 from by first | ((rw [sL_enough_18]); (try rw [← hF2]); first | done | rfl) | rfl)).trans hf1) (by omega) (lv_sub hl [0, 2, 1, 5] rfl)
            · exact absurd (nI_le (a := 6) (b := 6) (by omega) (by omega)) c_7
          | succ n2 ih2 =>
            intro i2 a2 ls hi2 hf2 hl
            refine lv_iload hx hb dL_enough_34 (lv_at hl 0 rfl) ?_
            refine lv_bipush (v := 6) hx hb dL_enough_36 (by decide) ?_
            refine lv_icmp_ge (tgt := 81) hx hb dL_enough_38 (by decide) (fun c_13 => ?_) (fun c_13 => ?_)
            · exact absurd c_13 (nI_ge (a := i2) (b := 6) (by omega) (by omega))
            · refine lv_iload hx hb dL_enough_41 (lv_at hl 1 rfl) ?_
              refine lv_iload_n hx hb dL_enough_43 rfl (lv_at hl 2 rfl) ?_
              refine lv_iload hx hb dL_enough_44 (lv_at hl 0 rfl) ?_
              refine lv_ishr hx hb dL_enough_46 ?_
              refine lv_iconst (v := 1) hx hb dL_enough_47 (by decide) ?_
              refine lv_iand hx hb dL_enough_48 ?_
              refine lv_iconst (v := 1) hx hb dL_enough_49 (by decide) ?_
              refine vz_cut (fun H1 l1 g1 => ∃ (x3_0 : Int32) (ls : Array Slot), x3_0 = (if (((nI i1) >>> ((nI i2) &&& 31)) &&& 1) = 1 then (fL_without (fX1_tableOf T i2) (fX1_degreeOf T i2)) else 0 : Int32) ∧ lv_has ls 6 [(5, .int (nI i2)), (4, .int a2), (3, .int (nI i1)), (1, .int a1), (2, .int 1), (0, .ref (q 0))] ∧ (s.heap = H1 ∧ [] = l1) ∧ g1 = F0 m 72 ls [.int x3_0, .int a2]) (fun hj3 => ?_) ?_
              · refine lv_icmp_ne (tgt := 71) hx hb dL_enough_50 (by decide) (fun c_14 => ?_) (fun c_14 => ?_)
                · refine lv_iconst (v := 0) hx hb dL_enough_71 (by decide) ?_
                  exact hj3 _ _ _ ⟨0, ls, (by (rw [if_neg c_14]); first | done | rfl), lv_sub hl [0, 1, 2, 3, 4, 5] rfl, ⟨rfl, rfl⟩, rfl⟩
                · refine lv_aload_n hx hb dL_enough_53 rfl (lv_at hl 5 rfl) ?_
                  refine lv_iload hx hb dL_enough_54 (lv_at hl 0 rfl) ?_
                  have hPc := hP.sub (ws' := (wB q cq T R S X M P (nI n) h k w f d v z)) [0, 1, 2, 3, 4, 5, 6, 7] rfl
                  have hKc := hK.sub (tys' := (tyB cq)) [0, 1, 2, 3, 4, 5] rfl
                  refine vp_callSi (va_Run.run (va_runV (As := [.int (nI i2)]) (rest := [.int a2]) ⟨hx, hb, hml, hown, hts⟩ (c_X1_tableOf l D q cq T R S X M P (nI n) h k w f d v z i2 (by omega)) (cwV 1 hts gL_enough_X1_tableOf rfl rfl rfl (by decide +kernel) ⟨Nat.le_of_ble_eq_true rfl, Nat.le_of_ble_eq_true rfl⟩) ⟨fun a U g mk z => ⟨z.1, z.2.1, va_K.moved (u := U) (U := U.calling g mk a) (Vm.Alike.refl U.vm) z.2.2.1, z.2.2.2.blind g mk a⟩, va_recv hKc hPc (ci := 1) (q0 := 0) rfl rfl, fun U hU hW => ⟨rfl, by rw [hU]; exact hPc, va_K.moved hW.alike hKc, hE.at0 hS hU hW⟩⟩ rfl rfl hl.1 rfl (lv_room (Nat.le_of_ble_eq_true rfl)) dL_enough_56 ⟨(Nat.zero_le _), (Nat.zero_le _)⟩)) (fun r9 hr => ?_)
                  subst r9
                  refine lv_aload_n hx hb dL_enough_59 rfl (lv_at hl 5 rfl) ?_
                  refine lv_iload hx hb dL_enough_60 (lv_at hl 0 rfl) ?_
                  have hPc := hP.sub (ws' := (wB q cq T R S X M P (nI n) h k w f d v z)) [0, 1, 2, 3, 4, 5, 6, 7] rfl
                  have hKc := hK.sub (tys' := (tyB cq)) [0, 1, 2, 3, 4, 5] rfl
                  refine vp_callSi (va_Run.run (va_runV (As := [.int (nI i2)]) (rest := [.int (fX1_tableOf T i2), .int a2]) ⟨hx, hb, hml, hown, hts⟩ (c_X1_degreeOf l D q cq T R S X M P (nI n) h k w f d v z i2 (by omega)) (cwV 1 hts gL_enough_X1_degreeOf rfl rfl rfl (by decide +kernel) ⟨Nat.le_of_ble_eq_true rfl, Nat.le_of_ble_eq_true rfl⟩) ⟨fun a U g mk z => ⟨z.1, z.2.1, va_K.moved (u := U) (U := U.calling g mk a) (Vm.Alike.refl U.vm) z.2.2.1, z.2.2.2.blind g mk a⟩, va_recv hKc hPc (ci := 1) (q0 := 0) rfl rfl, fun U hU hW => ⟨rfl, by rw [hU]; exact hPc, va_K.moved hW.alike hKc, hE.at0 hS hU hW⟩⟩ rfl rfl hl.1 rfl (lv_room (Nat.le_of_ble_eq_true rfl)) dL_enough_62 ⟨(Nat.zero_le _), (Nat.zero_le _)⟩)) (fun r9 hr => ?_)
                  subst r9
                  refine vp_callSi (va_Run.run (va_runS (As := [.int (fX1_tableOf T i2), .int (fX1_degreeOf T i2)]) (rest := [.int a2]) ⟨hx, hb, hml, hown, hts⟩ (c_L_without l (fX1_tableOf T i2) (fX1_degreeOf T i2)) (va_cwS 2 hts gL_enough_L_without rfl rfl rfl (by decide +kernel) ⟨Nat.le_of_ble_eq_true rfl, Nat.le_of_ble_eq_true rfl⟩) ⟨fun _ _ _ _ z => z, fun _ _ _ => ⟨rfl, trivial⟩⟩ rfl rfl hl.1 rfl (lv_room (Nat.le_of_ble_eq_true rfl)) dL_enough_65 ⟨(Nat.zero_le _), (Nat.zero_le _)⟩)) (fun r9 hr => ?_)
                  subst r9
                  refine lv_goto (tgt := 72) hx hb dL_enough_68 (by decide) ?_
                  exact hj3 _ _ _ ⟨(fL_without (fX1_tableOf T i2) (fX1_degreeOf T i2)), ls, (by (rw [if_pos c_14]); first | done | rfl), lv_sub hl [0, 1, 2, 3, 4, 5] rfl, ⟨rfl, rfl⟩, rfl⟩
              rintro H1 l1 g1 ⟨x3_0, ls, ex3_0, hl, ⟨rfl, rfl⟩, rfl⟩
              subst x3_0
              refine lv_ior hx hb dL_enough_72 ?_
              refine lv_istore (lv' := [(4, .int (a2 ||| (if (((nI i1) >>> ((nI i2) &&& 31)) &&& 1) = 1 then (fL_without (fX1_tableOf T i2) (fX1_degreeOf T i2)) else 0 : Int32))), (5, .int (nI i2)), (3, .int (nI i1)), (1, .int a1), (2, .int 1), (0, .ref (q 0))]) hx hb dL_enough_73 hl (by decide) rfl (fun ls hl => ?_)
              refine lv_iinc (v := (nI (i2 + 1))) (lv' := [(5, .int (nI (i2 + 1))), (4, .int (a2 ||| (if (((nI i1) >>> ((nI i2) &&& 31)) &&& 1) = 1 then (fL_without (fX1_tableOf T i2) (fX1_degreeOf T i2)) else 0 : Int32))), (3, .int (nI i1)), (1, .int a1), (2, .int 1), (0, .ref (q 0))]) hx hb dL_enough_75 hl (k := 1) rfl (by first | exact nI_add _ _ | rfl) (by decide) rfl (fun ls hl => ?_)
              refine lv_goto (tgt := 34) hx hb dL_enough_78 (by decide) ?_
              exact ih2 (i2 + 1) (a2 ||| (if (((nI i1) >>> ((nI i2) &&& 31)) &&& 1) = 1 then (fL_without (fX1_tableOf T i2) (fX1_degreeOf T i2)) else 0 : Int32)) ls (by omega) ((congrArg (lp (sL_enough_34 T i1) n2 (i2 + 1)) (show (a2 ||| (if (((nI i1) >>> ((nI i2) &&& 31)) &&& 1) = 1 then (fL_without (fX1_tableOf T i2) (fX1_degreeOf T i2)) else 0 : Int32)) = (sL_enough_34 T i1) i2 a2 from by first | ((rw [sL_enough_34]); first | done | rfl) | rfl)).trans hf2) (lv_sub hl [0, 1, 2, 3, 4, 5] rfl)
theorem kr_undo (n : Nat) : kX1_undo n = 0 ∨ kX1_undo n = 2 := by
  unfold kX1_undo
  by_cases h : 0 < nI n
  · rw [if_pos h]; exact Or.inl rfl
  · rw [if_neg h]; exact Or.inr rfl
theorem vw_ofWH {l : Launch} {y : MethodName} {ws ws' : List Cond} {rm : Room} {Pc : Array Value → State → Prop} {Qc : Array Value → State → Outcome → State → Prop} {mc ms : Nat} {free : Addr → Prop} {cc : ByteArray} {maxL : Nat} {ret : Option FieldType} {hh : List (Nat × Nat × Nat × Nat)}
    (hy : plainName y.cls = true) (hw : ws = Cond.codeWith y cc maxL ret hh :: ws')
    (body : ∀ p e s m args below meth c s₁, BodyLoose p l y (headSpec ws rm) cc maxL ret e s m args below meth c s₁ → c.maxLocals = maxL → Pc args s →
      W p l e (headSpec ws rm).room s m args below meth c s.heap [] 0 0 (MQ below Qc args s mc ms free) (entryFrame m args maxL)) : Met l y ws rm Pc Qc mc ms free := by
  refine MetFree.of_bodyS (code := cc) (maxLocals := maxL) (ret := ret) hy ?_ ?_
  · intro args s m h hn
    obtain ⟨m9, meth, c, hn9, h1, h2, h3, h4, -, h5, h6, -⟩ := Cond.codeWith_spec (atoms_spec (ws := ws) h _ (by rw [hw]; exact List.mem_cons_self))
    cases hn.symm.trans hn9
    exact ⟨meth, c, h1, h2, h3, h4, h5, h6⟩
  · intro p e s m args below meth c s₁ B hml hP _
    have hh0 : s₁.heap = s.heap := by rw [B.state]; rfl
    obtain ⟨t, a1, o, b1, b2, b3⟩ := body p e s m args below meth c s₁ B hml hP s₁ hh0 (Stand.of_body B)
    exact ⟨t, o, a1, b1, b2, ⟨b3.1, b3.2⟩⟩
def fL_undo (T : Nat → Int32) (R : Nat → Int32) (n : Nat) : Int32 × (Nat → Int32) × Nat := if (kX1_undo n) = 0 then ((fX1_undo T R n).1, (fX1_undo T R n).2.1, ((fX1_undo T R n).2.2)) else ((-3), (fX1_undo T R n).2.1, ((fX1_undo T R n).2.2))
set_option maxHeartbeats 4000000 in
set_option maxRecDepth 100000 in
theorem c_L_undo (l : Launch) (hst : l.stackTraces = false) (D : va_G) (q : Nat → Nat) (cq : Nat → ClassId) (sz : Nat) (T : Nat → Int32) (R : Nat → Int32) (S : Nat → Int32) (X : Nat → Int32) (M : Nat → Int32) (P : Nat → Int32) (n : Nat) (h : Int32) (k : Int32) (w : Int32) (f : Int32) (d : Int32) (v : Int32) (z : Int32) (hn : n ≤ 4) : Met l yL_undo wsL_undo ({ frames := 7, cells := 1, slots := 6, locals := 102 }) (va_Pc [.ref (q 0)] (fun U => U.heap.size = sz ∧ va_P D vwCl (wB q cq T R S X M P (nI n) h k w f d v z) U.heap ∧ va_K D vwCl (tyB cq) U ∧ va_D (fun _ => True) (wB q cq T R S X M P (nI n) h k w f d v z) ∧ envE (va_A (wB q cq T R S X M P (nI n) h k w f d v z) sz) U)) (va_Qi (fun r9 (_ : Unit) => r9 = (fL_undo T R n).1) (fun _ t9 => va_P D vwCl (wB q cq ((fL_undo T R n).2.1) R S X M P (nI (fL_undo T R n).2.2) h k w f d v z) t9.heap ∧ va_D (va_A (wB q cq T R S X M P (nI n) h k w f d v z) sz) (wB q cq ((fL_undo T R n).2.1) R S X M P (nI (fL_undo T R n).2.2) h k w f d v z)) (va_A (wB q cq T R S X M P (nI n) h k w f d v z) sz)) 1 6 (va_A (wB q cq T R S X M P (nI n) h k w f d v z) sz) := by
  refine vw_ofWH (cc := cL_undo) (maxL := 2) (ret := (some .int)) (hh := [(0, 4, 5, 15)]) (by decide) rfl ?_
  intro p e s m args below meth c s₁ B hml hv
  obtain ⟨rfl, hsz, hP, hK, hD0, hE⟩ := hv
  have hx := B.exec
  have hb := B.bytes
  have hr := B.returns
  have hts := atoms_spec (ws := wsL_undo) B.pre
  have hown : s.vm.findClass RL = some m.cls := findClass_of_methodNamed B.named
  have hlocks := B.notSynchronized
  have htab := vx_table B (x := yL_undo) (y := yL_undo) (bytes := cL_undo) (maxL' := 2) (ret' := (some .int)) (hh := [(0, 4, 5, 15)]) (hts _ List.mem_cons_self)
  subst hsz
  have hD := hD0.self (sz := s.heap.size)
  generalize hAe : va_A (wB q cq T R S X M P (nI n) h k w f d v z) s.heap.size = A at hD hE ⊢
  have hA : ∀ q : Nat, s.heap.size ≤ q → A q := fun q h => by rw [← hAe]; exact Or.inr h
  have hS : va_S A s.heap s.heap [] := va_S.rf
  have hP : va_P D vwCl (wB q cq T R S X M P (nI n) h k w f d v z) s.heap := hP
  have hl := lv_entry ([.ref (q 0)]) (n := 2) (Nat.le_of_ble_eq_true rfl)
  rw [lg_entry_eq]
  generalize (lg_sl ([.ref (q 0)]) ++ List.replicate (2 - (lg_sl ([.ref (q 0)])).length) Slot.unset).toArray = ls at hl ⊢
  have hl : lv_has ls 2 [(0, .ref (q 0))] := hl
  refine lv_aload_n hx hb dL_undo_0 rfl (lv_at hl 0 rfl) ?_
  have hPc := hP.sub (ws' := (wB q cq T R S X M P (nI n) h k w f d v z)) [0, 1, 2, 3, 4, 5, 6, 7] rfl
  have hKc := hK.sub (tys' := (tyB cq)) [0, 1, 2, 3, 4, 5] rfl
  have hDc := hD.sub (ws' := (wB q cq T R S X M P (nI n) h k w f d v z)) [0, 1, 2, 3, 4, 5, 6, 7] (by decide) rfl
  have hFc := va_free (wc := (wB q cq T R S X M P (nI n) h k w f d v z)) hD hS hA [0, 1, 2, 3, 4, 5, 6, 7] rfl
  refine vx_calli (vx_runV (As := []) (rest := []) ⟨hx, hb, hml, hown, hts⟩ (c_X1_undo l hst D q cq s.heap.size T R S X M P n h k w f d v z (by omega)) (cwV 0 hts gL_undo_X1_undo rfl rfl rfl (by decide +kernel) ⟨Nat.le_of_ble_eq_true rfl, Nat.le_of_ble_eq_true rfl⟩) ⟨fun a U g mk z => ⟨z.1, z.2.1, z.2.2.1, va_K.moved (u := U) (U := U.calling g mk a) (Vm.Alike.refl U.vm) z.2.2.2.1, z.2.2.2.2.1, z.2.2.2.2.2.blind g mk a⟩, va_recv hKc hPc (ci := 1) (q0 := 0) rfl rfl, fun U hU hW => ⟨rfl, by rw [hU], by rw [hU]; exact hPc, va_K.moved hW.alike hKc, hDc.weaken (fun _ _ _ _ => trivial), hE.at hS hU hW hFc⟩⟩ rfl rfl hl.1 rfl (lv_room (Nat.le_of_ble_eq_true rfl)) dL_undo_1 ⟨(Nat.le_of_ble_eq_true rfl), (Nat.le_of_ble_eq_true rfl)⟩) hS (fun q _ h => hFc q h) hFc (fun q _ h => hFc q h) (fun E9 ce q9 u9 t8 H1 locs ht hvm hu hB0 hz1 hk1 hS hce hcv hcl => ?_) (fun r9 u9 t8 H1 locs ht hvm hw hB hz1 hk1 hS => ?_)
  · obtain ⟨hE9, hP1, hD1⟩ := hB0
    rw [ht] at hP1
    obtain ⟨hP, hD⟩ := va_join (wr := []) (w1 := (wB q cq ((fX1_undo T R n).2.1) R S X M P (nI (fX1_undo T R n).2.2) h k w f d v z)) hP hD [0, 1, 2, 3, 4, 5, 6, 7] [] rfl rfl (by decide) (by decide) hk1 hFc hP1 hD1
    have hP := hP.sub (ws' := (wB q cq ((fX1_undo T R n).2.1) R S X M P (nI (fX1_undo T R n).2.2) h k w f d v z)) [0, 1, 2, 3, 4, 5, 6, 7] rfl
    have hD := hD.sub (ws' := (wB q cq ((fX1_undo T R n).2.1) R S X M P (nI (fX1_undo T R n).2.2) h k w f d v z)) [0, 1, 2, 3, 4, 5, 6, 7] (by decide) rfl
    generalize H1 = H at hP hS hce ⊢
    have hB : E9 = exn u9 ∧ True := ⟨hE9, trivial⟩
    have hn : ¬ (kX1_undo n) = 0 := fun z => hu.2 (hu.1.symm.trans z)
    have hkr := kr_undo n
    rw [hu.1] at hkr
    rcases hkr with h0 | h2
    · exact absurd h0 hu.2
    · have hE9 : E9 = exn u9 := hB.1
      rw [h2] at hE9
      have hE9 : E9 = "java/lang/IllegalStateException" := hE9
      subst hE9
      refine vx_catch hown [] _ _ (htab.trans rfl) (fun z hz => absurd hz List.not_mem_nil) rfl (by decide) (hts (.classLink RL 15 "java/lang/IllegalStateException") (List.mem_of_getElem? (i := 1) rfl)) (va_Nw.use rfl hE.2.1.1) hce hcv hcl ?_
      refine lv_astore_n (lv' := [(1, .ref q9), (0, .ref (q 0))]) hx hb dL_undo_5 rfl hl (by decide) rfl (fun ls hl => ?_)
      refine lv_bipush (v := (-3)) hx hb dL_undo_6 (by decide) ?_
      have hq : (fL_undo T R n) = ((-3), (fX1_undo T R n).2.1, ((fX1_undo T R n).2.2)) := Eq.symm (by first | ((rw [fL_undo, if_neg hn]); first | done | rfl) | rfl)
      exact W.iret (v := (-3)) hx hb hr (fun t9 ht hW => ⟨⟨(-3), (), rfl, by rw [hq], by rw [hq]; exact ⟨by rw [ht]; exact hP, hD⟩⟩, hS.F ht⟩) hS.2.2 dL_undo_8
  · obtain ⟨hP1, hD1⟩ := hB
    rw [ht] at hP1
    obtain ⟨hP, hD⟩ := va_join (wr := []) (w1 := (wB q cq ((fX1_undo T R n).2.1) R S X M P (nI (fX1_undo T R n).2.2) h k w f d v z)) hP hD [0, 1, 2, 3, 4, 5, 6, 7] [] rfl rfl (by decide) (by decide) hk1 hFc hP1 hD1
    have hP := hP.sub (ws' := (wB q cq ((fX1_undo T R n).2.1) R S X M P (nI (fX1_undo T R n).2.2) h k w f d v z)) [0, 1, 2, 3, 4, 5, 6, 7] rfl
    have hD := hD.sub (ws' := (wB q cq ((fX1_undo T R n).2.1) R S X M P (nI (fX1_undo T R n).2.2) h k w f d v z)) [0, 1, 2, 3, 4, 5, 6, 7] (by decide) rfl
    generalize H1 = H at hP hS ⊢
    obtain ⟨hk_1, hw⟩ := hw
    subst r9
    have hq : (fL_undo T R n) = ((fX1_undo T R n).1, (fX1_undo T R n).2.1, ((fX1_undo T R n).2.2)) := Eq.symm (by first | ((rw [fL_undo, if_pos hk_1]); first | done | rfl) | rfl)
    exact W.iret (v := (fX1_undo T R n).1) hx hb hr (fun t9 ht hW => ⟨⟨(fX1_undo T R n).1, (), rfl, by rw [hq], by rw [hq]; exact ⟨by rw [ht]; exact hP, hD⟩⟩, hS.F ht⟩) hS.2.2 dL_undo_4
def fL_define (T : Nat → Int32) (R : Nat → Int32) (X : Nat → Int32) (n : Nat) (k : Nat) (x : Nat) : Int32 × (Nat → Int32) × (Nat → Int32) × Nat × Int32 × Int32 × Int32 × Int32 := ((fX1_define T R X n k x).1, (fX1_define T R X n k x).2.1, (fX1_define T R X n k x).2.2.1, ((fX1_define T R X n k x).2.2.2.1), (fX1_define T R X n k x).2.2.2.2.1, (fX1_define T R X n k x).2.2.2.2.2.1, (fX1_define T R X n k x).2.2.2.2.2.2.1, (fX1_define T R X n k x).2.2.2.2.2.2.2)
set_option maxHeartbeats 4000000 in
set_option maxRecDepth 100000 in
theorem c_L_define (l : Launch) (D : va_G) (q : Nat → Nat) (cq : Nat → ClassId) (sz : Nat) (T : Nat → Int32) (R : Nat → Int32) (S : Nat → Int32) (X : Nat → Int32) (M : Nat → Int32) (P : Nat → Int32) (n : Nat) (h : Int32) (k : Nat) (w : Int32) (f : Int32) (d : Int32) (v : Int32) (z : Int32) (x : Nat) (hn : n ≤ 4) (hk9 : k ≤ 80) (hx6 : x < 6) (hfe : (fX0_firstError X k).1 = -1) : Met l yL_define wsL_define ({ frames := 7, cells := 0, slots := 0, locals := 153 }) (va_Pc [.ref (q 0), .int (nI x)] (fun U => U.heap.size = sz ∧ va_P D vwCl (wB q cq T R S X M P (nI n) h (nI k) w f d v z) U.heap ∧ va_K D vwCl (tyB cq) U ∧ va_D (fun _ => True) (wB q cq T R S X M P (nI n) h (nI k) w f d v z) ∧ envE (va_A (wB q cq T R S X M P (nI n) h (nI k) w f d v z) sz) U)) (va_Qi (fun r9 (_ : Unit) => r9 = (fL_define T R X n k x).1) (fun _ t9 => va_P D vwCl (wB q cq ((fL_define T R X n k x).2.1) ((fL_define T R X n k x).2.2.1) S X M P (nI (fL_define T R X n k x).2.2.2.1) h (nI k) ((fL_define T R X n k x).2.2.2.2.1) ((fL_define T R X n k x).2.2.2.2.2.1) ((fL_define T R X n k x).2.2.2.2.2.2.1) ((fL_define T R X n k x).2.2.2.2.2.2.2) z) t9.heap ∧ va_D (va_A (wB q cq T R S X M P (nI n) h (nI k) w f d v z) sz) (wB q cq ((fL_define T R X n k x).2.1) ((fL_define T R X n k x).2.2.1) S X M P (nI (fL_define T R X n k x).2.2.2.1) h (nI k) ((fL_define T R X n k x).2.2.2.2.1) ((fL_define T R X n k x).2.2.2.2.2.1) ((fL_define T R X n k x).2.2.2.2.2.2.1) ((fL_define T R X n k x).2.2.2.2.2.2.2) z)) (va_A (wB q cq T R S X M P (nI n) h (nI k) w f d v z) sz)) 0 0 (va_A (wB q cq T R S X M P (nI n) h (nI k) w f d v z) sz) := by
  refine vw_ofWH (cc := cL_define) (maxL := 3) (ret := (some .int)) (hh := [(0, 5, 6, 15)]) (by decide) rfl ?_
  intro p e s m args below meth c s₁ B hml hv
  obtain ⟨rfl, hsz, hP, hK, hD0, hE⟩ := hv
  have hx := B.exec
  have hb := B.bytes
  have hr := B.returns
  have hts := atoms_spec (ws := wsL_define) B.pre
  have hown : s.vm.findClass RL = some m.cls := findClass_of_methodNamed B.named
  have hlocks := B.notSynchronized
  subst hsz
  have hD := hD0.self (sz := s.heap.size)
  generalize hAe : va_A (wB q cq T R S X M P (nI n) h (nI k) w f d v z) s.heap.size = A at hD hE ⊢
  have hA : ∀ q : Nat, s.heap.size ≤ q → A q := fun q h => by rw [← hAe]; exact Or.inr h
  have hS : va_S A s.heap s.heap [] := va_S.rf
  have hP : va_P D vwCl (wB q cq T R S X M P (nI n) h (nI k) w f d v z) s.heap := hP
  have hl := lv_entry ([.ref (q 0), .int (nI x)]) (n := 3) (Nat.le_of_ble_eq_true rfl)
  rw [lg_entry_eq]
  generalize (lg_sl ([.ref (q 0), .int (nI x)]) ++ List.replicate (3 - (lg_sl ([.ref (q 0), .int (nI x)])).length) Slot.unset).toArray = ls at hl ⊢
  have hl : lv_has ls 3 [(0, .ref (q 0)), (1, .int (nI x))] := hl
  refine lv_aload_n hx hb dL_define_0 rfl (lv_at hl 0 rfl) ?_
  refine lv_iload_n hx hb dL_define_1 rfl (lv_at hl 1 rfl) ?_
  have hPc := hP.sub (ws' := (wB q cq T R S X M P (nI n) h (nI k) w f d v z)) [0, 1, 2, 3, 4, 5, 6, 7] rfl
  have hKc := hK.sub (tys' := (tyB cq)) [0, 1, 2, 3, 4, 5] rfl
  have hDc := hD.sub (ws' := (wB q cq T R S X M P (nI n) h (nI k) w f d v z)) [0, 1, 2, 3, 4, 5, 6, 7] (by decide) rfl
  have hFc := va_free (wc := (wB q cq T R S X M P (nI n) h (nI k) w f d v z)) hD hS hA [0, 1, 2, 3, 4, 5, 6, 7] rfl
  refine va_calli (va_runV (As := [.int (nI x)]) (rest := []) ⟨hx, hb, hml, hown, hts⟩ (c_X1_define l D q cq s.heap.size T R S X M P n h k w f d v z x (by omega) (by omega) (by omega) hfe) (cwV 1 hts gL_define_X1_define rfl rfl rfl (by decide +kernel) ⟨Nat.le_of_ble_eq_true rfl, Nat.le_of_ble_eq_true rfl⟩) ⟨fun a U g mk z => ⟨z.1, z.2.1, z.2.2.1, va_K.moved (u := U) (U := U.calling g mk a) (Vm.Alike.refl U.vm) z.2.2.2.1, z.2.2.2.2.1, z.2.2.2.2.2.blind g mk a⟩, va_recv hKc hPc (ci := 1) (q0 := 0) rfl rfl, fun U hU hW => ⟨rfl, by rw [hU], by rw [hU]; exact hPc, va_K.moved hW.alike hKc, hDc.weaken (fun _ _ _ _ => trivial), hE.at hS hU hW hFc⟩⟩ rfl rfl hl.1 rfl (lv_room (Nat.le_of_ble_eq_true rfl)) dL_define_2 ⟨(Nat.zero_le _), (Nat.zero_le _)⟩) hS (fun q _ h => hFc q h) hFc (fun r9 u9 t8 H1 locs ht hvm hw hB hz1 hk1 hS => ?_)
  obtain ⟨hP1, hD1⟩ := hB
  rw [ht] at hP1
  obtain ⟨hP, hD⟩ := va_join (wr := []) (w1 := (wB q cq ((fX1_define T R X n k x).2.1) ((fX1_define T R X n k x).2.2.1) S X M P (nI (fX1_define T R X n k x).2.2.2.1) h (nI k) ((fX1_define T R X n k x).2.2.2.2.1) ((fX1_define T R X n k x).2.2.2.2.2.1) ((fX1_define T R X n k x).2.2.2.2.2.2.1) ((fX1_define T R X n k x).2.2.2.2.2.2.2) z)) hP hD [0, 1, 2, 3, 4, 5, 6, 7] [] rfl rfl (by decide) (by decide) hk1 hFc hP1 hD1
  have hP := hP.sub (ws' := (wB q cq ((fX1_define T R X n k x).2.1) ((fX1_define T R X n k x).2.2.1) S X M P (nI (fX1_define T R X n k x).2.2.2.1) h (nI k) ((fX1_define T R X n k x).2.2.2.2.1) ((fX1_define T R X n k x).2.2.2.2.2.1) ((fX1_define T R X n k x).2.2.2.2.2.2.1) ((fX1_define T R X n k x).2.2.2.2.2.2.2) z)) [0, 1, 2, 3, 4, 5, 6, 7] rfl
  have hD := hD.sub (ws' := (wB q cq ((fX1_define T R X n k x).2.1) ((fX1_define T R X n k x).2.2.1) S X M P (nI (fX1_define T R X n k x).2.2.2.1) h (nI k) ((fX1_define T R X n k x).2.2.2.2.1) ((fX1_define T R X n k x).2.2.2.2.2.1) ((fX1_define T R X n k x).2.2.2.2.2.2.1) ((fX1_define T R X n k x).2.2.2.2.2.2.2) z)) [0, 1, 2, 3, 4, 5, 6, 7] (by decide) rfl
  generalize H1 = H at hP hS ⊢
  subst r9
  have hq : (fL_define T R X n k x) = ((fX1_define T R X n k x).1, (fX1_define T R X n k x).2.1, (fX1_define T R X n k x).2.2.1, ((fX1_define T R X n k x).2.2.2.1), (fX1_define T R X n k x).2.2.2.2.1, (fX1_define T R X n k x).2.2.2.2.2.1, (fX1_define T R X n k x).2.2.2.2.2.2.1, (fX1_define T R X n k x).2.2.2.2.2.2.2) := Eq.symm (by first | ((rw [fL_define]); first | done | rfl) | rfl)
  exact W.iret (v := (fX1_define T R X n k x).1) hx hb hr (fun t9 ht hW => ⟨⟨(fX1_define T R X n k x).1, (), rfl, by rw [hq], by rw [hq]; exact ⟨by rw [ht]; exact hP, hD⟩⟩, hS.F ht⟩) hS.2.2 dL_define_5
