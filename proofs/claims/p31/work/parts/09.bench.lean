set_option maxHeartbeats 4000000 in
set_option maxRecDepth 100000 in
theorem c_X1_checkFunction (l : Launch) (x : Nat) (hx6 : x < 6) : Met l yX1_checkFunction wsX1_checkFunction ({ frames := 0, cells := 0, slots := 0, locals := 0 }) (va_Pc [.int (nI x)] (fun _ => True)) (va_Sv (fun _ => True)) 0 0 (fun _ => False) := by
  refine Met.ofW (cc := cX1_checkFunction) (maxL := 1) (ret := none) (by decide) rfl ?_
  intro p e s m args below meth c s₁ B hml hv
  obtain ⟨rfl, -⟩ := hv
  have hx := B.exec
  have hb := B.bytes
  have hr := B.returns
  have hts := atoms_spec (ws := wsX1_checkFunction) B.pre
  have hown : s.vm.findClass RX1 = some m.cls := findClass_of_methodNamed B.named
  have hlocks := B.notSynchronized
  have hS : va_S (fun _ => False) s.heap s.heap [] := va_S.rf
  have hl := lv_entry ([.int (nI x)]) (n := 1) (Nat.le_of_ble_eq_true rfl)
  rw [lg_entry_eq]
  generalize (lg_sl ([.int (nI x)]) ++ List.replicate (1 - (lg_sl ([.int (nI x)])).length) Slot.unset).toArray = ls at hl ⊢
  have hl : lv_has ls 1 [(0, .int (nI x))] := hl
  refine lv_iload_n hx hb dX1_checkFunction_0 rfl (lv_at hl 0 rfl) ?_
  refine lv_if_lt (tgt := 10) hx hb dX1_checkFunction_1 (by decide) (fun c_1 => ?_) (fun c_1 => ?_)
  · exact absurd c_1 (nI_pos (by omega))
  · refine lv_iload_n hx hb dX1_checkFunction_4 rfl (lv_at hl 0 rfl) ?_
    refine lv_bipush (v := 6) hx hb dX1_checkFunction_5 (by decide) ?_
    refine lv_icmp_lt (tgt := 20) hx hb dX1_checkFunction_7 (by decide) (fun c_2 => ?_) (fun c_2 => ?_)
    · exact W.vret hx hb hr (fun t9 ht hW => ⟨rfl, trivial, ht⟩) (fun q h => nomatch h) dX1_checkFunction_20
    · exact absurd (nI_lt (a := x) (b := 6) (by omega) (by omega)) c_2
set_option maxHeartbeats 4000000 in
set_option maxRecDepth 100000 in
theorem c_X1_checkVariable (l : Launch) (x : Nat) (hx4 : x < 4) : Met l yX1_checkVariable wsX1_checkVariable ({ frames := 0, cells := 0, slots := 0, locals := 0 }) (va_Pc [.int (nI x)] (fun _ => True)) (va_Sv (fun _ => True)) 0 0 (fun _ => False) := by
  refine Met.ofW (cc := cX1_checkVariable) (maxL := 1) (ret := none) (by decide) rfl ?_
  intro p e s m args below meth c s₁ B hml hv
  obtain ⟨rfl, -⟩ := hv
  have hx := B.exec
  have hb := B.bytes
  have hr := B.returns
  have hts := atoms_spec (ws := wsX1_checkVariable) B.pre
  have hown : s.vm.findClass RX1 = some m.cls := findClass_of_methodNamed B.named
  have hlocks := B.notSynchronized
  have hS : va_S (fun _ => False) s.heap s.heap [] := va_S.rf
  have hl := lv_entry ([.int (nI x)]) (n := 1) (Nat.le_of_ble_eq_true rfl)
  rw [lg_entry_eq]
  generalize (lg_sl ([.int (nI x)]) ++ List.replicate (1 - (lg_sl ([.int (nI x)])).length) Slot.unset).toArray = ls at hl ⊢
  have hl : lv_has ls 1 [(0, .int (nI x))] := hl
  refine lv_iload_n hx hb dX1_checkVariable_0 rfl (lv_at hl 0 rfl) ?_
  refine lv_if_lt (tgt := 9) hx hb dX1_checkVariable_1 (by decide) (fun c_1 => ?_) (fun c_1 => ?_)
  · exact absurd c_1 (nI_pos (by omega))
  · refine lv_iload_n hx hb dX1_checkVariable_4 rfl (lv_at hl 0 rfl) ?_
    refine lv_iconst (v := 4) hx hb dX1_checkVariable_5 (by decide) ?_
    refine lv_icmp_lt (tgt := 19) hx hb dX1_checkVariable_6 (by decide) (fun c_2 => ?_) (fun c_2 => ?_)
    · exact W.vret hx hb hr (fun t9 ht hW => ⟨rfl, trivial, ht⟩) (fun q h => nomatch h) dX1_checkVariable_19
    · exact absurd (nI_lt (a := x) (b := 4) (by omega) (by omega)) c_2
theorem in_X1_recordState_X1 : ∀ w ∈ wsX10, w ∈ wsX1_recordState := by decide +kernel
def fX1_recordState (T : Nat → Int32) (R : Nat → Int32) (n : Nat) : (Nat → Int32) × Nat := if (nI n) < 4 then ((va_cpy T R 0 (n * 6) 6), (n + 1)) else ((va_cpy T (va_cpy R R 6 0 (3 * 6)) 0 (3 * 6) 6), (3 + 1))
set_option maxHeartbeats 4000000 in
set_option maxRecDepth 100000 in
theorem c_X1_recordState (l : Launch) (D : va_G) (q : Nat → Nat) (cq : Nat → ClassId) (sz : Nat) (T : Nat → Int32) (R : Nat → Int32) (S : Nat → Int32) (X : Nat → Int32) (M : Nat → Int32) (P : Nat → Int32) (n : Nat) (h : Int32) (k : Int32) (w : Int32) (f : Int32) (d : Int32) (v : Int32) (z : Int32) (hn : n ≤ 4) : Met l yX1_recordState wsX1_recordState ({ frames := 1, cells := 0, slots := 0, locals := 40 }) (va_Pc [.ref (q 0)] (fun U => U.heap.size = sz ∧ va_P D vwCl (wB q cq T R S X M P (nI n) h k w f d v z) U.heap ∧ va_K D vwCl (tyB cq) U ∧ va_D (fun _ => True) (wB q cq T R S X M P (nI n) h k w f d v z) ∧ envE (va_A (wB q cq T R S X M P (nI n) h k w f d v z) sz) U)) (va_Qv (fun (_ : Unit) => True) (fun _ t9 => va_P D vwCl (wB q cq T ((fX1_recordState T R n).1) S X M P (nI (fX1_recordState T R n).2) h k w f d v z) t9.heap ∧ va_D (va_A (wB q cq T R S X M P (nI n) h k w f d v z) sz) (wB q cq T ((fX1_recordState T R n).1) S X M P (nI (fX1_recordState T R n).2) h k w f d v z)) (va_A (wB q cq T R S X M P (nI n) h k w f d v z) sz)) 0 0 (va_A (wB q cq T R S X M P (nI n) h k w f d v z) sz) := by
  refine Met.ofW (cc := cX1_recordState) (maxL := 1) (ret := none) (by decide) rfl ?_
  intro p e s m args below meth c s₁ B hml hv
  obtain ⟨rfl, hsz, hP, hK, hD0, hE⟩ := hv
  have hx := B.exec
  have hb := B.bytes
  have hr := B.returns
  have hts := atoms_spec (ws := wsX1_recordState) B.pre
  have hown : s.vm.findClass RX1 = some m.cls := findClass_of_methodNamed B.named
  have hlocks := B.notSynchronized
  subst hsz
  have hD := hD0.self (sz := s.heap.size)
  generalize hAe : va_A (wB q cq T R S X M P (nI n) h k w f d v z) s.heap.size = A at hD hE ⊢
  have hA : ∀ q : Nat, s.heap.size ≤ q → A q := fun q h => by rw [← hAe]; exact Or.inr h
  have hS : va_S A s.heap s.heap [] := va_S.rf
  have hP : va_P D vwCl (wB q cq T R S X M P (nI n) h k w f d v z) s.heap := hP
  have hl := lv_entry ([.ref (q 0)]) (n := 1) (Nat.le_of_ble_eq_true rfl)
  rw [lg_entry_eq]
  generalize (lg_sl ([.ref (q 0)]) ++ List.replicate (1 - (lg_sl ([.ref (q 0)])).length) Slot.unset).toArray = ls at hl ⊢
  have hl : lv_has ls 1 [(0, .ref (q 0))] := hl
  refine lv_aload_n hx hb dX1_recordState_0 rfl (lv_at hl 0 rfl) ?_
  refine va_get (D := D) (ci := 1) (v := .int (nI n)) (C := RX1) (T := TX1) (N := 11) hx hb hts in_X1_recordState_X1 hown hK hP 0 rfl rfl 2 (by decide) (hts (.fieldLink RX1 16 "ZhegalkinBench" "recordedCount" "I") (List.mem_of_getElem? (i := 1) rfl)) (fun _ h9 => h9) rfl dX1_recordState_1 ?_
  refine lv_iconst (v := 4) hx hb dX1_recordState_4 (by decide) ?_
  refine lv_icmp_lt (tgt := 34) hx hb dX1_recordState_5 (by decide) (fun c_1 => ?_) (fun c_1 => ?_)
  · have hlt : n < 4 := Nat.lt_of_not_le (fun q9 => (nI_nlt (a := n) (b := 4) q9 (by omega)) c_1)
    refine lv_aload_n hx hb dX1_recordState_34 rfl (lv_at hl 0 rfl) ?_
    refine va_get (D := D) (ci := 1) (v := .ref (q 1)) (C := RX1) (T := TX1) (N := 11) hx hb hts in_X1_recordState_X1 hown hK hP 0 rfl rfl 0 (by decide) (hts (.fieldLink RX1 9 "ZhegalkinBench" "tables" "[I") (List.mem_of_getElem? (i := 7) rfl)) (fun _ h9 => h9) rfl dX1_recordState_35 ?_
    refine lv_iconst (v := 0) hx hb dX1_recordState_38 (by decide) ?_
    refine lv_aload_n hx hb dX1_recordState_39 rfl (lv_at hl 0 rfl) ?_
    refine va_get (D := D) (ci := 1) (v := .ref (q 2)) (C := RX1) (T := TX1) (N := 11) hx hb hts in_X1_recordState_X1 hown hK hP 0 rfl rfl 1 (by decide) (hts (.fieldLink RX1 13 "ZhegalkinBench" "recorded" "[I") (List.mem_of_getElem? (i := 2) rfl)) (fun _ h9 => h9) rfl dX1_recordState_40 ?_
    refine lv_aload_n hx hb dX1_recordState_43 rfl (lv_at hl 0 rfl) ?_
    refine va_get (D := D) (ci := 1) (v := .int (nI n)) (C := RX1) (T := TX1) (N := 11) hx hb hts in_X1_recordState_X1 hown hK hP 0 rfl rfl 2 (by decide) (hts (.fieldLink RX1 16 "ZhegalkinBench" "recordedCount" "I") (List.mem_of_getElem? (i := 1) rfl)) (fun _ h9 => h9) rfl dX1_recordState_44 ?_
    refine lv_bipush (v := 6) hx hb dX1_recordState_47 (by decide) ?_
    refine lv_imul hx hb dX1_recordState_49 ?_
    refine lv_is (nI (n * 6)) (by first | exact pk_mul _ _ | rfl) ?_
    refine lv_bipush (v := 6) hx hb dX1_recordState_50 (by decide) ?_
    refine vz_copyi hx hb (by rw [hml]; exact hl.1.symm) hown (hts (.methodLink RX1 105 arraycopyName) (List.mem_of_getElem? (i := 3) rfl)) (hts (.native arraycopyName) (List.mem_of_getElem? (i := 4) rfl)) (hts (.static arraycopyName) (List.mem_of_getElem? (i := 5) rfl)) (hts (.initialized "java/lang/System") (List.mem_of_getElem? (i := 6) rfl)) hK hP hD hS 1 2 0 1 rfl rfl rfl rfl 0 (n * 6) 6 (by omega) (by omega) (by decide) (by decide) (Nat.le_of_ble_eq_true rfl) (Nat.le_of_ble_eq_true rfl) dX1_recordState_52 (fun H locs hP hD hS => ?_)
    have hP : va_P D vwCl (wB q cq T (va_cpy T R 0 (n * 6) 6) S X M P (nI n) h k w f d v z) H := hP
    have hD : va_D A (wB q cq T (va_cpy T R 0 (n * 6) 6) S X M P (nI n) h k w f d v z) := hD
    refine lv_aload_n hx hb dX1_recordState_55 rfl (lv_at hl 0 rfl) ?_
    refine lv_dup hx hb dX1_recordState_56 rfl ?_
    refine va_get (D := D) (ci := 1) (v := .int (nI n)) (C := RX1) (T := TX1) (N := 11) hx hb hts in_X1_recordState_X1 hown hK hP 0 rfl rfl 2 (by decide) (hts (.fieldLink RX1 16 "ZhegalkinBench" "recordedCount" "I") (List.mem_of_getElem? (i := 1) rfl)) (fun _ h9 => h9) rfl dX1_recordState_57 ?_
    refine lv_iconst (v := 1) hx hb dX1_recordState_60 (by decide) ?_
    refine lv_iadd hx hb dX1_recordState_61 ?_
    refine lv_is (nI (n + 1)) (by first | exact nI_add _ _ | rfl) ?_
    refine va_put (D := D) (ci := 1) (v := .int (nI (n + 1))) (ty := .int) (C := RX1) (T := TX1) (N := 11) hx hb hts in_X1_recordState_X1 tyX1 tyX1_ok nmX1 hown hK hP hD hS 0 rfl rfl 2 (by decide) (hts (.fieldLink RX1 16 "ZhegalkinBench" "recordedCount" "I") (List.mem_of_getElem? (i := 1) rfl)) (fun _ h9 => h9) rfl (by decide +kernel) rfl rfl (Nat.le_of_ble_eq_true rfl) dX1_recordState_62 (fun H locs hP hD hS => ?_)
    have hP : va_P D vwCl (wB q cq T (va_cpy T R 0 (n * 6) 6) S X M P (nI (n + 1)) h k w f d v z) H := hP
    have hD : va_D A (wB q cq T (va_cpy T R 0 (n * 6) 6) S X M P (nI (n + 1)) h k w f d v z) := hD
    have hq : (fX1_recordState T R n) = ((va_cpy T R 0 (n * 6) 6), (n + 1)) := Eq.symm (by first | ((rw [fX1_recordState, if_pos c_1]); first | done | rfl) | rfl)
    exact W.vret hx hb hr (fun t9 ht hW => ⟨⟨(), rfl, trivial, by rw [hq]; exact ⟨by rw [ht]; exact hP, hD⟩⟩, hS.F ht⟩) hS.2.2 dX1_recordState_65
  · refine lv_aload_n hx hb dX1_recordState_8 rfl (lv_at hl 0 rfl) ?_
    refine lv_iconst (v := 3) hx hb dX1_recordState_9 (by decide) ?_
    refine va_put (D := D) (ci := 1) (v := .int 3) (ty := .int) (C := RX1) (T := TX1) (N := 11) hx hb hts in_X1_recordState_X1 tyX1 tyX1_ok nmX1 hown hK hP hD hS 0 rfl rfl 2 (by decide) (hts (.fieldLink RX1 16 "ZhegalkinBench" "recordedCount" "I") (List.mem_of_getElem? (i := 1) rfl)) (fun _ h9 => h9) rfl (by decide +kernel) rfl rfl (Nat.le_of_ble_eq_true rfl) dX1_recordState_10 (fun H locs hP hD hS => ?_)
    have hP : va_P D vwCl (wB q cq T R S X M P 3 h k w f d v z) H := hP
    have hD : va_D A (wB q cq T R S X M P 3 h k w f d v z) := hD
    refine lv_aload_n hx hb dX1_recordState_13 rfl (lv_at hl 0 rfl) ?_
    refine va_get (D := D) (ci := 1) (v := .ref (q 2)) (C := RX1) (T := TX1) (N := 11) hx hb hts in_X1_recordState_X1 hown hK hP 0 rfl rfl 1 (by decide) (hts (.fieldLink RX1 13 "ZhegalkinBench" "recorded" "[I") (List.mem_of_getElem? (i := 2) rfl)) (fun _ h9 => h9) rfl dX1_recordState_14 ?_
    refine lv_bipush (v := 6) hx hb dX1_recordState_17 (by decide) ?_
    refine lv_aload_n hx hb dX1_recordState_19 rfl (lv_at hl 0 rfl) ?_
    refine va_get (D := D) (ci := 1) (v := .ref (q 2)) (C := RX1) (T := TX1) (N := 11) hx hb hts in_X1_recordState_X1 hown hK hP 0 rfl rfl 1 (by decide) (hts (.fieldLink RX1 13 "ZhegalkinBench" "recorded" "[I") (List.mem_of_getElem? (i := 2) rfl)) (fun _ h9 => h9) rfl dX1_recordState_20 ?_
    refine lv_iconst (v := 0) hx hb dX1_recordState_23 (by decide) ?_
    refine lv_aload_n hx hb dX1_recordState_24 rfl (lv_at hl 0 rfl) ?_
    refine va_get (D := D) (ci := 1) (v := .int 3) (C := RX1) (T := TX1) (N := 11) hx hb hts in_X1_recordState_X1 hown hK hP 0 rfl rfl 2 (by decide) (hts (.fieldLink RX1 16 "ZhegalkinBench" "recordedCount" "I") (List.mem_of_getElem? (i := 1) rfl)) (fun _ h9 => h9) rfl dX1_recordState_25 ?_
    refine lv_bipush (v := 6) hx hb dX1_recordState_28 (by decide) ?_
    refine lv_imul hx hb dX1_recordState_30 ?_
    refine lv_is (nI (3 * 6)) (by first | exact pk_mul _ _ | rfl) ?_
    refine vz_copyi hx hb (by rw [hml]; exact hl.1.symm) hown (hts (.methodLink RX1 105 arraycopyName) (List.mem_of_getElem? (i := 3) rfl)) (hts (.native arraycopyName) (List.mem_of_getElem? (i := 4) rfl)) (hts (.static arraycopyName) (List.mem_of_getElem? (i := 5) rfl)) (hts (.initialized "java/lang/System") (List.mem_of_getElem? (i := 6) rfl)) hK hP hD hS 2 2 1 1 rfl rfl rfl rfl 6 0 (3 * 6) (by omega) (by omega) (by decide) (by decide) (Nat.le_of_ble_eq_true rfl) (Nat.le_of_ble_eq_true rfl) dX1_recordState_31 (fun H locs hP hD hS => ?_)
    have hP : va_P D vwCl (wB q cq T (va_cpy R R 6 0 (3 * 6)) S X M P 3 h k w f d v z) H := hP
    have hD : va_D A (wB q cq T (va_cpy R R 6 0 (3 * 6)) S X M P 3 h k w f d v z) := hD
    refine lv_aload_n hx hb dX1_recordState_34 rfl (lv_at hl 0 rfl) ?_
    refine va_get (D := D) (ci := 1) (v := .ref (q 1)) (C := RX1) (T := TX1) (N := 11) hx hb hts in_X1_recordState_X1 hown hK hP 0 rfl rfl 0 (by decide) (hts (.fieldLink RX1 9 "ZhegalkinBench" "tables" "[I") (List.mem_of_getElem? (i := 7) rfl)) (fun _ h9 => h9) rfl dX1_recordState_35 ?_
    refine lv_iconst (v := 0) hx hb dX1_recordState_38 (by decide) ?_
    refine lv_aload_n hx hb dX1_recordState_39 rfl (lv_at hl 0 rfl) ?_
    refine va_get (D := D) (ci := 1) (v := .ref (q 2)) (C := RX1) (T := TX1) (N := 11) hx hb hts in_X1_recordState_X1 hown hK hP 0 rfl rfl 1 (by decide) (hts (.fieldLink RX1 13 "ZhegalkinBench" "recorded" "[I") (List.mem_of_getElem? (i := 2) rfl)) (fun _ h9 => h9) rfl dX1_recordState_40 ?_
    refine lv_aload_n hx hb dX1_recordState_43 rfl (lv_at hl 0 rfl) ?_
    refine va_get (D := D) (ci := 1) (v := .int 3) (C := RX1) (T := TX1) (N := 11) hx hb hts in_X1_recordState_X1 hown hK hP 0 rfl rfl 2 (by decide) (hts (.fieldLink RX1 16 "ZhegalkinBench" "recordedCount" "I") (List.mem_of_getElem? (i := 1) rfl)) (fun _ h9 => h9) rfl dX1_recordState_44 ?_
    refine lv_bipush (v := 6) hx hb dX1_recordState_47 (by decide) ?_
    refine lv_imul hx hb dX1_recordState_49 ?_
    refine lv_is (nI (3 * 6)) (by first | exact pk_mul _ _ | rfl) ?_
    refine lv_bipush (v := 6) hx hb dX1_recordState_50 (by decide) ?_
    refine vz_copyi hx hb (by rw [hml]; exact hl.1.symm) hown (hts (.methodLink RX1 105 arraycopyName) (List.mem_of_getElem? (i := 3) rfl)) (hts (.native arraycopyName) (List.mem_of_getElem? (i := 4) rfl)) (hts (.static arraycopyName) (List.mem_of_getElem? (i := 5) rfl)) (hts (.initialized "java/lang/System") (List.mem_of_getElem? (i := 6) rfl)) hK hP hD hS 1 2 0 1 rfl rfl rfl rfl 0 (3 * 6) 6 (by omega) (by omega) (by decide) (by decide) (Nat.le_of_ble_eq_true rfl) (Nat.le_of_ble_eq_true rfl) dX1_recordState_52 (fun H locs hP hD hS => ?_)
    have hP : va_P D vwCl (wB q cq T (va_cpy T (va_cpy R R 6 0 (3 * 6)) 0 (3 * 6) 6) S X M P 3 h k w f d v z) H := hP
    have hD : va_D A (wB q cq T (va_cpy T (va_cpy R R 6 0 (3 * 6)) 0 (3 * 6) 6) S X M P 3 h k w f d v z) := hD
    refine lv_aload_n hx hb dX1_recordState_55 rfl (lv_at hl 0 rfl) ?_
    refine lv_dup hx hb dX1_recordState_56 rfl ?_
    refine va_get (D := D) (ci := 1) (v := .int 3) (C := RX1) (T := TX1) (N := 11) hx hb hts in_X1_recordState_X1 hown hK hP 0 rfl rfl 2 (by decide) (hts (.fieldLink RX1 16 "ZhegalkinBench" "recordedCount" "I") (List.mem_of_getElem? (i := 1) rfl)) (fun _ h9 => h9) rfl dX1_recordState_57 ?_
    refine lv_iconst (v := 1) hx hb dX1_recordState_60 (by decide) ?_
    refine lv_iadd hx hb dX1_recordState_61 ?_
    refine lv_is (nI (3 + 1)) (by first | exact nI_add _ _ | rfl) ?_
    refine va_put (D := D) (ci := 1) (v := .int (nI (3 + 1))) (ty := .int) (C := RX1) (T := TX1) (N := 11) hx hb hts in_X1_recordState_X1 tyX1 tyX1_ok nmX1 hown hK hP hD hS 0 rfl rfl 2 (by decide) (hts (.fieldLink RX1 16 "ZhegalkinBench" "recordedCount" "I") (List.mem_of_getElem? (i := 1) rfl)) (fun _ h9 => h9) rfl (by decide +kernel) rfl rfl (Nat.le_of_ble_eq_true rfl) dX1_recordState_62 (fun H locs hP hD hS => ?_)
    have hP : va_P D vwCl (wB q cq T (va_cpy T (va_cpy R R 6 0 (3 * 6)) 0 (3 * 6) 6) S X M P (nI (3 + 1)) h k w f d v z) H := hP
    have hD : va_D A (wB q cq T (va_cpy T (va_cpy R R 6 0 (3 * 6)) 0 (3 * 6) 6) S X M P (nI (3 + 1)) h k w f d v z) := hD
    have hq : (fX1_recordState T R n) = ((va_cpy T (va_cpy R R 6 0 (3 * 6)) 0 (3 * 6) 6), (3 + 1)) := Eq.symm (by first | ((rw [fX1_recordState, if_neg c_1]); first | done | rfl) | rfl)
    exact W.vret hx hb hr (fun t9 ht hW => ⟨⟨(), rfl, trivial, by rw [hq]; exact ⟨by rw [ht]; exact hP, hD⟩⟩, hS.F ht⟩) hS.2.2 dX1_recordState_65
theorem two_pow_i {i : Nat} (h : i < 4) : (1 : Int32) <<< ((nI i) &&& 31) = nI (2 ^ i) ∧ (1 ≤ 2 ^ i ∧ 2 ^ i ≤ 8) := by
  have hh : ∀ j, j < 4 → (1 : Int32) <<< ((nI j) &&& 31) = nI (2 ^ j) ∧ (1 ≤ 2 ^ j ∧ 2 ^ j ≤ 8) := by decide +kernel
  exact hh i h
theorem in_X1_sumPairs_X1 : ∀ w ∈ wsX10, w ∈ wsX1_sumPairs := by decide +kernel
def sX1_sumPairs_6 (st : Nat) (i1 : Nat) (a1 : (Nat → Int32)) : (Nat → Int32) := if ((nI i1) &&& (nI st)) = 0 then (upd (upd a1 i1 ((a1 i1) + (a1 (i1 + st)))) (i1 + st) ((a1 i1) - (a1 (i1 + st)))) else a1
def fX1_sumPairs (M : Nat → Int32) (st : Nat) : (Nat → Int32) := (lp (sX1_sumPairs_6 st) (16 - st) 0 M)
set_option maxHeartbeats 4000000 in
set_option maxRecDepth 100000 in
theorem c_X1_sumPairs (l : Launch) (D : va_G) (q : Nat → Nat) (cq : Nat → ClassId) (sz : Nat) (T : Nat → Int32) (R : Nat → Int32) (S : Nat → Int32) (X : Nat → Int32) (M : Nat → Int32) (P : Nat → Int32) (n : Int32) (h : Int32) (k : Int32) (w : Int32) (f : Int32) (d : Int32) (v : Int32) (z : Int32) (vv : Nat) (st : Nat) (hst : (1 : Int32) <<< ((nI vv) &&& 31) = nI st) (hst1 : 1 ≤ st ∧ st ≤ 8) : Met l yX1_sumPairs wsX1_sumPairs ({ frames := 0, cells := 0, slots := 0, locals := 0 }) (va_Pc [.ref (q 0), .int (nI vv)] (fun U => U.heap.size = sz ∧ va_P D vwCl (wB q cq T R S X M P n h k w f d v z) U.heap ∧ va_K D vwCl (tyB cq) U ∧ va_D (fun _ => True) (wB q cq T R S X M P n h k w f d v z) ∧ envE (va_A (wB q cq T R S X M P n h k w f d v z) sz) U)) (va_Qv (fun (_ : Unit) => True) (fun _ t9 => va_P D vwCl (wB q cq T R S X ((fX1_sumPairs M st)) P n h k w f d v z) t9.heap ∧ va_D (va_A (wB q cq T R S X M P n h k w f d v z) sz) (wB q cq T R S X ((fX1_sumPairs M st)) P n h k w f d v z)) (va_A (wB q cq T R S X M P n h k w f d v z) sz)) 0 0 (va_A (wB q cq T R S X M P n h k w f d v z) sz) := by
  refine Met.ofW (cc := cX1_sumPairs) (maxL := 6) (ret := none) (by decide) rfl ?_
  intro p e s m args below meth c s₁ B hml hv
  obtain ⟨rfl, hsz, hP, hK, hD0, hE⟩ := hv
  have hx := B.exec
  have hb := B.bytes
  have hr := B.returns
  have hts := atoms_spec (ws := wsX1_sumPairs) B.pre
  have hown : s.vm.findClass RX1 = some m.cls := findClass_of_methodNamed B.named
  have hlocks := B.notSynchronized
  subst hsz
  have hD := hD0.self (sz := s.heap.size)
  generalize hAe : va_A (wB q cq T R S X M P n h k w f d v z) s.heap.size = A at hD hE ⊢
  have hA : ∀ q : Nat, s.heap.size ≤ q → A q := fun q h => by rw [← hAe]; exact Or.inr h
  have hS : va_S A s.heap s.heap [] := va_S.rf
  have hP : va_P D vwCl (wB q cq T R S X M P n h k w f d v z) s.heap := hP
  have hl := lv_entry ([.ref (q 0), .int (nI vv)]) (n := 6) (Nat.le_of_ble_eq_true rfl)
  rw [lg_entry_eq]
  generalize (lg_sl ([.ref (q 0), .int (nI vv)]) ++ List.replicate (6 - (lg_sl ([.ref (q 0), .int (nI vv)])).length) Slot.unset).toArray = ls at hl ⊢
  have hl : lv_has ls 6 [(0, .ref (q 0)), (1, .int (nI vv))] := hl
  refine lv_iconst (v := 1) hx hb dX1_sumPairs_0 (by decide) ?_
  refine lv_iload_n hx hb dX1_sumPairs_1 rfl (lv_at hl 1 rfl) ?_
  refine lv_ishl hx hb dX1_sumPairs_2 ?_
  refine lv_is (nI st) hst ?_
  refine lv_istore_n (lv' := [(2, .int (nI st)), (0, .ref (q 0)), (1, .int (nI vv))]) hx hb dX1_sumPairs_3 rfl hl (by decide) rfl (fun ls hl => ?_)
  refine lv_iconst (v := 0) hx hb dX1_sumPairs_4 (by decide) ?_
  refine lv_istore_n (lv' := [(3, .int 0), (2, .int (nI st)), (0, .ref (q 0)), (1, .int (nI vv))]) hx hb dX1_sumPairs_5 rfl hl (by decide) rfl (fun ls hl => ?_)
  obtain ⟨F1, hF1⟩ : ∃ z9, z9 = (lp (sX1_sumPairs_6 st) (16 - st) 0 M) := ⟨_, rfl⟩
  refine vz_cut (fun H1 l1 g1 => ∃ (n1 i1 : Nat) (a1 : (Nat → Int32)) (ls : Array Slot), i1 + n1 = 16 - st ∧ lp (sX1_sumPairs_6 st) n1 i1 a1 = F1 ∧ lv_has ls 6 [(3, .int (nI i1)), (2, .int (nI st)), (0, .ref (q 0)), (1, .int (nI vv))] ∧ va_P D vwCl (wB q cq T R S X a1 P n h k w f d v z) H1 ∧ va_D A (wB q cq T R S X a1 P n h k w f d v z) ∧ va_S A s.heap H1 l1 ∧ g1 = F0 m 6 ls []) (fun hj => hj _ _ _ ⟨16 - st, 0, M, ls, (by omega), hF1.symm, lv_sub hl [0, 1, 2, 3] rfl, hP, hD, hS, rfl⟩) ?_
  rintro H locs g1 ⟨n1, i1, a1, ls, hi1, hf1, hl, hP, hD, hS, rfl⟩
  revert H locs i1 a1 ls
  induction n1 with
  | zero =>
    intro H locs i1 a1 ls hi1 hf1 hl hP hD hS
    obtain rfl : 16 - st = i1 := by omega
    have hf1 : F1 = a1 := hf1.symm
    subst hf1
    refine lv_iload_n hx hb dX1_sumPairs_6 rfl (lv_at hl 0 rfl) ?_
    refine lv_iload_n hx hb dX1_sumPairs_7 rfl (lv_at hl 1 rfl) ?_
    refine lv_iadd hx hb dX1_sumPairs_8 ?_
    refine lv_is (nI ((16 - st) + st)) (by first | exact nI_add _ _ | rfl) ?_
    refine lv_bipush (v := 16) hx hb dX1_sumPairs_9 (by decide) ?_
    refine lv_icmp_ge (tgt := 68) hx hb dX1_sumPairs_11 (by decide) (fun c_1 => ?_) (fun c_1 => ?_)
    · have hq : (fX1_sumPairs M st) = F1 := Eq.symm (by first | ((rw [fX1_sumPairs]); (try rw [← hF1]); first | done | rfl) | rfl)
      exact W.vret hx hb hr (fun t9 ht hW => ⟨⟨(), rfl, trivial, by rw [hq]; exact ⟨by rw [ht]; exact hP, hD⟩⟩, hS.F ht⟩) hS.2.2 dX1_sumPairs_68
    · exact absurd (nI_le (a := 16) (b := (16 - st + st)) (by omega) (by omega)) c_1
  | succ n1 ih1 =>
    intro H locs i1 a1 ls hi1 hf1 hl hP hD hS
    refine lv_iload_n hx hb dX1_sumPairs_6 rfl (lv_at hl 0 rfl) ?_
    refine lv_iload_n hx hb dX1_sumPairs_7 rfl (lv_at hl 1 rfl) ?_
    refine lv_iadd hx hb dX1_sumPairs_8 ?_
    refine lv_is (nI (i1 + st)) (by first | exact nI_add _ _ | rfl) ?_
    refine lv_bipush (v := 16) hx hb dX1_sumPairs_9 (by decide) ?_
    refine lv_icmp_ge (tgt := 68) hx hb dX1_sumPairs_11 (by decide) (fun c_2 => ?_) (fun c_2 => ?_)
    · exact absurd c_2 (nI_ge (a := (i1 + st)) (b := 16) (by omega) (by omega))
    · refine lv_iload_n hx hb dX1_sumPairs_14 rfl (lv_at hl 0 rfl) ?_
      refine lv_iload_n hx hb dX1_sumPairs_15 rfl (lv_at hl 1 rfl) ?_
      refine lv_iand hx hb dX1_sumPairs_16 ?_
      refine lv_if_ne (tgt := 62) hx hb dX1_sumPairs_17 (by decide) (fun c_3 => ?_) (fun c_3 => ?_)
      · refine lv_iinc (v := (nI (i1 + 1))) (lv' := [(3, .int (nI (i1 + 1))), (2, .int (nI st)), (0, .ref (q 0)), (1, .int (nI vv))]) hx hb dX1_sumPairs_62 hl (k := 0) rfl (by first | exact nI_add _ _ | rfl) (by decide) rfl (fun ls hl => ?_)
        refine lv_goto (tgt := 6) hx hb dX1_sumPairs_65 (by decide) ?_
        exact ih1 H locs (i1 + 1) a1 ls (by omega) ((congrArg (lp (sX1_sumPairs_6 st) n1 (i1 + 1)) (show a1 = (sX1_sumPairs_6 st) i1 a1 from by first | ((rw [sX1_sumPairs_6, if_neg c_3]); first | done | rfl) | rfl)).trans hf1) (lv_sub hl [0, 1, 2, 3] rfl) hP hD hS
      · refine lv_aload_n hx hb dX1_sumPairs_20 rfl (lv_at hl 2 rfl) ?_
        refine va_get (D := D) (ci := 1) (v := .ref (q 6)) (C := RX1) (T := TX1) (N := 11) hx hb hts in_X1_sumPairs_X1 hown hK hP 0 rfl rfl 8 (by decide) (hts (.fieldLink RX1 41 "ZhegalkinBench" "sums" "[I") (List.mem_of_getElem? (i := 1) rfl)) (fun _ h9 => h9) rfl dX1_sumPairs_21 ?_
        refine lv_iload_n hx hb dX1_sumPairs_24 rfl (lv_at hl 0 rfl) ?_
        refine vz_iald hx hb hK hP 6 4 rfl rfl i1 (by omega) (by decide) dX1_sumPairs_25 ?_
        refine lv_istore (lv' := [(4, .int (a1 i1)), (3, .int (nI i1)), (2, .int (nI st)), (0, .ref (q 0)), (1, .int (nI vv))]) hx hb dX1_sumPairs_26 hl (by decide) rfl (fun ls hl => ?_)
        refine lv_aload_n hx hb dX1_sumPairs_28 rfl (lv_at hl 3 rfl) ?_
        refine va_get (D := D) (ci := 1) (v := .ref (q 6)) (C := RX1) (T := TX1) (N := 11) hx hb hts in_X1_sumPairs_X1 hown hK hP 0 rfl rfl 8 (by decide) (hts (.fieldLink RX1 41 "ZhegalkinBench" "sums" "[I") (List.mem_of_getElem? (i := 1) rfl)) (fun _ h9 => h9) rfl dX1_sumPairs_29 ?_
        refine lv_iload_n hx hb dX1_sumPairs_32 rfl (lv_at hl 1 rfl) ?_
        refine lv_iload_n hx hb dX1_sumPairs_33 rfl (lv_at hl 2 rfl) ?_
        refine lv_iadd hx hb dX1_sumPairs_34 ?_
        refine lv_is (nI (i1 + st)) (by first | exact nI_add _ _ | rfl) ?_
        refine vz_iald hx hb hK hP 6 4 rfl rfl (i1 + st) (by omega) (by decide) dX1_sumPairs_35 ?_
        refine lv_istore (lv' := [(5, .int (a1 (i1 + st))), (4, .int (a1 i1)), (3, .int (nI i1)), (2, .int (nI st)), (0, .ref (q 0)), (1, .int (nI vv))]) hx hb dX1_sumPairs_36 hl (by decide) rfl (fun ls hl => ?_)
        refine lv_aload_n hx hb dX1_sumPairs_38 rfl (lv_at hl 4 rfl) ?_
        refine va_get (D := D) (ci := 1) (v := .ref (q 6)) (C := RX1) (T := TX1) (N := 11) hx hb hts in_X1_sumPairs_X1 hown hK hP 0 rfl rfl 8 (by decide) (hts (.fieldLink RX1 41 "ZhegalkinBench" "sums" "[I") (List.mem_of_getElem? (i := 1) rfl)) (fun _ h9 => h9) rfl dX1_sumPairs_39 ?_
        refine lv_iload_n hx hb dX1_sumPairs_42 rfl (lv_at hl 2 rfl) ?_
        refine lv_iload hx hb dX1_sumPairs_43 (lv_at hl 1 rfl) ?_
        refine lv_iload hx hb dX1_sumPairs_45 (lv_at hl 0 rfl) ?_
        refine lv_iadd hx hb dX1_sumPairs_47 ?_
        refine vz_iast hx hb hK hP hD hS 6 4 rfl rfl i1 (by omega) (by decide) dX1_sumPairs_48 (fun H locs hP hD hS => ?_)
        have hP : va_P D vwCl (wB q cq T R S X (upd a1 i1 ((a1 i1) + (a1 (i1 + st)))) P n h k w f d v z) H := hP
        have hD : va_D A (wB q cq T R S X (upd a1 i1 ((a1 i1) + (a1 (i1 + st)))) P n h k w f d v z) := hD
        refine lv_aload_n hx hb dX1_sumPairs_49 rfl (lv_at hl 4 rfl) ?_
        refine va_get (D := D) (ci := 1) (v := .ref (q 6)) (C := RX1) (T := TX1) (N := 11) hx hb hts in_X1_sumPairs_X1 hown hK hP 0 rfl rfl 8 (by decide) (hts (.fieldLink RX1 41 "ZhegalkinBench" "sums" "[I") (List.mem_of_getElem? (i := 1) rfl)) (fun _ h9 => h9) rfl dX1_sumPairs_50 ?_
        refine lv_iload_n hx hb dX1_sumPairs_53 rfl (lv_at hl 2 rfl) ?_
        refine lv_iload_n hx hb dX1_sumPairs_54 rfl (lv_at hl 3 rfl) ?_
        refine lv_iadd hx hb dX1_sumPairs_55 ?_
        refine lv_is (nI (i1 + st)) (by first | exact nI_add _ _ | rfl) ?_
        refine lv_iload hx hb dX1_sumPairs_56 (lv_at hl 1 rfl) ?_
        refine lv_iload hx hb dX1_sumPairs_58 (lv_at hl 0 rfl) ?_
        refine lv_isub hx hb dX1_sumPairs_60 ?_
        refine vz_iast hx hb hK hP hD hS 6 4 rfl rfl (i1 + st) (by omega) (by decide) dX1_sumPairs_61 (fun H locs hP hD hS => ?_)
        have hP : va_P D vwCl (wB q cq T R S X (upd (upd a1 i1 ((a1 i1) + (a1 (i1 + st)))) (i1 + st) ((a1 i1) - (a1 (i1 + st)))) P n h k w f d v z) H := hP
        have hD : va_D A (wB q cq T R S X (upd (upd a1 i1 ((a1 i1) + (a1 (i1 + st)))) (i1 + st) ((a1 i1) - (a1 (i1 + st)))) P n h k w f d v z) := hD
        refine lv_iinc (v := (nI (i1 + 1))) (lv' := [(3, .int (nI (i1 + 1))), (5, .int (a1 (i1 + st))), (4, .int (a1 i1)), (2, .int (nI st)), (0, .ref (q 0)), (1, .int (nI vv))]) hx hb dX1_sumPairs_62 hl (k := 2) rfl (by first | exact nI_add _ _ | rfl) (by decide) rfl (fun ls hl => ?_)
        refine lv_goto (tgt := 6) hx hb dX1_sumPairs_65 (by decide) ?_
        exact ih1 H locs (i1 + 1) (upd (upd a1 i1 ((a1 i1) + (a1 (i1 + st)))) (i1 + st) ((a1 i1) - (a1 (i1 + st)))) ls (by omega) ((congrArg (lp (sX1_sumPairs_6 st) n1 (i1 + 1)) (show (upd (upd a1 i1 ((a1 i1) + (a1 (i1 + st)))) (i1 + st) ((a1 i1) - (a1 (i1 + st)))) = (sX1_sumPairs_6 st) i1 a1 from by first | ((rw [sX1_sumPairs_6, if_pos c_3]); first | done | rfl) | rfl)).trans hf1) (lv_sub hl [0, 3, 4, 5] rfl) hP hD hS
theorem in_X1_sharedClasses_X1 : ∀ w ∈ wsX10, w ∈ wsX1_sharedClasses := by decide +kernel
def sX1_sharedClasses_5 (T : Nat → Int32) (x : Int32) (i1 : Nat) (a1 : Int32) : Int32 := if (fX1_bit x (nI i1)) = 1 then (a1 &&& (fX1_classesOf (T i1))) else a1
def fX1_sharedClasses (T : Nat → Int32) (x : Int32) : Int32 := (lp (sX1_sharedClasses_5 T x) 6 0 31)
set_option maxHeartbeats 4000000 in
set_option maxRecDepth 100000 in
theorem c_X1_sharedClasses (l : Launch) (D : va_G) (q : Nat → Nat) (cq : Nat → ClassId) (T : Nat → Int32) (R : Nat → Int32) (S : Nat → Int32) (X : Nat → Int32) (M : Nat → Int32) (P : Nat → Int32) (n : Int32) (h : Int32) (k : Int32) (w : Int32) (f : Int32) (d : Int32) (v : Int32) (z : Int32) (x : Int32) : Met l yX1_sharedClasses wsX1_sharedClasses ({ frames := 3, cells := 0, slots := 0, locals := 67 }) (va_Pc [.ref (q 0), .int x] (fun U => va_P D vwCl (wB q cq T R S X M P n h k w f d v z) U.heap ∧ va_K D vwCl (tyB cq) U ∧ env0 U)) (vp_Si (fun r9 => r9 = (fX1_sharedClasses T x))) 0 0 (fun _ => False) := by
  refine Met.ofW (cc := cX1_sharedClasses) (maxL := 4) (ret := (some .int)) (by decide) rfl ?_
  intro p e s m args below meth c s₁ B hml hv
  obtain ⟨rfl, hP, hK, hE⟩ := hv
  have hx := B.exec
  have hb := B.bytes
  have hr := B.returns
  have hts := atoms_spec (ws := wsX1_sharedClasses) B.pre
  have hown : s.vm.findClass RX1 = some m.cls := findClass_of_methodNamed B.named
  have hlocks := B.notSynchronized
  have hS : va_S (fun _ => False) s.heap s.heap [] := va_S.rf
  have hP : va_P D vwCl (wB q cq T R S X M P n h k w f d v z) s.heap := hP
  have hl := lv_entry ([.ref (q 0), .int x]) (n := 4) (Nat.le_of_ble_eq_true rfl)
  rw [lg_entry_eq]
  generalize (lg_sl ([.ref (q 0), .int x]) ++ List.replicate (4 - (lg_sl ([.ref (q 0), .int x])).length) Slot.unset).toArray = ls at hl ⊢
  have hl : lv_has ls 4 [(0, .ref (q 0)), (1, .int x)] := hl
  refine lv_bipush (v := 31) hx hb dX1_sharedClasses_0 (by decide) ?_
  refine lv_istore_n (lv' := [(2, .int 31), (0, .ref (q 0)), (1, .int x)]) hx hb dX1_sharedClasses_2 rfl hl (by decide) rfl (fun ls hl => ?_)
  refine lv_iconst (v := 0) hx hb dX1_sharedClasses_3 (by decide) ?_
  refine lv_istore_n (lv' := [(3, .int 0), (2, .int 31), (0, .ref (q 0)), (1, .int x)]) hx hb dX1_sharedClasses_4 rfl hl (by decide) rfl (fun ls hl => ?_)
  obtain ⟨F1, hF1⟩ : ∃ z9, z9 = (lp (sX1_sharedClasses_5 T x) 6 0 31) := ⟨_, rfl⟩
  refine vz_cut (fun H1 l1 g1 => ∃ (n1 i1 : Nat) (a1 : Int32) (ls : Array Slot), i1 + n1 = 6 ∧ lp (sX1_sharedClasses_5 T x) n1 i1 a1 = F1 ∧ lv_has ls 4 [(3, .int (nI i1)), (2, .int a1), (0, .ref (q 0)), (1, .int x)] ∧ (s.heap = H1 ∧ [] = l1) ∧ g1 = F0 m 5 ls []) (fun hj => hj _ _ _ ⟨6, 0, 31, ls, (by omega), hF1.symm, lv_sub hl [0, 1, 2, 3] rfl, ⟨rfl, rfl⟩, rfl⟩) ?_
  rintro H1 l1 g1 ⟨n1, i1, a1, ls, hi1, hf1, hl, ⟨rfl, rfl⟩, rfl⟩
  revert i1 a1 ls
  induction n1 with
  | zero =>
    intro i1 a1 ls hi1 hf1 hl
    obtain rfl : 6 = i1 := by omega
    have hf1 : F1 = a1 := hf1.symm
    subst hf1
    refine lv_iload_n hx hb dX1_sharedClasses_5 rfl (lv_at hl 0 rfl) ?_
    refine lv_bipush (v := 6) hx hb dX1_sharedClasses_6 (by decide) ?_
    refine lv_icmp_ge (tgt := 38) hx hb dX1_sharedClasses_8 (by decide) (fun c_1 => ?_) (fun c_1 => ?_)
    · refine lv_iload_n hx hb dX1_sharedClasses_38 rfl (lv_at hl 1 rfl) ?_
      exact W.iret (v := F1) hx hb hr (fun t9 ht hW => ⟨F1, rfl, (by first | ((rw [fX1_sharedClasses]); (try rw [← hF1]); first | done | rfl) | rfl), ht⟩) (fun q h => nomatch h) dX1_sharedClasses_39
    · exact absurd (nI_le (a := 6) (b := 6) (by omega) (by omega)) c_1
  | succ n1 ih1 =>
    intro i1 a1 ls hi1 hf1 hl
    refine lv_iload_n hx hb dX1_sharedClasses_5 rfl (lv_at hl 0 rfl) ?_
    refine lv_bipush (v := 6) hx hb dX1_sharedClasses_6 (by decide) ?_
    refine lv_icmp_ge (tgt := 38) hx hb dX1_sharedClasses_8 (by decide) (fun c_2 => ?_) (fun c_2 => ?_)
    · exact absurd c_2 (nI_ge (a := i1) (b := 6) (by omega) (by omega))
    · refine lv_iload_n hx hb dX1_sharedClasses_11 rfl (lv_at hl 3 rfl) ?_
      refine lv_iload_n hx hb dX1_sharedClasses_12 rfl (lv_at hl 0 rfl) ?_
      refine vp_callSi (va_Run.run (va_runS (As := [.int x, .int (nI i1)]) (rest := []) ⟨hx, hb, hml, hown, hts⟩ (c_X1_bit l x (nI i1)) (va_cwS 2 hts gX1_sharedClasses_X1_bit rfl rfl rfl (by decide +kernel) ⟨Nat.le_of_ble_eq_true rfl, Nat.le_of_ble_eq_true rfl⟩) ⟨fun _ _ _ _ z => z, fun _ _ _ => ⟨rfl, trivial⟩⟩ rfl rfl hl.1 rfl (lv_room (Nat.le_of_ble_eq_true rfl)) dX1_sharedClasses_13 ⟨(Nat.zero_le _), (Nat.zero_le _)⟩)) (fun r9 hr => ?_)
      subst r9
      refine lv_iconst (v := 1) hx hb dX1_sharedClasses_16 (by decide) ?_
      refine lv_icmp_ne (tgt := 32) hx hb dX1_sharedClasses_17 (by decide) (fun c_3 => ?_) (fun c_3 => ?_)
      · refine lv_iinc (v := (nI (i1 + 1))) (lv' := [(3, .int (nI (i1 + 1))), (2, .int a1), (0, .ref (q 0)), (1, .int x)]) hx hb dX1_sharedClasses_32 hl (k := 0) rfl (by first | exact nI_add _ _ | rfl) (by decide) rfl (fun ls hl => ?_)
        refine lv_goto (tgt := 5) hx hb dX1_sharedClasses_35 (by decide) ?_
        exact ih1 (i1 + 1) a1 ls (by omega) ((congrArg (lp (sX1_sharedClasses_5 T x) n1 (i1 + 1)) (show a1 = (sX1_sharedClasses_5 T x) i1 a1 from by first | ((rw [sX1_sharedClasses_5, if_neg c_3]); first | done | rfl) | rfl)).trans hf1) (lv_sub hl [0, 1, 2, 3] rfl)
      · refine lv_iload_n hx hb dX1_sharedClasses_20 rfl (lv_at hl 1 rfl) ?_
        refine lv_aload_n hx hb dX1_sharedClasses_21 rfl (lv_at hl 2 rfl) ?_
        refine va_get (D := D) (ci := 1) (v := .ref (q 1)) (C := RX1) (T := TX1) (N := 11) hx hb hts in_X1_sharedClasses_X1 hown hK hP 0 rfl rfl 0 (by decide) (hts (.fieldLink RX1 9 "ZhegalkinBench" "tables" "[I") (List.mem_of_getElem? (i := 1) rfl)) (fun _ h9 => h9) rfl dX1_sharedClasses_22 ?_
        refine lv_iload_n hx hb dX1_sharedClasses_25 rfl (lv_at hl 0 rfl) ?_
        refine vz_iald hx hb hK hP 1 0 rfl rfl i1 (by omega) (by decide) dX1_sharedClasses_26 ?_
        refine vp_callSi (va_Run.run (va_runS (As := [.int (T i1)]) (rest := [.int a1]) ⟨hx, hb, hml, hown, hts⟩ (c_X1_classesOf l (T i1)) (va_cwS 1 hts gX1_sharedClasses_X1_classesOf rfl rfl rfl (by decide +kernel) ⟨Nat.le_of_ble_eq_true rfl, Nat.le_of_ble_eq_true rfl⟩) ⟨fun a U g mk z => ⟨z.1, z.2.blind g mk a⟩, fun U hU hW => ⟨rfl, hE.at0 hS hU hW⟩⟩ rfl rfl hl.1 rfl (lv_room (Nat.le_of_ble_eq_true rfl)) dX1_sharedClasses_27 ⟨(Nat.zero_le _), (Nat.zero_le _)⟩)) (fun r9 hr => ?_)
        subst r9
        refine lv_iand hx hb dX1_sharedClasses_30 ?_
        refine lv_istore_n (lv' := [(2, .int (a1 &&& (fX1_classesOf (T i1)))), (3, .int (nI i1)), (0, .ref (q 0)), (1, .int x)]) hx hb dX1_sharedClasses_31 rfl hl (by decide) rfl (fun ls hl => ?_)
        refine lv_iinc (v := (nI (i1 + 1))) (lv' := [(3, .int (nI (i1 + 1))), (2, .int (a1 &&& (fX1_classesOf (T i1)))), (0, .ref (q 0)), (1, .int x)]) hx hb dX1_sharedClasses_32 hl (k := 1) rfl (by first | exact nI_add _ _ | rfl) (by decide) rfl (fun ls hl => ?_)
        refine lv_goto (tgt := 5) hx hb dX1_sharedClasses_35 (by decide) ?_
        exact ih1 (i1 + 1) (a1 &&& (fX1_classesOf (T i1))) ls (by omega) ((congrArg (lp (sX1_sharedClasses_5 T x) n1 (i1 + 1)) (show (a1 &&& (fX1_classesOf (T i1))) = (sX1_sharedClasses_5 T x) i1 a1 from by first | ((rw [sX1_sharedClasses_5, if_pos c_3]); first | done | rfl) | rfl)).trans hf1) (lv_sub hl [0, 1, 2, 3] rfl)
theorem in_X1_put_X1 : ∀ w ∈ wsX10, w ∈ wsX1_put := by decide +kernel
def fX1_put (P : Nat → Int32) (z : Nat) (x : Int32) : (Nat → Int32) × Nat := if 48 ≤ (nI z) then (P, z) else ((upd P z x), (z + 1))
set_option maxHeartbeats 4000000 in
set_option maxRecDepth 100000 in
theorem c_X1_put (l : Launch) (D : va_G) (q : Nat → Nat) (cq : Nat → ClassId) (sz : Nat) (T : Nat → Int32) (R : Nat → Int32) (S : Nat → Int32) (X : Nat → Int32) (M : Nat → Int32) (P : Nat → Int32) (n : Int32) (h : Int32) (k : Int32) (w : Int32) (f : Int32) (d : Int32) (v : Int32) (z : Nat) (x : Int32) (hx9 : vp_nar .char x = x) (hz : z ≤ 48) : Met l yX1_put wsX1_put ({ frames := 0, cells := 0, slots := 0, locals := 0 }) (va_Pc [.ref (q 0), .int x] (fun U => U.heap.size = sz ∧ va_P D vwCl (wB q cq T R S X M P n h k w f d v (nI z)) U.heap ∧ va_K D vwCl (tyB cq) U ∧ va_D (fun _ => True) (wB q cq T R S X M P n h k w f d v (nI z)) ∧ envE (va_A (wB q cq T R S X M P n h k w f d v (nI z)) sz) U)) (va_Qv (fun (_ : Unit) => True) (fun _ t9 => va_P D vwCl (wB q cq T R S X M ((fX1_put P z x).1) n h k w f d v (nI (fX1_put P z x).2)) t9.heap ∧ va_D (va_A (wB q cq T R S X M P n h k w f d v (nI z)) sz) (wB q cq T R S X M ((fX1_put P z x).1) n h k w f d v (nI (fX1_put P z x).2))) (va_A (wB q cq T R S X M P n h k w f d v (nI z)) sz)) 0 0 (va_A (wB q cq T R S X M P n h k w f d v (nI z)) sz) := by
  refine Met.ofW (cc := cX1_put) (maxL := 2) (ret := none) (by decide) rfl ?_
  intro p e s m args below meth c s₁ B hml hv
  obtain ⟨rfl, hsz, hP, hK, hD0, hE⟩ := hv
  have hx := B.exec
  have hb := B.bytes
  have hr := B.returns
  have hts := atoms_spec (ws := wsX1_put) B.pre
  have hown : s.vm.findClass RX1 = some m.cls := findClass_of_methodNamed B.named
  have hlocks := B.notSynchronized
  subst hsz
  have hD := hD0.self (sz := s.heap.size)
  generalize hAe : va_A (wB q cq T R S X M P n h k w f d v (nI z)) s.heap.size = A at hD hE ⊢
  have hA : ∀ q : Nat, s.heap.size ≤ q → A q := fun q h => by rw [← hAe]; exact Or.inr h
  have hS : va_S A s.heap s.heap [] := va_S.rf
  have hP : va_P D vwCl (wB q cq T R S X M P n h k w f d v (nI z)) s.heap := hP
  have hl := lv_entry ([.ref (q 0), .int x]) (n := 2) (Nat.le_of_ble_eq_true rfl)
  rw [lg_entry_eq]
  generalize (lg_sl ([.ref (q 0), .int x]) ++ List.replicate (2 - (lg_sl ([.ref (q 0), .int x])).length) Slot.unset).toArray = ls at hl ⊢
  have hl : lv_has ls 2 [(0, .ref (q 0)), (1, .int x)] := hl
  refine lv_aload_n hx hb dX1_put_0 rfl (lv_at hl 0 rfl) ?_
  refine va_get (D := D) (ci := 1) (v := .int (nI z)) (C := RX1) (T := TX1) (N := 11) hx hb hts in_X1_put_X1 hown hK hP 0 rfl rfl 10 (by decide) (hts (.fieldLink RX1 47 "ZhegalkinBench" "printedCount" "I") (List.mem_of_getElem? (i := 1) rfl)) (fun _ h9 => h9) rfl dX1_put_1 ?_
  refine lv_bipush (v := 48) hx hb dX1_put_4 (by decide) ?_
  refine lv_icmp_ge (tgt := 29) hx hb dX1_put_6 (by decide) (fun c_1 => ?_) (fun c_1 => ?_)
  · have hq : (fX1_put P z x) = (P, z) := Eq.symm (by first | ((rw [fX1_put, if_pos c_1]); first | done | rfl) | rfl)
    exact W.vret hx hb hr (fun t9 ht hW => ⟨⟨(), rfl, trivial, by rw [hq]; exact ⟨by rw [ht]; exact hP, hD⟩⟩, hS.F ht⟩) hS.2.2 dX1_put_29
  · have hlt : z < 48 := Nat.lt_of_not_le (fun q9 => c_1 (nI_le q9 (by omega)))
    refine lv_aload_n hx hb dX1_put_9 rfl (lv_at hl 0 rfl) ?_
    refine va_get (D := D) (ci := 1) (v := .ref (q 7)) (C := RX1) (T := TX1) (N := 11) hx hb hts in_X1_put_X1 hown hK hP 0 rfl rfl 9 (by decide) (hts (.fieldLink RX1 44 "ZhegalkinBench" "printed" "[C") (List.mem_of_getElem? (i := 2) rfl)) (fun _ h9 => h9) rfl dX1_put_10 ?_
    refine lv_aload_n hx hb dX1_put_13 rfl (lv_at hl 0 rfl) ?_
    refine va_get (D := D) (ci := 1) (v := .int (nI z)) (C := RX1) (T := TX1) (N := 11) hx hb hts in_X1_put_X1 hown hK hP 0 rfl rfl 10 (by decide) (hts (.fieldLink RX1 47 "ZhegalkinBench" "printedCount" "I") (List.mem_of_getElem? (i := 1) rfl)) (fun _ h9 => h9) rfl dX1_put_14 ?_
    refine lv_iload_n hx hb dX1_put_17 rfl (lv_at hl 1 rfl) ?_
    refine vz_cast hx hb hK hP hD hS 7 5 rfl rfl hx9 z (by omega) (by decide) dX1_put_18 (fun H locs hP hD hS => ?_)
    have hP : va_P D vwCl (wB q cq T R S X M (upd P z x) n h k w f d v (nI z)) H := hP
    have hD : va_D A (wB q cq T R S X M (upd P z x) n h k w f d v (nI z)) := hD
    refine lv_aload_n hx hb dX1_put_19 rfl (lv_at hl 0 rfl) ?_
    refine lv_dup hx hb dX1_put_20 rfl ?_
    refine va_get (D := D) (ci := 1) (v := .int (nI z)) (C := RX1) (T := TX1) (N := 11) hx hb hts in_X1_put_X1 hown hK hP 0 rfl rfl 10 (by decide) (hts (.fieldLink RX1 47 "ZhegalkinBench" "printedCount" "I") (List.mem_of_getElem? (i := 1) rfl)) (fun _ h9 => h9) rfl dX1_put_21 ?_
    refine lv_iconst (v := 1) hx hb dX1_put_24 (by decide) ?_
    refine lv_iadd hx hb dX1_put_25 ?_
    refine lv_is (nI (z + 1)) (by first | exact nI_add _ _ | rfl) ?_
    refine va_put (D := D) (ci := 1) (v := .int (nI (z + 1))) (ty := .int) (C := RX1) (T := TX1) (N := 11) hx hb hts in_X1_put_X1 tyX1 tyX1_ok nmX1 hown hK hP hD hS 0 rfl rfl 10 (by decide) (hts (.fieldLink RX1 47 "ZhegalkinBench" "printedCount" "I") (List.mem_of_getElem? (i := 1) rfl)) (fun _ h9 => h9) rfl (by decide +kernel) rfl rfl (Nat.le_of_ble_eq_true rfl) dX1_put_26 (fun H locs hP hD hS => ?_)
    have hP : va_P D vwCl (wB q cq T R S X M (upd P z x) n h k w f d v (nI (z + 1))) H := hP
    have hD : va_D A (wB q cq T R S X M (upd P z x) n h k w f d v (nI (z + 1))) := hD
    have hq : (fX1_put P z x) = ((upd P z x), (z + 1)) := Eq.symm (by first | ((rw [fX1_put, if_neg c_1]); first | done | rfl) | rfl)
    exact W.vret hx hb hr (fun t9 ht hW => ⟨⟨(), rfl, trivial, by rw [hq]; exact ⟨by rw [ht]; exact hP, hD⟩⟩, hS.F ht⟩) hS.2.2 dX1_put_29
theorem fX1_put_le {P : Nat → Int32} {z : Nat} {x : Int32} (h : z ≤ 48) : (fX1_put P z x).2 ≤ 48 := by
  unfold fX1_put
  split
  · exact h
  · rename_i h2
    have h3 : z < 48 := Nat.lt_of_not_le (fun q9 => h2 (nI_le q9 (by omega)))
    show z + 1 ≤ 48
    omega
def sX1_printProduct_12 (x : Int32) (i1 : Nat) (a1 : (Nat → Int32) × Nat) : (Nat → Int32) × Nat := if (fX1_bit x (nI i1)) = 1 then ((fX1_put a1.1 a1.2 (((97 + (nI i1)).toUInt32 % 65536).toInt32)).1, ((fX1_put a1.1 a1.2 (((97 + (nI i1)).toUInt32 % 65536).toInt32)).2)) else (a1.1, a1.2)
def fX1_printProduct (P : Nat → Int32) (z : Nat) (x : Int32) : (Nat → Int32) × Nat := ((lp (sX1_printProduct_12 x) 4 0 ((if x = 0 then (fX1_put P z 49).1 else P : Nat → Int32), (if x = 0 then ((fX1_put P z 49).2) else z : Nat))).1, (lp (sX1_printProduct_12 x) 4 0 ((if x = 0 then (fX1_put P z 49).1 else P : Nat → Int32), (if x = 0 then ((fX1_put P z 49).2) else z : Nat))).2)
set_option maxHeartbeats 4000000 in
set_option maxRecDepth 100000 in
theorem c_X1_printProduct (l : Launch) (D : va_G) (q : Nat → Nat) (cq : Nat → ClassId) (sz : Nat) (T : Nat → Int32) (R : Nat → Int32) (S : Nat → Int32) (X : Nat → Int32) (M : Nat → Int32) (P : Nat → Int32) (n : Int32) (h : Int32) (k : Int32) (w : Int32) (f : Int32) (d : Int32) (v : Int32) (z : Nat) (x : Int32) (hz : z ≤ 48) : Met l yX1_printProduct wsX1_printProduct ({ frames := 1, cells := 0, slots := 0, locals := 21 }) (va_Pc [.ref (q 0), .int x] (fun U => U.heap.size = sz ∧ va_P D vwCl (wB q cq T R S X M P n h k w f d v (nI z)) U.heap ∧ va_K D vwCl (tyB cq) U ∧ va_D (fun _ => True) (wB q cq T R S X M P n h k w f d v (nI z)) ∧ envE (va_A (wB q cq T R S X M P n h k w f d v (nI z)) sz) U)) (va_Qv (fun (_ : Unit) => True) (fun _ t9 => va_P D vwCl (wB q cq T R S X M ((fX1_printProduct P z x).1) n h k w f d v (nI (fX1_printProduct P z x).2)) t9.heap ∧ va_D (va_A (wB q cq T R S X M P n h k w f d v (nI z)) sz) (wB q cq T R S X M ((fX1_printProduct P z x).1) n h k w f d v (nI (fX1_printProduct P z x).2))) (va_A (wB q cq T R S X M P n h k w f d v (nI z)) sz)) 0 0 (va_A (wB q cq T R S X M P n h k w f d v (nI z)) sz) := by
  refine Met.ofW (cc := cX1_printProduct) (maxL := 3) (ret := none) (by decide) rfl ?_
  intro p e s m args below meth c s₁ B hml hv
  obtain ⟨rfl, hsz, hP, hK, hD0, hE⟩ := hv
  have hx := B.exec
  have hb := B.bytes
  have hr := B.returns
  have hts := atoms_spec (ws := wsX1_printProduct) B.pre
  have hown : s.vm.findClass RX1 = some m.cls := findClass_of_methodNamed B.named
  have hlocks := B.notSynchronized
  subst hsz
  have hD := hD0.self (sz := s.heap.size)
  generalize hAe : va_A (wB q cq T R S X M P n h k w f d v (nI z)) s.heap.size = A at hD hE ⊢
  have hA : ∀ q : Nat, s.heap.size ≤ q → A q := fun q h => by rw [← hAe]; exact Or.inr h
  have hS : va_S A s.heap s.heap [] := va_S.rf
  have hP : va_P D vwCl (wB q cq T R S X M P n h k w f d v (nI z)) s.heap := hP
  have hl := lv_entry ([.ref (q 0), .int x]) (n := 3) (Nat.le_of_ble_eq_true rfl)
  rw [lg_entry_eq]
  generalize (lg_sl ([.ref (q 0), .int x]) ++ List.replicate (3 - (lg_sl ([.ref (q 0), .int x])).length) Slot.unset).toArray = ls at hl ⊢
  have hl : lv_has ls 3 [(0, .ref (q 0)), (1, .int x)] := hl
  refine lv_iload_n hx hb dX1_printProduct_0 rfl (lv_at hl 1 rfl) ?_
  refine vz_cut (fun H1 l1 g1 => ∃ (x1_0 : Nat → Int32) (x1_1 : Nat) (ls : Array Slot), x1_0 = (if x = 0 then (fX1_put P z 49).1 else P : Nat → Int32) ∧ x1_1 = (if x = 0 then ((fX1_put P z 49).2) else z : Nat) ∧ lv_has ls 3 [(0, .ref (q 0)), (1, .int x)] ∧ va_P D vwCl (wB q cq T R S X M x1_0 n h k w f d v (nI x1_1)) H1 ∧ va_D A (wB q cq T R S X M x1_0 n h k w f d v (nI x1_1)) ∧ va_S A s.heap H1 l1 ∧ g1 = F0 m 10 ls []) (fun hj1 => ?_) ?_
  · refine lv_if_ne (tgt := 10) hx hb dX1_printProduct_1 (by decide) (fun c_1 => ?_) (fun c_1 => ?_)
    · exact hj1 _ _ _ ⟨P, z, ls, (by (rw [if_neg c_1]); first | done | rfl), (by (rw [if_neg c_1]); first | done | rfl), lv_sub hl [0, 1] rfl, hP, hD, hS, rfl⟩
    · refine lv_aload_n hx hb dX1_printProduct_4 rfl (lv_at hl 0 rfl) ?_
      refine lv_bipush (v := 49) hx hb dX1_printProduct_5 (by decide) ?_
      have hPc := hP.sub (ws' := (wB q cq T R S X M P n h k w f d v (nI z))) [0, 1, 2, 3, 4, 5, 6, 7] rfl
      have hKc := hK.sub (tys' := (tyB cq)) [0, 1, 2, 3, 4, 5] rfl
      have hDc := hD.sub (ws' := (wB q cq T R S X M P n h k w f d v (nI z))) [0, 1, 2, 3, 4, 5, 6, 7] (by decide) rfl
      have hFc := va_free (wc := (wB q cq T R S X M P n h k w f d v (nI z))) hD hS hA [0, 1, 2, 3, 4, 5, 6, 7] rfl
      refine va_callv (va_runV (As := [.int 49]) (rest := []) ⟨hx, hb, hml, hown, hts⟩ (c_X1_put l D q cq s.heap.size T R S X M P n h k w f d v z 49 (by decide) (by omega)) (cwV 1 hts gX1_printProduct_X1_put rfl rfl rfl (by decide +kernel) ⟨Nat.le_of_ble_eq_true rfl, Nat.le_of_ble_eq_true rfl⟩) ⟨fun a U g mk z => ⟨z.1, z.2.1, z.2.2.1, va_K.moved (u := U) (U := U.calling g mk a) (Vm.Alike.refl U.vm) z.2.2.2.1, z.2.2.2.2.1, z.2.2.2.2.2.blind g mk a⟩, va_recv hKc hPc (ci := 1) (q0 := 0) rfl rfl, fun U hU hW => ⟨rfl, by rw [hU], by rw [hU]; exact hPc, va_K.moved hW.alike hKc, hDc.weaken (fun _ _ _ _ => trivial), hE.at hS hU hW hFc⟩⟩ rfl rfl hl.1 rfl (lv_room (Nat.le_of_ble_eq_true rfl)) dX1_printProduct_7 ⟨(Nat.zero_le _), (Nat.zero_le _)⟩) hS (fun q _ h => hFc q h) hFc (fun u9 t8 H1 locs ht hvm hw hB hz1 hk1 hS => ?_)
      obtain ⟨hP1, hD1⟩ := hB
      rw [ht] at hP1
      obtain ⟨hP, hD⟩ := va_join (wr := []) (w1 := (wB q cq T R S X M ((fX1_put P z 49).1) n h k w f d v (nI (fX1_put P z 49).2))) hP hD [0, 1, 2, 3, 4, 5, 6, 7] [] rfl rfl (by decide) (by decide) hk1 hFc hP1 hD1
      have hP := hP.sub (ws' := (wB q cq T R S X M ((fX1_put P z 49).1) n h k w f d v (nI (fX1_put P z 49).2))) [0, 1, 2, 3, 4, 5, 6, 7] rfl
      have hD := hD.sub (ws' := (wB q cq T R S X M ((fX1_put P z 49).1) n h k w f d v (nI (fX1_put P z 49).2))) [0, 1, 2, 3, 4, 5, 6, 7] (by decide) rfl
      generalize H1 = H at hP hS ⊢
      have hz2 : (fX1_put P z 49).2 ≤ 48 := fX1_put_le (by omega)
      exact hj1 _ _ _ ⟨(fX1_put P z 49).1, ((fX1_put P z 49).2), ls, (by (rw [if_pos c_1]); first | done | rfl), (by (rw [if_pos c_1]); first | done | rfl), lv_sub hl [0, 1] rfl, hP, hD, hS, rfl⟩
  rintro H locs g1 ⟨x1_0, x1_1, ls, ex1_0, ex1_1, hl, hP, hD, hS, rfl⟩
  subst x1_0
  subst x1_1
  have hz0 : (if x = 0 then ((fX1_put P z 49).2) else z : Nat) ≤ 48 := by split <;> first | assumption | exact fX1_put_le hz
  refine lv_iconst (v := 0) hx hb dX1_printProduct_10 (by decide) ?_
  refine lv_istore_n (lv' := [(2, .int 0), (0, .ref (q 0)), (1, .int x)]) hx hb dX1_printProduct_11 rfl hl (by decide) rfl (fun ls hl => ?_)
  obtain ⟨F1, hF1⟩ : ∃ z9, z9 = (lp (sX1_printProduct_12 x) 4 0 ((if x = 0 then (fX1_put P z 49).1 else P : Nat → Int32), (if x = 0 then ((fX1_put P z 49).2) else z : Nat))) := ⟨_, rfl⟩
  refine vz_cut (fun H1 l1 g1 => ∃ (n1 i1 : Nat) (a1 : (Nat → Int32) × Nat) (ls : Array Slot), i1 + n1 = 4 ∧ lp (sX1_printProduct_12 x) n1 i1 a1 = F1 ∧ a1.2 ≤ 48 ∧ lv_has ls 3 [(2, .int (nI i1)), (0, .ref (q 0)), (1, .int x)] ∧ va_P D vwCl (wB q cq T R S X M a1.1 n h k w f d v (nI a1.2)) H1 ∧ va_D A (wB q cq T R S X M a1.1 n h k w f d v (nI a1.2)) ∧ va_S A s.heap H1 l1 ∧ g1 = F0 m 12 ls []) (fun hj => hj _ _ _ ⟨4, 0, ((if x = 0 then (fX1_put P z 49).1 else P : Nat → Int32), (if x = 0 then ((fX1_put P z 49).2) else z : Nat)), ls, (by omega), hF1.symm, (by omega), lv_sub hl [0, 1, 2] rfl, hP, hD, hS, rfl⟩) ?_
  rintro H locs g1 ⟨n1, i1, a1, ls, hi1, hf1, hv1_0, hl, hP, hD, hS, rfl⟩
  revert H locs i1 a1 ls
  induction n1 with
  | zero =>
    intro H locs i1 a1 ls hi1 hf1 hv1_0 hl hP hD hS
    obtain rfl : 4 = i1 := by omega
    have hf1 : F1 = a1 := hf1.symm
    subst hf1
    refine lv_iload_n hx hb dX1_printProduct_12 rfl (lv_at hl 0 rfl) ?_
    refine lv_iconst (v := 4) hx hb dX1_printProduct_13 (by decide) ?_
    refine lv_icmp_ge (tgt := 41) hx hb dX1_printProduct_14 (by decide) (fun c_3 => ?_) (fun c_3 => ?_)
    · have hq : (fX1_printProduct P z x) = (F1.1, F1.2) := Eq.symm (by first | ((rw [fX1_printProduct]); (try rw [← hF1]); first | done | rfl) | rfl)
      exact W.vret hx hb hr (fun t9 ht hW => ⟨⟨(), rfl, trivial, by rw [hq]; exact ⟨by rw [ht]; exact hP, hD⟩⟩, hS.F ht⟩) hS.2.2 dX1_printProduct_41
    · exact absurd (nI_le (a := 4) (b := 4) (by omega) (by omega)) c_3
  | succ n1 ih1 =>
    intro H locs i1 a1 ls hi1 hf1 hv1_0 hl hP hD hS
    refine lv_iload_n hx hb dX1_printProduct_12 rfl (lv_at hl 0 rfl) ?_
    refine lv_iconst (v := 4) hx hb dX1_printProduct_13 (by decide) ?_
    refine lv_icmp_ge (tgt := 41) hx hb dX1_printProduct_14 (by decide) (fun c_4 => ?_) (fun c_4 => ?_)
    · exact absurd c_4 (nI_ge (a := i1) (b := 4) (by omega) (by omega))
    · refine lv_iload_n hx hb dX1_printProduct_17 rfl (lv_at hl 2 rfl) ?_
      refine lv_iload_n hx hb dX1_printProduct_18 rfl (lv_at hl 0 rfl) ?_
      refine vp_callSi (va_Run.run (va_runS (As := [.int x, .int (nI i1)]) (rest := []) ⟨hx, hb, hml, hown, hts⟩ (c_X1_bit l x (nI i1)) (va_cwS 2 hts gX1_printProduct_X1_bit rfl rfl rfl (by decide +kernel) ⟨Nat.le_of_ble_eq_true rfl, Nat.le_of_ble_eq_true rfl⟩) ⟨fun _ _ _ _ z => z, fun _ _ _ => ⟨rfl, trivial⟩⟩ rfl rfl hl.1 rfl (lv_room (Nat.le_of_ble_eq_true rfl)) dX1_printProduct_19 ⟨(Nat.zero_le _), (Nat.zero_le _)⟩)) (fun r9 hr => ?_)
      subst r9
      refine lv_iconst (v := 1) hx hb dX1_printProduct_22 (by decide) ?_
      refine lv_icmp_ne (tgt := 35) hx hb dX1_printProduct_23 (by decide) (fun c_5 => ?_) (fun c_5 => ?_)
      · refine lv_iinc (v := (nI (i1 + 1))) (lv' := [(2, .int (nI (i1 + 1))), (0, .ref (q 0)), (1, .int x)]) hx hb dX1_printProduct_35 hl (k := 0) rfl (by first | exact nI_add _ _ | rfl) (by decide) rfl (fun ls hl => ?_)
        refine lv_goto (tgt := 12) hx hb dX1_printProduct_38 (by decide) ?_
        exact ih1 H locs (i1 + 1) (a1.1, a1.2) ls (by omega) ((congrArg (lp (sX1_printProduct_12 x) n1 (i1 + 1)) (show (a1.1, a1.2) = (sX1_printProduct_12 x) i1 a1 from by first | ((rw [sX1_printProduct_12, if_neg c_5]); first | done | rfl) | rfl)).trans hf1) (by omega) (lv_sub hl [0, 1, 2] rfl) hP hD hS
      · refine lv_aload_n hx hb dX1_printProduct_26 rfl (lv_at hl 1 rfl) ?_
        refine lv_bipush (v := 97) hx hb dX1_printProduct_27 (by decide) ?_
        refine lv_iload_n hx hb dX1_printProduct_29 rfl (lv_at hl 0 rfl) ?_
        refine lv_iadd hx hb dX1_printProduct_30 ?_
        refine lv_i2c (v := ((97 + (nI i1)).toUInt32 % 65536).toInt32) hx hb dX1_printProduct_31 rfl ?_
        have hPc := hP.sub (ws' := (wB q cq T R S X M a1.1 n h k w f d v (nI a1.2))) [0, 1, 2, 3, 4, 5, 6, 7] rfl
        have hKc := hK.sub (tys' := (tyB cq)) [0, 1, 2, 3, 4, 5] rfl
        have hDc := hD.sub (ws' := (wB q cq T R S X M a1.1 n h k w f d v (nI a1.2))) [0, 1, 2, 3, 4, 5, 6, 7] (by decide) rfl
        have hFc := va_free (wc := (wB q cq T R S X M a1.1 n h k w f d v (nI a1.2))) hD hS hA [0, 1, 2, 3, 4, 5, 6, 7] rfl
        refine va_callv (va_runV (As := [.int (((97 + (nI i1)).toUInt32 % 65536).toInt32)]) (rest := []) ⟨hx, hb, hml, hown, hts⟩ (c_X1_put l D q cq H.size T R S X M a1.1 n h k w f d v a1.2 (((97 + (nI i1)).toUInt32 % 65536).toInt32) (pk_vc _) (by omega)) (cwV 1 hts gX1_printProduct_X1_put rfl rfl rfl (by decide +kernel) ⟨Nat.le_of_ble_eq_true rfl, Nat.le_of_ble_eq_true rfl⟩) ⟨fun a U g mk z => ⟨z.1, z.2.1, z.2.2.1, va_K.moved (u := U) (U := U.calling g mk a) (Vm.Alike.refl U.vm) z.2.2.2.1, z.2.2.2.2.1, z.2.2.2.2.2.blind g mk a⟩, va_recv hKc hPc (ci := 1) (q0 := 0) rfl rfl, fun U hU hW => ⟨rfl, by rw [hU], by rw [hU]; exact hPc, va_K.moved hW.alike hKc, hDc.weaken (fun _ _ _ _ => trivial), hE.at hS hU hW hFc⟩⟩ rfl rfl hl.1 rfl (lv_room (Nat.le_of_ble_eq_true rfl)) dX1_printProduct_32 ⟨(Nat.zero_le _), (Nat.zero_le _)⟩) hS (fun q _ h => hFc q h) hFc (fun u9 t8 H1 locs ht hvm hw hB hz1 hk1 hS => ?_)
        obtain ⟨hP1, hD1⟩ := hB
        rw [ht] at hP1
        obtain ⟨hP, hD⟩ := va_join (wr := []) (w1 := (wB q cq T R S X M ((fX1_put a1.1 a1.2 (((97 + (nI i1)).toUInt32 % 65536).toInt32)).1) n h k w f d v (nI (fX1_put a1.1 a1.2 (((97 + (nI i1)).toUInt32 % 65536).toInt32)).2))) hP hD [0, 1, 2, 3, 4, 5, 6, 7] [] rfl rfl (by decide) (by decide) hk1 hFc hP1 hD1
        have hP := hP.sub (ws' := (wB q cq T R S X M ((fX1_put a1.1 a1.2 (((97 + (nI i1)).toUInt32 % 65536).toInt32)).1) n h k w f d v (nI (fX1_put a1.1 a1.2 (((97 + (nI i1)).toUInt32 % 65536).toInt32)).2))) [0, 1, 2, 3, 4, 5, 6, 7] rfl
        have hD := hD.sub (ws' := (wB q cq T R S X M ((fX1_put a1.1 a1.2 (((97 + (nI i1)).toUInt32 % 65536).toInt32)).1) n h k w f d v (nI (fX1_put a1.1 a1.2 (((97 + (nI i1)).toUInt32 % 65536).toInt32)).2))) [0, 1, 2, 3, 4, 5, 6, 7] (by decide) rfl
        generalize H1 = H at hP hS ⊢
        have hz6 : (fX1_put a1.1 a1.2 (((97 + (nI i1)).toUInt32 % 65536).toInt32)).2 ≤ 48 := fX1_put_le (by omega)
        refine lv_iinc (v := (nI (i1 + 1))) (lv' := [(2, .int (nI (i1 + 1))), (0, .ref (q 0)), (1, .int x)]) hx hb dX1_printProduct_35 hl (k := 0) rfl (by first | exact nI_add _ _ | rfl) (by decide) rfl (fun ls hl => ?_)
        refine lv_goto (tgt := 12) hx hb dX1_printProduct_38 (by decide) ?_
        exact ih1 H locs (i1 + 1) ((fX1_put a1.1 a1.2 (((97 + (nI i1)).toUInt32 % 65536).toInt32)).1, ((fX1_put a1.1 a1.2 (((97 + (nI i1)).toUInt32 % 65536).toInt32)).2)) ls (by omega) ((congrArg (lp (sX1_printProduct_12 x) n1 (i1 + 1)) (show ((fX1_put a1.1 a1.2 (((97 + (nI i1)).toUInt32 % 65536).toInt32)).1, ((fX1_put a1.1 a1.2 (((97 + (nI i1)).toUInt32 % 65536).toInt32)).2)) = (sX1_printProduct_12 x) i1 a1 from by first | ((rw [sX1_printProduct_12, if_pos c_5]); first | done | rfl) | rfl)).trans hf1) (by omega) (lv_sub hl [0, 1, 2] rfl) hP hD hS
theorem lp_inv {σ : Type} {f : Nat → σ → σ} (I : σ → Prop) (h : ∀ i a, I a → I (f i a)) : ∀ (n i : Nat) (a : σ), I a → I (lp f n i a)
  | 0, _, _, ha => ha
  | n + 1, i, a, ha => lp_inv I h n (i + 1) _ (h i a ha)
theorem fX1_printProduct_le {P : Nat → Int32} {z : Nat} {x : Int32} (h : z ≤ 48) : (fX1_printProduct P z x).2 ≤ 48 := by
  unfold fX1_printProduct
  refine lp_inv (fun (a : (Nat → Int32) × Nat) => a.2 ≤ 48) ?_ _ _ _ ?_
  · intro i a ha
    unfold sX1_printProduct_12
    split
    · exact fX1_put_le ha
    · exact ha
  · show (if _ then _ else _ : Nat) ≤ 48
    split
    · exact fX1_put_le h
    · exact h
theorem in_X1_print_X1 : ∀ w ∈ wsX10, w ∈ wsX1_print := by decide +kernel
def sX1_print_17 (x : Int32) (i1 : Nat) (a1 : (Nat → Int32) × Nat) : (Nat → Int32) × Nat := if (fX1_bit x (nI i1)) = 1 then ((fX1_printProduct (if (nI a1.2) ≤ 0 then a1.1 else (fX1_put a1.1 a1.2 43).1 : Nat → Int32) (if (nI a1.2) ≤ 0 then a1.2 else ((fX1_put a1.1 a1.2 43).2) : Nat) (nI i1)).1, ((fX1_printProduct (if (nI a1.2) ≤ 0 then a1.1 else (fX1_put a1.1 a1.2 43).1 : Nat → Int32) (if (nI a1.2) ≤ 0 then a1.2 else ((fX1_put a1.1 a1.2 43).2) : Nat) (nI i1)).2)) else (a1.1, a1.2)
def fX1_print (P : Nat → Int32) (x : Int32) : (Nat → Int32) × Nat := ((lp (sX1_print_17 x) 16 0 ((if x = 0 then (fX1_put P 0 48).1 else P : Nat → Int32), (if x = 0 then ((fX1_put P 0 48).2) else 0 : Nat))).1, (lp (sX1_print_17 x) 16 0 ((if x = 0 then (fX1_put P 0 48).1 else P : Nat → Int32), (if x = 0 then ((fX1_put P 0 48).2) else 0 : Nat))).2)
set_option maxHeartbeats 4000000 in
set_option maxRecDepth 100000 in
theorem c_X1_print (l : Launch) (D : va_G) (q : Nat → Nat) (cq : Nat → ClassId) (sz : Nat) (T : Nat → Int32) (R : Nat → Int32) (S : Nat → Int32) (X : Nat → Int32) (M : Nat → Int32) (P : Nat → Int32) (n : Int32) (h : Int32) (k : Int32) (w : Int32) (f : Int32) (d : Int32) (v : Int32) (z : Nat) (x : Int32) : Met l yX1_print wsX1_print ({ frames := 2, cells := 0, slots := 0, locals := 43 }) (va_Pc [.ref (q 0), .int x] (fun U => U.heap.size = sz ∧ va_P D vwCl (wB q cq T R S X M P n h k w f d v (nI z)) U.heap ∧ va_K D vwCl (tyB cq) U ∧ va_D (fun _ => True) (wB q cq T R S X M P n h k w f d v (nI z)) ∧ envE (va_A (wB q cq T R S X M P n h k w f d v (nI z)) sz) U)) (va_Qv (fun (_ : Unit) => True) (fun _ t9 => va_P D vwCl (wB q cq T R S X M ((fX1_print P x).1) n h k w f d v (nI (fX1_print P x).2)) t9.heap ∧ va_D (va_A (wB q cq T R S X M P n h k w f d v (nI z)) sz) (wB q cq T R S X M ((fX1_print P x).1) n h k w f d v (nI (fX1_print P x).2))) (va_A (wB q cq T R S X M P n h k w f d v (nI z)) sz)) 0 0 (va_A (wB q cq T R S X M P n h k w f d v (nI z)) sz) := by
  refine Met.ofW (cc := cX1_print) (maxL := 3) (ret := none) (by decide) rfl ?_
  intro p e s m args below meth c s₁ B hml hv
  obtain ⟨rfl, hsz, hP, hK, hD0, hE⟩ := hv
  have hx := B.exec
  have hb := B.bytes
  have hr := B.returns
  have hts := atoms_spec (ws := wsX1_print) B.pre
  have hown : s.vm.findClass RX1 = some m.cls := findClass_of_methodNamed B.named
  have hlocks := B.notSynchronized
  subst hsz
  have hD := hD0.self (sz := s.heap.size)
  generalize hAe : va_A (wB q cq T R S X M P n h k w f d v (nI z)) s.heap.size = A at hD hE ⊢
  have hA : ∀ q : Nat, s.heap.size ≤ q → A q := fun q h => by rw [← hAe]; exact Or.inr h
  have hS : va_S A s.heap s.heap [] := va_S.rf
  have hP : va_P D vwCl (wB q cq T R S X M P n h k w f d v (nI z)) s.heap := hP
  have hl := lv_entry ([.ref (q 0), .int x]) (n := 3) (Nat.le_of_ble_eq_true rfl)
  rw [lg_entry_eq]
  generalize (lg_sl ([.ref (q 0), .int x]) ++ List.replicate (3 - (lg_sl ([.ref (q 0), .int x])).length) Slot.unset).toArray = ls at hl ⊢
  have hl : lv_has ls 3 [(0, .ref (q 0)), (1, .int x)] := hl
  refine lv_aload_n hx hb dX1_print_0 rfl (lv_at hl 0 rfl) ?_
  refine lv_iconst (v := 0) hx hb dX1_print_1 (by decide) ?_
  refine va_put (D := D) (ci := 1) (v := .int 0) (ty := .int) (C := RX1) (T := TX1) (N := 11) hx hb hts in_X1_print_X1 tyX1 tyX1_ok nmX1 hown hK hP hD hS 0 rfl rfl 10 (by decide) (hts (.fieldLink RX1 47 "ZhegalkinBench" "printedCount" "I") (List.mem_of_getElem? (i := 1) rfl)) (fun _ h9 => h9) rfl (by decide +kernel) rfl rfl (Nat.le_of_ble_eq_true rfl) dX1_print_2 (fun H locs hP hD hS => ?_)
  have hP : va_P D vwCl (wB q cq T R S X M P n h k w f d v 0) H := hP
  have hD : va_D A (wB q cq T R S X M P n h k w f d v 0) := hD
  refine lv_iload_n hx hb dX1_print_5 rfl (lv_at hl 1 rfl) ?_
  refine vz_cut (fun H1 l1 g1 => ∃ (x1_0 : Nat → Int32) (x1_1 : Nat) (ls : Array Slot), x1_0 = (if x = 0 then (fX1_put P 0 48).1 else P : Nat → Int32) ∧ x1_1 = (if x = 0 then ((fX1_put P 0 48).2) else 0 : Nat) ∧ lv_has ls 3 [(0, .ref (q 0)), (1, .int x)] ∧ va_P D vwCl (wB q cq T R S X M x1_0 n h k w f d v (nI x1_1)) H1 ∧ va_D A (wB q cq T R S X M x1_0 n h k w f d v (nI x1_1)) ∧ va_S A s.heap H1 l1 ∧ g1 = F0 m 15 ls []) (fun hj1 => ?_) ?_
  · refine lv_if_ne (tgt := 15) hx hb dX1_print_6 (by decide) (fun c_1 => ?_) (fun c_1 => ?_)
    · exact hj1 _ _ _ ⟨P, 0, ls, (by (rw [if_neg c_1]); first | done | rfl), (by (rw [if_neg c_1]); first | done | rfl), lv_sub hl [0, 1] rfl, hP, hD, hS, rfl⟩
    · refine lv_aload_n hx hb dX1_print_9 rfl (lv_at hl 0 rfl) ?_
      refine lv_bipush (v := 48) hx hb dX1_print_10 (by decide) ?_
      have hPc := hP.sub (ws' := (wB q cq T R S X M P n h k w f d v 0)) [0, 1, 2, 3, 4, 5, 6, 7] rfl
      have hKc := hK.sub (tys' := (tyB cq)) [0, 1, 2, 3, 4, 5] rfl
      have hDc := hD.sub (ws' := (wB q cq T R S X M P n h k w f d v 0)) [0, 1, 2, 3, 4, 5, 6, 7] (by decide) rfl
      have hFc := va_free (wc := (wB q cq T R S X M P n h k w f d v 0)) hD hS hA [0, 1, 2, 3, 4, 5, 6, 7] rfl
      refine va_callv (va_runV (As := [.int 48]) (rest := []) ⟨hx, hb, hml, hown, hts⟩ (c_X1_put l D q cq H.size T R S X M P n h k w f d v 0 48 (by decide) (by omega)) (cwV 1 hts gX1_print_X1_put rfl rfl rfl (by decide +kernel) ⟨Nat.le_of_ble_eq_true rfl, Nat.le_of_ble_eq_true rfl⟩) ⟨fun a U g mk z => ⟨z.1, z.2.1, z.2.2.1, va_K.moved (u := U) (U := U.calling g mk a) (Vm.Alike.refl U.vm) z.2.2.2.1, z.2.2.2.2.1, z.2.2.2.2.2.blind g mk a⟩, va_recv hKc hPc (ci := 1) (q0 := 0) rfl rfl, fun U hU hW => ⟨rfl, by rw [hU], by rw [hU]; exact hPc, va_K.moved hW.alike hKc, hDc.weaken (fun _ _ _ _ => trivial), hE.at hS hU hW hFc⟩⟩ rfl rfl hl.1 rfl (lv_room (Nat.le_of_ble_eq_true rfl)) dX1_print_12 ⟨(Nat.zero_le _), (Nat.zero_le _)⟩) hS (fun q _ h => hFc q h) hFc (fun u9 t8 H1 locs ht hvm hw hB hz1 hk1 hS => ?_)
      obtain ⟨hP1, hD1⟩ := hB
      rw [ht] at hP1
      obtain ⟨hP, hD⟩ := va_join (wr := []) (w1 := (wB q cq T R S X M ((fX1_put P 0 48).1) n h k w f d v (nI (fX1_put P 0 48).2))) hP hD [0, 1, 2, 3, 4, 5, 6, 7] [] rfl rfl (by decide) (by decide) hk1 hFc hP1 hD1
      have hP := hP.sub (ws' := (wB q cq T R S X M ((fX1_put P 0 48).1) n h k w f d v (nI (fX1_put P 0 48).2))) [0, 1, 2, 3, 4, 5, 6, 7] rfl
      have hD := hD.sub (ws' := (wB q cq T R S X M ((fX1_put P 0 48).1) n h k w f d v (nI (fX1_put P 0 48).2))) [0, 1, 2, 3, 4, 5, 6, 7] (by decide) rfl
      generalize H1 = H at hP hS ⊢
      have hz2 : (fX1_put P 0 48).2 ≤ 48 := fX1_put_le (by omega)
      exact hj1 _ _ _ ⟨(fX1_put P 0 48).1, ((fX1_put P 0 48).2), ls, (by (rw [if_pos c_1]); first | done | rfl), (by (rw [if_pos c_1]); first | done | rfl), lv_sub hl [0, 1] rfl, hP, hD, hS, rfl⟩
  rintro H locs g1 ⟨x1_0, x1_1, ls, ex1_0, ex1_1, hl, hP, hD, hS, rfl⟩
  subst x1_0
  subst x1_1
  have hz0 : (if x = 0 then ((fX1_put P 0 48).2) else 0 : Nat) ≤ 48 := by split <;> first | omega | exact fX1_put_le (by omega)
  refine lv_iconst (v := 0) hx hb dX1_print_15 (by decide) ?_
  refine lv_istore_n (lv' := [(2, .int 0), (0, .ref (q 0)), (1, .int x)]) hx hb dX1_print_16 rfl hl (by decide) rfl (fun ls hl => ?_)
  obtain ⟨F1, hF1⟩ : ∃ z9, z9 = (lp (sX1_print_17 x) 16 0 ((if x = 0 then (fX1_put P 0 48).1 else P : Nat → Int32), (if x = 0 then ((fX1_put P 0 48).2) else 0 : Nat))) := ⟨_, rfl⟩
  refine vz_cut (fun H1 l1 g1 => ∃ (n1 i1 : Nat) (a1 : (Nat → Int32) × Nat) (ls : Array Slot), i1 + n1 = 16 ∧ lp (sX1_print_17 x) n1 i1 a1 = F1 ∧ a1.2 ≤ 48 ∧ lv_has ls 3 [(2, .int (nI i1)), (0, .ref (q 0)), (1, .int x)] ∧ va_P D vwCl (wB q cq T R S X M a1.1 n h k w f d v (nI a1.2)) H1 ∧ va_D A (wB q cq T R S X M a1.1 n h k w f d v (nI a1.2)) ∧ va_S A s.heap H1 l1 ∧ g1 = F0 m 17 ls []) (fun hj => hj _ _ _ ⟨16, 0, ((if x = 0 then (fX1_put P 0 48).1 else P : Nat → Int32), (if x = 0 then ((fX1_put P 0 48).2) else 0 : Nat)), ls, (by omega), hF1.symm, (by omega), lv_sub hl [0, 1, 2] rfl, hP, hD, hS, rfl⟩) ?_
  rintro H locs g1 ⟨n1, i1, a1, ls, hi1, hf1, hv1_0, hl, hP, hD, hS, rfl⟩
  revert H locs i1 a1 ls
  induction n1 with
  | zero =>
    intro H locs i1 a1 ls hi1 hf1 hv1_0 hl hP hD hS
    obtain rfl : 16 = i1 := by omega
    have hf1 : F1 = a1 := hf1.symm
    subst hf1
    refine lv_iload_n hx hb dX1_print_17 rfl (lv_at hl 0 rfl) ?_
    refine lv_bipush (v := 16) hx hb dX1_print_18 (by decide) ?_
    refine lv_icmp_ge (tgt := 56) hx hb dX1_print_20 (by decide) (fun c_3 => ?_) (fun c_3 => ?_)
    · have hq : (fX1_print P x) = (F1.1, F1.2) := Eq.symm (by first | ((rw [fX1_print]); (try rw [← hF1]); first | done | rfl) | rfl)
      exact W.vret hx hb hr (fun t9 ht hW => ⟨⟨(), rfl, trivial, by rw [hq]; exact ⟨by rw [ht]; exact hP, hD⟩⟩, hS.F ht⟩) hS.2.2 dX1_print_56
    · exact absurd (nI_le (a := 16) (b := 16) (by omega) (by omega)) c_3
  | succ n1 ih1 =>
    intro H locs i1 a1 ls hi1 hf1 hv1_0 hl hP hD hS
    refine lv_iload_n hx hb dX1_print_17 rfl (lv_at hl 0 rfl) ?_
    refine lv_bipush (v := 16) hx hb dX1_print_18 (by decide) ?_
    refine lv_icmp_ge (tgt := 56) hx hb dX1_print_20 (by decide) (fun c_4 => ?_) (fun c_4 => ?_)
    · exact absurd c_4 (nI_ge (a := i1) (b := 16) (by omega) (by omega))
    · refine lv_iload_n hx hb dX1_print_23 rfl (lv_at hl 2 rfl) ?_
      refine lv_iload_n hx hb dX1_print_24 rfl (lv_at hl 0 rfl) ?_
      refine vp_callSi (va_Run.run (va_runS (As := [.int x, .int (nI i1)]) (rest := []) ⟨hx, hb, hml, hown, hts⟩ (c_X1_bit l x (nI i1)) (va_cwS 2 hts gX1_print_X1_bit rfl rfl rfl (by decide +kernel) ⟨Nat.le_of_ble_eq_true rfl, Nat.le_of_ble_eq_true rfl⟩) ⟨fun _ _ _ _ z => z, fun _ _ _ => ⟨rfl, trivial⟩⟩ rfl rfl hl.1 rfl (lv_room (Nat.le_of_ble_eq_true rfl)) dX1_print_25 ⟨(Nat.zero_le _), (Nat.zero_le _)⟩)) (fun r9 hr => ?_)
      subst r9
      refine lv_iconst (v := 1) hx hb dX1_print_28 (by decide) ?_
      refine lv_icmp_ne (tgt := 50) hx hb dX1_print_29 (by decide) (fun c_5 => ?_) (fun c_5 => ?_)
      · refine lv_iinc (v := (nI (i1 + 1))) (lv' := [(2, .int (nI (i1 + 1))), (0, .ref (q 0)), (1, .int x)]) hx hb dX1_print_50 hl (k := 0) rfl (by first | exact nI_add _ _ | rfl) (by decide) rfl (fun ls hl => ?_)
        refine lv_goto (tgt := 17) hx hb dX1_print_53 (by decide) ?_
        exact ih1 H locs (i1 + 1) (a1.1, a1.2) ls (by omega) ((congrArg (lp (sX1_print_17 x) n1 (i1 + 1)) (show (a1.1, a1.2) = (sX1_print_17 x) i1 a1 from by first | ((rw [sX1_print_17, if_neg c_5]); first | done | rfl) | rfl)).trans hf1) (by omega) (lv_sub hl [0, 1, 2] rfl) hP hD hS
      · refine lv_aload_n hx hb dX1_print_32 rfl (lv_at hl 1 rfl) ?_
        refine va_get (D := D) (ci := 1) (v := .int (nI a1.2)) (C := RX1) (T := TX1) (N := 11) hx hb hts in_X1_print_X1 hown hK hP 0 rfl rfl 10 (by decide) (hts (.fieldLink RX1 47 "ZhegalkinBench" "printedCount" "I") (List.mem_of_getElem? (i := 1) rfl)) (fun _ h9 => h9) rfl dX1_print_33 ?_
        refine vz_cut (fun H1 l1 g1 => ∃ (x2_0 : Nat → Int32) (x2_1 : Nat) (ls : Array Slot), x2_0 = (if (nI a1.2) ≤ 0 then a1.1 else (fX1_put a1.1 a1.2 43).1 : Nat → Int32) ∧ x2_1 = (if (nI a1.2) ≤ 0 then a1.2 else ((fX1_put a1.1 a1.2 43).2) : Nat) ∧ lv_has ls 3 [(2, .int (nI i1)), (0, .ref (q 0)), (1, .int x)] ∧ va_P D vwCl (wB q cq T R S X M x2_0 n h k w f d v (nI x2_1)) H1 ∧ va_D A (wB q cq T R S X M x2_0 n h k w f d v (nI x2_1)) ∧ va_S A s.heap H1 l1 ∧ g1 = F0 m 45 ls []) (fun hj2 => ?_) ?_
        · refine lv_if_le (tgt := 45) hx hb dX1_print_36 (by decide) (fun c_6 => ?_) (fun c_6 => ?_)
          · exact hj2 _ _ _ ⟨a1.1, a1.2, ls, (by (rw [if_pos c_6]); first | done | rfl), (by (rw [if_pos c_6]); first | done | rfl), lv_sub hl [0, 1, 2] rfl, hP, hD, hS, rfl⟩
          · refine lv_aload_n hx hb dX1_print_39 rfl (lv_at hl 1 rfl) ?_
            refine lv_bipush (v := 43) hx hb dX1_print_40 (by decide) ?_
            have hPc := hP.sub (ws' := (wB q cq T R S X M a1.1 n h k w f d v (nI a1.2))) [0, 1, 2, 3, 4, 5, 6, 7] rfl
            have hKc := hK.sub (tys' := (tyB cq)) [0, 1, 2, 3, 4, 5] rfl
            have hDc := hD.sub (ws' := (wB q cq T R S X M a1.1 n h k w f d v (nI a1.2))) [0, 1, 2, 3, 4, 5, 6, 7] (by decide) rfl
            have hFc := va_free (wc := (wB q cq T R S X M a1.1 n h k w f d v (nI a1.2))) hD hS hA [0, 1, 2, 3, 4, 5, 6, 7] rfl
            refine va_callv (va_runV (As := [.int 43]) (rest := []) ⟨hx, hb, hml, hown, hts⟩ (c_X1_put l D q cq H.size T R S X M a1.1 n h k w f d v a1.2 43 (by decide) (by omega)) (cwV 1 hts gX1_print_X1_put rfl rfl rfl (by decide +kernel) ⟨Nat.le_of_ble_eq_true rfl, Nat.le_of_ble_eq_true rfl⟩) ⟨fun a U g mk z => ⟨z.1, z.2.1, z.2.2.1, va_K.moved (u := U) (U := U.calling g mk a) (Vm.Alike.refl U.vm) z.2.2.2.1, z.2.2.2.2.1, z.2.2.2.2.2.blind g mk a⟩, va_recv hKc hPc (ci := 1) (q0 := 0) rfl rfl, fun U hU hW => ⟨rfl, by rw [hU], by rw [hU]; exact hPc, va_K.moved hW.alike hKc, hDc.weaken (fun _ _ _ _ => trivial), hE.at hS hU hW hFc⟩⟩ rfl rfl hl.1 rfl (lv_room (Nat.le_of_ble_eq_true rfl)) dX1_print_42 ⟨(Nat.zero_le _), (Nat.zero_le _)⟩) hS (fun q _ h => hFc q h) hFc (fun u9 t8 H1 locs ht hvm hw hB hz1 hk1 hS => ?_)
            obtain ⟨hP1, hD1⟩ := hB
            rw [ht] at hP1
            obtain ⟨hP, hD⟩ := va_join (wr := []) (w1 := (wB q cq T R S X M ((fX1_put a1.1 a1.2 43).1) n h k w f d v (nI (fX1_put a1.1 a1.2 43).2))) hP hD [0, 1, 2, 3, 4, 5, 6, 7] [] rfl rfl (by decide) (by decide) hk1 hFc hP1 hD1
            have hP := hP.sub (ws' := (wB q cq T R S X M ((fX1_put a1.1 a1.2 43).1) n h k w f d v (nI (fX1_put a1.1 a1.2 43).2))) [0, 1, 2, 3, 4, 5, 6, 7] rfl
            have hD := hD.sub (ws' := (wB q cq T R S X M ((fX1_put a1.1 a1.2 43).1) n h k w f d v (nI (fX1_put a1.1 a1.2 43).2))) [0, 1, 2, 3, 4, 5, 6, 7] (by decide) rfl
            generalize H1 = H at hP hS ⊢
            have hz7 : (fX1_put a1.1 a1.2 43).2 ≤ 48 := fX1_put_le (by omega)
            exact hj2 _ _ _ ⟨(fX1_put a1.1 a1.2 43).1, ((fX1_put a1.1 a1.2 43).2), ls, (by (rw [if_neg c_6]); first | done | rfl), (by (rw [if_neg c_6]); first | done | rfl), lv_sub hl [0, 1, 2] rfl, hP, hD, hS, rfl⟩
        rintro H locs g1 ⟨x2_0, x2_1, ls, ex2_0, ex2_1, hl, hP, hD, hS, rfl⟩
        subst x2_0
        subst x2_1
        have hz0 : (if (nI a1.2) ≤ 0 then a1.2 else ((fX1_put a1.1 a1.2 43).2) : Nat) ≤ 48 := by split <;> first | omega | exact fX1_put_le (by omega)
        refine lv_aload_n hx hb dX1_print_45 rfl (lv_at hl 1 rfl) ?_
        refine lv_iload_n hx hb dX1_print_46 rfl (lv_at hl 0 rfl) ?_
        have hPc := hP.sub (ws' := (wB q cq T R S X M (if (nI a1.2) ≤ 0 then a1.1 else (fX1_put a1.1 a1.2 43).1 : Nat → Int32) n h k w f d v (nI (if (nI a1.2) ≤ 0 then a1.2 else ((fX1_put a1.1 a1.2 43).2) : Nat)))) [0, 1, 2, 3, 4, 5, 6, 7] rfl
        have hKc := hK.sub (tys' := (tyB cq)) [0, 1, 2, 3, 4, 5] rfl
        have hDc := hD.sub (ws' := (wB q cq T R S X M (if (nI a1.2) ≤ 0 then a1.1 else (fX1_put a1.1 a1.2 43).1 : Nat → Int32) n h k w f d v (nI (if (nI a1.2) ≤ 0 then a1.2 else ((fX1_put a1.1 a1.2 43).2) : Nat)))) [0, 1, 2, 3, 4, 5, 6, 7] (by decide) rfl
        have hFc := va_free (wc := (wB q cq T R S X M (if (nI a1.2) ≤ 0 then a1.1 else (fX1_put a1.1 a1.2 43).1 : Nat → Int32) n h k w f d v (nI (if (nI a1.2) ≤ 0 then a1.2 else ((fX1_put a1.1 a1.2 43).2) : Nat)))) hD hS hA [0, 1, 2, 3, 4, 5, 6, 7] rfl
        refine va_callv (va_runV (As := [.int (nI i1)]) (rest := []) ⟨hx, hb, hml, hown, hts⟩ (c_X1_printProduct l D q cq H.size T R S X M (if (nI a1.2) ≤ 0 then a1.1 else (fX1_put a1.1 a1.2 43).1 : Nat → Int32) n h k w f d v (if (nI a1.2) ≤ 0 then a1.2 else ((fX1_put a1.1 a1.2 43).2) : Nat) (nI i1) (by omega)) (cwV 1 hts gX1_print_X1_printProduct rfl rfl rfl (by decide +kernel) ⟨Nat.le_of_ble_eq_true rfl, Nat.le_of_ble_eq_true rfl⟩) ⟨fun a U g mk z => ⟨z.1, z.2.1, z.2.2.1, va_K.moved (u := U) (U := U.calling g mk a) (Vm.Alike.refl U.vm) z.2.2.2.1, z.2.2.2.2.1, z.2.2.2.2.2.blind g mk a⟩, va_recv hKc hPc (ci := 1) (q0 := 0) rfl rfl, fun U hU hW => ⟨rfl, by rw [hU], by rw [hU]; exact hPc, va_K.moved hW.alike hKc, hDc.weaken (fun _ _ _ _ => trivial), hE.at hS hU hW hFc⟩⟩ rfl rfl hl.1 rfl (lv_room (Nat.le_of_ble_eq_true rfl)) dX1_print_47 ⟨(Nat.zero_le _), (Nat.zero_le _)⟩) hS (fun q _ h => hFc q h) hFc (fun u9 t8 H1 locs ht hvm hw hB hz1 hk1 hS => ?_)
        obtain ⟨hP1, hD1⟩ := hB
        rw [ht] at hP1
        obtain ⟨hP, hD⟩ := va_join (wr := []) (w1 := (wB q cq T R S X M ((fX1_printProduct (if (nI a1.2) ≤ 0 then a1.1 else (fX1_put a1.1 a1.2 43).1 : Nat → Int32) (if (nI a1.2) ≤ 0 then a1.2 else ((fX1_put a1.1 a1.2 43).2) : Nat) (nI i1)).1) n h k w f d v (nI (fX1_printProduct (if (nI a1.2) ≤ 0 then a1.1 else (fX1_put a1.1 a1.2 43).1 : Nat → Int32) (if (nI a1.2) ≤ 0 then a1.2 else ((fX1_put a1.1 a1.2 43).2) : Nat) (nI i1)).2))) hP hD [0, 1, 2, 3, 4, 5, 6, 7] [] rfl rfl (by decide) (by decide) hk1 hFc hP1 hD1
        have hP := hP.sub (ws' := (wB q cq T R S X M ((fX1_printProduct (if (nI a1.2) ≤ 0 then a1.1 else (fX1_put a1.1 a1.2 43).1 : Nat → Int32) (if (nI a1.2) ≤ 0 then a1.2 else ((fX1_put a1.1 a1.2 43).2) : Nat) (nI i1)).1) n h k w f d v (nI (fX1_printProduct (if (nI a1.2) ≤ 0 then a1.1 else (fX1_put a1.1 a1.2 43).1 : Nat → Int32) (if (nI a1.2) ≤ 0 then a1.2 else ((fX1_put a1.1 a1.2 43).2) : Nat) (nI i1)).2))) [0, 1, 2, 3, 4, 5, 6, 7] rfl
        have hD := hD.sub (ws' := (wB q cq T R S X M ((fX1_printProduct (if (nI a1.2) ≤ 0 then a1.1 else (fX1_put a1.1 a1.2 43).1 : Nat → Int32) (if (nI a1.2) ≤ 0 then a1.2 else ((fX1_put a1.1 a1.2 43).2) : Nat) (nI i1)).1) n h k w f d v (nI (fX1_printProduct (if (nI a1.2) ≤ 0 then a1.1 else (fX1_put a1.1 a1.2 43).1 : Nat → Int32) (if (nI a1.2) ≤ 0 then a1.2 else ((fX1_put a1.1 a1.2 43).2) : Nat) (nI i1)).2))) [0, 1, 2, 3, 4, 5, 6, 7] (by decide) rfl
        generalize H1 = H at hP hS ⊢
        have hz8 : (fX1_printProduct (if (nI a1.2) ≤ 0 then a1.1 else (fX1_put a1.1 a1.2 43).1 : Nat → Int32) (if (nI a1.2) ≤ 0 then a1.2 else ((fX1_put a1.1 a1.2 43).2) : Nat) (nI i1)).2 ≤ 48 := fX1_printProduct_le (by omega)
        refine lv_iinc (v := (nI (i1 + 1))) (lv' := [(2, .int (nI (i1 + 1))), (0, .ref (q 0)), (1, .int x)]) hx hb dX1_print_50 hl (k := 0) rfl (by first | exact nI_add _ _ | rfl) (by decide) rfl (fun ls hl => ?_)
        refine lv_goto (tgt := 17) hx hb dX1_print_53 (by decide) ?_
        exact ih1 H locs (i1 + 1) ((fX1_printProduct (if (nI a1.2) ≤ 0 then a1.1 else (fX1_put a1.1 a1.2 43).1 : Nat → Int32) (if (nI a1.2) ≤ 0 then a1.2 else ((fX1_put a1.1 a1.2 43).2) : Nat) (nI i1)).1, ((fX1_printProduct (if (nI a1.2) ≤ 0 then a1.1 else (fX1_put a1.1 a1.2 43).1 : Nat → Int32) (if (nI a1.2) ≤ 0 then a1.2 else ((fX1_put a1.1 a1.2 43).2) : Nat) (nI i1)).2)) ls (by omega) ((congrArg (lp (sX1_print_17 x) n1 (i1 + 1)) (show ((fX1_printProduct (if (nI a1.2) ≤ 0 then a1.1 else (fX1_put a1.1 a1.2 43).1 : Nat → Int32) (if (nI a1.2) ≤ 0 then a1.2 else ((fX1_put a1.1 a1.2 43).2) : Nat) (nI i1)).1, ((fX1_printProduct (if (nI a1.2) ≤ 0 then a1.1 else (fX1_put a1.1 a1.2 43).1 : Nat → Int32) (if (nI a1.2) ≤ 0 then a1.2 else ((fX1_put a1.1 a1.2 43).2) : Nat) (nI i1)).2)) = (sX1_print_17 x) i1 a1 from by first | ((rw [sX1_print_17, if_pos c_5]); first | done | rfl) | rfl)).trans hf1) (by omega) (lv_sub hl [0, 1, 2] rfl) hP hD hS
theorem fX1_print_le {x : Int32} {P : Nat → Int32} : (fX1_print P x).2 ≤ 48 := by
  unfold fX1_print
  refine lp_inv (fun (a : (Nat → Int32) × Nat) => a.2 ≤ 48) ?_ _ _ _ ?_
  · intro i a ha
    unfold sX1_print_17
    split
    · refine fX1_printProduct_le ?_
      show (if _ then _ else _ : Nat) ≤ 48
      split
      · exact ha
      · exact fX1_put_le ha
    · exact ha
  · show (if _ then _ else _ : Nat) ≤ 48
    split
    · exact fX1_put_le (by omega)
    · omega
theorem in_X1_validTextProducts_X1 : ∀ w ∈ wsX10, w ∈ wsX1_validTextProducts := by decide +kernel
def fX1_validTextProducts (X : Nat → Int32) (k : Nat) : Int32 × Int32 × Int32 × Int32 × Int32 := ((fX0_productsRead ((fX0_firstError X k).2.1) ((fX0_firstError X k).2.2.1) ((fX0_firstError X k).2.2.2.1)), (fX0_firstError X k).2.1, (fX0_firstError X k).2.2.1, (fX0_firstError X k).2.2.2.1, (fX0_firstError X k).2.2.2.2)
set_option maxHeartbeats 4000000 in
set_option maxRecDepth 100000 in
theorem c_X1_validTextProducts (l : Launch) (D : va_G) (q : Nat → Nat) (cq : Nat → ClassId) (sz : Nat) (T : Nat → Int32) (R : Nat → Int32) (S : Nat → Int32) (X : Nat → Int32) (M : Nat → Int32) (P : Nat → Int32) (n : Int32) (h : Int32) (k : Nat) (w : Int32) (f : Int32) (d : Int32) (v : Int32) (z : Int32) (hk9 : k ≤ 80) (hfe : (fX0_firstError X k).1 = -1) : Met l yX1_validTextProducts wsX1_validTextProducts ({ frames := 5, cells := 0, slots := 0, locals := 111 }) (va_Pc [.ref (q 0)] (fun U => U.heap.size = sz ∧ va_P D vwCl (wB q cq T R S X M P n h (nI k) w f d v z) U.heap ∧ va_K D vwCl (tyB cq) U ∧ va_D (fun _ => True) (wB q cq T R S X M P n h (nI k) w f d v z) ∧ envE (va_A (wB q cq T R S X M P n h (nI k) w f d v z) sz) U)) (va_Qi (fun r9 (_ : Unit) => r9 = (fX1_validTextProducts X k).1) (fun _ t9 => va_P D vwCl (wB q cq T R S X M P n h (nI k) ((fX1_validTextProducts X k).2.1) ((fX1_validTextProducts X k).2.2.1) ((fX1_validTextProducts X k).2.2.2.1) ((fX1_validTextProducts X k).2.2.2.2) z) t9.heap ∧ va_D (va_A (wB q cq T R S X M P n h (nI k) w f d v z) sz) (wB q cq T R S X M P n h (nI k) ((fX1_validTextProducts X k).2.1) ((fX1_validTextProducts X k).2.2.1) ((fX1_validTextProducts X k).2.2.2.1) ((fX1_validTextProducts X k).2.2.2.2) z)) (va_A (wB q cq T R S X M P n h (nI k) w f d v z) sz)) 0 0 (va_A (wB q cq T R S X M P n h (nI k) w f d v z) sz) := by
  refine Met.ofW (cc := cX1_validTextProducts) (maxL := 1) (ret := (some .int)) (by decide) rfl ?_
  intro p e s m args below meth c s₁ B hml hv
  obtain ⟨rfl, hsz, hP, hK, hD0, hE⟩ := hv
  have hx := B.exec
  have hb := B.bytes
  have hr := B.returns
  have hts := atoms_spec (ws := wsX1_validTextProducts) B.pre
  have hown : s.vm.findClass RX1 = some m.cls := findClass_of_methodNamed B.named
  have hlocks := B.notSynchronized
  subst hsz
  have hD := hD0.self (sz := s.heap.size)
  generalize hAe : va_A (wB q cq T R S X M P n h (nI k) w f d v z) s.heap.size = A at hD hE ⊢
  have hA : ∀ q : Nat, s.heap.size ≤ q → A q := fun q h => by rw [← hAe]; exact Or.inr h
  have hS : va_S A s.heap s.heap [] := va_S.rf
  have hP : va_P D vwCl (wB q cq T R S X M P n h (nI k) w f d v z) s.heap := hP
  have hl := lv_entry ([.ref (q 0)]) (n := 1) (Nat.le_of_ble_eq_true rfl)
  rw [lg_entry_eq]
  generalize (lg_sl ([.ref (q 0)]) ++ List.replicate (1 - (lg_sl ([.ref (q 0)])).length) Slot.unset).toArray = ls at hl ⊢
  have hl : lv_has ls 1 [(0, .ref (q 0))] := hl
  refine lv_aload_n hx hb dX1_validTextProducts_0 rfl (lv_at hl 0 rfl) ?_
  refine va_get (D := D) (ci := 1) (v := .ref (q 5)) (C := RX1) (T := TX1) (N := 11) hx hb hts in_X1_validTextProducts_X1 hown hK hP 0 rfl rfl 7 (by decide) (hts (.fieldLink RX1 37 "ZhegalkinBench" "reader" "LZhegalkinBench$TextReader;") (List.mem_of_getElem? (i := 3) rfl)) (fun _ h9 => h9) rfl dX1_validTextProducts_1 ?_
  refine lv_aload_n hx hb dX1_validTextProducts_4 rfl (lv_at hl 0 rfl) ?_
  refine va_get (D := D) (ci := 1) (v := .ref (q 4)) (C := RX1) (T := TX1) (N := 11) hx hb hts in_X1_validTextProducts_X1 hown hK hP 0 rfl rfl 5 (by decide) (hts (.fieldLink RX1 27 "ZhegalkinBench" "text" "[C") (List.mem_of_getElem? (i := 4) rfl)) (fun _ h9 => h9) rfl dX1_validTextProducts_5 ?_
  refine lv_aload_n hx hb dX1_validTextProducts_8 rfl (lv_at hl 0 rfl) ?_
  refine va_get (D := D) (ci := 1) (v := .int (nI k)) (C := RX1) (T := TX1) (N := 11) hx hb hts in_X1_validTextProducts_X1 hown hK hP 0 rfl rfl 6 (by decide) (hts (.fieldLink RX1 31 "ZhegalkinBench" "textLength" "I") (List.mem_of_getElem? (i := 5) rfl)) (fun _ h9 => h9) rfl dX1_validTextProducts_9 ?_
  have hPc := hP.sub (ws' := (wF (q 4) (cq 3) (q 5) X w f d v)) [4, 5] rfl
  have hKc := hK.sub (tys' := [(cq 3, .char)]) [3] rfl
  have hDc := hD.sub (ws' := (wF (q 4) (cq 3) (q 5) X w f d v)) [4, 5] (by decide) rfl
  have hFc := va_free (wc := (wF (q 4) (cq 3) (q 5) X w f d v)) hD hS hA [4, 5] rfl
  refine va_calli (va_runVN (As := [.ref (q 4), .int (nI k)]) (rest := []) ⟨hx, hb, hml, hown, hts⟩ (c_X0_firstError l D (q 4) (cq 3) (q 5) s.heap.size X w f d v k (by omega)) ⟨(va_cnB 2 hts gX1_validTextProducts_X0_firstError_n99 rfl rfl rfl hE.1.2.2 (hts (.initialized RX0) (List.mem_of_getElem? (i := 7) rfl)) (by decide +kernel) ⟨Nat.le_of_ble_eq_true rfl, Nat.le_of_ble_eq_true rfl⟩), (hts (.instanceMethod yX0_firstError) (List.mem_of_getElem? (i := 6) rfl)), (hts (.selects RX0 yX0_firstError yX0_firstError) (List.mem_of_getElem? (i := 8) rfl))⟩ ⟨fun a U g mk z => ⟨z.1, z.2.1, z.2.2.1, va_K.moved (u := U) (U := U.calling g mk a) (Vm.Alike.refl U.vm) z.2.2.2.1, z.2.2.2.2.1, z.2.2.2.2.2.blind g mk a⟩, va_recv hKc hPc (ci := 0) (q0 := 1) rfl rfl, fun U hU hW => ⟨rfl, by rw [hU], by rw [hU]; exact hPc, va_K.moved hW.alike hKc, hDc.weaken (fun _ _ _ _ => trivial), hE.at hS hU hW hFc⟩⟩ rfl rfl hl.1 rfl (lv_room (Nat.le_of_ble_eq_true rfl)) dX1_validTextProducts_12 ⟨(Nat.zero_le _), (Nat.zero_le _)⟩) hS (fun q _ h => hFc q h) hFc (fun r9 u9 t8 H1 locs ht hvm hw hB hz1 hk1 hS => ?_)
  obtain ⟨hP1, hD1⟩ := hB
  rw [ht] at hP1
  obtain ⟨hP, hD⟩ := va_join (wr := [((q 0), .inr (1, [.ref (q 1), .ref (q 2), .int n, .ref (q 3), .int h, .ref (q 4), .int (nI k), .ref (q 5), .ref (q 6), .ref (q 7), .int z])), ((q 1), .inl ((cq 0), (6, .inl T))), ((q 2), .inl ((cq 1), (24, .inl R))), ((q 3), .inl ((cq 2), (6, .inl S))), ((q 6), .inl ((cq 4), (16, .inl M))), ((q 7), .inl ((cq 5), (48, .inl P)))]) (w1 := (wF (q 4) (cq 3) (q 5) X ((fX0_firstError X k).2.1) ((fX0_firstError X k).2.2.1) ((fX0_firstError X k).2.2.2.1) ((fX0_firstError X k).2.2.2.2))) hP hD [4, 5] [0, 1, 2, 3, 6, 7] rfl rfl (by decide) (by decide) hk1 hFc hP1 hD1
  have hP := hP.sub (ws' := (wB q cq T R S X M P n h (nI k) ((fX0_firstError X k).2.1) ((fX0_firstError X k).2.2.1) ((fX0_firstError X k).2.2.2.1) ((fX0_firstError X k).2.2.2.2) z)) [0, 1, 2, 3, 6, 7, 4, 5] rfl
  have hD := hD.sub (ws' := (wB q cq T R S X M P n h (nI k) ((fX0_firstError X k).2.1) ((fX0_firstError X k).2.2.1) ((fX0_firstError X k).2.2.2.1) ((fX0_firstError X k).2.2.2.2) z)) [0, 1, 2, 3, 6, 7, 4, 5] (by decide) rfl
  generalize H1 = H at hP hS ⊢
  subst r9
  refine lv_iconst (v := (-1)) hx hb dX1_validTextProducts_15 (by decide) ?_
  refine lv_icmp_eq (tgt := 29) hx hb dX1_validTextProducts_16 (by decide) (fun c_1 => ?_) (fun c_1 => ?_)
  · refine lv_aload_n hx hb dX1_validTextProducts_29 rfl (lv_at hl 0 rfl) ?_
    refine va_get (D := D) (ci := 1) (v := .ref (q 5)) (C := RX1) (T := TX1) (N := 11) hx hb hts in_X1_validTextProducts_X1 hown hK hP 0 rfl rfl 7 (by decide) (hts (.fieldLink RX1 37 "ZhegalkinBench" "reader" "LZhegalkinBench$TextReader;") (List.mem_of_getElem? (i := 3) rfl)) (fun _ h9 => h9) rfl dX1_validTextProducts_30 ?_
    have hPc := hP.sub (ws' := (wR (q 5) ((fX0_firstError X k).2.1) ((fX0_firstError X k).2.2.1) ((fX0_firstError X k).2.2.2.1) ((fX0_firstError X k).2.2.2.2))) [5] rfl
    have hKc := hK.sub (tys' := []) [] rfl
    refine vp_callSi (va_Run.run (va_runVN (As := []) (rest := []) ⟨hx, hb, hml, hown, hts⟩ (c_X0_productsRead l D (q 5) ((fX0_firstError X k).2.1) ((fX0_firstError X k).2.2.1) ((fX0_firstError X k).2.2.2.1) ((fX0_firstError X k).2.2.2.2)) ⟨(va_cnB 0 hts gX1_validTextProducts_X0_productsRead_n171 rfl rfl rfl hE.1.1 (hts (.initialized RX0) (List.mem_of_getElem? (i := 7) rfl)) (by decide +kernel) ⟨Nat.le_of_ble_eq_true rfl, Nat.le_of_ble_eq_true rfl⟩), (hts (.instanceMethod yX0_productsRead) (List.mem_of_getElem? (i := 51) rfl)), (hts (.selects RX0 yX0_productsRead yX0_productsRead) (List.mem_of_getElem? (i := 52) rfl))⟩ ⟨fun a U g mk z => ⟨z.1, z.2.1, va_K.moved (u := U) (U := U.calling g mk a) (Vm.Alike.refl U.vm) z.2.2.1, z.2.2.2.blind g mk a⟩, va_recv hKc hPc (ci := 0) (q0 := 0) rfl rfl, fun U hU hW => ⟨rfl, by rw [hU]; exact hPc, va_K.moved hW.alike hKc, hE.at0 hS hU hW⟩⟩ rfl rfl hl.1 rfl (lv_room (Nat.le_of_ble_eq_true rfl)) dX1_validTextProducts_33 ⟨(Nat.zero_le _), (Nat.zero_le _)⟩)) (fun r9 hr => ?_)
    subst r9
    have hq : (fX1_validTextProducts X k) = ((fX0_productsRead ((fX0_firstError X k).2.1) ((fX0_firstError X k).2.2.1) ((fX0_firstError X k).2.2.2.1)), (fX0_firstError X k).2.1, (fX0_firstError X k).2.2.1, (fX0_firstError X k).2.2.2.1, (fX0_firstError X k).2.2.2.2) := Eq.symm (by first | ((rw [fX1_validTextProducts]); first | done | rfl) | rfl)
    exact W.iret (v := (fX0_productsRead ((fX0_firstError X k).2.1) ((fX0_firstError X k).2.2.1) ((fX0_firstError X k).2.2.2.1))) hx hb hr (fun t9 ht hW => ⟨⟨(fX0_productsRead ((fX0_firstError X k).2.1) ((fX0_firstError X k).2.2.1) ((fX0_firstError X k).2.2.2.1)), (), rfl, by rw [hq], by rw [hq]; exact ⟨by rw [ht]; exact hP, hD⟩⟩, hS.F ht⟩) hS.2.2 dX1_validTextProducts_36
  · exact absurd hfe c_1
