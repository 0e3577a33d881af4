def fL_low (v : Int32) (g : Nat) : Int32 := ((v &&& 2147483647) - (v &&& 2147483647) / (nI g) * (nI g))
set_option maxHeartbeats 4000000 in
set_option maxRecDepth 100000 in
theorem c_L_low (l : Launch) (v : Int32) (g : Nat) (hg : 0 < g ∧ g < 64) : Met l yL_low wsL_low ({ frames := 0, cells := 0, slots := 0, locals := 0 }) (va_Pc [.int v, .int (nI g)] (fun _ => True)) (vp_Si (fun r => r = (fL_low v g))) 0 0 (fun _ => False) := by
  refine Met.ofW (cc := cL_low) (maxL := 2) (ret := (some .int)) (by decide) rfl ?_
  intro p e s m args below meth c s₁ B hml hv
  obtain ⟨rfl, -⟩ := hv
  have hx := B.exec
  have hb := B.bytes
  have hr := B.returns
  have hts := atoms_spec (ws := wsL_low) B.pre
  have hown : s.vm.findClass RL = some m.cls := findClass_of_methodNamed B.named
  have hlocks := B.notSynchronized
  have hS : va_S (fun _ => False) s.heap s.heap [] := va_S.rf
  have hl := lv_entry ([.int v, .int (nI g)]) (n := 2) (Nat.le_of_ble_eq_true rfl)
  rw [lg_entry_eq]
  generalize (lg_sl ([.int v, .int (nI g)]) ++ List.replicate (2 - (lg_sl ([.int v, .int (nI g)])).length) Slot.unset).toArray = ls at hl ⊢
  have hl : lv_has ls 2 [(0, .int v), (1, .int (nI g))] := hl
  refine lv_iload_n hx hb dL_low_0 rfl (lv_at hl 0 rfl) ?_
  refine lv_ldc (v := 2147483647) hx hb hown (hts (.constant RL 7 (2147483647)) (List.mem_of_getElem? (i := 1) rfl)) dL_low_1 ?_
  refine lv_iand hx hb dL_low_3 ?_
  refine lv_iload_n hx hb dL_low_4 rfl (lv_at hl 1 rfl) ?_
  refine lv_irem hx hb dL_low_5 (nI_ne0 hg.1 (by omega)) ?_
  exact W.iret (v := ((v &&& 2147483647) - (v &&& 2147483647) / (nI g) * (nI g))) hx hb hr (fun t9 ht hW => ⟨((v &&& 2147483647) - (v &&& 2147483647) / (nI g) * (nI g)), rfl, (by first | ((rw [fL_low]); first | done | rfl) | rfl), ht⟩) (fun q h => nomatch h) dL_low_6
def fL_variable (v : Nat) : Int32 := if (nI v) = 0 then 43690 else (if (nI v) = 1 then 52428 else (if (nI v) = 2 then 61680 else 65280))
set_option maxHeartbeats 4000000 in
set_option maxRecDepth 100000 in
theorem c_L_variable (l : Launch) (v : Nat) : Met l yL_variable wsL_variable ({ frames := 0, cells := 0, slots := 0, locals := 0 }) (va_Pc [.int (nI v)] (fun _ => True)) (vp_Si (fun r => r = (fL_variable v))) 0 0 (fun _ => False) := by
  refine Met.ofW (cc := cL_variable) (maxL := 1) (ret := (some .int)) (by decide) rfl ?_
  intro p e s m args below meth c s₁ B hml hv
  obtain ⟨rfl, -⟩ := hv
  have hx := B.exec
  have hb := B.bytes
  have hr := B.returns
  have hts := atoms_spec (ws := wsL_variable) B.pre
  have hown : s.vm.findClass RL = some m.cls := findClass_of_methodNamed B.named
  have hlocks := B.notSynchronized
  have hS : va_S (fun _ => False) s.heap s.heap [] := va_S.rf
  have hl := lv_entry ([.int (nI v)]) (n := 1) (Nat.le_of_ble_eq_true rfl)
  rw [lg_entry_eq]
  generalize (lg_sl ([.int (nI v)]) ++ List.replicate (1 - (lg_sl ([.int (nI v)])).length) Slot.unset).toArray = ls at hl ⊢
  have hl : lv_has ls 1 [(0, .int (nI v))] := hl
  refine lv_iload_n hx hb dL_variable_0 rfl (lv_at hl 0 rfl) ?_
  refine lv_if_ne (tgt := 9) hx hb dL_variable_1 (by decide) (fun c_1 => ?_) (fun c_1 => ?_)
  · refine lv_iload_n hx hb dL_variable_9 rfl (lv_at hl 0 rfl) ?_
    refine lv_iconst (v := 1) hx hb dL_variable_10 (by decide) ?_
    refine lv_icmp_ne (tgt := 19) hx hb dL_variable_11 (by decide) (fun c_2 => ?_) (fun c_2 => ?_)
    · refine lv_iload_n hx hb dL_variable_19 rfl (lv_at hl 0 rfl) ?_
      refine lv_iconst (v := 2) hx hb dL_variable_20 (by decide) ?_
      refine lv_icmp_ne (tgt := 29) hx hb dL_variable_21 (by decide) (fun c_3 => ?_) (fun c_3 => ?_)
      · refine lv_ldc (v := 65280) hx hb hown (hts (.constant RL 27 (65280)) (List.mem_of_getElem? (i := 4) rfl)) dL_variable_29 ?_
        exact W.iret (v := 65280) hx hb hr (fun t9 ht hW => ⟨65280, rfl, (by first | ((rw [fL_variable, if_neg c_1, if_neg c_2, if_neg c_3]); first | done | rfl) | rfl), ht⟩) (fun q h => nomatch h) dL_variable_31
      · refine lv_ldc (v := 61680) hx hb hown (hts (.constant RL 26 (61680)) (List.mem_of_getElem? (i := 3) rfl)) dL_variable_24 ?_
        refine lv_goto (tgt := 31) hx hb dL_variable_26 (by decide) ?_
        exact W.iret (v := 61680) hx hb hr (fun t9 ht hW => ⟨61680, rfl, (by first | ((rw [fL_variable, if_neg c_1, if_neg c_2, if_pos c_3]); first | done | rfl) | rfl), ht⟩) (fun q h => nomatch h) dL_variable_31
    · refine lv_ldc (v := 52428) hx hb hown (hts (.constant RL 25 (52428)) (List.mem_of_getElem? (i := 2) rfl)) dL_variable_14 ?_
      refine lv_goto (tgt := 31) hx hb dL_variable_16 (by decide) ?_
      exact W.iret (v := 52428) hx hb hr (fun t9 ht hW => ⟨52428, rfl, (by first | ((rw [fL_variable, if_neg c_1, if_pos c_2]); first | done | rfl) | rfl), ht⟩) (fun q h => nomatch h) dL_variable_31
  · refine lv_ldc (v := 43690) hx hb hown (hts (.constant RL 24 (43690)) (List.mem_of_getElem? (i := 1) rfl)) dL_variable_4 ?_
    refine lv_goto (tgt := 31) hx hb dL_variable_6 (by decide) ?_
    exact W.iret (v := 43690) hx hb hr (fun t9 ht hW => ⟨43690, rfl, (by first | ((rw [fL_variable, if_pos c_1]); first | done | rfl) | rfl), ht⟩) (fun q h => nomatch h) dL_variable_31
theorem L_variable_VT : ∀ v, v < 4 → fL_variable v = VT v := by decide +kernel
theorem cv_L_variable (l : Launch) (v : Nat) (hv : v < 4) : Met l yL_variable wsL_variable ({ frames := 0, cells := 0, slots := 0, locals := 0 }) (va_Pc [.int (nI v)] (fun _ => True)) (vp_Si (fun r => r = VT v)) 0 0 (fun _ => False) := by
  have h := c_L_variable l v
  rw [L_variable_VT v hv] at h
  exact h
def sL_bits_4 (t : Int32) (i1 : Nat) (a1 : Int32) : Int32 := (a1 + ((t >>> ((nI i1) &&& 31)) &&& 1))
def fL_bits (t : Int32) : Int32 := (lp (sL_bits_4 t) 16 0 0)
set_option maxHeartbeats 4000000 in
set_option maxRecDepth 100000 in
theorem c_L_bits (l : Launch) (t : Int32) : Met l yL_bits wsL_bits ({ frames := 0, cells := 0, slots := 0, locals := 0 }) (va_Pc [.int t] (fun _ => True)) (vp_Si (fun r => r = (fL_bits t))) 0 0 (fun _ => False) := by
  refine Met.ofW (cc := cL_bits) (maxL := 3) (ret := (some .int)) (by decide) rfl ?_
  intro p e s m args below meth c s₁ B hml hv
  obtain ⟨rfl, -⟩ := hv
  have hx := B.exec
  have hb := B.bytes
  have hr := B.returns
  have hts := atoms_spec (ws := wsL_bits) B.pre
  have hown : s.vm.findClass RL = some m.cls := findClass_of_methodNamed B.named
  have hlocks := B.notSynchronized
  have hS : va_S (fun _ => False) s.heap s.heap [] := va_S.rf
  have hl := lv_entry ([.int t]) (n := 3) (Nat.le_of_ble_eq_true rfl)
  rw [lg_entry_eq]
  generalize (lg_sl ([.int t]) ++ List.replicate (3 - (lg_sl ([.int t])).length) Slot.unset).toArray = ls at hl ⊢
  have hl : lv_has ls 3 [(0, .int t)] := hl
  refine lv_iconst (v := 0) hx hb dL_bits_0 (by decide) ?_
  refine lv_istore_n (lv' := [(1, .int 0), (0, .int t)]) hx hb dL_bits_1 rfl hl (by decide) rfl (fun ls hl => ?_)
  refine lv_iconst (v := 0) hx hb dL_bits_2 (by decide) ?_
  refine lv_istore_n (lv' := [(2, .int 0), (1, .int 0), (0, .int t)]) hx hb dL_bits_3 rfl hl (by decide) rfl (fun ls hl => ?_)
  obtain ⟨F1, hF1⟩ : ∃ z9, z9 = (lp (sL_bits_4 t) 16 0 0) := ⟨_, rfl⟩
  refine vz_cut (fun H1 l1 g1 => ∃ (n1 i1 : Nat) (a1 : Int32) (ls : Array Slot), i1 + n1 = 16 ∧ lp (sL_bits_4 t) n1 i1 a1 = F1 ∧ lv_has ls 3 [(2, .int (nI i1)), (1, .int a1), (0, .int t)] ∧ (s.heap = H1 ∧ [] = l1) ∧ g1 = F0 m 4 ls []) (fun hj => hj _ _ _ ⟨16, 0, 0, ls, (by omega), hF1.symm, lv_sub hl [0, 1, 2] rfl, ⟨rfl, rfl⟩, rfl⟩) ?_
  rintro H1 l1 g1 ⟨n1, i1, a1, ls, hi1, hf1, hl, ⟨rfl, rfl⟩, rfl⟩
  revert i1 a1 ls
  induction n1 with
  | zero =>
    intro i1 a1 ls hi1 hf1 hl
    obtain rfl : 16 = i1 := by omega
    have hf1 : F1 = a1 := hf1.symm
    subst hf1
    refine lv_iload_n hx hb dL_bits_4 rfl (lv_at hl 0 rfl) ?_
    refine lv_bipush (v := 16) hx hb dL_bits_5 (by decide) ?_
    refine lv_icmp_ge (tgt := 24) hx hb dL_bits_7 (by decide) (fun c_1 => ?_) (fun c_1 => ?_)
    · refine lv_iload_n hx hb dL_bits_24 rfl (lv_at hl 1 rfl) ?_
      exact W.iret (v := F1) hx hb hr (fun t9 ht hW => ⟨F1, rfl, (by first | ((rw [fL_bits]); (try rw [← hF1]); first | done | rfl) | rfl), ht⟩) (fun q h => nomatch h) dL_bits_25
    · exact absurd (nI_le (a := 16) (b := 16) (by omega) (by omega)) c_1
  | succ n1 ih1 =>
    intro i1 a1 ls hi1 hf1 hl
    refine lv_iload_n hx hb dL_bits_4 rfl (lv_at hl 0 rfl) ?_
    refine lv_bipush (v := 16) hx hb dL_bits_5 (by decide) ?_
    refine lv_icmp_ge (tgt := 24) hx hb dL_bits_7 (by decide) (fun c_2 => ?_) (fun c_2 => ?_)
    · exact absurd c_2 (nI_ge (a := i1) (b := 16) (by omega) (by omega))
    · refine lv_iload_n hx hb dL_bits_10 rfl (lv_at hl 1 rfl) ?_
      refine lv_iload_n hx hb dL_bits_11 rfl (lv_at hl 2 rfl) ?_
      refine lv_iload_n hx hb dL_bits_12 rfl (lv_at hl 0 rfl) ?_
      refine lv_ishr hx hb dL_bits_13 ?_
      refine lv_iconst (v := 1) hx hb dL_bits_14 (by decide) ?_
      refine lv_iand hx hb dL_bits_15 ?_
      refine lv_iadd hx hb dL_bits_16 ?_
      refine lv_istore_n (lv' := [(1, .int (a1 + ((t >>> ((nI i1) &&& 31)) &&& 1))), (2, .int (nI i1)), (0, .int t)]) hx hb dL_bits_17 rfl hl (by decide) rfl (fun ls hl => ?_)
      refine lv_iinc (v := (nI (i1 + 1))) (lv' := [(2, .int (nI (i1 + 1))), (1, .int (a1 + ((t >>> ((nI i1) &&& 31)) &&& 1))), (0, .int t)]) hx hb dL_bits_18 hl (k := 1) rfl (by first | exact nI_add _ _ | rfl) (by decide) rfl (fun ls hl => ?_)
      refine lv_goto (tgt := 4) hx hb dL_bits_21 (by decide) ?_
      exact ih1 (i1 + 1) (a1 + ((t >>> ((nI i1) &&& 31)) &&& 1)) ls (by omega) ((congrArg (lp (sL_bits_4 t) n1 (i1 + 1)) (show (a1 + ((t >>> ((nI i1) &&& 31)) &&& 1)) = (sL_bits_4 t) i1 a1 from by first | ((rw [sL_bits_4]); first | done | rfl) | rfl)).trans hf1) (lv_sub hl [0, 1, 2] rfl)
def fL_table (v : Int32) : Int32 := if (fL_low (v >>> ((18 : Int32) &&& 31)) 3) = 0 then (((((((v >>> ((1 : Int32) &&& 31)) &&& 1) * (VT 0)) ^^^ (((v >>> ((2 : Int32) &&& 31)) &&& 1) * (VT 1))) ^^^ (((v >>> ((3 : Int32) &&& 31)) &&& 1) * (VT 2))) ^^^ (((v >>> ((4 : Int32) &&& 31)) &&& 1) * (VT 3))) ^^^ (((v >>> ((5 : Int32) &&& 31)) &&& 1) * 65535)) else (if (fL_low (v >>> ((18 : Int32) &&& 31)) 3) = 1 then (((v >>> ((2 : Int32) &&& 31)) &&& 65535) &&& (v * 7)) else ((v >>> ((2 : Int32) &&& 31)) &&& 65535))
set_option maxHeartbeats 4000000 in
set_option maxRecDepth 100000 in
theorem c_L_table (l : Launch) (v : Int32) : Met l yL_table wsL_table ({ frames := 1, cells := 0, slots := 0, locals := 21 }) (va_Pc [.int v] (fun _ => True)) (vp_Si (fun r => r = (fL_table v))) 0 0 (fun _ => False) := by
  refine Met.ofW (cc := cL_table) (maxL := 2) (ret := (some .int)) (by decide) rfl ?_
  intro p e s m args below meth c s₁ B hml hv
  obtain ⟨rfl, -⟩ := hv
  have hx := B.exec
  have hb := B.bytes
  have hr := B.returns
  have hts := atoms_spec (ws := wsL_table) B.pre
  have hown : s.vm.findClass RL = some m.cls := findClass_of_methodNamed B.named
  have hlocks := B.notSynchronized
  have hS : va_S (fun _ => False) s.heap s.heap [] := va_S.rf
  have hl := lv_entry ([.int v]) (n := 2) (Nat.le_of_ble_eq_true rfl)
  rw [lg_entry_eq]
  generalize (lg_sl ([.int v]) ++ List.replicate (2 - (lg_sl ([.int v])).length) Slot.unset).toArray = ls at hl ⊢
  have hl : lv_has ls 2 [(0, .int v)] := hl
  refine lv_iload_n hx hb dL_table_0 rfl (lv_at hl 0 rfl) ?_
  refine lv_iconst (v := 1) hx hb dL_table_1 (by decide) ?_
  refine lv_ishr hx hb dL_table_2 ?_
  refine lv_iconst (v := 1) hx hb dL_table_3 (by decide) ?_
  refine lv_iand hx hb dL_table_4 ?_
  refine lv_iconst (v := 0) hx hb dL_table_5 (by decide) ?_
  refine vp_callSi (va_Run.run (va_runS (As := [.int 0]) (rest := [.int ((v >>> ((1 : Int32) &&& 31)) &&& 1)]) ⟨hx, hb, hml, hown, hts⟩ (cv_L_variable l 0 (by omega)) (va_cwS 1 hts gL_table_L_variable rfl rfl rfl (by decide +kernel) ⟨Nat.le_of_ble_eq_true rfl, Nat.le_of_ble_eq_true rfl⟩) ⟨fun _ _ _ _ z => z, fun _ _ _ => ⟨rfl, trivial⟩⟩ rfl rfl hl.1 rfl (lv_room (Nat.le_of_ble_eq_true rfl)) dL_table_6 ⟨(Nat.zero_le _), (Nat.zero_le _)⟩)) (fun r hr => ?_)
  subst hr
  refine lv_imul hx hb dL_table_9 ?_
  refine lv_iload_n hx hb dL_table_10 rfl (lv_at hl 0 rfl) ?_
  refine lv_iconst (v := 2) hx hb dL_table_11 (by decide) ?_
  refine lv_ishr hx hb dL_table_12 ?_
  refine lv_iconst (v := 1) hx hb dL_table_13 (by decide) ?_
  refine lv_iand hx hb dL_table_14 ?_
  refine lv_iconst (v := 1) hx hb dL_table_15 (by decide) ?_
  refine vp_callSi (va_Run.run (va_runS (As := [.int 1]) (rest := [.int ((v >>> ((2 : Int32) &&& 31)) &&& 1), .int (((v >>> ((1 : Int32) &&& 31)) &&& 1) * (VT 0))]) ⟨hx, hb, hml, hown, hts⟩ (cv_L_variable l 1 (by omega)) (va_cwS 1 hts gL_table_L_variable rfl rfl rfl (by decide +kernel) ⟨Nat.le_of_ble_eq_true rfl, Nat.le_of_ble_eq_true rfl⟩) ⟨fun _ _ _ _ z => z, fun _ _ _ => ⟨rfl, trivial⟩⟩ rfl rfl hl.1 rfl (lv_room (Nat.le_of_ble_eq_true rfl)) dL_table_16 ⟨(Nat.zero_le _), (Nat.zero_le _)⟩)) (fun r hr => ?_)
  subst hr
  refine lv_imul hx hb dL_table_19 ?_
  refine lv_ixor hx hb dL_table_20 ?_
  refine lv_iload_n hx hb dL_table_21 rfl (lv_at hl 0 rfl) ?_
  refine lv_iconst (v := 3) hx hb dL_table_22 (by decide) ?_
  refine lv_ishr hx hb dL_table_23 ?_
  refine lv_iconst (v := 1) hx hb dL_table_24 (by decide) ?_
  refine lv_iand hx hb dL_table_25 ?_
  refine lv_iconst (v := 2) hx hb dL_table_26 (by decide) ?_
  refine vp_callSi (va_Run.run (va_runS (As := [.int 2]) (rest := [.int ((v >>> ((3 : Int32) &&& 31)) &&& 1), .int ((((v >>> ((1 : Int32) &&& 31)) &&& 1) * (VT 0)) ^^^ (((v >>> ((2 : Int32) &&& 31)) &&& 1) * (VT 1)))]) ⟨hx, hb, hml, hown, hts⟩ (cv_L_variable l 2 (by omega)) (va_cwS 1 hts gL_table_L_variable rfl rfl rfl (by decide +kernel) ⟨Nat.le_of_ble_eq_true rfl, Nat.le_of_ble_eq_true rfl⟩) ⟨fun _ _ _ _ z => z, fun _ _ _ => ⟨rfl, trivial⟩⟩ rfl rfl hl.1 rfl (lv_room (Nat.le_of_ble_eq_true rfl)) dL_table_27 ⟨(Nat.zero_le _), (Nat.zero_le _)⟩)) (fun r hr => ?_)
  subst hr
  refine lv_imul hx hb dL_table_30 ?_
  refine lv_ixor hx hb dL_table_31 ?_
  refine lv_iload_n hx hb dL_table_32 rfl (lv_at hl 0 rfl) ?_
  refine lv_iconst (v := 4) hx hb dL_table_33 (by decide) ?_
  refine lv_ishr hx hb dL_table_34 ?_
  refine lv_iconst (v := 1) hx hb dL_table_35 (by decide) ?_
  refine lv_iand hx hb dL_table_36 ?_
  refine lv_iconst (v := 3) hx hb dL_table_37 (by decide) ?_
  refine vp_callSi (va_Run.run (va_runS (As := [.int 3]) (rest := [.int ((v >>> ((4 : Int32) &&& 31)) &&& 1), .int (((((v >>> ((1 : Int32) &&& 31)) &&& 1) * (VT 0)) ^^^ (((v >>> ((2 : Int32) &&& 31)) &&& 1) * (VT 1))) ^^^ (((v >>> ((3 : Int32) &&& 31)) &&& 1) * (VT 2)))]) ⟨hx, hb, hml, hown, hts⟩ (cv_L_variable l 3 (by omega)) (va_cwS 1 hts gL_table_L_variable rfl rfl rfl (by decide +kernel) ⟨Nat.le_of_ble_eq_true rfl, Nat.le_of_ble_eq_true rfl⟩) ⟨fun _ _ _ _ z => z, fun _ _ _ => ⟨rfl, trivial⟩⟩ rfl rfl hl.1 rfl (lv_room (Nat.le_of_ble_eq_true rfl)) dL_table_38 ⟨(Nat.zero_le _), (Nat.zero_le _)⟩)) (fun r hr => ?_)
  subst hr
  refine lv_imul hx hb dL_table_41 ?_
  refine lv_ixor hx hb dL_table_42 ?_
  refine lv_iload_n hx hb dL_table_43 rfl (lv_at hl 0 rfl) ?_
  refine lv_iconst (v := 5) hx hb dL_table_44 (by decide) ?_
  refine lv_ishr hx hb dL_table_45 ?_
  refine lv_iconst (v := 1) hx hb dL_table_46 (by decide) ?_
  refine lv_iand hx hb dL_table_47 ?_
  refine lv_ldc (v := 65535) hx hb hown (hts (.constant RL 33 (65535)) (List.mem_of_getElem? (i := 1) rfl)) dL_table_48 ?_
  refine lv_imul hx hb dL_table_50 ?_
  refine lv_ixor hx hb dL_table_51 ?_
  refine lv_istore_n (lv' := [(1, .int (((((((v >>> ((1 : Int32) &&& 31)) &&& 1) * (VT 0)) ^^^ (((v >>> ((2 : Int32) &&& 31)) &&& 1) * (VT 1))) ^^^ (((v >>> ((3 : Int32) &&& 31)) &&& 1) * (VT 2))) ^^^ (((v >>> ((4 : Int32) &&& 31)) &&& 1) * (VT 3))) ^^^ (((v >>> ((5 : Int32) &&& 31)) &&& 1) * 65535))), (0, .int v)]) hx hb dL_table_52 rfl hl (by decide) rfl (fun ls hl => ?_)
  refine lv_iload_n hx hb dL_table_53 rfl (lv_at hl 1 rfl) ?_
  refine lv_bipush (v := 18) hx hb dL_table_54 (by decide) ?_
  refine lv_ishr hx hb dL_table_56 ?_
  refine lv_iconst (v := 3) hx hb dL_table_57 (by decide) ?_
  refine vp_callSi (va_Run.run (va_runS (As := [.int (v >>> ((18 : Int32) &&& 31)), .int 3]) (rest := []) ⟨hx, hb, hml, hown, hts⟩ (c_L_low l (v >>> ((18 : Int32) &&& 31)) 3 (by omega)) (va_cwS 2 hts gL_table_L_low rfl rfl rfl (by decide +kernel) ⟨Nat.le_of_ble_eq_true rfl, Nat.le_of_ble_eq_true rfl⟩) ⟨fun _ _ _ _ z => z, fun _ _ _ => ⟨rfl, trivial⟩⟩ rfl rfl hl.1 rfl (lv_room (Nat.le_of_ble_eq_true rfl)) dL_table_58 ⟨(Nat.zero_le _), (Nat.zero_le _)⟩)) (fun r hr => ?_)
  subst hr
  refine lv_if_ne (tgt := 68) hx hb dL_table_61 (by decide) (fun c_1 => ?_) (fun c_1 => ?_)
  · refine lv_iload_n hx hb dL_table_68 rfl (lv_at hl 1 rfl) ?_
    refine lv_bipush (v := 18) hx hb dL_table_69 (by decide) ?_
    refine lv_ishr hx hb dL_table_71 ?_
    refine lv_iconst (v := 3) hx hb dL_table_72 (by decide) ?_
    refine vp_callSi (va_Run.run (va_runS (As := [.int (v >>> ((18 : Int32) &&& 31)), .int 3]) (rest := []) ⟨hx, hb, hml, hown, hts⟩ (c_L_low l (v >>> ((18 : Int32) &&& 31)) 3 (by omega)) (va_cwS 2 hts gL_table_L_low rfl rfl rfl (by decide +kernel) ⟨Nat.le_of_ble_eq_true rfl, Nat.le_of_ble_eq_true rfl⟩) ⟨fun _ _ _ _ z => z, fun _ _ _ => ⟨rfl, trivial⟩⟩ rfl rfl hl.1 rfl (lv_room (Nat.le_of_ble_eq_true rfl)) dL_table_73 ⟨(Nat.zero_le _), (Nat.zero_le _)⟩)) (fun r hr => ?_)
    subst hr
    refine lv_iconst (v := 1) hx hb dL_table_76 (by decide) ?_
    refine lv_icmp_ne (tgt := 94) hx hb dL_table_77 (by decide) (fun c_2 => ?_) (fun c_2 => ?_)
    · refine lv_iload_n hx hb dL_table_94 rfl (lv_at hl 1 rfl) ?_
      refine lv_iconst (v := 2) hx hb dL_table_95 (by decide) ?_
      refine lv_ishr hx hb dL_table_96 ?_
      refine lv_ldc (v := 65535) hx hb hown (hts (.constant RL 33 (65535)) (List.mem_of_getElem? (i := 1) rfl)) dL_table_97 ?_
      refine lv_iand hx hb dL_table_99 ?_
      exact W.iret (v := ((v >>> ((2 : Int32) &&& 31)) &&& 65535)) hx hb hr (fun t9 ht hW => ⟨((v >>> ((2 : Int32) &&& 31)) &&& 65535), rfl, (by first | ((rw [fL_table, if_neg c_1, if_neg c_2]); first | done | rfl) | rfl), ht⟩) (fun q h => nomatch h) dL_table_100
    · refine lv_iload_n hx hb dL_table_80 rfl (lv_at hl 1 rfl) ?_
      refine lv_iconst (v := 2) hx hb dL_table_81 (by decide) ?_
      refine lv_ishr hx hb dL_table_82 ?_
      refine lv_ldc (v := 65535) hx hb hown (hts (.constant RL 33 (65535)) (List.mem_of_getElem? (i := 1) rfl)) dL_table_83 ?_
      refine lv_iand hx hb dL_table_85 ?_
      refine lv_iload_n hx hb dL_table_86 rfl (lv_at hl 1 rfl) ?_
      refine lv_bipush (v := 7) hx hb dL_table_87 (by decide) ?_
      refine lv_imul hx hb dL_table_89 ?_
      refine lv_iand hx hb dL_table_90 ?_
      refine lv_goto (tgt := 100) hx hb dL_table_91 (by decide) ?_
      exact W.iret (v := (((v >>> ((2 : Int32) &&& 31)) &&& 65535) &&& (v * 7))) hx hb hr (fun t9 ht hW => ⟨(((v >>> ((2 : Int32) &&& 31)) &&& 65535) &&& (v * 7)), rfl, (by first | ((rw [fL_table, if_neg c_1, if_pos c_2]); first | done | rfl) | rfl), ht⟩) (fun q h => nomatch h) dL_table_100
  · refine lv_iload_n hx hb dL_table_64 rfl (lv_at hl 0 rfl) ?_
    refine lv_goto (tgt := 100) hx hb dL_table_65 (by decide) ?_
    exact W.iret (v := (((((((v >>> ((1 : Int32) &&& 31)) &&& 1) * (VT 0)) ^^^ (((v >>> ((2 : Int32) &&& 31)) &&& 1) * (VT 1))) ^^^ (((v >>> ((3 : Int32) &&& 31)) &&& 1) * (VT 2))) ^^^ (((v >>> ((4 : Int32) &&& 31)) &&& 1) * (VT 3))) ^^^ (((v >>> ((5 : Int32) &&& 31)) &&& 1) * 65535))) hx hb hr (fun t9 ht hW => ⟨(((((((v >>> ((1 : Int32) &&& 31)) &&& 1) * (VT 0)) ^^^ (((v >>> ((2 : Int32) &&& 31)) &&& 1) * (VT 1))) ^^^ (((v >>> ((3 : Int32) &&& 31)) &&& 1) * (VT 2))) ^^^ (((v >>> ((4 : Int32) &&& 31)) &&& 1) * (VT 3))) ^^^ (((v >>> ((5 : Int32) &&& 31)) &&& 1) * 65535)), rfl, (by first | ((rw [fL_table, if_pos c_1]); first | done | rfl) | rfl), ht⟩) (fun q h => nomatch h) dL_table_100
def sL_summed_29 (i1 : Nat) (i2 : Nat) (a2 : Int32) : Int32 := (a2 &&& (if (((nI i1) >>> ((nI i2) &&& 31)) &&& 1) = 1 then (VT i2) else 65535 : Int32))
def sL_summed_4 (t : Int32) (i1 : Nat) (a1 : Int32) : Int32 := (a1 ^^^ (lp (sL_summed_29 i1) 4 0 (if ((t >>> ((nI i1) &&& 31)) &&& 1) = 1 then 65535 else 0 : Int32)))
def fL_summed (t : Int32) : Int32 := (lp (sL_summed_4 t) 16 0 0)
set_option maxHeartbeats 4000000 in
set_option maxRecDepth 100000 in
theorem c_L_summed (l : Launch) (t : Int32) : Met l yL_summed wsL_summed ({ frames := 1, cells := 0, slots := 0, locals := 20 }) (va_Pc [.int t] (fun _ => True)) (vp_Si (fun r => r = (fL_summed t))) 0 0 (fun _ => False) := by
  refine Met.ofW (cc := cL_summed) (maxL := 5) (ret := (some .int)) (by decide) rfl ?_
  intro p e s m args below meth c s₁ B hml hv
  obtain ⟨rfl, -⟩ := hv
  have hx := B.exec
  have hb := B.bytes
  have hr := B.returns
  have hts := atoms_spec (ws := wsL_summed) B.pre
  have hown : s.vm.findClass RL = some m.cls := findClass_of_methodNamed B.named
  have hlocks := B.notSynchronized
  have hS : va_S (fun _ => False) s.heap s.heap [] := va_S.rf
  have hl := lv_entry ([.int t]) (n := 5) (Nat.le_of_ble_eq_true rfl)
  rw [lg_entry_eq]
  generalize (lg_sl ([.int t]) ++ List.replicate (5 - (lg_sl ([.int t])).length) Slot.unset).toArray = ls at hl ⊢
  have hl : lv_has ls 5 [(0, .int t)] := hl
  refine lv_iconst (v := 0) hx hb dL_summed_0 (by decide) ?_
  refine lv_istore_n (lv' := [(1, .int 0), (0, .int t)]) hx hb dL_summed_1 rfl hl (by decide) rfl (fun ls hl => ?_)
  refine lv_iconst (v := 0) hx hb dL_summed_2 (by decide) ?_
  refine lv_istore_n (lv' := [(2, .int 0), (1, .int 0), (0, .int t)]) hx hb dL_summed_3 rfl hl (by decide) rfl (fun ls hl => ?_)
  obtain ⟨F1, hF1⟩ : ∃ z9, z9 = (lp (sL_summed_4 t) 16 0 0) := ⟨_, rfl⟩
  refine vz_cut (fun H1 l1 g1 => ∃ (n1 i1 : Nat) (a1 : Int32) (ls : Array Slot), i1 + n1 = 16 ∧ lp (sL_summed_4 t) n1 i1 a1 = F1 ∧ lv_has ls 5 [(2, .int (nI i1)), (1, .int a1), (0, .int t)] ∧ (s.heap = H1 ∧ [] = l1) ∧ g1 = F0 m 4 ls []) (fun hj => hj _ _ _ ⟨16, 0, 0, ls, (by omega), hF1.symm, lv_sub hl [0, 1, 2] rfl, ⟨rfl, rfl⟩, rfl⟩) ?_
  rintro H1 l1 g1 ⟨n1, i1, a1, ls, hi1, hf1, hl, ⟨rfl, rfl⟩, rfl⟩
  revert i1 a1 ls
  induction n1 with
  | zero =>
    intro i1 a1 ls hi1 hf1 hl
    obtain rfl : 16 = i1 := by omega
    have hf1 : F1 = a1 := hf1.symm
    subst hf1
    refine lv_iload_n hx hb dL_summed_4 rfl (lv_at hl 0 rfl) ?_
    refine lv_bipush (v := 16) hx hb dL_summed_5 (by decide) ?_
    refine lv_icmp_ge (tgt := 74) hx hb dL_summed_7 (by decide) (fun c_1 => ?_) (fun c_1 => ?_)
    · refine lv_iload_n hx hb dL_summed_74 rfl (lv_at hl 1 rfl) ?_
      exact W.iret (v := F1) hx hb hr (fun t9 ht hW => ⟨F1, rfl, (by first | ((rw [fL_summed]); (try rw [← hF1]); first | done | rfl) | rfl), ht⟩) (fun q h => nomatch h) dL_summed_75
    · exact absurd (nI_le (a := 16) (b := 16) (by omega) (by omega)) c_1
  | succ n1 ih1 =>
    intro i1 a1 ls hi1 hf1 hl
    refine lv_iload_n hx hb dL_summed_4 rfl (lv_at hl 0 rfl) ?_
    refine lv_bipush (v := 16) hx hb dL_summed_5 (by decide) ?_
    refine lv_icmp_ge (tgt := 74) hx hb dL_summed_7 (by decide) (fun c_2 => ?_) (fun c_2 => ?_)
    · exact absurd c_2 (nI_ge (a := i1) (b := 16) (by omega) (by omega))
    · refine lv_iload_n hx hb dL_summed_10 rfl (lv_at hl 2 rfl) ?_
      refine lv_iload_n hx hb dL_summed_11 rfl (lv_at hl 0 rfl) ?_
      refine lv_ishr hx hb dL_summed_12 ?_
      refine lv_iconst (v := 1) hx hb dL_summed_13 (by decide) ?_
      refine lv_iand hx hb dL_summed_14 ?_
      refine lv_iconst (v := 1) hx hb dL_summed_15 (by decide) ?_
      refine vz_cut (fun H1 l1 g1 => ∃ (x1_0 : Int32) (ls : Array Slot), x1_0 = (if ((t >>> ((nI i1) &&& 31)) &&& 1) = 1 then 65535 else 0 : Int32) ∧ lv_has ls 5 [(2, .int (nI i1)), (1, .int a1), (0, .int t)] ∧ (s.heap = H1 ∧ [] = l1) ∧ g1 = F0 m 25 ls [.int x1_0]) (fun hj1 => ?_) ?_
      · refine lv_icmp_ne (tgt := 24) hx hb dL_summed_16 (by decide) (fun c_3 => ?_) (fun c_3 => ?_)
        · refine lv_iconst (v := 0) hx hb dL_summed_24 (by decide) ?_
          exact hj1 _ _ _ ⟨0, ls, (by (rw [if_neg c_3]); first | done | rfl), lv_sub hl [0, 1, 2] rfl, ⟨rfl, rfl⟩, rfl⟩
        · refine lv_ldc (v := 65535) hx hb hown (hts (.constant RL 33 (65535)) (List.mem_of_getElem? (i := 1) rfl)) dL_summed_19 ?_
          refine lv_goto (tgt := 25) hx hb dL_summed_21 (by decide) ?_
          exact hj1 _ _ _ ⟨65535, ls, (by (rw [if_pos c_3]); first | done | rfl), lv_sub hl [0, 1, 2] rfl, ⟨rfl, rfl⟩, rfl⟩
      rintro H1 l1 g1 ⟨x1_0, ls, ex1_0, hl, ⟨rfl, rfl⟩, rfl⟩
      subst x1_0
      refine lv_istore_n (lv' := [(3, .int (if ((t >>> ((nI i1) &&& 31)) &&& 1) = 1 then 65535 else 0 : Int32)), (2, .int (nI i1)), (1, .int a1), (0, .int t)]) hx hb dL_summed_25 rfl hl (by decide) rfl (fun ls hl => ?_)
      refine lv_iconst (v := 0) hx hb dL_summed_26 (by decide) ?_
      refine lv_istore (lv' := [(4, .int 0), (3, .int (if ((t >>> ((nI i1) &&& 31)) &&& 1) = 1 then 65535 else 0 : Int32)), (2, .int (nI i1)), (1, .int a1), (0, .int t)]) hx hb dL_summed_27 hl (by decide) rfl (fun ls hl => ?_)
      obtain ⟨F2, hF2⟩ : ∃ z9, z9 = (lp (sL_summed_29 i1) 4 0 (if ((t >>> ((nI i1) &&& 31)) &&& 1) = 1 then 65535 else 0 : Int32)) := ⟨_, rfl⟩
      refine vz_cut (fun H1 l1 g1 => ∃ (n2 i2 : Nat) (a2 : Int32) (ls : Array Slot), i2 + n2 = 4 ∧ lp (sL_summed_29 i1) n2 i2 a2 = F2 ∧ lv_has ls 5 [(4, .int (nI i2)), (3, .int a2), (2, .int (nI i1)), (1, .int a1), (0, .int t)] ∧ (s.heap = H1 ∧ [] = l1) ∧ g1 = F0 m 29 ls []) (fun hj => hj _ _ _ ⟨4, 0, (if ((t >>> ((nI i1) &&& 31)) &&& 1) = 1 then 65535 else 0 : Int32), ls, (by omega), hF2.symm, lv_sub hl [0, 1, 2, 3, 4] rfl, ⟨rfl, rfl⟩, rfl⟩) ?_
      rintro H1 l1 g1 ⟨n2, i2, a2, ls, hi2, hf2, hl, ⟨rfl, rfl⟩, rfl⟩
      revert i2 a2 ls
      induction n2 with
      | zero =>
        intro i2 a2 ls hi2 hf2 hl
        obtain rfl : 4 = i2 := by omega
        have hf2 : F2 = a2 := hf2.symm
        subst hf2
        refine lv_iload hx hb dL_summed_29 (lv_at hl 0 rfl) ?_
        refine lv_iconst (v := 4) hx hb dL_summed_31 (by decide) ?_
        refine lv_icmp_ge (tgt := 64) hx hb dL_summed_32 (by decide) (fun c_4 => ?_) (fun c_4 => ?_)
        · refine lv_iload_n hx hb dL_summed_64 rfl (lv_at hl 3 rfl) ?_
          refine lv_iload_n hx hb dL_summed_65 rfl (lv_at hl 1 rfl) ?_
          refine lv_ixor hx hb dL_summed_66 ?_
          refine lv_istore_n (lv' := [(1, .int (a1 ^^^ F2)), (4, .int (nI 4)), (3, .int F2), (2, .int (nI i1)), (0, .int t)]) hx hb dL_summed_67 rfl hl (by decide) rfl (fun ls hl => ?_)
          refine lv_iinc (v := (nI (i1 + 1))) (lv' := [(2, .int (nI (i1 + 1))), (1, .int (a1 ^^^ F2)), (4, .int (nI 4)), (3, .int F2), (0, .int t)]) hx hb dL_summed_68 hl (k := 3) rfl (by first | exact nI_add _ _ | rfl) (by decide) rfl (fun ls hl => ?_)
          refine lv_goto (tgt := 4) hx hb dL_summed_71 (by decide) ?_
          exact ih1 (i1 + 1) (a1 ^^^ F2) ls (by omega) ((congrArg (lp (sL_summed_4 t) n1 (i1 + 1)) (show (a1 ^^^ F2) = (sL_summed_4 t) i1 a1 from by first | ((rw [sL_summed_4]); (try rw [← hF2]); first | done | rfl) | rfl)).trans hf1) (lv_sub hl [0, 1, 4] rfl)
        · exact absurd (nI_le (a := 4) (b := 4) (by omega) (by omega)) c_4
      | succ n2 ih2 =>
        intro i2 a2 ls hi2 hf2 hl
        refine lv_iload hx hb dL_summed_29 (lv_at hl 0 rfl) ?_
        refine lv_iconst (v := 4) hx hb dL_summed_31 (by decide) ?_
        refine lv_icmp_ge (tgt := 64) hx hb dL_summed_32 (by decide) (fun c_5 => ?_) (fun c_5 => ?_)
        · exact absurd c_5 (nI_ge (a := i2) (b := 4) (by omega) (by omega))
        · refine lv_iload_n hx hb dL_summed_35 rfl (lv_at hl 1 rfl) ?_
          refine lv_iload_n hx hb dL_summed_36 rfl (lv_at hl 2 rfl) ?_
          refine lv_iload hx hb dL_summed_37 (lv_at hl 0 rfl) ?_
          refine lv_ishr hx hb dL_summed_39 ?_
          refine lv_iconst (v := 1) hx hb dL_summed_40 (by decide) ?_
          refine lv_iand hx hb dL_summed_41 ?_
          refine lv_iconst (v := 1) hx hb dL_summed_42 (by decide) ?_
          refine vz_cut (fun H1 l1 g1 => ∃ (x2_0 : Int32) (ls : Array Slot), x2_0 = (if (((nI i1) >>> ((nI i2) &&& 31)) &&& 1) = 1 then (VT i2) else 65535 : Int32) ∧ lv_has ls 5 [(4, .int (nI i2)), (3, .int a2), (2, .int (nI i1)), (1, .int a1), (0, .int t)] ∧ (s.heap = H1 ∧ [] = l1) ∧ g1 = F0 m 56 ls [.int x2_0, .int a2]) (fun hj2 => ?_) ?_
          · refine lv_icmp_ne (tgt := 54) hx hb dL_summed_43 (by decide) (fun c_6 => ?_) (fun c_6 => ?_)
            · refine lv_ldc (v := 65535) hx hb hown (hts (.constant RL 33 (65535)) (List.mem_of_getElem? (i := 1) rfl)) dL_summed_54 ?_
              exact hj2 _ _ _ ⟨65535, ls, (by (rw [if_neg c_6]); first | done | rfl), lv_sub hl [0, 1, 2, 3, 4] rfl, ⟨rfl, rfl⟩, rfl⟩
            · refine lv_iload hx hb dL_summed_46 (lv_at hl 0 rfl) ?_
              refine vp_callSi (va_Run.run (va_runS (As := [.int (nI i2)]) (rest := [.int a2]) ⟨hx, hb, hml, hown, hts⟩ (cv_L_variable l i2 (by omega)) (va_cwS 1 hts gL_summed_L_variable rfl rfl rfl (by decide +kernel) ⟨Nat.le_of_ble_eq_true rfl, Nat.le_of_ble_eq_true rfl⟩) ⟨fun _ _ _ _ z => z, fun _ _ _ => ⟨rfl, trivial⟩⟩ rfl rfl hl.1 rfl (lv_room (Nat.le_of_ble_eq_true rfl)) dL_summed_48 ⟨(Nat.zero_le _), (Nat.zero_le _)⟩)) (fun r hr => ?_)
              subst hr
              refine lv_goto (tgt := 56) hx hb dL_summed_51 (by decide) ?_
              exact hj2 _ _ _ ⟨(VT i2), ls, (by (rw [if_pos c_6]); first | done | rfl), lv_sub hl [0, 1, 2, 3, 4] rfl, ⟨rfl, rfl⟩, rfl⟩
          rintro H1 l1 g1 ⟨x2_0, ls, ex2_0, hl, ⟨rfl, rfl⟩, rfl⟩
          subst x2_0
          refine lv_iand hx hb dL_summed_56 ?_
          refine lv_istore_n (lv' := [(3, .int (a2 &&& (if (((nI i1) >>> ((nI i2) &&& 31)) &&& 1) = 1 then (VT i2) else 65535 : Int32))), (4, .int (nI i2)), (2, .int (nI i1)), (1, .int a1), (0, .int t)]) hx hb dL_summed_57 rfl hl (by decide) rfl (fun ls hl => ?_)
          refine lv_iinc (v := (nI (i2 + 1))) (lv' := [(4, .int (nI (i2 + 1))), (3, .int (a2 &&& (if (((nI i1) >>> ((nI i2) &&& 31)) &&& 1) = 1 then (VT i2) else 65535 : Int32))), (2, .int (nI i1)), (1, .int a1), (0, .int t)]) hx hb dL_summed_58 hl (k := 1) rfl (by first | exact nI_add _ _ | rfl) (by decide) rfl (fun ls hl => ?_)
          refine lv_goto (tgt := 29) hx hb dL_summed_61 (by decide) ?_
          exact ih2 (i2 + 1) (a2 &&& (if (((nI i1) >>> ((nI i2) &&& 31)) &&& 1) = 1 then (VT i2) else 65535 : Int32)) ls (by omega) ((congrArg (lp (sL_summed_29 i1) n2 (i2 + 1)) (show (a2 &&& (if (((nI i1) >>> ((nI i2) &&& 31)) &&& 1) = 1 then (VT i2) else 65535 : Int32)) = (sL_summed_29 i1) i2 a2 from by first | ((rw [sL_summed_29]); first | done | rfl) | rfl)).trans hf2) (lv_sub hl [0, 1, 2, 3, 4] rfl)
def sL_degree_4 (t : Int32) (i1 : Nat) (a1 : Int32) : Int32 := (if ((t >>> ((nI i1) &&& 31)) &&& 1) = 1 then (if (fL_bits (nI i1)) ≤ a1 then a1 else (fL_bits (nI i1))) else a1 : Int32)
def fL_degree (t : Int32) : Int32 := (lp (sL_degree_4 t) 16 0 0)
set_option maxHeartbeats 4000000 in
set_option maxRecDepth 100000 in
theorem c_L_degree (l : Launch) (t : Int32) : Met l yL_degree wsL_degree ({ frames := 1, cells := 0, slots := 0, locals := 22 }) (va_Pc [.int t] (fun _ => True)) (vp_Si (fun r => r = (fL_degree t))) 0 0 (fun _ => False) := by
  refine Met.ofW (cc := cL_degree) (maxL := 3) (ret := (some .int)) (by decide) rfl ?_
  intro p e s m args below meth c s₁ B hml hv
  obtain ⟨rfl, -⟩ := hv
  have hx := B.exec
  have hb := B.bytes
  have hr := B.returns
  have hts := atoms_spec (ws := wsL_degree) B.pre
  have hown : s.vm.findClass RL = some m.cls := findClass_of_methodNamed B.named
  have hlocks := B.notSynchronized
  have hS : va_S (fun _ => False) s.heap s.heap [] := va_S.rf
  have hl := lv_entry ([.int t]) (n := 3) (Nat.le_of_ble_eq_true rfl)
  rw [lg_entry_eq]
  generalize (lg_sl ([.int t]) ++ List.replicate (3 - (lg_sl ([.int t])).length) Slot.unset).toArray = ls at hl ⊢
  have hl : lv_has ls 3 [(0, .int t)] := hl
  refine lv_iconst (v := 0) hx hb dL_degree_0 (by decide) ?_
  refine lv_istore_n (lv' := [(1, .int 0), (0, .int t)]) hx hb dL_degree_1 rfl hl (by decide) rfl (fun ls hl => ?_)
  refine lv_iconst (v := 0) hx hb dL_degree_2 (by decide) ?_
  refine lv_istore_n (lv' := [(2, .int 0), (1, .int 0), (0, .int t)]) hx hb dL_degree_3 rfl hl (by decide) rfl (fun ls hl => ?_)
  obtain ⟨F1, hF1⟩ : ∃ z9, z9 = (lp (sL_degree_4 t) 16 0 0) := ⟨_, rfl⟩
  refine vz_cut (fun H1 l1 g1 => ∃ (n1 i1 : Nat) (a1 : Int32) (ls : Array Slot), i1 + n1 = 16 ∧ lp (sL_degree_4 t) n1 i1 a1 = F1 ∧ lv_has ls 3 [(2, .int (nI i1)), (1, .int a1), (0, .int t)] ∧ (s.heap = H1 ∧ [] = l1) ∧ g1 = F0 m 4 ls []) (fun hj => hj _ _ _ ⟨16, 0, 0, ls, (by omega), hF1.symm, lv_sub hl [0, 1, 2] rfl, ⟨rfl, rfl⟩, rfl⟩) ?_
  rintro H1 l1 g1 ⟨n1, i1, a1, ls, hi1, hf1, hl, ⟨rfl, rfl⟩, rfl⟩
  revert i1 a1 ls
  induction n1 with
  | zero =>
    intro i1 a1 ls hi1 hf1 hl
    obtain rfl : 16 = i1 := by omega
    have hf1 : F1 = a1 := hf1.symm
    subst hf1
    refine lv_iload_n hx hb dL_degree_4 rfl (lv_at hl 0 rfl) ?_
    refine lv_bipush (v := 16) hx hb dL_degree_5 (by decide) ?_
    refine lv_icmp_ge (tgt := 42) hx hb dL_degree_7 (by decide) (fun c_1 => ?_) (fun c_1 => ?_)
    · refine lv_iload_n hx hb dL_degree_42 rfl (lv_at hl 1 rfl) ?_
      exact W.iret (v := F1) hx hb hr (fun t9 ht hW => ⟨F1, rfl, (by first | ((rw [fL_degree]); (try rw [← hF1]); first | done | rfl) | rfl), ht⟩) (fun q h => nomatch h) dL_degree_43
    · exact absurd (nI_le (a := 16) (b := 16) (by omega) (by omega)) c_1
  | succ n1 ih1 =>
    intro i1 a1 ls hi1 hf1 hl
    refine lv_iload_n hx hb dL_degree_4 rfl (lv_at hl 0 rfl) ?_
    refine lv_bipush (v := 16) hx hb dL_degree_5 (by decide) ?_
    refine lv_icmp_ge (tgt := 42) hx hb dL_degree_7 (by decide) (fun c_2 => ?_) (fun c_2 => ?_)
    · exact absurd c_2 (nI_ge (a := i1) (b := 16) (by omega) (by omega))
    · refine lv_iload_n hx hb dL_degree_10 rfl (lv_at hl 2 rfl) ?_
      refine lv_iload_n hx hb dL_degree_11 rfl (lv_at hl 0 rfl) ?_
      refine lv_ishr hx hb dL_degree_12 ?_
      refine lv_iconst (v := 1) hx hb dL_degree_13 (by decide) ?_
      refine lv_iand hx hb dL_degree_14 ?_
      refine lv_iconst (v := 1) hx hb dL_degree_15 (by decide) ?_
      refine vz_cut (fun H1 l1 g1 => ∃ (x1_0 : Int32) (ls : Array Slot), x1_0 = (if ((t >>> ((nI i1) &&& 31)) &&& 1) = 1 then (if (fL_bits (nI i1)) ≤ a1 then a1 else (fL_bits (nI i1))) else a1 : Int32) ∧ lv_has ls 3 [(2, .int (nI i1)), (1, .int a1), (0, .int t)] ∧ (s.heap = H1 ∧ [] = l1) ∧ g1 = F0 m 35 ls [.int x1_0]) (fun hj1 => ?_) ?_
      · refine lv_icmp_ne (tgt := 34) hx hb dL_degree_16 (by decide) (fun c_3 => ?_) (fun c_3 => ?_)
        · refine lv_iload_n hx hb dL_degree_34 rfl (lv_at hl 1 rfl) ?_
          exact hj1 _ _ _ ⟨a1, ls, (by (rw [if_neg c_3]); first | done | rfl), lv_sub hl [0, 1, 2] rfl, ⟨rfl, rfl⟩, rfl⟩
        · refine lv_iload_n hx hb dL_degree_19 rfl (lv_at hl 0 rfl) ?_
          refine vp_callSi (va_Run.run (va_runS (As := [.int (nI i1)]) (rest := []) ⟨hx, hb, hml, hown, hts⟩ (c_L_bits l (nI i1)) (va_cwS 1 hts gL_degree_L_bits rfl rfl rfl (by decide +kernel) ⟨Nat.le_of_ble_eq_true rfl, Nat.le_of_ble_eq_true rfl⟩) ⟨fun _ _ _ _ z => z, fun _ _ _ => ⟨rfl, trivial⟩⟩ rfl rfl hl.1 rfl (lv_room (Nat.le_of_ble_eq_true rfl)) dL_degree_20 ⟨(Nat.zero_le _), (Nat.zero_le _)⟩)) (fun r hr => ?_)
          subst hr
          refine lv_iload_n hx hb dL_degree_23 rfl (lv_at hl 1 rfl) ?_
          refine lv_icmp_le (tgt := 34) hx hb dL_degree_24 (by decide) (fun c_4 => ?_) (fun c_4 => ?_)
          · refine lv_iload_n hx hb dL_degree_34 rfl (lv_at hl 1 rfl) ?_
            exact hj1 _ _ _ ⟨a1, ls, (by (rw [if_pos c_3, if_pos c_4]); first | done | rfl), lv_sub hl [0, 1, 2] rfl, ⟨rfl, rfl⟩, rfl⟩
          · refine lv_iload_n hx hb dL_degree_27 rfl (lv_at hl 0 rfl) ?_
            refine vp_callSi (va_Run.run (va_runS (As := [.int (nI i1)]) (rest := []) ⟨hx, hb, hml, hown, hts⟩ (c_L_bits l (nI i1)) (va_cwS 1 hts gL_degree_L_bits rfl rfl rfl (by decide +kernel) ⟨Nat.le_of_ble_eq_true rfl, Nat.le_of_ble_eq_true rfl⟩) ⟨fun _ _ _ _ z => z, fun _ _ _ => ⟨rfl, trivial⟩⟩ rfl rfl hl.1 rfl (lv_room (Nat.le_of_ble_eq_true rfl)) dL_degree_28 ⟨(Nat.zero_le _), (Nat.zero_le _)⟩)) (fun r hr => ?_)
            subst hr
            refine lv_goto (tgt := 35) hx hb dL_degree_31 (by decide) ?_
            exact hj1 _ _ _ ⟨(fL_bits (nI i1)), ls, (by (rw [if_pos c_3, if_neg c_4]); first | done | rfl), lv_sub hl [0, 1, 2] rfl, ⟨rfl, rfl⟩, rfl⟩
      rintro H1 l1 g1 ⟨x1_0, ls, ex1_0, hl, ⟨rfl, rfl⟩, rfl⟩
      subst x1_0
      refine lv_istore_n (lv' := [(1, .int (if ((t >>> ((nI i1) &&& 31)) &&& 1) = 1 then (if (fL_bits (nI i1)) ≤ a1 then a1 else (fL_bits (nI i1))) else a1 : Int32)), (2, .int (nI i1)), (0, .int t)]) hx hb dL_degree_35 rfl hl (by decide) rfl (fun ls hl => ?_)
      refine lv_iinc (v := (nI (i1 + 1))) (lv' := [(2, .int (nI (i1 + 1))), (1, .int (if ((t >>> ((nI i1) &&& 31)) &&& 1) = 1 then (if (fL_bits (nI i1)) ≤ a1 then a1 else (fL_bits (nI i1))) else a1 : Int32)), (0, .int t)]) hx hb dL_degree_36 hl (k := 1) rfl (by first | exact nI_add _ _ | rfl) (by decide) rfl (fun ls hl => ?_)
      refine lv_goto (tgt := 4) hx hb dL_degree_39 (by decide) ?_
      exact ih1 (i1 + 1) (if ((t >>> ((nI i1) &&& 31)) &&& 1) = 1 then (if (fL_bits (nI i1)) ≤ a1 then a1 else (fL_bits (nI i1))) else a1 : Int32) ls (by omega) ((congrArg (lp (sL_degree_4 t) n1 (i1 + 1)) (show (if ((t >>> ((nI i1) &&& 31)) &&& 1) = 1 then (if (fL_bits (nI i1)) ≤ a1 then a1 else (fL_bits (nI i1))) else a1 : Int32) = (sL_degree_4 t) i1 a1 from by first | ((rw [sL_degree_4]); first | done | rfl) | rfl)).trans hf1) (lv_sub hl [0, 1, 2] rfl)
def sL_selfDual_4 (t : Int32) (i1 : Nat) (a1 : Int32) : Int32 := (if a1 = 0 then 0 else (if ((t >>> ((nI i1) &&& 31)) &&& 1) = ((t >>> ((15 - (nI i1)) &&& 31)) &&& 1) then 0 else 1) : Int32)
def fL_selfDual (t : Int32) : Int32 := (lp (sL_selfDual_4 t) 8 0 1)
theorem bL_selfDual (t : Int32) (i : Nat) (a : Int32) (_ : a = 0 ∨ a = 1) : sL_selfDual_4 t i a = 0 ∨ sL_selfDual_4 t i a = 1 := by unfold sL_selfDual_4; split <;> first | exact Or.inl rfl | exact Or.inr rfl | (split <;> first | exact Or.inl rfl | exact Or.inr rfl | (split <;> first | exact Or.inl rfl | exact Or.inr rfl))
set_option maxHeartbeats 4000000 in
set_option maxRecDepth 100000 in
theorem c_L_selfDual (l : Launch) (t : Int32) : Met l yL_selfDual wsL_selfDual ({ frames := 0, cells := 0, slots := 0, locals := 0 }) (va_Pc [.int t] (fun _ => True)) (vp_Si (fun r => r = (fL_selfDual t))) 0 0 (fun _ => False) := by
  refine Met.ofW (cc := cL_selfDual) (maxL := 3) (ret := (some .boolean)) (by decide) rfl ?_
  intro p e s m args below meth c s₁ B hml hv
  obtain ⟨rfl, -⟩ := hv
  have hx := B.exec
  have hb := B.bytes
  have hr := B.returns
  have hts := atoms_spec (ws := wsL_selfDual) B.pre
  have hown : s.vm.findClass RL = some m.cls := findClass_of_methodNamed B.named
  have hlocks := B.notSynchronized
  have hS : va_S (fun _ => False) s.heap s.heap [] := va_S.rf
  have hl := lv_entry ([.int t]) (n := 3) (Nat.le_of_ble_eq_true rfl)
  rw [lg_entry_eq]
  generalize (lg_sl ([.int t]) ++ List.replicate (3 - (lg_sl ([.int t])).length) Slot.unset).toArray = ls at hl ⊢
  have hl : lv_has ls 3 [(0, .int t)] := hl
  refine lv_iconst (v := 1) hx hb dL_selfDual_0 (by decide) ?_
  refine lv_istore_n (lv' := [(1, .int 1), (0, .int t)]) hx hb dL_selfDual_1 rfl hl (by decide) rfl (fun ls hl => ?_)
  refine lv_iconst (v := 0) hx hb dL_selfDual_2 (by decide) ?_
  refine lv_istore_n (lv' := [(2, .int 0), (1, .int 1), (0, .int t)]) hx hb dL_selfDual_3 rfl hl (by decide) rfl (fun ls hl => ?_)
  obtain ⟨F1, hF1⟩ : ∃ z9, z9 = (lp (sL_selfDual_4 t) 8 0 1) := ⟨_, rfl⟩
  refine vz_cut (fun H1 l1 g1 => ∃ (n1 i1 : Nat) (a1 : Int32) (ls : Array Slot), i1 + n1 = 8 ∧ lp (sL_selfDual_4 t) n1 i1 a1 = F1 ∧ lv_has ls 3 [(2, .int (nI i1)), (1, .int a1), (0, .int t)] ∧ (s.heap = H1 ∧ [] = l1) ∧ g1 = F0 m 4 ls []) (fun hj => hj _ _ _ ⟨8, 0, 1, ls, (by omega), hF1.symm, lv_sub hl [0, 1, 2] rfl, ⟨rfl, rfl⟩, rfl⟩) ?_
  rintro H1 l1 g1 ⟨n1, i1, a1, ls, hi1, hf1, hl, ⟨rfl, rfl⟩, rfl⟩
  revert i1 a1 ls
  induction n1 with
  | zero =>
    intro i1 a1 ls hi1 hf1 hl
    obtain rfl : 8 = i1 := by omega
    have hf1 : F1 = a1 := hf1.symm
    subst hf1
    refine lv_iload_n hx hb dL_selfDual_4 rfl (lv_at hl 0 rfl) ?_
    refine lv_bipush (v := 8) hx hb dL_selfDual_5 (by decide) ?_
    refine lv_icmp_ge (tgt := 42) hx hb dL_selfDual_7 (by decide) (fun c_1 => ?_) (fun c_1 => ?_)
    · refine lv_iload_n hx hb dL_selfDual_42 rfl (lv_at hl 1 rfl) ?_
      exact W.zret (v := F1) hx hb hr (by rw [hF1]; exact nar_b (lp_b (bL_selfDual t) 8 0 1 (Or.inr rfl))) (fun t9 ht hW => ⟨F1, rfl, (by first | ((rw [fL_selfDual]); (try rw [← hF1]); first | done | rfl) | rfl), ht⟩) (fun q h => nomatch h) dL_selfDual_43
    · exact absurd (nI_le (a := 8) (b := 8) (by omega) (by omega)) c_1
  | succ n1 ih1 =>
    intro i1 a1 ls hi1 hf1 hl
    refine lv_iload_n hx hb dL_selfDual_4 rfl (lv_at hl 0 rfl) ?_
    refine lv_bipush (v := 8) hx hb dL_selfDual_5 (by decide) ?_
    refine lv_icmp_ge (tgt := 42) hx hb dL_selfDual_7 (by decide) (fun c_2 => ?_) (fun c_2 => ?_)
    · exact absurd c_2 (nI_ge (a := i1) (b := 8) (by omega) (by omega))
    · refine lv_iload_n hx hb dL_selfDual_10 rfl (lv_at hl 1 rfl) ?_
      refine vz_cut (fun H1 l1 g1 => ∃ (x1_0 : Int32) (ls : Array Slot), x1_0 = (if a1 = 0 then 0 else (if ((t >>> ((nI i1) &&& 31)) &&& 1) = ((t >>> ((15 - (nI i1)) &&& 31)) &&& 1) then 0 else 1) : Int32) ∧ lv_has ls 3 [(2, .int (nI i1)), (1, .int a1), (0, .int t)] ∧ (s.heap = H1 ∧ [] = l1) ∧ g1 = F0 m 35 ls [.int x1_0]) (fun hj1 => ?_) ?_
      · refine lv_if_eq (tgt := 34) hx hb dL_selfDual_11 (by decide) (fun c_3 => ?_) (fun c_3 => ?_)
        · refine lv_iconst (v := 0) hx hb dL_selfDual_34 (by decide) ?_
          exact hj1 _ _ _ ⟨0, ls, (by (rw [if_pos c_3]); first | done | rfl), lv_sub hl [0, 1, 2] rfl, ⟨rfl, rfl⟩, rfl⟩
        · refine lv_iload_n hx hb dL_selfDual_14 rfl (lv_at hl 2 rfl) ?_
          refine lv_iload_n hx hb dL_selfDual_15 rfl (lv_at hl 0 rfl) ?_
          refine lv_ishr hx hb dL_selfDual_16 ?_
          refine lv_iconst (v := 1) hx hb dL_selfDual_17 (by decide) ?_
          refine lv_iand hx hb dL_selfDual_18 ?_
          refine lv_iload_n hx hb dL_selfDual_19 rfl (lv_at hl 2 rfl) ?_
          refine lv_bipush (v := 15) hx hb dL_selfDual_20 (by decide) ?_
          refine lv_iload_n hx hb dL_selfDual_22 rfl (lv_at hl 0 rfl) ?_
          refine lv_isub hx hb dL_selfDual_23 ?_
          refine lv_ishr hx hb dL_selfDual_24 ?_
          refine lv_iconst (v := 1) hx hb dL_selfDual_25 (by decide) ?_
          refine lv_iand hx hb dL_selfDual_26 ?_
          refine lv_icmp_eq (tgt := 34) hx hb dL_selfDual_27 (by decide) (fun c_4 => ?_) (fun c_4 => ?_)
          · refine lv_iconst (v := 0) hx hb dL_selfDual_34 (by decide) ?_
            exact hj1 _ _ _ ⟨0, ls, (by (rw [if_neg c_3, if_pos c_4]); first | done | rfl), lv_sub hl [0, 1, 2] rfl, ⟨rfl, rfl⟩, rfl⟩
          · refine lv_iconst (v := 1) hx hb dL_selfDual_30 (by decide) ?_
            refine lv_goto (tgt := 35) hx hb dL_selfDual_31 (by decide) ?_
            exact hj1 _ _ _ ⟨1, ls, (by (rw [if_neg c_3, if_neg c_4]); first | done | rfl), lv_sub hl [0, 1, 2] rfl, ⟨rfl, rfl⟩, rfl⟩
      rintro H1 l1 g1 ⟨x1_0, ls, ex1_0, hl, ⟨rfl, rfl⟩, rfl⟩
      subst x1_0
      refine lv_istore_n (lv' := [(1, .int (if a1 = 0 then 0 else (if ((t >>> ((nI i1) &&& 31)) &&& 1) = ((t >>> ((15 - (nI i1)) &&& 31)) &&& 1) then 0 else 1) : Int32)), (2, .int (nI i1)), (0, .int t)]) hx hb dL_selfDual_35 rfl hl (by decide) rfl (fun ls hl => ?_)
      refine lv_iinc (v := (nI (i1 + 1))) (lv' := [(2, .int (nI (i1 + 1))), (1, .int (if a1 = 0 then 0 else (if ((t >>> ((nI i1) &&& 31)) &&& 1) = ((t >>> ((15 - (nI i1)) &&& 31)) &&& 1) then 0 else 1) : Int32)), (0, .int t)]) hx hb dL_selfDual_36 hl (k := 1) rfl (by first | exact nI_add _ _ | rfl) (by decide) rfl (fun ls hl => ?_)
      refine lv_goto (tgt := 4) hx hb dL_selfDual_39 (by decide) ?_
      exact ih1 (i1 + 1) (if a1 = 0 then 0 else (if ((t >>> ((nI i1) &&& 31)) &&& 1) = ((t >>> ((15 - (nI i1)) &&& 31)) &&& 1) then 0 else 1) : Int32) ls (by omega) ((congrArg (lp (sL_selfDual_4 t) n1 (i1 + 1)) (show (if a1 = 0 then 0 else (if ((t >>> ((nI i1) &&& 31)) &&& 1) = ((t >>> ((15 - (nI i1)) &&& 31)) &&& 1) then 0 else 1) : Int32) = (sL_selfDual_4 t) i1 a1 from by first | ((rw [sL_selfDual_4]); first | done | rfl) | rfl)).trans hf1) (lv_sub hl [0, 1, 2] rfl)
def sL_monotone_4 (t : Int32) (i1 : Nat) (a1 : Int32) : Int32 := (if a1 = 0 then 0 else (if (((t &&& ((VT i1) ^^^ (-1))) &&& 65535) &&& (((t &&& (VT i1)) >>> (((1 : Int32) <<< ((nI i1) &&& 31)) &&& 31)) ^^^ (-1))) = 0 then 1 else 0) : Int32)
def fL_monotone (t : Int32) : Int32 := (lp (sL_monotone_4 t) 4 0 1)
theorem bL_monotone (t : Int32) (i : Nat) (a : Int32) (_ : a = 0 ∨ a = 1) : sL_monotone_4 t i a = 0 ∨ sL_monotone_4 t i a = 1 := by unfold sL_monotone_4; split <;> first | exact Or.inl rfl | exact Or.inr rfl | (split <;> first | exact Or.inl rfl | exact Or.inr rfl | (split <;> first | exact Or.inl rfl | exact Or.inr rfl))
set_option maxHeartbeats 4000000 in
set_option maxRecDepth 100000 in
theorem c_L_monotone (l : Launch) (t : Int32) : Met l yL_monotone wsL_monotone ({ frames := 1, cells := 0, slots := 0, locals := 20 }) (va_Pc [.int t] (fun _ => True)) (vp_Si (fun r => r = (fL_monotone t))) 0 0 (fun _ => False) := by
  refine Met.ofW (cc := cL_monotone) (maxL := 5) (ret := (some .boolean)) (by decide) rfl ?_
  intro p e s m args below meth c s₁ B hml hv
  obtain ⟨rfl, -⟩ := hv
  have hx := B.exec
  have hb := B.bytes
  have hr := B.returns
  have hts := atoms_spec (ws := wsL_monotone) B.pre
  have hown : s.vm.findClass RL = some m.cls := findClass_of_methodNamed B.named
  have hlocks := B.notSynchronized
  have hS : va_S (fun _ => False) s.heap s.heap [] := va_S.rf
  have hl := lv_entry ([.int t]) (n := 5) (Nat.le_of_ble_eq_true rfl)
  rw [lg_entry_eq]
  generalize (lg_sl ([.int t]) ++ List.replicate (5 - (lg_sl ([.int t])).length) Slot.unset).toArray = ls at hl ⊢
  have hl : lv_has ls 5 [(0, .int t)] := hl
  refine lv_iconst (v := 1) hx hb dL_monotone_0 (by decide) ?_
  refine lv_istore_n (lv' := [(1, .int 1), (0, .int t)]) hx hb dL_monotone_1 rfl hl (by decide) rfl (fun ls hl => ?_)
  refine lv_iconst (v := 0) hx hb dL_monotone_2 (by decide) ?_
  refine lv_istore_n (lv' := [(2, .int 0), (1, .int 1), (0, .int t)]) hx hb dL_monotone_3 rfl hl (by decide) rfl (fun ls hl => ?_)
  obtain ⟨F1, hF1⟩ : ∃ z9, z9 = (lp (sL_monotone_4 t) 4 0 1) := ⟨_, rfl⟩
  refine vz_cut (fun H1 l1 g1 => ∃ (n1 i1 : Nat) (a1 : Int32) (ls : Array Slot), i1 + n1 = 4 ∧ lp (sL_monotone_4 t) n1 i1 a1 = F1 ∧ lv_has ls 5 [(2, .int (nI i1)), (1, .int a1), (0, .int t)] ∧ (s.heap = H1 ∧ [] = l1) ∧ g1 = F0 m 4 ls []) (fun hj => hj _ _ _ ⟨4, 0, 1, ls, (by omega), hF1.symm, lv_sub hl [0, 1, 2] rfl, ⟨rfl, rfl⟩, rfl⟩) ?_
  rintro H1 l1 g1 ⟨n1, i1, a1, ls, hi1, hf1, hl, ⟨rfl, rfl⟩, rfl⟩
  revert i1 a1 ls
  induction n1 with
  | zero =>
    intro i1 a1 ls hi1 hf1 hl
    obtain rfl : 4 = i1 := by omega
    have hf1 : F1 = a1 := hf1.symm
    subst hf1
    refine lv_iload_n hx hb dL_monotone_4 rfl (lv_at hl 0 rfl) ?_
    refine lv_iconst (v := 4) hx hb dL_monotone_5 (by decide) ?_
    refine lv_icmp_ge (tgt := 58) hx hb dL_monotone_6 (by decide) (fun c_1 => ?_) (fun c_1 => ?_)
    · refine lv_iload_n hx hb dL_monotone_58 rfl (lv_at hl 1 rfl) ?_
      exact W.zret (v := F1) hx hb hr (by rw [hF1]; exact nar_b (lp_b (bL_monotone t) 4 0 1 (Or.inr rfl))) (fun t9 ht hW => ⟨F1, rfl, (by first | ((rw [fL_monotone]); (try rw [← hF1]); first | done | rfl) | rfl), ht⟩) (fun q h => nomatch h) dL_monotone_59
    · exact absurd (nI_le (a := 4) (b := 4) (by omega) (by omega)) c_1
  | succ n1 ih1 =>
    intro i1 a1 ls hi1 hf1 hl
    refine lv_iload_n hx hb dL_monotone_4 rfl (lv_at hl 0 rfl) ?_
    refine lv_iconst (v := 4) hx hb dL_monotone_5 (by decide) ?_
    refine lv_icmp_ge (tgt := 58) hx hb dL_monotone_6 (by decide) (fun c_2 => ?_) (fun c_2 => ?_)
    · exact absurd c_2 (nI_ge (a := i1) (b := 4) (by omega) (by omega))
    · refine lv_iload_n hx hb dL_monotone_9 rfl (lv_at hl 2 rfl) ?_
      refine lv_iload_n hx hb dL_monotone_10 rfl (lv_at hl 0 rfl) ?_
      refine vp_callSi (va_Run.run (va_runS (As := [.int (nI i1)]) (rest := [.int t]) ⟨hx, hb, hml, hown, hts⟩ (cv_L_variable l i1 (by omega)) (va_cwS 1 hts gL_monotone_L_variable rfl rfl rfl (by decide +kernel) ⟨Nat.le_of_ble_eq_true rfl, Nat.le_of_ble_eq_true rfl⟩) ⟨fun _ _ _ _ z => z, fun _ _ _ => ⟨rfl, trivial⟩⟩ rfl rfl hl.1 rfl (lv_room (Nat.le_of_ble_eq_true rfl)) dL_monotone_11 ⟨(Nat.zero_le _), (Nat.zero_le _)⟩)) (fun r hr => ?_)
      subst hr
      refine lv_iconst (v := (-1)) hx hb dL_monotone_14 (by decide) ?_
      refine lv_ixor hx hb dL_monotone_15 ?_
      refine lv_iand hx hb dL_monotone_16 ?_
      refine lv_ldc (v := 65535) hx hb hown (hts (.constant RL 33 (65535)) (List.mem_of_getElem? (i := 1) rfl)) dL_monotone_17 ?_
      refine lv_iand hx hb dL_monotone_19 ?_
      refine lv_istore_n (lv' := [(3, .int ((t &&& ((VT i1) ^^^ (-1))) &&& 65535)), (2, .int (nI i1)), (1, .int a1), (0, .int t)]) hx hb dL_monotone_20 rfl hl (by decide) rfl (fun ls hl => ?_)
      refine lv_iload_n hx hb dL_monotone_21 rfl (lv_at hl 3 rfl) ?_
      refine lv_iload_n hx hb dL_monotone_22 rfl (lv_at hl 1 rfl) ?_
      refine vp_callSi (va_Run.run (va_runS (As := [.int (nI i1)]) (rest := [.int t]) ⟨hx, hb, hml, hown, hts⟩ (cv_L_variable l i1 (by omega)) (va_cwS 1 hts gL_monotone_L_variable rfl rfl rfl (by decide +kernel) ⟨Nat.le_of_ble_eq_true rfl, Nat.le_of_ble_eq_true rfl⟩) ⟨fun _ _ _ _ z => z, fun _ _ _ => ⟨rfl, trivial⟩⟩ rfl rfl hl.1 rfl (lv_room (Nat.le_of_ble_eq_true rfl)) dL_monotone_23 ⟨(Nat.zero_le _), (Nat.zero_le _)⟩)) (fun r hr => ?_)
      subst hr
      refine lv_iand hx hb dL_monotone_26 ?_
      refine lv_iconst (v := 1) hx hb dL_monotone_27 (by decide) ?_
      refine lv_iload_n hx hb dL_monotone_28 rfl (lv_at hl 1 rfl) ?_
      refine lv_ishl hx hb dL_monotone_29 ?_
      refine lv_ishr hx hb dL_monotone_30 ?_
      refine lv_istore (lv' := [(4, .int ((t &&& (VT i1)) >>> (((1 : Int32) <<< ((nI i1) &&& 31)) &&& 31))), (3, .int ((t &&& ((VT i1) ^^^ (-1))) &&& 65535)), (2, .int (nI i1)), (1, .int a1), (0, .int t)]) hx hb dL_monotone_31 hl (by decide) rfl (fun ls hl => ?_)
      refine lv_iload_n hx hb dL_monotone_33 rfl (lv_at hl 3 rfl) ?_
      refine vz_cut (fun H1 l1 g1 => ∃ (x1_0 : Int32) (ls : Array Slot), x1_0 = (if a1 = 0 then 0 else (if (((t &&& ((VT i1) ^^^ (-1))) &&& 65535) &&& (((t &&& (VT i1)) >>> (((1 : Int32) <<< ((nI i1) &&& 31)) &&& 31)) ^^^ (-1))) = 0 then 1 else 0) : Int32) ∧ lv_has ls 5 [(4, .int ((t &&& (VT i1)) >>> (((1 : Int32) <<< ((nI i1) &&& 31)) &&& 31))), (3, .int ((t &&& ((VT i1) ^^^ (-1))) &&& 65535)), (2, .int (nI i1)), (1, .int a1), (0, .int t)] ∧ (s.heap = H1 ∧ [] = l1) ∧ g1 = F0 m 51 ls [.int x1_0]) (fun hj1 => ?_) ?_
      · refine lv_if_eq (tgt := 50) hx hb dL_monotone_34 (by decide) (fun c_3 => ?_) (fun c_3 => ?_)
        · refine lv_iconst (v := 0) hx hb dL_monotone_50 (by decide) ?_
          exact hj1 _ _ _ ⟨0, ls, (by (rw [if_pos c_3]); first | done | rfl), lv_sub hl [0, 1, 2, 3, 4] rfl, ⟨rfl, rfl⟩, rfl⟩
        · refine lv_iload_n hx hb dL_monotone_37 rfl (lv_at hl 1 rfl) ?_
          refine lv_iload hx hb dL_monotone_38 (lv_at hl 0 rfl) ?_
          refine lv_iconst (v := (-1)) hx hb dL_monotone_40 (by decide) ?_
          refine lv_ixor hx hb dL_monotone_41 ?_
          refine lv_iand hx hb dL_monotone_42 ?_
          refine lv_if_ne (tgt := 50) hx hb dL_monotone_43 (by decide) (fun c_4 => ?_) (fun c_4 => ?_)
          · refine lv_iconst (v := 0) hx hb dL_monotone_50 (by decide) ?_
            exact hj1 _ _ _ ⟨0, ls, (by (rw [if_neg c_3, if_neg c_4]); first | done | rfl), lv_sub hl [0, 1, 2, 3, 4] rfl, ⟨rfl, rfl⟩, rfl⟩
          · refine lv_iconst (v := 1) hx hb dL_monotone_46 (by decide) ?_
            refine lv_goto (tgt := 51) hx hb dL_monotone_47 (by decide) ?_
            exact hj1 _ _ _ ⟨1, ls, (by (rw [if_neg c_3, if_pos c_4]); first | done | rfl), lv_sub hl [0, 1, 2, 3, 4] rfl, ⟨rfl, rfl⟩, rfl⟩
      rintro H1 l1 g1 ⟨x1_0, ls, ex1_0, hl, ⟨rfl, rfl⟩, rfl⟩
      subst x1_0
      refine lv_istore_n (lv' := [(1, .int (if a1 = 0 then 0 else (if (((t &&& ((VT i1) ^^^ (-1))) &&& 65535) &&& (((t &&& (VT i1)) >>> (((1 : Int32) <<< ((nI i1) &&& 31)) &&& 31)) ^^^ (-1))) = 0 then 1 else 0) : Int32)), (4, .int ((t &&& (VT i1)) >>> (((1 : Int32) <<< ((nI i1) &&& 31)) &&& 31))), (3, .int ((t &&& ((VT i1) ^^^ (-1))) &&& 65535)), (2, .int (nI i1)), (0, .int t)]) hx hb dL_monotone_51 rfl hl (by decide) rfl (fun ls hl => ?_)
      refine lv_iinc (v := (nI (i1 + 1))) (lv' := [(2, .int (nI (i1 + 1))), (1, .int (if a1 = 0 then 0 else (if (((t &&& ((VT i1) ^^^ (-1))) &&& 65535) &&& (((t &&& (VT i1)) >>> (((1 : Int32) <<< ((nI i1) &&& 31)) &&& 31)) ^^^ (-1))) = 0 then 1 else 0) : Int32)), (4, .int ((t &&& (VT i1)) >>> (((1 : Int32) <<< ((nI i1) &&& 31)) &&& 31))), (3, .int ((t &&& ((VT i1) ^^^ (-1))) &&& 65535)), (0, .int t)]) hx hb dL_monotone_52 hl (k := 3) rfl (by first | exact nI_add _ _ | rfl) (by decide) rfl (fun ls hl => ?_)
      refine lv_goto (tgt := 4) hx hb dL_monotone_55 (by decide) ?_
      exact ih1 (i1 + 1) (if a1 = 0 then 0 else (if (((t &&& ((VT i1) ^^^ (-1))) &&& 65535) &&& (((t &&& (VT i1)) >>> (((1 : Int32) <<< ((nI i1) &&& 31)) &&& 31)) ^^^ (-1))) = 0 then 1 else 0) : Int32) ls (by omega) ((congrArg (lp (sL_monotone_4 t) n1 (i1 + 1)) (show (if a1 = 0 then 0 else (if (((t &&& ((VT i1) ^^^ (-1))) &&& 65535) &&& (((t &&& (VT i1)) >>> (((1 : Int32) <<< ((nI i1) &&& 31)) &&& 31)) ^^^ (-1))) = 0 then 1 else 0) : Int32) = (sL_monotone_4 t) i1 a1 from by first | ((rw [sL_monotone_4]); first | done | rfl) | rfl)).trans hf1) (lv_sub hl [0, 1, 4] rfl)
def sL_distance_16 (i1 : Nat) (i2 : Nat) (a2 : Int32) : Int32 := (a2 ^^^ (if (((nI i1) >>> ((nI i2) &&& 31)) &&& 1) = 1 then (VT i2) else 0 : Int32))
def sL_distance_5 (t : Int32) (i1 : Nat) (a1 : Int32) : Int32 := (if a1 ≤ (if (fL_bits (t ^^^ (lp (sL_distance_16 i1) 4 0 0))) ≤ 8 then (fL_bits (t ^^^ (lp (sL_distance_16 i1) 4 0 0))) else (16 - (fL_bits (t ^^^ (lp (sL_distance_16 i1) 4 0 0)))) : Int32) then a1 else (if (fL_bits (t ^^^ (lp (sL_distance_16 i1) 4 0 0))) ≤ 8 then (fL_bits (t ^^^ (lp (sL_distance_16 i1) 4 0 0))) else (16 - (fL_bits (t ^^^ (lp (sL_distance_16 i1) 4 0 0)))) : Int32) : Int32)
def fL_distance (t : Int32) : Int32 := (lp (sL_distance_5 t) 16 0 16)
set_option maxHeartbeats 4000000 in
set_option maxRecDepth 100000 in
theorem c_L_distance (l : Launch) (t : Int32) : Met l yL_distance wsL_distance ({ frames := 1, cells := 0, slots := 0, locals := 22 }) (va_Pc [.int t] (fun _ => True)) (vp_Si (fun r => r = (fL_distance t))) 0 0 (fun _ => False) := by
  refine Met.ofW (cc := cL_distance) (maxL := 5) (ret := (some .int)) (by decide) rfl ?_
  intro p e s m args below meth c s₁ B hml hv
  obtain ⟨rfl, -⟩ := hv
  have hx := B.exec
  have hb := B.bytes
  have hr := B.returns
  have hts := atoms_spec (ws := wsL_distance) B.pre
  have hown : s.vm.findClass RL = some m.cls := findClass_of_methodNamed B.named
  have hlocks := B.notSynchronized
  have hS : va_S (fun _ => False) s.heap s.heap [] := va_S.rf
  have hl := lv_entry ([.int t]) (n := 5) (Nat.le_of_ble_eq_true rfl)
  rw [lg_entry_eq]
  generalize (lg_sl ([.int t]) ++ List.replicate (5 - (lg_sl ([.int t])).length) Slot.unset).toArray = ls at hl ⊢
  have hl : lv_has ls 5 [(0, .int t)] := hl
  refine lv_bipush (v := 16) hx hb dL_distance_0 (by decide) ?_
  refine lv_istore_n (lv' := [(1, .int 16), (0, .int t)]) hx hb dL_distance_2 rfl hl (by decide) rfl (fun ls hl => ?_)
  refine lv_iconst (v := 0) hx hb dL_distance_3 (by decide) ?_
  refine lv_istore_n (lv' := [(2, .int 0), (1, .int 16), (0, .int t)]) hx hb dL_distance_4 rfl hl (by decide) rfl (fun ls hl => ?_)
  obtain ⟨F1, hF1⟩ : ∃ z9, z9 = (lp (sL_distance_5 t) 16 0 16) := ⟨_, rfl⟩
  refine vz_cut (fun H1 l1 g1 => ∃ (n1 i1 : Nat) (a1 : Int32) (ls : Array Slot), i1 + n1 = 16 ∧ lp (sL_distance_5 t) n1 i1 a1 = F1 ∧ lv_has ls 5 [(2, .int (nI i1)), (1, .int a1), (0, .int t)] ∧ (s.heap = H1 ∧ [] = l1) ∧ g1 = F0 m 5 ls []) (fun hj => hj _ _ _ ⟨16, 0, 16, ls, (by omega), hF1.symm, lv_sub hl [0, 1, 2] rfl, ⟨rfl, rfl⟩, rfl⟩) ?_
  rintro H1 l1 g1 ⟨n1, i1, a1, ls, hi1, hf1, hl, ⟨rfl, rfl⟩, rfl⟩
  revert i1 a1 ls
  induction n1 with
  | zero =>
    intro i1 a1 ls hi1 hf1 hl
    obtain rfl : 16 = i1 := by omega
    have hf1 : F1 = a1 := hf1.symm
    subst hf1
    refine lv_iload_n hx hb dL_distance_5 rfl (lv_at hl 0 rfl) ?_
    refine lv_bipush (v := 16) hx hb dL_distance_6 (by decide) ?_
    refine lv_icmp_ge (tgt := 96) hx hb dL_distance_8 (by decide) (fun c_1 => ?_) (fun c_1 => ?_)
    · refine lv_iload_n hx hb dL_distance_96 rfl (lv_at hl 1 rfl) ?_
      exact W.iret (v := F1) hx hb hr (fun t9 ht hW => ⟨F1, rfl, (by first | ((rw [fL_distance]); (try rw [← hF1]); first | done | rfl) | rfl), ht⟩) (fun q h => nomatch h) dL_distance_97
    · exact absurd (nI_le (a := 16) (b := 16) (by omega) (by omega)) c_1
  | succ n1 ih1 =>
    intro i1 a1 ls hi1 hf1 hl
    refine lv_iload_n hx hb dL_distance_5 rfl (lv_at hl 0 rfl) ?_
    refine lv_bipush (v := 16) hx hb dL_distance_6 (by decide) ?_
    refine lv_icmp_ge (tgt := 96) hx hb dL_distance_8 (by decide) (fun c_2 => ?_) (fun c_2 => ?_)
    · exact absurd c_2 (nI_ge (a := i1) (b := 16) (by omega) (by omega))
    · refine lv_iconst (v := 0) hx hb dL_distance_11 (by decide) ?_
      refine lv_istore_n (lv' := [(3, .int 0), (2, .int (nI i1)), (1, .int a1), (0, .int t)]) hx hb dL_distance_12 rfl hl (by decide) rfl (fun ls hl => ?_)
      refine lv_iconst (v := 0) hx hb dL_distance_13 (by decide) ?_
      refine lv_istore (lv' := [(4, .int 0), (3, .int 0), (2, .int (nI i1)), (1, .int a1), (0, .int t)]) hx hb dL_distance_14 hl (by decide) rfl (fun ls hl => ?_)
      obtain ⟨F2, hF2⟩ : ∃ z9, z9 = (lp (sL_distance_16 i1) 4 0 0) := ⟨_, rfl⟩
      refine vz_cut (fun H1 l1 g1 => ∃ (n2 i2 : Nat) (a2 : Int32) (ls : Array Slot), i2 + n2 = 4 ∧ lp (sL_distance_16 i1) n2 i2 a2 = F2 ∧ lv_has ls 5 [(4, .int (nI i2)), (3, .int a2), (2, .int (nI i1)), (1, .int a1), (0, .int t)] ∧ (s.heap = H1 ∧ [] = l1) ∧ g1 = F0 m 16 ls []) (fun hj => hj _ _ _ ⟨4, 0, 0, ls, (by omega), hF2.symm, lv_sub hl [0, 1, 2, 3, 4] rfl, ⟨rfl, rfl⟩, rfl⟩) ?_
      rintro H1 l1 g1 ⟨n2, i2, a2, ls, hi2, hf2, hl, ⟨rfl, rfl⟩, rfl⟩
      revert i2 a2 ls
      induction n2 with
      | zero =>
        intro i2 a2 ls hi2 hf2 hl
        obtain rfl : 4 = i2 := by omega
        have hf2 : F2 = a2 := hf2.symm
        subst hf2
        refine lv_iload hx hb dL_distance_16 (lv_at hl 0 rfl) ?_
        refine lv_iconst (v := 4) hx hb dL_distance_18 (by decide) ?_
        refine lv_icmp_ge (tgt := 50) hx hb dL_distance_19 (by decide) (fun c_3 => ?_) (fun c_3 => ?_)
        · refine lv_iload_n hx hb dL_distance_50 rfl (lv_at hl 4 rfl) ?_
          refine lv_iload_n hx hb dL_distance_51 rfl (lv_at hl 1 rfl) ?_
          refine lv_ixor hx hb dL_distance_52 ?_
          refine vp_callSi (va_Run.run (va_runS (As := [.int (t ^^^ F2)]) (rest := []) ⟨hx, hb, hml, hown, hts⟩ (c_L_bits l (t ^^^ F2)) (va_cwS 1 hts gL_distance_L_bits rfl rfl rfl (by decide +kernel) ⟨Nat.le_of_ble_eq_true rfl, Nat.le_of_ble_eq_true rfl⟩) ⟨fun _ _ _ _ z => z, fun _ _ _ => ⟨rfl, trivial⟩⟩ rfl rfl hl.1 rfl (lv_room (Nat.le_of_ble_eq_true rfl)) dL_distance_53 ⟨(Nat.zero_le _), (Nat.zero_le _)⟩)) (fun r hr => ?_)
          subst hr
          refine lv_istore (lv' := [(4, .int (fL_bits (t ^^^ F2))), (3, .int F2), (2, .int (nI i1)), (1, .int a1), (0, .int t)]) hx hb dL_distance_56 hl (by decide) rfl (fun ls hl => ?_)
          refine lv_iload hx hb dL_distance_58 (lv_at hl 0 rfl) ?_
          refine lv_bipush (v := 8) hx hb dL_distance_60 (by decide) ?_
          refine vz_cut (fun H1 l1 g1 => ∃ (x1_0 : Int32) (ls : Array Slot), x1_0 = (if (fL_bits (t ^^^ F2)) ≤ 8 then (fL_bits (t ^^^ F2)) else (16 - (fL_bits (t ^^^ F2))) : Int32) ∧ lv_has ls 5 [(4, .int (fL_bits (t ^^^ F2))), (3, .int F2), (2, .int (nI i1)), (1, .int a1), (0, .int t)] ∧ (s.heap = H1 ∧ [] = l1) ∧ g1 = F0 m 75 ls [.int x1_0]) (fun hj1 => ?_) ?_
          · refine lv_icmp_le (tgt := 73) hx hb dL_distance_62 (by decide) (fun c_4 => ?_) (fun c_4 => ?_)
            · refine lv_iload hx hb dL_distance_73 (lv_at hl 0 rfl) ?_
              exact hj1 _ _ _ ⟨(fL_bits (t ^^^ F2)), ls, (by (rw [if_pos c_4]); first | done | rfl), lv_sub hl [0, 1, 2, 3, 4] rfl, ⟨rfl, rfl⟩, rfl⟩
            · refine lv_bipush (v := 16) hx hb dL_distance_65 (by decide) ?_
              refine lv_iload hx hb dL_distance_67 (lv_at hl 0 rfl) ?_
              refine lv_isub hx hb dL_distance_69 ?_
              refine lv_goto (tgt := 75) hx hb dL_distance_70 (by decide) ?_
              exact hj1 _ _ _ ⟨(16 - (fL_bits (t ^^^ F2))), ls, (by (rw [if_neg c_4]); first | done | rfl), lv_sub hl [0, 1, 2, 3, 4] rfl, ⟨rfl, rfl⟩, rfl⟩
          rintro H1 l1 g1 ⟨x1_0, ls, ex1_0, hl, ⟨rfl, rfl⟩, rfl⟩
          subst x1_0
          refine lv_istore (lv' := [(4, .int (if (fL_bits (t ^^^ F2)) ≤ 8 then (fL_bits (t ^^^ F2)) else (16 - (fL_bits (t ^^^ F2))) : Int32)), (3, .int F2), (2, .int (nI i1)), (1, .int a1), (0, .int t)]) hx hb dL_distance_75 hl (by decide) rfl (fun ls hl => ?_)
          refine lv_iload hx hb dL_distance_77 (lv_at hl 0 rfl) ?_
          refine lv_iload_n hx hb dL_distance_79 rfl (lv_at hl 3 rfl) ?_
          refine vz_cut (fun H1 l1 g1 => ∃ (x2_0 : Int32) (ls : Array Slot), x2_0 = (if a1 ≤ (if (fL_bits (t ^^^ F2)) ≤ 8 then (fL_bits (t ^^^ F2)) else (16 - (fL_bits (t ^^^ F2))) : Int32) then a1 else (if (fL_bits (t ^^^ F2)) ≤ 8 then (fL_bits (t ^^^ F2)) else (16 - (fL_bits (t ^^^ F2))) : Int32) : Int32) ∧ lv_has ls 5 [(4, .int (if (fL_bits (t ^^^ F2)) ≤ 8 then (fL_bits (t ^^^ F2)) else (16 - (fL_bits (t ^^^ F2))) : Int32)), (3, .int F2), (2, .int (nI i1)), (1, .int a1), (0, .int t)] ∧ (s.heap = H1 ∧ [] = l1) ∧ g1 = F0 m 89 ls [.int x2_0]) (fun hj2 => ?_) ?_
          · refine lv_icmp_ge (tgt := 88) hx hb dL_distance_80 (by decide) (fun c_5 => ?_) (fun c_5 => ?_)
            · refine lv_iload_n hx hb dL_distance_88 rfl (lv_at hl 3 rfl) ?_
              exact hj2 _ _ _ ⟨a1, ls, (by (rw [if_pos c_5]); first | done | rfl), lv_sub hl [0, 1, 2, 3, 4] rfl, ⟨rfl, rfl⟩, rfl⟩
            · refine lv_iload hx hb dL_distance_83 (lv_at hl 0 rfl) ?_
              refine lv_goto (tgt := 89) hx hb dL_distance_85 (by decide) ?_
              exact hj2 _ _ _ ⟨(if (fL_bits (t ^^^ F2)) ≤ 8 then (fL_bits (t ^^^ F2)) else (16 - (fL_bits (t ^^^ F2))) : Int32), ls, (by (rw [if_neg c_5]); first | done | rfl), lv_sub hl [0, 1, 2, 3, 4] rfl, ⟨rfl, rfl⟩, rfl⟩
          rintro H1 l1 g1 ⟨x2_0, ls, ex2_0, hl, ⟨rfl, rfl⟩, rfl⟩
          subst x2_0
          refine lv_istore_n (lv' := [(1, .int (if a1 ≤ (if (fL_bits (t ^^^ F2)) ≤ 8 then (fL_bits (t ^^^ F2)) else (16 - (fL_bits (t ^^^ F2))) : Int32) then a1 else (if (fL_bits (t ^^^ F2)) ≤ 8 then (fL_bits (t ^^^ F2)) else (16 - (fL_bits (t ^^^ F2))) : Int32) : Int32)), (4, .int (if (fL_bits (t ^^^ F2)) ≤ 8 then (fL_bits (t ^^^ F2)) else (16 - (fL_bits (t ^^^ F2))) : Int32)), (3, .int F2), (2, .int (nI i1)), (0, .int t)]) hx hb dL_distance_89 rfl hl (by decide) rfl (fun ls hl => ?_)
          refine lv_iinc (v := (nI (i1 + 1))) (lv' := [(2, .int (nI (i1 + 1))), (1, .int (if a1 ≤ (if (fL_bits (t ^^^ F2)) ≤ 8 then (fL_bits (t ^^^ F2)) else (16 - (fL_bits (t ^^^ F2))) : Int32) then a1 else (if (fL_bits (t ^^^ F2)) ≤ 8 then (fL_bits (t ^^^ F2)) else (16 - (fL_bits (t ^^^ F2))) : Int32) : Int32)), (4, .int (if (fL_bits (t ^^^ F2)) ≤ 8 then (fL_bits (t ^^^ F2)) else (16 - (fL_bits (t ^^^ F2))) : Int32)), (3, .int F2), (0, .int t)]) hx hb dL_distance_90 hl (k := 3) rfl (by first | exact nI_add _ _ | rfl) (by decide) rfl (fun ls hl => ?_)
          refine lv_goto (tgt := 5) hx hb dL_distance_93 (by decide) ?_
          exact ih1 (i1 + 1) (if a1 ≤ (if (fL_bits (t ^^^ F2)) ≤ 8 then (fL_bits (t ^^^ F2)) else (16 - (fL_bits (t ^^^ F2))) : Int32) then a1 else (if (fL_bits (t ^^^ F2)) ≤ 8 then (fL_bits (t ^^^ F2)) else (16 - (fL_bits (t ^^^ F2))) : Int32) : Int32) ls (by omega) ((congrArg (lp (sL_distance_5 t) n1 (i1 + 1)) (show (if a1 ≤ (if (fL_bits (t ^^^ F2)) ≤ 8 then (fL_bits (t ^^^ F2)) else (16 - (fL_bits (t ^^^ F2))) : Int32) then a1 else (if (fL_bits (t ^^^ F2)) ≤ 8 then (fL_bits (t ^^^ F2)) else (16 - (fL_bits (t ^^^ F2))) : Int32) : Int32) = (sL_distance_5 t) i1 a1 from by first | ((rw [sL_distance_5]); (try rw [← hF2]); first | done | rfl) | rfl)).trans hf1) (lv_sub hl [0, 1, 4] rfl)
        · exact absurd (nI_le (a := 4) (b := 4) (by omega) (by omega)) c_3
      | succ n2 ih2 =>
        intro i2 a2 ls hi2 hf2 hl
        refine lv_iload hx hb dL_distance_16 (lv_at hl 0 rfl) ?_
        refine lv_iconst (v := 4) hx hb dL_distance_18 (by decide) ?_
        refine lv_icmp_ge (tgt := 50) hx hb dL_distance_19 (by decide) (fun c_6 => ?_) (fun c_6 => ?_)
        · exact absurd c_6 (nI_ge (a := i2) (b := 4) (by omega) (by omega))
        · refine lv_iload_n hx hb dL_distance_22 rfl (lv_at hl 1 rfl) ?_
          refine lv_iload_n hx hb dL_distance_23 rfl (lv_at hl 2 rfl) ?_
          refine lv_iload hx hb dL_distance_24 (lv_at hl 0 rfl) ?_
          refine lv_ishr hx hb dL_distance_26 ?_
          refine lv_iconst (v := 1) hx hb dL_distance_27 (by decide) ?_
          refine lv_iand hx hb dL_distance_28 ?_
          refine lv_iconst (v := 1) hx hb dL_distance_29 (by decide) ?_
          refine vz_cut (fun H1 l1 g1 => ∃ (x3_0 : Int32) (ls : Array Slot), x3_0 = (if (((nI i1) >>> ((nI i2) &&& 31)) &&& 1) = 1 then (VT i2) else 0 : Int32) ∧ lv_has ls 5 [(4, .int (nI i2)), (3, .int a2), (2, .int (nI i1)), (1, .int a1), (0, .int t)] ∧ (s.heap = H1 ∧ [] = l1) ∧ g1 = F0 m 42 ls [.int x3_0, .int a2]) (fun hj3 => ?_) ?_
          · refine lv_icmp_ne (tgt := 41) hx hb dL_distance_30 (by decide) (fun c_7 => ?_) (fun c_7 => ?_)
            · refine lv_iconst (v := 0) hx hb dL_distance_41 (by decide) ?_
              exact hj3 _ _ _ ⟨0, ls, (by (rw [if_neg c_7]); first | done | rfl), lv_sub hl [0, 1, 2, 3, 4] rfl, ⟨rfl, rfl⟩, rfl⟩
            · refine lv_iload hx hb dL_distance_33 (lv_at hl 0 rfl) ?_
              refine vp_callSi (va_Run.run (va_runS (As := [.int (nI i2)]) (rest := [.int a2]) ⟨hx, hb, hml, hown, hts⟩ (cv_L_variable l i2 (by omega)) (va_cwS 1 hts gL_distance_L_variable rfl rfl rfl (by decide +kernel) ⟨Nat.le_of_ble_eq_true rfl, Nat.le_of_ble_eq_true rfl⟩) ⟨fun _ _ _ _ z => z, fun _ _ _ => ⟨rfl, trivial⟩⟩ rfl rfl hl.1 rfl (lv_room (Nat.le_of_ble_eq_true rfl)) dL_distance_35 ⟨(Nat.zero_le _), (Nat.zero_le _)⟩)) (fun r hr => ?_)
              subst hr
              refine lv_goto (tgt := 42) hx hb dL_distance_38 (by decide) ?_
              exact hj3 _ _ _ ⟨(VT i2), ls, (by (rw [if_pos c_7]); first | done | rfl), lv_sub hl [0, 1, 2, 3, 4] rfl, ⟨rfl, rfl⟩, rfl⟩
          rintro H1 l1 g1 ⟨x3_0, ls, ex3_0, hl, ⟨rfl, rfl⟩, rfl⟩
          subst x3_0
          refine lv_ixor hx hb dL_distance_42 ?_
          refine lv_istore_n (lv' := [(3, .int (a2 ^^^ (if (((nI i1) >>> ((nI i2) &&& 31)) &&& 1) = 1 then (VT i2) else 0 : Int32))), (4, .int (nI i2)), (2, .int (nI i1)), (1, .int a1), (0, .int t)]) hx hb dL_distance_43 rfl hl (by decide) rfl (fun ls hl => ?_)
          refine lv_iinc (v := (nI (i2 + 1))) (lv' := [(4, .int (nI (i2 + 1))), (3, .int (a2 ^^^ (if (((nI i1) >>> ((nI i2) &&& 31)) &&& 1) = 1 then (VT i2) else 0 : Int32))), (2, .int (nI i1)), (1, .int a1), (0, .int t)]) hx hb dL_distance_44 hl (k := 1) rfl (by first | exact nI_add _ _ | rfl) (by decide) rfl (fun ls hl => ?_)
          refine lv_goto (tgt := 16) hx hb dL_distance_47 (by decide) ?_
          exact ih2 (i2 + 1) (a2 ^^^ (if (((nI i1) >>> ((nI i2) &&& 31)) &&& 1) = 1 then (VT i2) else 0 : Int32)) ls (by omega) ((congrArg (lp (sL_distance_16 i1) n2 (i2 + 1)) (show (a2 ^^^ (if (((nI i1) >>> ((nI i2) &&& 31)) &&& 1) = 1 then (VT i2) else 0 : Int32)) = (sL_distance_16 i1) i2 a2 from by first | ((rw [sL_distance_16]); first | done | rfl) | rfl)).trans hf2) (lv_sub hl [0, 1, 2, 3, 4] rfl)
def fL_without (t : Int32) (g : Int32) : Int32 := (((((if (t &&& 1) = 1 then 1 else 0 : Int32) ||| (if ((t >>> ((15 : Int32) &&& 31)) &&& 1) = 0 then 2 else 0 : Int32)) ||| (if (fL_selfDual t) = 0 then 4 else 0 : Int32)) ||| (if (fL_monotone t) = 0 then 8 else 0 : Int32)) ||| (if g ≤ 1 then 0 else 16 : Int32))
set_option maxHeartbeats 4000000 in
set_option maxRecDepth 100000 in
theorem c_L_without (l : Launch) (t : Int32) (g : Int32) : Met l yL_without wsL_without ({ frames := 2, cells := 0, slots := 0, locals := 44 }) (va_Pc [.int t, .int g] (fun _ => True)) (vp_Si (fun r => r = (fL_without t g))) 0 0 (fun _ => False) := by
  refine Met.ofW (cc := cL_without) (maxL := 2) (ret := (some .int)) (by decide) rfl ?_
  intro p e s m args below meth c s₁ B hml hv
  obtain ⟨rfl, -⟩ := hv
  have hx := B.exec
  have hb := B.bytes
  have hr := B.returns
  have hts := atoms_spec (ws := wsL_without) B.pre
  have hown : s.vm.findClass RL = some m.cls := findClass_of_methodNamed B.named
  have hlocks := B.notSynchronized
  have hS : va_S (fun _ => False) s.heap s.heap [] := va_S.rf
  have hl := lv_entry ([.int t, .int g]) (n := 2) (Nat.le_of_ble_eq_true rfl)
  rw [lg_entry_eq]
  generalize (lg_sl ([.int t, .int g]) ++ List.replicate (2 - (lg_sl ([.int t, .int g])).length) Slot.unset).toArray = ls at hl ⊢
  have hl : lv_has ls 2 [(0, .int t), (1, .int g)] := hl
  refine lv_iload_n hx hb dL_without_0 rfl (lv_at hl 0 rfl) ?_
  refine lv_iconst (v := 1) hx hb dL_without_1 (by decide) ?_
  refine lv_iand hx hb dL_without_2 ?_
  refine lv_iconst (v := 1) hx hb dL_without_3 (by decide) ?_
  refine vz_cut (fun H1 l1 g1 => ∃ (x1_0 : Int32) (ls : Array Slot), x1_0 = (if (t &&& 1) = 1 then 1 else 0 : Int32) ∧ lv_has ls 2 [(0, .int t), (1, .int g)] ∧ (s.heap = H1 ∧ [] = l1) ∧ g1 = F0 m 12 ls [.int x1_0]) (fun hj1 => ?_) ?_
  · refine lv_icmp_ne (tgt := 11) hx hb dL_without_4 (by decide) (fun c_1 => ?_) (fun c_1 => ?_)
    · refine lv_iconst (v := 0) hx hb dL_without_11 (by decide) ?_
      exact hj1 _ _ _ ⟨0, ls, (by (rw [if_neg c_1]); first | done | rfl), lv_sub hl [0, 1] rfl, ⟨rfl, rfl⟩, rfl⟩
    · refine lv_iconst (v := 1) hx hb dL_without_7 (by decide) ?_
      refine lv_goto (tgt := 12) hx hb dL_without_8 (by decide) ?_
      exact hj1 _ _ _ ⟨1, ls, (by (rw [if_pos c_1]); first | done | rfl), lv_sub hl [0, 1] rfl, ⟨rfl, rfl⟩, rfl⟩
  rintro H1 l1 g1 ⟨x1_0, ls, ex1_0, hl, ⟨rfl, rfl⟩, rfl⟩
  subst x1_0
  refine lv_iload_n hx hb dL_without_12 rfl (lv_at hl 0 rfl) ?_
  refine lv_bipush (v := 15) hx hb dL_without_13 (by decide) ?_
  refine lv_ishr hx hb dL_without_15 ?_
  refine lv_iconst (v := 1) hx hb dL_without_16 (by decide) ?_
  refine lv_iand hx hb dL_without_17 ?_
  refine vz_cut (fun H1 l1 g1 => ∃ (x2_0 : Int32) (ls : Array Slot), x2_0 = (if ((t >>> ((15 : Int32) &&& 31)) &&& 1) = 0 then 2 else 0 : Int32) ∧ lv_has ls 2 [(0, .int t), (1, .int g)] ∧ (s.heap = H1 ∧ [] = l1) ∧ g1 = F0 m 26 ls [.int x2_0, .int (if (t &&& 1) = 1 then 1 else 0 : Int32)]) (fun hj2 => ?_) ?_
  · refine lv_if_ne (tgt := 25) hx hb dL_without_18 (by decide) (fun c_2 => ?_) (fun c_2 => ?_)
    · refine lv_iconst (v := 0) hx hb dL_without_25 (by decide) ?_
      exact hj2 _ _ _ ⟨0, ls, (by (rw [if_neg c_2]); first | done | rfl), lv_sub hl [0, 1] rfl, ⟨rfl, rfl⟩, rfl⟩
    · refine lv_iconst (v := 2) hx hb dL_without_21 (by decide) ?_
      refine lv_goto (tgt := 26) hx hb dL_without_22 (by decide) ?_
      exact hj2 _ _ _ ⟨2, ls, (by (rw [if_pos c_2]); first | done | rfl), lv_sub hl [0, 1] rfl, ⟨rfl, rfl⟩, rfl⟩
  rintro H1 l1 g1 ⟨x2_0, ls, ex2_0, hl, ⟨rfl, rfl⟩, rfl⟩
  subst x2_0
  refine lv_ior hx hb dL_without_26 ?_
  refine lv_iload_n hx hb dL_without_27 rfl (lv_at hl 0 rfl) ?_
  refine vp_callSi (va_Run.run (va_runS (As := [.int t]) (rest := [.int ((if (t &&& 1) = 1 then 1 else 0 : Int32) ||| (if ((t >>> ((15 : Int32) &&& 31)) &&& 1) = 0 then 2 else 0 : Int32))]) ⟨hx, hb, hml, hown, hts⟩ (c_L_selfDual l t) (va_cwS 1 hts gL_without_L_selfDual rfl rfl rfl (by decide +kernel) ⟨Nat.le_of_ble_eq_true rfl, Nat.le_of_ble_eq_true rfl⟩) ⟨fun _ _ _ _ z => z, fun _ _ _ => ⟨rfl, trivial⟩⟩ rfl rfl hl.1 rfl (lv_room (Nat.le_of_ble_eq_true rfl)) dL_without_28 ⟨(Nat.zero_le _), (Nat.zero_le _)⟩)) (fun r hr => ?_)
  subst hr
  refine vz_cut (fun H1 l1 g1 => ∃ (x3_0 : Int32) (ls : Array Slot), x3_0 = (if (fL_selfDual t) = 0 then 4 else 0 : Int32) ∧ lv_has ls 2 [(0, .int t), (1, .int g)] ∧ (s.heap = H1 ∧ [] = l1) ∧ g1 = F0 m 39 ls [.int x3_0, .int ((if (t &&& 1) = 1 then 1 else 0 : Int32) ||| (if ((t >>> ((15 : Int32) &&& 31)) &&& 1) = 0 then 2 else 0 : Int32))]) (fun hj3 => ?_) ?_
  · refine lv_if_eq (tgt := 38) hx hb dL_without_31 (by decide) (fun c_3 => ?_) (fun c_3 => ?_)
    · refine lv_iconst (v := 4) hx hb dL_without_38 (by decide) ?_
      exact hj3 _ _ _ ⟨4, ls, (by (rw [if_pos c_3]); first | done | rfl), lv_sub hl [0, 1] rfl, ⟨rfl, rfl⟩, rfl⟩
    · refine lv_iconst (v := 0) hx hb dL_without_34 (by decide) ?_
      refine lv_goto (tgt := 39) hx hb dL_without_35 (by decide) ?_
      exact hj3 _ _ _ ⟨0, ls, (by (rw [if_neg c_3]); first | done | rfl), lv_sub hl [0, 1] rfl, ⟨rfl, rfl⟩, rfl⟩
  rintro H1 l1 g1 ⟨x3_0, ls, ex3_0, hl, ⟨rfl, rfl⟩, rfl⟩
  subst x3_0
  refine lv_ior hx hb dL_without_39 ?_
  refine lv_iload_n hx hb dL_without_40 rfl (lv_at hl 0 rfl) ?_
  refine vp_callSi (va_Run.run (va_runS (As := [.int t]) (rest := [.int (((if (t &&& 1) = 1 then 1 else 0 : Int32) ||| (if ((t >>> ((15 : Int32) &&& 31)) &&& 1) = 0 then 2 else 0 : Int32)) ||| (if (fL_selfDual t) = 0 then 4 else 0 : Int32))]) ⟨hx, hb, hml, hown, hts⟩ (c_L_monotone l t) (va_cwS 1 hts gL_without_L_monotone rfl rfl rfl (by decide +kernel) ⟨Nat.le_of_ble_eq_true rfl, Nat.le_of_ble_eq_true rfl⟩) ⟨fun _ _ _ _ z => z, fun _ _ _ => ⟨rfl, trivial⟩⟩ rfl rfl hl.1 rfl (lv_room (Nat.le_of_ble_eq_true rfl)) dL_without_41 ⟨(Nat.zero_le _), (Nat.zero_le _)⟩)) (fun r hr => ?_)
  subst hr
  refine vz_cut (fun H1 l1 g1 => ∃ (x4_0 : Int32) (ls : Array Slot), x4_0 = (if (fL_monotone t) = 0 then 8 else 0 : Int32) ∧ lv_has ls 2 [(0, .int t), (1, .int g)] ∧ (s.heap = H1 ∧ [] = l1) ∧ g1 = F0 m 53 ls [.int x4_0, .int (((if (t &&& 1) = 1 then 1 else 0 : Int32) ||| (if ((t >>> ((15 : Int32) &&& 31)) &&& 1) = 0 then 2 else 0 : Int32)) ||| (if (fL_selfDual t) = 0 then 4 else 0 : Int32))]) (fun hj4 => ?_) ?_
  · refine lv_if_eq (tgt := 51) hx hb dL_without_44 (by decide) (fun c_4 => ?_) (fun c_4 => ?_)
    · refine lv_bipush (v := 8) hx hb dL_without_51 (by decide) ?_
      exact hj4 _ _ _ ⟨8, ls, (by (rw [if_pos c_4]); first | done | rfl), lv_sub hl [0, 1] rfl, ⟨rfl, rfl⟩, rfl⟩
    · refine lv_iconst (v := 0) hx hb dL_without_47 (by decide) ?_
      refine lv_goto (tgt := 53) hx hb dL_without_48 (by decide) ?_
      exact hj4 _ _ _ ⟨0, ls, (by (rw [if_neg c_4]); first | done | rfl), lv_sub hl [0, 1] rfl, ⟨rfl, rfl⟩, rfl⟩
  rintro H1 l1 g1 ⟨x4_0, ls, ex4_0, hl, ⟨rfl, rfl⟩, rfl⟩
  subst x4_0
  refine lv_ior hx hb dL_without_53 ?_
  refine lv_iload_n hx hb dL_without_54 rfl (lv_at hl 1 rfl) ?_
  refine lv_iconst (v := 1) hx hb dL_without_55 (by decide) ?_
  refine vz_cut (fun H1 l1 g1 => ∃ (x5_0 : Int32) (ls : Array Slot), x5_0 = (if g ≤ 1 then 0 else 16 : Int32) ∧ lv_has ls 2 [(0, .int t), (1, .int g)] ∧ (s.heap = H1 ∧ [] = l1) ∧ g1 = F0 m 65 ls [.int x5_0, .int ((((if (t &&& 1) = 1 then 1 else 0 : Int32) ||| (if ((t >>> ((15 : Int32) &&& 31)) &&& 1) = 0 then 2 else 0 : Int32)) ||| (if (fL_selfDual t) = 0 then 4 else 0 : Int32)) ||| (if (fL_monotone t) = 0 then 8 else 0 : Int32))]) (fun hj5 => ?_) ?_
  · refine lv_icmp_le (tgt := 64) hx hb dL_without_56 (by decide) (fun c_5 => ?_) (fun c_5 => ?_)
    · refine lv_iconst (v := 0) hx hb dL_without_64 (by decide) ?_
      exact hj5 _ _ _ ⟨0, ls, (by (rw [if_pos c_5]); first | done | rfl), lv_sub hl [0, 1] rfl, ⟨rfl, rfl⟩, rfl⟩
    · refine lv_bipush (v := 16) hx hb dL_without_59 (by decide) ?_
      refine lv_goto (tgt := 65) hx hb dL_without_61 (by decide) ?_
      exact hj5 _ _ _ ⟨16, ls, (by (rw [if_neg c_5]); first | done | rfl), lv_sub hl [0, 1] rfl, ⟨rfl, rfl⟩, rfl⟩
  rintro H1 l1 g1 ⟨x5_0, ls, ex5_0, hl, ⟨rfl, rfl⟩, rfl⟩
  subst x5_0
  refine lv_ior hx hb dL_without_65 ?_
  exact W.iret (v := (((((if (t &&& 1) = 1 then 1 else 0 : Int32) ||| (if ((t >>> ((15 : Int32) &&& 31)) &&& 1) = 0 then 2 else 0 : Int32)) ||| (if (fL_selfDual t) = 0 then 4 else 0 : Int32)) ||| (if (fL_monotone t) = 0 then 8 else 0 : Int32)) ||| (if g ≤ 1 then 0 else 16 : Int32))) hx hb hr (fun t9 ht hW => ⟨(((((if (t &&& 1) = 1 then 1 else 0 : Int32) ||| (if ((t >>> ((15 : Int32) &&& 31)) &&& 1) = 0 then 2 else 0 : Int32)) ||| (if (fL_selfDual t) = 0 then 4 else 0 : Int32)) ||| (if (fL_monotone t) = 0 then 8 else 0 : Int32)) ||| (if g ≤ 1 then 0 else 16 : Int32)), rfl, (by first | ((rw [fL_without]); first | done | rfl) | rfl), ht⟩) (fun q h => nomatch h) dL_without_66
