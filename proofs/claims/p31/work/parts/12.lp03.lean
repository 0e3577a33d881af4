def fL_table (v : Int32) : Int32 := if (fL_low (v >>> ((18 : Int32) &&& 31)) 3) = 0 then (((((((v >>> ((1 : Int32) &&& 31)) &&& 1) * (VT 0)) ^^^ (((v >>> ((2 : Int32) &&& 31)) &&& 1) * (VT 1))) ^^^ (((v >>> ((3 : Int32) &&& 31)) &&& 1) * (VT 2))) ^^^ (((v >>> ((4 : Int32) &&& 31)) &&& 1) * (VT 3))) ^^^ (((v >>> ((5 : Int32) &&& 31)) &&& 1) * 65535)) else (if (fL_low (v >>> ((18 : Int32) &&& 31)) 3) = 1 then (((v >>> ((2 : Int32) &&& 31)) &&& 65535) &&& (v * 7)) else ((v >>> ((2 : Int32) &&& 31)) &&& 65535))
set_option maxHeartbeats 4000000 in
set_option maxRecDepth 100000 in
theorem c_L_table (l : Launch) (v : Int32) : Met l yL_table wsL_table ({ frames := 1, cells := 0, slots := 0, locals := 21 }) (va_Pc [.int v] (fun _ => True)) (vp_Si (fun r => r = (fL_table v))) 0 0 (fun _ => False) := by
  refine Met.ofW (cc := cL_table) (maxL := 2) (ret := (some .int)) (by decide) rfl ?_
  intro p e s m args below meth c s₁ B hml hv
  obtain ⟨rfl, -⟩ := hv
  have hx := B.exec
  have hb := B.bytes
  have hr := B.returns
  have hts := atoms_spec (ws := wsL_table) B.pre
  have hown : s.vm.findClass RL = some m.cls := findClass_of_methodNamed B.named
  have hlocks := B.notSynchronized
  have hS : va_S (fun _ => False) s.heap s.heap [] := va_S.rf
  have hl := lv_entry ([.int v]) (n := 2) (Nat.le_of_ble_eq_true rfl)
  rw [lg_entry_eq]
  generalize (lg_sl ([.int v]) ++ List.replicate (2 - (lg_sl ([.int v])).length) Slot.unset).toArray = ls at hl ⊢
  have hl : lv_has ls 2 [(0, .int v)] := hl
  refine lv_iload_n hx hb dL_table_0 rfl (lv_at hl 0 rfl) ?_
  refine lv_iconst (v := 1) hx hb dL_table_1 (by decide) ?_
  refine lv_ishr hx hb dL_table_2 ?_
  refine lv_iconst (v := 1) hx hb dL_table_3 (by decide) ?_
  refine lv_iand hx hb dL_table_4 ?_
  refine lv_iconst (v := 0) hx hb dL_table_5 (by decide) ?_
  refine vp_callSi (va_Run.run (va_runS (As := [.int 0]) (rest := [.int ((v >>> ((1 : Int32) &&& 31)) &&& 1)]) ⟨hx, hb, hml, hown, hts⟩ (cv_L_variable l 0 (by omega)) (va_cwS 1 hts gL_table_L_variable rfl rfl rfl (by decide +kernel) ⟨Nat.le_of_ble_eq_true rfl, Nat.le_of_ble_eq_true rfl⟩) ⟨fun _ _ _ _ z => z, fun _ _ _ => ⟨rfl, trivial⟩⟩ rfl rfl hl.1 rfl (lv_room (Nat.le_of_ble_eq_true rfl)) dL_table_6 ⟨(Nat.zero_le _), (Nat.zero_le _)⟩)) (fun r hr => ?_)
  subst r
  refine lv_imul hx hb dL_table_9 ?_
  refine lv_iload_n hx hb dL_table_10 rfl (lv_at hl 0 rfl) ?_
  refine lv_iconst (v := 2) hx hb dL_table_11 (by decide) ?_
  refine lv_ishr hx hb dL_table_12 ?_
  refine lv_iconst (v := 1) hx hb dL_table_13 (by decide) ?_
  refine lv_iand hx hb dL_table_14 ?_
  refine lv_iconst (v := 1) hx hb dL_table_15 (by decide) ?_
  refine vp_callSi (va_Run.run (va_runS (As := [.int 1]) (rest := [.int ((v >>> ((2 : Int32) &&& 31)) &&& 1), .int (((v >>> ((1 : Int32) &&& 31)) &&& 1) * (VT 0))]) ⟨hx, hb, hml, hown, hts⟩ (cv_L_variable l 1 (by omega)) (va_cwS 1 hts gL_table_L_variable rfl rfl rfl (by decide +kernel) ⟨Nat.le_of_ble_eq_true rfl, Nat.le_of_ble_eq_true rfl⟩) ⟨fun _ _ _ _ z => z, fun _ _ _ => ⟨rfl, trivial⟩⟩ rfl rfl hl.1 rfl (lv_room (Nat.le_of_ble_eq_true rfl)) dL_table_16 ⟨(Nat.zero_le _), (Nat.zero_le _)⟩)) (fun r hr => ?_)
  subst r
  refine lv_imul hx hb dL_table_19 ?_
  refine lv_ixor hx hb dL_table_20 ?_
  refine lv_iload_n hx hb dL_table_21 rfl (lv_at hl 0 rfl) ?_
  refine lv_iconst (v := 3) hx hb dL_table_22 (by decide) ?_
  refine lv_ishr hx hb dL_table_23 ?_
  refine lv_iconst (v := 1) hx hb dL_table_24 (by decide) ?_
  refine lv_iand hx hb dL_table_25 ?_
  refine lv_iconst (v := 2) hx hb dL_table_26 (by decide) ?_
  refine vp_callSi (va_Run.run (va_runS (As := [.int 2]) (rest := [.int ((v >>> ((3 : Int32) &&& 31)) &&& 1), .int ((((v >>> ((1 : Int32) &&& 31)) &&& 1) * (VT 0)) ^^^ (((v >>> ((2 : Int32) &&& 31)) &&& 1) * (VT 1)))]) ⟨hx, hb, hml, hown, hts⟩ (cv_L_variable l 2 (by omega)) (va_cwS 1 hts gL_table_L_variable rfl rfl rfl (by decide +kernel) ⟨Nat.le_of_ble_eq_true rfl, Nat.le_of_ble_eq_true rfl⟩) ⟨fun _ _ _ _ z => z, fun _ _ _ => ⟨rfl, trivial⟩⟩ rfl rfl hl.1 rfl (lv_room (Nat.le_of_ble_eq_true rfl)) dL_table_27 ⟨(Nat.zero_le _), (Nat.zero_le _)⟩)) (fun r hr => ?_)
  subst r
  refine lv_imul hx hb dL_table_30 ?_
  refine lv_ixor hx hb dL_table_31 ?_
  refine lv_iload_n hx hb dL_table_32 rfl (lv_at hl 0 rfl) ?_
  refine lv_iconst (v := 4) hx hb dL_table_33 (by decide) ?_
  refine lv_ishr hx hb dL_table_34 ?_
  refine lv_iconst (v := 1) hx hb dL_table_35 (by decide) ?_
  refine lv_iand hx hb dL_table_36 ?_
  refine lv_iconst (v := 3) hx hb dL_table_37 (by decide) ?_
  refine vp_callSi (va_Run.run (va_runS (As := [.int 3]) (rest := [.int ((v >>> ((4 : Int32) &&& 31)) &&& 1), .int (((((v >>> ((1 : Int32) &&& 31)) &&& 1) * (VT 0)) ^^^ (((v >>> ((2 : Int32) &&& 31)) &&& 1) * (VT 1))) ^^^ (((v >>> ((3 : Int32) &&& 31)) &&& 1) * (VT 2)))]) ⟨hx, hb, hml, hown, hts⟩ (cv_L_variable l 3 (by omega)) (va_cwS 1 hts gL_table_L_variable rfl rfl rfl (by decide +kernel) ⟨Nat.le_of_ble_eq_true rfl, Nat.le_of_ble_eq_true rfl⟩) ⟨fun _ _ _ _ z => z, fun _ _ _ => ⟨rfl, trivial⟩⟩ rfl rfl hl.1 rfl (lv_room (Nat.le_of_ble_eq_true rfl)) dL_table_38 ⟨(Nat.zero_le _), (Nat.zero_le _)⟩)) (fun r hr => ?_)
  subst r
  refine lv_imul hx hb dL_table_41 ?_
  refine lv_ixor hx hb dL_table_42 ?_
  refine lv_iload_n hx hb dL_table_43 rfl (lv_at hl 0 rfl) ?_
  refine lv_iconst (v := 5) hx hb dL_table_44 (by decide) ?_
  refine lv_ishr hx hb dL_table_45 ?_
  refine lv_iconst (v := 1) hx hb dL_table_46 (by decide) ?_
  refine lv_iand hx hb dL_table_47 ?_
  refine lv_ldc (v := 65535) hx hb hown (hts (.constant RL 33 (65535)) (List.mem_of_getElem? (i := 1) rfl)) dL_table_48 ?_
  refine lv_imul hx hb dL_table_50 ?_
  refine lv_ixor hx hb dL_table_51 ?_
  refine lv_istore_n (lv' := [(1, .int (((((((v >>> ((1 : Int32) &&& 31)) &&& 1) * (VT 0)) ^^^ (((v >>> ((2 : Int32) &&& 31)) &&& 1) * (VT 1))) ^^^ (((v >>> ((3 : Int32) &&& 31)) &&& 1) * (VT 2))) ^^^ (((v >>> ((4 : Int32) &&& 31)) &&& 1) * (VT 3))) ^^^ (((v >>> ((5 : Int32) &&& 31)) &&& 1) * 65535))), (0, .int v)]) hx hb dL_table_52 rfl hl (by decide) rfl (fun ls hl => ?_)
  refine lv_iload_n hx hb dL_table_53 rfl (lv_at hl 1 rfl) ?_
  refine lv_bipush (v := 18) hx hb dL_table_54 (by decide) ?_
  refine lv_ishr hx hb dL_table_56 ?_
  refine lv_iconst (v := 3) hx hb dL_table_57 (by decide) ?_
  refine vp_callSi (va_Run.run (va_runS (As := [.int (v >>> ((18 : Int32) &&& 31)), .int 3]) (rest := []) ⟨hx, hb, hml, hown, hts⟩ (c_L_low l (v >>> ((18 : Int32) &&& 31)) 3 (by omega)) (va_cwS 2 hts gL_table_L_low rfl rfl rfl (by decide +kernel) ⟨Nat.le_of_ble_eq_true rfl, Nat.le_of_ble_eq_true rfl⟩) ⟨fun _ _ _ _ z => z, fun _ _ _ => ⟨rfl, trivial⟩⟩ rfl rfl hl.1 rfl (lv_room (Nat.le_of_ble_eq_true rfl)) dL_table_58 ⟨(Nat.zero_le _), (Nat.zero_le _)⟩)) (fun r hr => ?_)
  subst r
  refine lv_if_ne (tgt := 68) hx hb dL_table_61 (by decide) (fun c_1 => ?_) (fun c_1 => ?_)
  · refine lv_iload_n hx hb dL_table_68 rfl (lv_at hl 1 rfl) ?_
    refine lv_bipush (v := 18) hx hb dL_table_69 (by decide) ?_
    refine lv_ishr hx hb dL_table_71 ?_
    refine lv_iconst (v := 3) hx hb dL_table_72 (by decide) ?_
    refine vp_callSi (va_Run.run (va_runS (As := [.int (v >>> ((18 : Int32) &&& 31)), .int 3]) (rest := []) ⟨hx, hb, hml, hown, hts⟩ (c_L_low l (v >>> ((18 : Int32) &&& 31)) 3 (by omega)) (va_cwS 2 hts gL_table_L_low rfl rfl rfl (by decide +kernel) ⟨Nat.le_of_ble_eq_true rfl, Nat.le_of_ble_eq_true rfl⟩) ⟨fun _ _ _ _ z => z, fun _ _ _ => ⟨rfl, trivial⟩⟩ rfl rfl hl.1 rfl (lv_room (Nat.le_of_ble_eq_true rfl)) dL_table_73 ⟨(Nat.zero_le _), (Nat.zero_le _)⟩)) (fun r hr => ?_)
    subst r
    refine lv_iconst (v := 1) hx hb dL_table_76 (by decide) ?_
    refine lv_icmp_ne (tgt := 94) hx hb dL_table_77 (by decide) (fun c_2 => ?_) (fun c_2 => ?_)
    · refine lv_iload_n hx hb dL_table_94 rfl (lv_at hl 1 rfl) ?_
      refine lv_iconst (v := 2) hx hb dL_table_95 (by decide) ?_
      refine lv_ishr hx hb dL_table_96 ?_
      refine lv_ldc (v := 65535) hx hb hown (hts (.constant RL 33 (65535)) (List.mem_of_getElem? (i := 1) rfl)) dL_table_97 ?_
      refine lv_iand hx hb dL_table_99 ?_
      exact W.iret (v := ((v >>> ((2 : Int32) &&& 31)) &&& 65535)) hx hb hr (fun t9 ht hW => ⟨((v >>> ((2 : Int32) &&& 31)) &&& 65535), rfl, (by first | ((rw [fL_table, if_neg c_1, if_neg c_2]); first | done | rfl) | rfl), ht⟩) (fun q h => nomatch h) dL_table_100
    · refine lv_iload_n hx hb dL_table_80 rfl (lv_at hl 1 rfl) ?_
      refine lv_iconst (v := 2) hx hb dL_table_81 (by decide) ?_
      refine lv_ishr hx hb dL_table_82 ?_
      refine lv_ldc (v := 65535) hx hb hown (hts (.constant RL 33 (65535)) (List.mem_of_getElem? (i := 1) rfl)) dL_table_83 ?_
      refine lv_iand hx hb dL_table_85 ?_
      refine lv_iload_n hx hb dL_table_86 rfl (lv_at hl 1 rfl) ?_
      refine lv_bipush (v := 7) hx hb dL_table_87 (by decide) ?_
      refine lv_imul hx hb dL_table_89 ?_
      refine lv_iand hx hb dL_table_90 ?_
      refine lv_goto (tgt := 100) hx hb dL_table_91 (by decide) ?_
      exact W.iret (v := (((v >>> ((2 : Int32) &&& 31)) &&& 65535) &&& (v * 7))) hx hb hr (fun t9 ht hW => ⟨(((v >>> ((2 : Int32) &&& 31)) &&& 65535) &&& (v * 7)), rfl, (by first | ((rw [fL_table, if_neg c_1, if_pos c_2]); first | done | rfl) | rfl), ht⟩) (fun q h => nomatch h) dL_table_100
  · refine lv_iload_n hx hb dL_table_64 rfl (lv_at hl 0 rfl) ?_
    refine lv_goto (tgt := 100) hx hb dL_table_65 (by decide) ?_
    exact W.iret (v := (((((((v >>> ((1 : Int32) &&& 31)) &&& 1) * (VT 0)) ^^^ (((v >>> ((2 : Int32) &&& 31)) &&& 1) * (VT 1))) ^^^ (((v >>> ((3 : Int32) &&& 31)) &&& 1) * (VT 2))) ^^^ (((v >>> ((4 : Int32) &&& 31)) &&& 1) * (VT 3))) ^^^ (((v >>> ((5 : Int32) &&& 31)) &&& 1) * 65535))) hx hb hr (fun t9 ht hW => ⟨(((((((v >>> ((1 : Int32) &&& 31)) &&& 1) * (VT 0)) ^^^ (((v >>> ((2 : Int32) &&& 31)) &&& 1) * (VT 1))) ^^^ (((v >>> ((3 : Int32) &&& 31)) &&& 1) * (VT 2))) ^^^ (((v >>> ((4 : Int32) &&& 31)) &&& 1) * (VT 3))) ^^^ (((v >>> ((5 : Int32) &&& 31)) &&& 1) * 65535)), rfl, (by first | ((rw [fL_table, if_pos c_1]); first | done | rfl) | rfl), ht⟩) (fun q h => nomatch h) dL_table_100
