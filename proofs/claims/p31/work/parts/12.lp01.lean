def fL_variable (v : Nat) : Int32 := if (nI v) = 0 then 43690 else (if (nI v) = 1 then 52428 else (if (nI v) = 2 then 61680 else 65280))
set_option maxHeartbeats 4000000 in
set_option maxRecDepth 100000 in
theorem c_L_variable (l : Launch) (v : Nat) : Met l yL_variable wsL_variable ({ frames := 0, cells := 0, slots := 0, locals := 0 }) (va_Pc [.int (nI v)] (fun _ => True)) (vp_Si (fun r => r = (fL_variable v))) 0 0 (fun _ => False) := by
  refine Met.ofW (cc := cL_variable) (maxL := 1) (ret := (some .int)) (by decide) rfl ?_
  intro p e s m args below meth c s₁ B hml hv
  obtain ⟨rfl, -⟩ := hv
  have hx := B.exec
  have hb := B.bytes
  have hr := B.returns
  have hts := atoms_spec (ws := wsL_variable) B.pre
  have hown : s.vm.findClass RL = some m.cls := findClass_of_methodNamed B.named
  have hlocks := B.notSynchronized
  have hS : va_S (fun _ => False) s.heap s.heap [] := va_S.rf
  have hl := lv_entry ([.int (nI v)]) (n := 1) (Nat.le_of_ble_eq_true rfl)
  rw [lg_entry_eq]
  generalize (lg_sl ([.int (nI v)]) ++ List.replicate (1 - (lg_sl ([.int (nI v)])).length) Slot.unset).toArray = ls at hl ⊢
  have hl : lv_has ls 1 [(0, .int (nI v))] := hl
  refine lv_iload_n hx hb dL_variable_0 rfl (lv_at hl 0 rfl) ?_
  refine lv_if_ne (tgt := 9) hx hb dL_variable_1 (by decide) (fun c_1 => ?_) (fun c_1 => ?_)
  · refine lv_iload_n hx hb dL_variable_9 rfl (lv_at hl 0 rfl) ?_
    refine lv_iconst (v := 1) hx hb dL_variable_10 (by decide) ?_
    refine lv_icmp_ne (tgt := 19) hx hb dL_variable_11 (by decide) (fun c_2 => ?_) (fun c_2 => ?_)
    · refine lv_iload_n hx hb dL_variable_19 rfl (lv_at hl 0 rfl) ?_
      refine lv_iconst (v := 2) hx hb dL_variable_20 (by decide) ?_
      refine lv_icmp_ne (tgt := 29) hx hb dL_variable_21 (by decide) (fun c_3 => ?_) (fun c_3 => ?_)
      · refine lv_ldc (v := 65280) hx hb hown (hts (.constant RL 27 (65280)) (List.mem_of_getElem? (i := 4) rfl)) dL_variable_29 ?_
        exact W.iret (v := 65280) hx hb hr (fun t9 ht hW => ⟨65280, rfl, (by first | ((rw [fL_variable, if_neg c_1, if_neg c_2, if_neg c_3]); first | done | rfl) | rfl), ht⟩) (fun q h => nomatch h) dL_variable_31
      · refine lv_ldc (v := 61680) hx hb hown (hts (.constant RL 26 (61680)) (List.mem_of_getElem? (i := 3) rfl)) dL_variable_24 ?_
        refine lv_goto (tgt := 31) hx hb dL_variable_26 (by decide) ?_
        exact W.iret (v := 61680) hx hb hr (fun t9 ht hW => ⟨61680, rfl, (by first | ((rw [fL_variable, if_neg c_1, if_neg c_2, if_pos c_3]); first | done | rfl) | rfl), ht⟩) (fun q h => nomatch h) dL_variable_31
    · refine lv_ldc (v := 52428) hx hb hown (hts (.constant RL 25 (52428)) (List.mem_of_getElem? (i := 2) rfl)) dL_variable_14 ?_
      refine lv_goto (tgt := 31) hx hb dL_variable_16 (by decide) ?_
      exact W.iret (v := 52428) hx hb hr (fun t9 ht hW => ⟨52428, rfl, (by first | ((rw [fL_variable, if_neg c_1, if_pos c_2]); first | done | rfl) | rfl), ht⟩) (fun q h => nomatch h) dL_variable_31
  · refine lv_ldc (v := 43690) hx hb hown (hts (.constant RL 24 (43690)) (List.mem_of_getElem? (i := 1) rfl)) dL_variable_4 ?_
    refine lv_goto (tgt := 31) hx hb dL_variable_6 (by decide) ?_
    exact W.iret (v := 43690) hx hb hr (fun t9 ht hW => ⟨43690, rfl, (by first | ((rw [fL_variable, if_pos c_1]); first | done | rfl) | rfl), ht⟩) (fun q h => nomatch h) dL_variable_31
theorem L_variable_VT : ∀ v, v < 4 → fL_variable v = VT v := by decide +kernel
theorem cv_L_variable (l : Launch) (v : Nat) (hv : v < 4) : Met l yL_variable wsL_variable ({ frames := 0, cells := 0, slots := 0, locals := 0 }) (va_Pc [.int (nI v)] (fun _ => True)) (vp_Si (fun r => r = VT v)) 0 0 (fun _ => False) := by
  have h := c_L_variable l v
  rw [L_variable_VT v hv] at h
  exact h
