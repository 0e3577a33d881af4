def fL_low (v : Int32) (g : Nat) : Int32 := ((v &&& 2147483647) - (v &&& 2147483647) / (nI g) * (nI g))
set_option maxHeartbeats 4000000 in
set_option maxRecDepth 100000 in
theorem c_L_low (l : Launch) (v : Int32) (g : Nat) (hg : 0 < g ∧ g < 64) : Met l yL_low wsL_low ({ frames := 0, cells := 0, slots := 0, locals := 0 }) (va_Pc [.int v, .int (nI g)] (fun _ => True)) (vp_Si (fun r => r = (fL_low v g))) 0 0 (fun _ => False) := by
  refine Met.ofW (cc := cL_low) (maxL := 2) (ret := (some .int)) (by decide) rfl ?_
  intro p e s m args below meth c s₁ B hml hv
  obtain ⟨rfl, -⟩ := hv
  have hx := B.exec
  have hb := B.bytes
  have hr := B.returns
  have hts := atoms_spec (ws := wsL_low) B.pre
  have hown : s.vm.findClass RL = some m.cls := findClass_of_methodNamed B.named
  have hlocks := B.notSynchronized
  have hS : va_S (fun _ => False) s.heap s.heap [] := va_S.rf
  have hl := lv_entry ([.int v, .int (nI g)]) (n := 2) (Nat.le_of_ble_eq_true rfl)
  rw [lg_entry_eq]
  generalize (lg_sl ([.int v, .int (nI g)]) ++ List.replicate (2 - (lg_sl ([.int v, .int (nI g)])).length) Slot.unset).toArray = ls at hl ⊢
  have hl : lv_has ls 2 [(0, .int v), (1, .int (nI g))] := hl
  refine lv_iload_n hx hb dL_low_0 rfl (lv_at hl 0 rfl) ?_
  refine lv_ldc (v := 2147483647) hx hb hown (hts (.constant RL 7 (2147483647)) (List.mem_of_getElem? (i := 1) rfl)) dL_low_1 ?_
  refine lv_iand hx hb dL_low_3 ?_
  refine lv_iload_n hx hb dL_low_4 rfl (lv_at hl 1 rfl) ?_
  refine lv_irem hx hb dL_low_5 (nI_ne0 hg.1 (by omega)) ?_
  exact W.iret (v := ((v &&& 2147483647) - (v &&& 2147483647) / (nI g) * (nI g))) hx hb hr (fun t9 ht hW => ⟨((v &&& 2147483647) - (v &&& 2147483647) / (nI g) * (nI g)), rfl, (by first | ((rw [fL_low]); first | done | rfl) | rfl), ht⟩) (fun q h => nomatch h) dL_low_6
