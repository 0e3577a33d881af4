def sL_monotone_4 (t : Int32) (i1 : Nat) (a1 : Int32) : Int32 := (if a1 = 0 then 0 else (if (((t &&& ((VT i1) ^^^ (-1))) &&& 65535) &&& (((t &&& (VT i1)) >>> (((1 : Int32) <<< ((nI i1) &&& 31)) &&& 31)) ^^^ (-1))) = 0 then 1 else 0) : Int32)
def fL_monotone (t : Int32) : Int32 := (lp (sL_monotone_4 t) 4 0 1)
theorem bL_monotone (t : Int32) (i : Nat) (a : Int32) (_ : a = 0 ∨ a = 1) : sL_monotone_4 t i a = 0 ∨ sL_monotone_4 t i a = 1 := by unfold sL_monotone_4; split <;> first | exact Or.inl rfl | exact Or.inr rfl | (split <;> first | exact Or.inl rfl | exact Or.inr rfl | (split <;> first | exact Or.inl rfl | exact Or.inr rfl))
set_option maxHeartbeats 4000000 in
set_option maxRecDepth 100000 in
theorem c_L_monotone (l : Launch) (t : Int32) : Met l yL_monotone wsL_monotone ({ frames := 1, cells := 0, slots := 0, locals := 20 }) (va_Pc [.int t] (fun _ => True)) (vp_Si (fun r => r = (fL_monotone t))) 0 0 (fun _ => False) := by
  refine Met.ofW (cc := cL_monotone) (maxL := 5) (ret := (some .boolean)) (by decide) rfl ?_
  intro p e s m args below meth c s₁ B hml hv
  obtain ⟨rfl, -⟩ := hv
  have hx := B.exec
  have hb := B.bytes
  have hr := B.returns
  have hts := atoms_spec (ws := wsL_monotone) B.pre
  have hown : s.vm.findClass RL = some m.cls := findClass_of_methodNamed B.named
  have hlocks := B.notSynchronized
  have hS : va_S (fun _ => False) s.heap s.heap [] := va_S.rf
  have hl := lv_entry ([.int t]) (n := 5) (Nat.le_of_ble_eq_true rfl)
  rw [lg_entry_eq]
  generalize (lg_sl ([.int t]) ++ List.replicate (5 - (lg_sl ([.int t])).length) Slot.unset).toArray = ls at hl ⊢
  have hl : lv_has ls 5 [(0, .int t)] := hl
  refine lv_iconst (v := 1) hx hb dL_monotone_0 (by decide) ?_
  refine lv_istore_n (lv' := [(1, .int 1), (0, .int t)]) hx hb dL_monotone_1 rfl hl (by decide) rfl (fun ls hl => ?_)
  refine lv_iconst (v := 0) hx hb dL_monotone_2 (by decide) ?_
  refine lv_istore_n (lv' := [(2, .int 0), (1, .int 1), (0, .int t)]) hx hb dL_monotone_3 rfl hl (by decide) rfl (fun ls hl => ?_)
  obtain ⟨F1, hF1⟩ : ∃ z9, z9 = (lp (sL_monotone_4 t) 4 0 1) := ⟨_, rfl⟩
  refine vz_cut (fun H1 l1 g1 => ∃ (n1 i1 : Nat) (a1 : Int32) (ls : Array Slot), i1 + n1 = 4 ∧ lp (sL_monotone_4 t) n1 i1 a1 = F1 ∧ lv_has ls 5 [(2, .int (nI i1)), (1, .int a1), (0, .int t)] ∧ (s.heap = H1 ∧ [] = l1) ∧ g1 = F0 m 4 ls []) (fun hj => hj _ _ _ ⟨4, 0, 1, ls, (by omega), hF1.symm, lv_sub hl [0, 1, 2] rfl, ⟨rfl, rfl⟩, rfl⟩) ?_
  rintro H1 l1 g1 ⟨n1, i1, a1, ls, hi1, hf1, hl, ⟨rfl, rfl⟩, rfl⟩
  revert i1 a1 ls
  induction n1 with
  | zero =>
    intro i1 a1 ls hi1 hf1 hl
    obtain rfl : 4 = i1 := by omega
    have hf1 : F1 = a1 := hf1.symm
    subst hf1
    refine lv_iload_n hx hb dL_monotone_4 rfl (lv_at hl 0 rfl) ?_
    refine lv_iconst (v := 4) hx hb dL_monotone_5 (by decide) ?_
    refine lv_icmp_ge (tgt := 58) hx hb dL_monotone_6 (by decide) (fun c_1 => ?_) (fun c_1 => ?_)
    · refine lv_iload_n hx hb dL_monotone_58 rfl (lv_at hl 1 rfl) ?_
      exact W.zret (v := F1) hx hb hr (by rw [hF1]; exact nar_b (lp_b (bL_monotone t) 4 0 1 (Or.inr rfl))) (fun t9 ht hW => ⟨F1, rfl, (by first | ((rw [fL_monotone]); (try rw [← hF1]); first | done | rfl) | rfl), ht⟩) (fun q h => nomatch h) dL_monotone_59
    · exact absurd (nI_le (a := 4) (b := 4) (by omega) (by omega)) c_1
  | succ n1 ih1 =>
    intro i1 a1 ls hi1 hf1 hl
    refine lv_iload_n hx hb dL_monotone_4 rfl (lv_at hl 0 rfl) ?_
    refine lv_iconst (v := 4) hx hb dL_monotone_5 (by decide) ?_
    refine lv_icmp_ge (tgt := 58) hx hb dL_monotone_6 (by decide) (fun c_2 => ?_) (fun c_2 => ?_)
    · exact absurd c_2 (nI_ge (a := i1) (b := 4) (by omega) (by omega))
    · refine lv_iload_n hx hb dL_monotone_9 rfl (lv_at hl 2 rfl) ?_
      refine lv_iload_n hx hb dL_monotone_10 rfl (lv_at hl 0 rfl) ?_
      refine vp_callSi (va_Run.run (va_runS (As := [.int (nI i1)]) (rest := [.int t]) ⟨hx, hb, hml, hown, hts⟩ (cv_L_variable l i1 (by omega)) (va_cwS 1 hts gL_monotone_L_variable rfl rfl rfl (by decide +kernel) ⟨Nat.le_of_ble_eq_true rfl, Nat.le_of_ble_eq_true rfl⟩) ⟨fun _ _ _ _ z => z, fun _ _ _ => ⟨rfl, trivial⟩⟩ rfl rfl hl.1 rfl (lv_room (Nat.le_of_ble_eq_true rfl)) dL_monotone_11 ⟨(Nat.zero_le _), (Nat.zero_le _)⟩)) (fun r hr => ?_)
      subst r
      refine lv_iconst (v := (-1)) hx hb dL_monotone_14 (by decide) ?_
      refine lv_ixor hx hb dL_monotone_15 ?_
      refine lv_iand hx hb dL_monotone_16 ?_
      refine lv_ldc (v := 65535) hx hb hown (hts (.constant RL 33 (65535)) (List.mem_of_getElem? (i := 1) rfl)) dL_monotone_17 ?_
      refine lv_iand hx hb dL_monotone_19 ?_
      refine lv_istore_n (lv' := [(3, .int ((t &&& ((VT i1) ^^^ (-1))) &&& 65535)), (2, .int (nI i1)), (1, .int a1), (0, .int t)]) hx hb dL_monotone_20 rfl hl (by decide) rfl (fun ls hl => ?_)
      refine lv_iload_n hx hb dL_monotone_21 rfl (lv_at hl 3 rfl) ?_
      refine lv_iload_n hx hb dL_monotone_22 rfl (lv_at hl 1 rfl) ?_
      refine vp_callSi (va_Run.run (va_runS (As := [.int (nI i1)]) (rest := [.int t]) ⟨hx, hb, hml, hown, hts⟩ (cv_L_variable l i1 (by omega)) (va_cwS 1 hts gL_monotone_L_variable rfl rfl rfl (by decide +kernel) ⟨Nat.le_of_ble_eq_true rfl, Nat.le_of_ble_eq_true rfl⟩) ⟨fun _ _ _ _ z => z, fun _ _ _ => ⟨rfl, trivial⟩⟩ rfl rfl hl.1 rfl (lv_room (Nat.le_of_ble_eq_true rfl)) dL_monotone_23 ⟨(Nat.zero_le _), (Nat.zero_le _)⟩)) (fun r hr => ?_)
      subst r
      refine lv_iand hx hb dL_monotone_26 ?_
      refine lv_iconst (v := 1) hx hb dL_monotone_27 (by decide) ?_
      refine lv_iload_n hx hb dL_monotone_28 rfl (lv_at hl 1 rfl) ?_
      refine lv_ishl hx hb dL_monotone_29 ?_
      refine lv_ishr hx hb dL_monotone_30 ?_
      refine lv_istore (lv' := [(4, .int ((t &&& (VT i1)) >>> (((1 : Int32) <<< ((nI i1) &&& 31)) &&& 31))), (3, .int ((t &&& ((VT i1) ^^^ (-1))) &&& 65535)), (2, .int (nI i1)), (1, .int a1), (0, .int t)]) hx hb dL_monotone_31 hl (by decide) rfl (fun ls hl => ?_)
      refine lv_iload_n hx hb dL_monotone_33 rfl (lv_at hl 3 rfl) ?_
      refine vz_cut (fun H1 l1 g1 => ∃ (x1_0 : Int32) (ls : Array Slot), x1_0 = (if a1 = 0 then 0 else (if (((t &&& ((VT i1) ^^^ (-1))) &&& 65535) &&& (((t &&& (VT i1)) >>> (((1 : Int32) <<< ((nI i1) &&& 31)) &&& 31)) ^^^ (-1))) = 0 then 1 else 0) : Int32) ∧ lv_has ls 5 [(4, .int ((t &&& (VT i1)) >>> (((1 : Int32) <<< ((nI i1) &&& 31)) &&& 31))), (3, .int ((t &&& ((VT i1) ^^^ (-1))) &&& 65535)), (2, .int (nI i1)), (1, .int a1), (0, .int t)] ∧ (s.heap = H1 ∧ [] = l1) ∧ g1 = F0 m 51 ls [.int x1_0]) (fun hj1 => ?_) ?_
      · refine lv_if_eq (tgt := 50) hx hb dL_monotone_34 (by decide) (fun c_3 => ?_) (fun c_3 => ?_)
        · refine lv_iconst (v := 0) hx hb dL_monotone_50 (by decide) ?_
          exact hj1 _ _ _ ⟨0, ls, (by (rw [if_pos c_3]); first | done | rfl), lv_sub hl [0, 1, 2, 3, 4] rfl, ⟨rfl, rfl⟩, rfl⟩
        · refine lv_iload_n hx hb dL_monotone_37 rfl (lv_at hl 1 rfl) ?_
          refine lv_iload hx hb dL_monotone_38 (lv_at hl 0 rfl) ?_
          refine lv_iconst (v := (-1)) hx hb dL_monotone_40 (by decide) ?_
          refine lv_ixor hx hb dL_monotone_41 ?_
          refine lv_iand hx hb dL_monotone_42 ?_
          refine lv_if_ne (tgt := 50) hx hb dL_monotone_43 (by decide) (fun c_4 => ?_) (fun c_4 => ?_)
          · refine lv_iconst (v := 0) hx hb dL_monotone_50 (by decide) ?_
            exact hj1 _ _ _ ⟨0, ls, (by (rw [if_neg c_3, if_neg c_4]); first | done | rfl), lv_sub hl [0, 1, 2, 3, 4] rfl, ⟨rfl, rfl⟩, rfl⟩
          · refine lv_iconst (v := 1) hx hb dL_monotone_46 (by decide) ?_
            refine lv_goto (tgt := 51) hx hb dL_monotone_47 (by decide) ?_
            exact hj1 _ _ _ ⟨1, ls, (by (rw [if_neg c_3, if_pos c_4]); first | done | rfl), lv_sub hl [0, 1, 2, 3, 4] rfl, ⟨rfl, rfl⟩, rfl⟩
      rintro H1 l1 g1 ⟨x1_0, ls, ex1_0, hl, ⟨rfl, rfl⟩, rfl⟩
      subst x1_0
      refine lv_istore_n (lv' := [(1, .int (if a1 = 0 then 0 else (if (((t &&& ((VT i1) ^^^ (-1))) &&& 65535) &&& (((t &&& (VT i1)) >>> (((1 : Int32) <<< ((nI i1) &&& 31)) &&& 31)) ^^^ (-1))) = 0 then 1 else 0) : Int32)), (4, .int ((t &&& (VT i1)) >>> (((1 : Int32) <<< ((nI i1) &&& 31)) &&& 31))), (3, .int ((t &&& ((VT i1) ^^^ (-1))) &&& 65535)), (2, .int (nI i1)), (0, .int t)]) hx hb dL_monotone_51 rfl hl (by decide) rfl (fun ls hl => ?_)
      refine lv_iinc (v := (nI (i1 + 1))) (lv' := [(2, .int (nI (i1 + 1))), (1, .int (if a1 = 0 then 0 else (if (((t &&& ((VT i1) ^^^ (-1))) &&& 65535) &&& (((t &&& (VT i1)) >>> (((1 : Int32) <<< ((nI i1) &&& 31)) &&& 31)) ^^^ (-1))) = 0 then 1 else 0) : Int32)), (4, .int ((t &&& (VT i1)) >>> (((1 : Int32) <<< ((nI i1) &&& 31)) &&& 31))), (3, .int ((t &&& ((VT i1) ^^^ (-1))) &&& 65535)), (0, .int t)]) hx hb dL_monotone_52 hl (k := 3) rfl (by first | exact nI_add _ _ | rfl) (by decide) rfl (fun ls hl => ?_)
      refine lv_goto (tgt := 4) hx hb dL_monotone_55 (by decide) ?_
      exact ih1 (i1 + 1) (if a1 = 0 then 0 else (if (((t &&& ((VT i1) ^^^ (-1))) &&& 65535) &&& (((t &&& (VT i1)) >>> (((1 : Int32) <<< ((nI i1) &&& 31)) &&& 31)) ^^^ (-1))) = 0 then 1 else 0) : Int32) ls (by omega) ((congrArg (lp (sL_monotone_4 t) n1 (i1 + 1)) (show (if a1 = 0 then 0 else (if (((t &&& ((VT i1) ^^^ (-1))) &&& 65535) &&& (((t &&& (VT i1)) >>> (((1 : Int32) <<< ((nI i1) &&& 31)) &&& 31)) ^^^ (-1))) = 0 then 1 else 0) : Int32) = (sL_monotone_4 t) i1 a1 from by first | ((rw [sL_monotone_4]); first | done | rfl) | rfl)).trans hf1) (lv_sub hl [0, 1, 4] rfl)
