def sL_summed_29 (i1 : Nat) (i2 : Nat) (a2 : Int32) : Int32 := (a2 &&& (if (((nI i1) >>> ((nI i2) &&& 31)) &&& 1) = 1 then (VT i2) else 65535 : Int32))
def sL_summed_4 (t : Int32) (i1 : Nat) (a1 : Int32) : Int32 := (a1 ^^^ (lp (sL_summed_29 i1) 4 0 (if ((t >>> ((nI i1) &&& 31)) &&& 1) = 1 then 65535 else 0 : Int32)))
def fL_summed (t : Int32) : Int32 := (lp (sL_summed_4 t) 16 0 0)
set_option maxHeartbeats 4000000 in
set_option maxRecDepth 100000 in
theorem c_L_summed (l : Launch) (t : Int32) : Met l yL_summed wsL_summed ({ frames := 1, cells := 0, slots := 0, locals := 20 }) (va_Pc [.int t] (fun _ => True)) (vp_Si (fun r => r = (fL_summed t))) 0 0 (fun _ => False) := by
  refine Met.ofW (cc := cL_summed) (maxL := 5) (ret := (some .int)) (by decide) rfl ?_
  intro p e s m args below meth c s₁ B hml hv
  obtain ⟨rfl, -⟩ := hv
  have hx := B.exec
  have hb := B.bytes
  have hr := B.returns
  have hts := atoms_spec (ws := wsL_summed) B.pre
  have hown : s.vm.findClass RL = some m.cls := findClass_of_methodNamed B.named
  have hlocks := B.notSynchronized
  have hS : va_S (fun _ => False) s.heap s.heap [] := va_S.rf
  have hl := lv_entry ([.int t]) (n := 5) (Nat.le_of_ble_eq_true rfl)
  rw [lg_entry_eq]
  generalize (lg_sl ([.int t]) ++ List.replicate (5 - (lg_sl ([.int t])).length) Slot.unset).toArray = ls at hl ⊢
  have hl : lv_has ls 5 [(0, .int t)] := hl
  refine lv_iconst (v := 0) hx hb dL_summed_0 (by decide) ?_
  refine lv_istore_n (lv' := [(1, .int 0), (0, .int t)]) hx hb dL_summed_1 rfl hl (by decide) rfl (fun ls hl => ?_)
  refine lv_iconst (v := 0) hx hb dL_summed_2 (by decide) ?_
  refine lv_istore_n (lv' := [(2, .int 0), (1, .int 0), (0, .int t)]) hx hb dL_summed_3 rfl hl (by decide) rfl (fun ls hl => ?_)
  obtain ⟨F1, hF1⟩ : ∃ z9, z9 = (lp (sL_summed_4 t) 16 0 0) := ⟨_, rfl⟩
  refine vz_cut (fun H1 l1 g1 => ∃ (n1 i1 : Nat) (a1 : Int32) (ls : Array Slot), i1 + n1 = 16 ∧ lp (sL_summed_4 t) n1 i1 a1 = F1 ∧ lv_has ls 5 [(2, .int (nI i1)), (1, .int a1), (0, .int t)] ∧ (s.heap = H1 ∧ [] = l1) ∧ g1 = F0 m 4 ls []) (fun hj => hj _ _ _ ⟨16, 0, 0, ls, (by omega), hF1.symm, lv_sub hl [0, 1, 2] rfl, ⟨rfl, rfl⟩, rfl⟩) ?_
  rintro H1 l1 g1 ⟨n1, i1, a1, ls, hi1, hf1, hl, ⟨rfl, rfl⟩, rfl⟩
  revert i1 a1 ls
  induction n1 with
  | zero =>
    intro i1 a1 ls hi1 hf1 hl
    obtain rfl : 16 = i1 := by omega
    have hf1 : F1 = a1 := hf1.symm
    subst hf1
    refine lv_iload_n hx hb dL_summed_4 rfl (lv_at hl 0 rfl) ?_
    refine lv_bipush (v := 16) hx hb dL_summed_5 (by decide) ?_
    refine lv_icmp_ge (tgt := 74) hx hb dL_summed_7 (by decide) (fun c_1 => ?_) (fun c_1 => ?_)
    · refine lv_iload_n hx hb dL_summed_74 rfl (lv_at hl 1 rfl) ?_
      exact W.iret (v := F1) hx hb hr (fun t9 ht hW => ⟨F1, rfl, (by first | ((rw [fL_summed]); (try rw [← hF1]); first | done | rfl) | rfl), ht⟩) (fun q h => nomatch h) dL_summed_75
    · exact absurd (nI_le (a := 16) (b := 16) (by omega) (by omega)) c_1
  | succ n1 ih1 =>
    intro i1 a1 ls hi1 hf1 hl
    refine lv_iload_n hx hb dL_summed_4 rfl (lv_at hl 0 rfl) ?_
    refine lv_bipush (v := 16) hx hb dL_summed_5 (by decide) ?_
    refine lv_icmp_ge (tgt := 74) hx hb dL_summed_7 (by decide) (fun c_2 => ?_) (fun c_2 => ?_)
    · exact absurd c_2 (nI_ge (a := i1) (b := 16) (by omega) (by omega))
    · refine lv_iload_n hx hb dL_summed_10 rfl (lv_at hl 2 rfl) ?_
      refine lv_iload_n hx hb dL_summed_11 rfl (lv_at hl 0 rfl) ?_
      refine lv_ishr hx hb dL_summed_12 ?_
      refine lv_iconst (v := 1) hx hb dL_summed_13 (by decide) ?_
      refine lv_iand hx hb dL_summed_14 ?_
      refine lv_iconst (v := 1) hx hb dL_summed_15 (by decide) ?_
      refine vz_cut (fun H1 l1 g1 => ∃ (x1_0 : Int32) (ls : Array Slot), x1_0 = (if ((t >>> ((nI i1) &&& 31)) &&& 1) = 1 then 65535 else 0 : Int32) ∧ lv_has ls 5 [(2, .int (nI i1)), (1, .int a1), (0, .int t)] ∧ (s.heap = H1 ∧ [] = l1) ∧ g1 = F0 m 25 ls [.int x1_0]) (fun hj1 => ?_) ?_
      · refine lv_icmp_ne (tgt := 24) hx hb dL_summed_16 (by decide) (fun c_3 => ?_) (fun c_3 => ?_)
        · refine lv_iconst (v := 0) hx hb dL_summed_24 (by decide) ?_
          exact hj1 _ _ _ ⟨0, ls, (by (rw [if_neg c_3]); first | done | rfl), lv_sub hl [0, 1, 2] rfl, ⟨rfl, rfl⟩, rfl⟩
        · refine lv_ldc (v := 65535) hx hb hown (hts (.constant RL 33 (65535)) (List.mem_of_getElem? (i := 1) rfl)) dL_summed_19 ?_
          refine lv_goto (tgt := 25) hx hb dL_summed_21 (by decide) ?_
          exact hj1 _ _ _ ⟨65535, ls, (by (rw [if_pos c_3]); first | done | rfl), lv_sub hl [0, 1, 2] rfl, ⟨rfl, rfl⟩, rfl⟩
      rintro H1 l1 g1 ⟨x1_0, ls, ex1_0, hl, ⟨rfl, rfl⟩, rfl⟩
      subst x1_0
      refine lv_istore_n (lv' := [(3, .int (if ((t >>> ((nI i1) &&& 31)) &&& 1) = 1 then 65535 else 0 : Int32)), (2, .int (nI i1)), (1, .int a1), (0, .int t)]) hx hb dL_summed_25 rfl hl (by decide) rfl (fun ls hl => ?_)
      refine lv_iconst (v := 0) hx hb dL_summed_26 (by decide) ?_
      refine lv_istore (lv' := [(4, .int 0), (3, .int (if ((t >>> ((nI i1) &&& 31)) &&& 1) = 1 then 65535 else 0 : Int32)), (2, .int (nI i1)), (1, .int a1), (0, .int t)]) hx hb dL_summed_27 hl (by decide) rfl (fun ls hl => ?_)
      obtain ⟨F2, hF2⟩ : ∃ z9, z9 = (lp (sL_summed_29 i1) 4 0 (if ((t >>> ((nI i1) &&& 31)) &&& 1) = 1 then 65535 else 0 : Int32)) := ⟨_, rfl⟩
      refine vz_cut (fun H1 l1 g1 => ∃ (n2 i2 : Nat) (a2 : Int32) (ls : Array Slot), i2 + n2 = 4 ∧ lp (sL_summed_29 i1) n2 i2 a2 = F2 ∧ lv_has ls 5 [(4, .int (nI i2)), (3, .int a2), (2, .int (nI i1)), (1, .int a1), (0, .int t)] ∧ (s.heap = H1 ∧ [] = l1) ∧ g1 = F0 m 29 ls []) (fun hj => hj _ _ _ ⟨4, 0, (if ((t >>> ((nI i1) &&& 31)) &&& 1) = 1 then 65535 else 0 : Int32), ls, (by omega), hF2.symm, lv_sub hl [0, 1, 2, 3, 4] rfl, ⟨rfl, rfl⟩, rfl⟩) ?_
      rintro H1 l1 g1 ⟨n2, i2, a2, ls, hi2, hf2, hl, ⟨rfl, rfl⟩, rfl⟩
      revert i2 a2 ls
      induction n2 with
      | zero =>
        intro i2 a2 ls hi2 hf2 hl
        obtain rfl : 4 = i2 := by omega
        have hf2 : F2 = a2 := hf2.symm
        subst hf2
        refine lv_iload hx hb dL_summed_29 (lv_at hl 0 rfl) ?_
        refine lv_iconst (v := 4) hx hb dL_summed_31 (by decide) ?_
        refine lv_icmp_ge (tgt := 64) hx hb dL_summed_32 (by decide) (fun c_4 => ?_) (fun c_4 => ?_)
        · refine lv_iload_n hx hb dL_summed_64 rfl (lv_at hl 3 rfl) ?_
          refine lv_iload_n hx hb dL_summed_65 rfl (lv_at hl 1 rfl) ?_
          refine lv_ixor hx hb dL_summed_66 ?_
          refine lv_istore_n (lv' := [(1, .int (a1 ^^^ F2)), (4, .int (nI 4)), (3, .int F2), (2, .int (nI i1)), (0, .int t)]) hx hb dL_summed_67 rfl hl (by decide) rfl (fun ls hl => ?_)
          refine lv_iinc (v := (nI (i1 + 1))) (lv' := [(2, .int (nI (i1 + 1))), (1, .int (a1 ^^^ F2)), (4, .int (nI 4)), (3, .int F2), (0, .int t)]) hx hb dL_summed_68 hl (k := 3) rfl (by first | exact nI_add _ _ | rfl) (by decide) rfl (fun ls hl => ?_)
          refine lv_goto (tgt := 4) hx hb dL_summed_71 (by decide) ?_
          exact ih1 (i1 + 1) (a1 ^^^ F2) ls (by omega) ((congrArg (lp (sL_summed_4 t) n1 (i1 + 1)) (show (a1 ^^^ F2) = (sL_summed_4 t) i1 a1 from by first | ((rw [sL_summed_4]); (try rw [← hF2]); first | done | rfl) | rfl)).trans hf1) (lv_sub hl [0, 1, 4] rfl)
        · exact absurd (nI_le (a := 4) (b := 4) (by omega) (by omega)) c_4
      | succ n2 ih2 =>
        intro i2 a2 ls hi2 hf2 hl
        refine lv_iload hx hb dL_summed_29 (lv_at hl 0 rfl) ?_
        refine lv_iconst (v := 4) hx hb dL_summed_31 (by decide) ?_
        refine lv_icmp_ge (tgt := 64) hx hb dL_summed_32 (by decide) (fun c_5 => ?_) (fun c_5 => ?_)
        · exact absurd c_5 (nI_ge (a := i2) (b := 4) (by omega) (by omega))
        · refine lv_iload_n hx hb dL_summed_35 rfl (lv_at hl 1 rfl) ?_
          refine lv_iload_n hx hb dL_summed_36 rfl (lv_at hl 2 rfl) ?_
          refine lv_iload hx hb dL_summed_37 (lv_at hl 0 rfl) ?_
          refine lv_ishr hx hb dL_summed_39 ?_
          refine lv_iconst (v := 1) hx hb dL_summed_40 (by decide) ?_
          refine lv_iand hx hb dL_summed_41 ?_
          refine lv_iconst (v := 1) hx hb dL_summed_42 (by decide) ?_
          refine vz_cut (fun H1 l1 g1 => ∃ (x2_0 : Int32) (ls : Array Slot), x2_0 = (if (((nI i1) >>> ((nI i2) &&& 31)) &&& 1) = 1 then (VT i2) else 65535 : Int32) ∧ lv_has ls 5 [(4, .int (nI i2)), (3, .int a2), (2, .int (nI i1)), (1, .int a1), (0, .int t)] ∧ (s.heap = H1 ∧ [] = l1) ∧ g1 = F0 m 56 ls [.int x2_0, .int a2]) (fun hj2 => ?_) ?_
          · refine lv_icmp_ne (tgt := 54) hx hb dL_summed_43 (by decide) (fun c_6 => ?_) (fun c_6 => ?_)
            · refine lv_ldc (v := 65535) hx hb hown (hts (.constant RL 33 (65535)) (List.mem_of_getElem? (i := 1) rfl)) dL_summed_54 ?_
              exact hj2 _ _ _ ⟨65535, ls, (by (rw [if_neg c_6]); first | done | rfl), lv_sub hl [0, 1, 2, 3, 4] rfl, ⟨rfl, rfl⟩, rfl⟩
            · refine lv_iload hx hb dL_summed_46 (lv_at hl 0 rfl) ?_
              refine vp_callSi (va_Run.run (va_runS (As := [.int (nI i2)]) (rest := [.int a2]) ⟨hx, hb, hml, hown, hts⟩ (cv_L_variable l i2 (by omega)) (va_cwS 1 hts gL_summed_L_variable rfl rfl rfl (by decide +kernel) ⟨Nat.le_of_ble_eq_true rfl, Nat.le_of_ble_eq_true rfl⟩) ⟨fun _ _ _ _ z => z, fun _ _ _ => ⟨rfl, trivial⟩⟩ rfl rfl hl.1 rfl (lv_room (Nat.le_of_ble_eq_true rfl)) dL_summed_48 ⟨(Nat.zero_le _), (Nat.zero_le _)⟩)) (fun r hr => ?_)
              subst r
              refine lv_goto (tgt := 56) hx hb dL_summed_51 (by decide) ?_
              exact hj2 _ _ _ ⟨(VT i2), ls, (by (rw [if_pos c_6]); first | done | rfl), lv_sub hl [0, 1, 2, 3, 4] rfl, ⟨rfl, rfl⟩, rfl⟩
          rintro H1 l1 g1 ⟨x2_0, ls, ex2_0, hl, ⟨rfl, rfl⟩, rfl⟩
          subst x2_0
          refine lv_iand hx hb dL_summed_56 ?_
          refine lv_istore_n (lv' := [(3, .int (a2 &&& (if (((nI i1) >>> ((nI i2) &&& 31)) &&& 1) = 1 then (VT i2) else 65535 : Int32))), (4, .int (nI i2)), (2, .int (nI i1)), (1, .int a1), (0, .int t)]) hx hb dL_summed_57 rfl hl (by decide) rfl (fun ls hl => ?_)
          refine lv_iinc (v := (nI (i2 + 1))) (lv' := [(4, .int (nI (i2 + 1))), (3, .int (a2 &&& (if (((nI i1) >>> ((nI i2) &&& 31)) &&& 1) = 1 then (VT i2) else 65535 : Int32))), (2, .int (nI i1)), (1, .int a1), (0, .int t)]) hx hb dL_summed_58 hl (k := 1) rfl (by first | exact nI_add _ _ | rfl) (by decide) rfl (fun ls hl => ?_)
          refine lv_goto (tgt := 29) hx hb dL_summed_61 (by decide) ?_
          exact ih2 (i2 + 1) (a2 &&& (if (((nI i1) >>> ((nI i2) &&& 31)) &&& 1) = 1 then (VT i2) else 65535 : Int32)) ls (by omega) ((congrArg (lp (sL_summed_29 i1) n2 (i2 + 1)) (show (a2 &&& (if (((nI i1) >>> ((nI i2) &&& 31)) &&& 1) = 1 then (VT i2) else 65535 : Int32)) = (sL_summed_29 i1) i2 a2 from by first | ((rw [sL_summed_29]); first | done | rfl) | rfl)).trans hf2) (lv_sub hl [0, 1, 2, 3, 4] rfl)
