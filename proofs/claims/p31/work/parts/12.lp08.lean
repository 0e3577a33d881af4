def sL_distance_16 (i1 : Nat) (i2 : Nat) (a2 : Int32) : Int32 := (a2 ^^^ (if (((nI i1) >>> ((nI i2) &&& 31)) &&& 1) = 1 then (VT i2) else 0 : Int32))
def sL_distance_5 (t : Int32) (i1 : Nat) (a1 : Int32) : Int32 := (if a1 ≤ (if (fL_bits (t ^^^ (lp (sL_distance_16 i1) 4 0 0))) ≤ 8 then (fL_bits (t ^^^ (lp (sL_distance_16 i1) 4 0 0))) else (16 - (fL_bits (t ^^^ (lp (sL_distance_16 i1) 4 0 0)))) : Int32) then a1 else (if (fL_bits (t ^^^ (lp (sL_distance_16 i1) 4 0 0))) ≤ 8 then (fL_bits (t ^^^ (lp (sL_distance_16 i1) 4 0 0))) else (16 - (fL_bits (t ^^^ (lp (sL_distance_16 i1) 4 0 0)))) : Int32) : Int32)
def fL_distance (t : Int32) : Int32 := (lp (sL_distance_5 t) 16 0 16)
set_option maxHeartbeats 4000000 in
set_option maxRecDepth 100000 in
theorem c_L_distance (l : Launch) (t : Int32) : Met l yL_distance wsL_distance ({ frames := 1, cells := 0, slots := 0, locals := 22 }) (va_Pc [.int t] (fun _ => True)) (vp_Si (fun r => r = (fL_distance t))) 0 0 (fun _ => False) := by
  refine Met.ofW (cc := cL_distance) (maxL := 5) (ret := (some .int)) (by decide) rfl ?_
  intro p e s m args below meth c s₁ B hml hv
  obtain ⟨rfl, -⟩ := hv
  have hx := B.exec
  have hb := B.bytes
  have hr := B.returns
  have hts := atoms_spec (ws := wsL_distance) B.pre
  have hown : s.vm.findClass RL = some m.cls := findClass_of_methodNamed B.named
  have hlocks := B.notSynchronized
  have hS : va_S (fun _ => False) s.heap s.heap [] := va_S.rf
  have hl := lv_entry ([.int t]) (n := 5) (Nat.le_of_ble_eq_true rfl)
  rw [lg_entry_eq]
  generalize (lg_sl ([.int t]) ++ List.replicate (5 - (lg_sl ([.int t])).length) Slot.unset).toArray = ls at hl ⊢
  have hl : lv_has ls 5 [(0, .int t)] := hl
  refine lv_bipush (v := 16) hx hb dL_distance_0 (by decide) ?_
  refine lv_istore_n (lv' := [(1, .int 16), (0, .int t)]) hx hb dL_distance_2 rfl hl (by decide) rfl (fun ls hl => ?_)
  refine lv_iconst (v := 0) hx hb dL_distance_3 (by decide) ?_
  refine lv_istore_n (lv' := [(2, .int 0), (1, .int 16), (0, .int t)]) hx hb dL_distance_4 rfl hl (by decide) rfl (fun ls hl => ?_)
  obtain ⟨F1, hF1⟩ : ∃ z9, z9 = (lp (sL_distance_5 t) 16 0 16) := ⟨_, rfl⟩
  refine vz_cut (fun H1 l1 g1 => ∃ (n1 i1 : Nat) (a1 : Int32) (ls : Array Slot), i1 + n1 = 16 ∧ lp (sL_distance_5 t) n1 i1 a1 = F1 ∧ lv_has ls 5 [(2, .int (nI i1)), (1, .int a1), (0, .int t)] ∧ (s.heap = H1 ∧ [] = l1) ∧ g1 = F0 m 5 ls []) (fun hj => hj _ _ _ ⟨16, 0, 16, ls, (by omega), hF1.symm, lv_sub hl [0, 1, 2] rfl, ⟨rfl, rfl⟩, rfl⟩) ?_
  rintro H1 l1 g1 ⟨n1, i1, a1, ls, hi1, hf1, hl, ⟨rfl, rfl⟩, rfl⟩
  revert i1 a1 ls
  induction n1 with
  | zero =>
    intro i1 a1 ls hi1 hf1 hl
    obtain rfl : 16 = i1 := by omega
    have hf1 : F1 = a1 := hf1.symm
    subst hf1
    refine lv_iload_n hx hb dL_distance_5 rfl (lv_at hl 0 rfl) ?_
    refine lv_bipush (v := 16) hx hb dL_distance_6 (by decide) ?_
    refine lv_icmp_ge (tgt := 96) hx hb dL_distance_8 (by decide) (fun c_1 => ?_) (fun c_1 => ?_)
    · refine lv_iload_n hx hb dL_distance_96 rfl (lv_at hl 1 rfl) ?_
      exact W.iret (v := F1) hx hb hr (fun t9 ht hW => ⟨F1, rfl, (by first | ((rw [fL_distance]); (try rw [← hF1]); first | done | rfl) | rfl), ht⟩) (fun q h => nomatch h) dL_distance_97
    · exact absurd (nI_le (a := 16) (b := 16) (by omega) (by omega)) c_1
  | succ n1 ih1 =>
    intro i1 a1 ls hi1 hf1 hl
    refine lv_iload_n hx hb dL_distance_5 rfl (lv_at hl 0 rfl) ?_
    refine lv_bipush (v := 16) hx hb dL_distance_6 (by decide) ?_
    refine lv_icmp_ge (tgt := 96) hx hb dL_distance_8 (by decide) (fun c_2 => ?_) (fun c_2 => ?_)
    · exact absurd c_2 (nI_ge (a := i1) (b := 16) (by omega) (by omega))
    · refine lv_iconst (v := 0) hx hb dL_distance_11 (by decide) ?_
      refine lv_istore_n (lv' := [(3, .int 0), (2, .int (nI i1)), (1, .int a1), (0, .int t)]) hx hb dL_distance_12 rfl hl (by decide) rfl (fun ls hl => ?_)
      refine lv_iconst (v := 0) hx hb dL_distance_13 (by decide) ?_
      refine lv_istore (lv' := [(4, .int 0), (3, .int 0), (2, .int (nI i1)), (1, .int a1), (0, .int t)]) hx hb dL_distance_14 hl (by decide) rfl (fun ls hl => ?_)
      obtain ⟨F2, hF2⟩ : ∃ z9, z9 = (lp (sL_distance_16 i1) 4 0 0) := ⟨_, rfl⟩
      refine vz_cut (fun H1 l1 g1 => ∃ (n2 i2 : Nat) (a2 : Int32) (ls : Array Slot), i2 + n2 = 4 ∧ lp (sL_distance_16 i1) n2 i2 a2 = F2 ∧ lv_has ls 5 [(4, .int (nI i2)), (3, .int a2), (2, .int (nI i1)), (1, .int a1), (0, .int t)] ∧ (s.heap = H1 ∧ [] = l1) ∧ g1 = F0 m 16 ls []) (fun hj => hj _ _ _ ⟨4, 0, 0, ls, (by omega), hF2.symm, lv_sub hl [0, 1, 2, 3, 4] rfl, ⟨rfl, rfl⟩, rfl⟩) ?_
      rintro H1 l1 g1 ⟨n2, i2, a2, ls, hi2, hf2, hl, ⟨rfl, rfl⟩, rfl⟩
      revert i2 a2 ls
      induction n2 with
      | zero =>
        intro i2 a2 ls hi2 hf2 hl
        obtain rfl : 4 = i2 := by omega
        have hf2 : F2 = a2 := hf2.symm
        subst hf2
        refine lv_iload hx hb dL_distance_16 (lv_at hl 0 rfl) ?_
        refine lv_iconst (v := 4) hx hb dL_distance_18 (by decide) ?_
        refine lv_icmp_ge (tgt := 50) hx hb dL_distance_19 (by decide) (fun c_3 => ?_) (fun c_3 => ?_)
        · refine lv_iload_n hx hb dL_distance_50 rfl (lv_at hl 4 rfl) ?_
          refine lv_iload_n hx hb dL_distance_51 rfl (lv_at hl 1 rfl) ?_
          refine lv_ixor hx hb dL_distance_52 ?_
          refine vp_callSi (va_Run.run (va_runS (As := [.int (t ^^^ F2)]) (rest := []) ⟨hx, hb, hml, hown, hts⟩ (c_L_bits l (t ^^^ F2)) (va_cwS 1 hts gL_distance_L_bits rfl rfl rfl (by decide +kernel) ⟨Nat.le_of_ble_eq_true rfl, Nat.le_of_ble_eq_true rfl⟩) ⟨fun _ _ _ _ z => z, fun _ _ _ => ⟨rfl, trivial⟩⟩ rfl rfl hl.1 rfl (lv_room (Nat.le_of_ble_eq_true rfl)) dL_distance_53 ⟨(Nat.zero_le _), (Nat.zero_le _)⟩)) (fun r hr => ?_)
          subst r
          refine lv_istore (lv' := [(4, .int (fL_bits (t ^^^ F2))), (3, .int F2), (2, .int (nI i1)), (1, .int a1), (0, .int t)]) hx hb dL_distance_56 hl (by decide) rfl (fun ls hl => ?_)
          refine lv_iload hx hb dL_distance_58 (lv_at hl 0 rfl) ?_
          refine lv_bipush (v := 8) hx hb dL_distance_60 (by decide) ?_
          refine vz_cut (fun H1 l1 g1 => ∃ (x1_0 : Int32) (ls : Array Slot), x1_0 = (if (fL_bits (t ^^^ F2)) ≤ 8 then (fL_bits (t ^^^ F2)) else (16 - (fL_bits (t ^^^ F2))) : Int32) ∧ lv_has ls 5 [(4, .int (fL_bits (t ^^^ F2))), (3, .int F2), (2, .int (nI i1)), (1, .int a1), (0, .int t)] ∧ (s.heap = H1 ∧ [] = l1) ∧ g1 = F0 m 75 ls [.int x1_0]) (fun hj1 => ?_) ?_
          · refine lv_icmp_le (tgt := 73) hx hb dL_distance_62 (by decide) (fun c_4 => ?_) (fun c_4 => ?_)
            · refine lv_iload hx hb dL_distance_73 (lv_at hl 0 rfl) ?_
              exact hj1 _ _ _ ⟨(fL_bits (t ^^^ F2)), ls, (by (rw [if_pos c_4]); first | done | rfl), lv_sub hl [0, 1, 2, 3, 4] rfl, ⟨rfl, rfl⟩, rfl⟩
            · refine lv_bipush (v := 16) hx hb dL_distance_65 (by decide) ?_
              refine lv_iload hx hb dL_distance_67 (lv_at hl 0 rfl) ?_
              refine lv_isub hx hb dL_distance_69 ?_
              refine lv_goto (tgt := 75) hx hb dL_distance_70 (by decide) ?_
              exact hj1 _ _ _ ⟨(16 - (fL_bits (t ^^^ F2))), ls, (by (rw [if_neg c_4]); first | done | rfl), lv_sub hl [0, 1, 2, 3, 4] rfl, ⟨rfl, rfl⟩, rfl⟩
          rintro H1 l1 g1 ⟨x1_0, ls, ex1_0, hl, ⟨rfl, rfl⟩, rfl⟩
          subst x1_0
          refine lv_istore (lv' := [(4, .int (if (fL_bits (t ^^^ F2)) ≤ 8 then (fL_bits (t ^^^ F2)) else (16 - (fL_bits (t ^^^ F2))) : Int32)), (3, .int F2), (2, .int (nI i1)), (1, .int a1), (0, .int t)]) hx hb dL_distance_75 hl (by decide) rfl (fun ls hl => ?_)
          refine lv_iload hx hb dL_distance_77 (lv_at hl 0 rfl) ?_
          refine lv_iload_n hx hb dL_distance_79 rfl (lv_at hl 3 rfl) ?_
          refine vz_cut (fun H1 l1 g1 => ∃ (x2_0 : Int32) (ls : Array Slot), x2_0 = (if a1 ≤ (if (fL_bits (t ^^^ F2)) ≤ 8 then (fL_bits (t ^^^ F2)) else (16 - (fL_bits (t ^^^ F2))) : Int32) then a1 else (if (fL_bits (t ^^^ F2)) ≤ 8 then (fL_bits (t ^^^ F2)) else (16 - (fL_bits (t ^^^ F2))) : Int32) : Int32) ∧ lv_has ls 5 [(4, .int (if (fL_bits (t ^^^ F2)) ≤ 8 then (fL_bits (t ^^^ F2)) else (16 - (fL_bits (t ^^^ F2))) : Int32)), (3, .int F2), (2, .int (nI i1)), (1, .int a1), (0, .int t)] ∧ (s.heap = H1 ∧ [] = l1) ∧ g1 = F0 m 89 ls [.int x2_0]) (fun hj2 => ?_) ?_
          · refine lv_icmp_ge (tgt := 88) hx hb dL_distance_80 (by decide) (fun c_5 => ?_) (fun c_5 => ?_)
            · refine lv_iload_n hx hb dL_distance_88 rfl (lv_at hl 3 rfl) ?_
              exact hj2 _ _ _ ⟨a1, ls, (by (rw [if_pos c_5]); first | done | rfl), lv_sub hl [0, 1, 2, 3, 4] rfl, ⟨rfl, rfl⟩, rfl⟩
            · refine lv_iload hx hb dL_distance_83 (lv_at hl 0 rfl) ?_
              refine lv_goto (tgt := 89) hx hb dL_distance_85 (by decide) ?_
              exact hj2 _ _ _ ⟨(if (fL_bits (t ^^^ F2)) ≤ 8 then (fL_bits (t ^^^ F2)) else (16 - (fL_bits (t ^^^ F2))) : Int32), ls, (by (rw [if_neg c_5]); first | done | rfl), lv_sub hl [0, 1, 2, 3, 4] rfl, ⟨rfl, rfl⟩, rfl⟩
          rintro H1 l1 g1 ⟨x2_0, ls, ex2_0, hl, ⟨rfl, rfl⟩, rfl⟩
          subst x2_0
          refine lv_istore_n (lv' := [(1, .int (if a1 ≤ (if (fL_bits (t ^^^ F2)) ≤ 8 then (fL_bits (t ^^^ F2)) else (16 - (fL_bits (t ^^^ F2))) : Int32) then a1 else (if (fL_bits (t ^^^ F2)) ≤ 8 then (fL_bits (t ^^^ F2)) else (16 - (fL_bits (t ^^^ F2))) : Int32) : Int32)), (4, .int (if (fL_bits (t ^^^ F2)) ≤ 8 then (fL_bits (t ^^^ F2)) else (16 - (fL_bits (t ^^^ F2))) : Int32)), (3, .int F2), (2, .int (nI i1)), (0, .int t)]) hx hb dL_distance_89 rfl hl (by decide) rfl (fun ls hl => ?_)
          refine lv_iinc (v := (nI (i1 + 1))) (lv' := [(2, .int (nI (i1 + 1))), (1, .int (if a1 ≤ (if (fL_bits (t ^^^ F2)) ≤ 8 then (fL_bits (t ^^^ F2)) else (16 - (fL_bits (t ^^^ F2))) : Int32) then a1 else (if (fL_bits (t ^^^ F2)) ≤ 8 then (fL_bits (t ^^^ F2)) else (16 - (fL_bits (t ^^^ F2))) : Int32) : Int32)), (4, .int (if (fL_bits (t ^^^ F2)) ≤ 8 then (fL_bits (t ^^^ F2)) else (16 - (fL_bits (t ^^^ F2))) : Int32)), (3, .int F2), (0, .int t)]) hx hb dL_distance_90 hl (k := 3) rfl (by first | exact nI_add _ _ | rfl) (by decide) rfl (fun ls hl => ?_)
          refine lv_goto (tgt := 5) hx hb dL_distance_93 (by decide) ?_
          exact ih1 (i1 + 1) (if a1 ≤ (if (fL_bits (t ^^^ F2)) ≤ 8 then (fL_bits (t ^^^ F2)) else (16 - (fL_bits (t ^^^ F2))) : Int32) then a1 else (if (fL_bits (t ^^^ F2)) ≤ 8 then (fL_bits (t ^^^ F2)) else (16 - (fL_bits (t ^^^ F2))) : Int32) : Int32) ls (by omega) ((congrArg (lp (sL_distance_5 t) n1 (i1 + 1)) (show (if a1 ≤ (if (fL_bits (t ^^^ F2)) ≤ 8 then (fL_bits (t ^^^ F2)) else (16 - (fL_bits (t ^^^ F2))) : Int32) then a1 else (if (fL_bits (t ^^^ F2)) ≤ 8 then (fL_bits (t ^^^ F2)) else (16 - (fL_bits (t ^^^ F2))) : Int32) : Int32) = (sL_distance_5 t) i1 a1 from by first | ((rw [sL_distance_5]); (try rw [← hF2]); first | done | rfl) | rfl)).trans hf1) (lv_sub hl [0, 1, 4] rfl)
        · exact absurd (nI_le (a := 4) (b := 4) (by omega) (by omega)) c_3
      | succ n2 ih2 =>
        intro i2 a2 ls hi2 hf2 hl
        refine lv_iload hx hb dL_distance_16 (lv_at hl 0 rfl) ?_
        refine lv_iconst (v := 4) hx hb dL_distance_18 (by decide) ?_
        refine lv_icmp_ge (tgt := 50) hx hb dL_distance_19 (by decide) (fun c_6 => ?_) (fun c_6 => ?_)
        · exact absurd c_6 (nI_ge (a := i2) (b := 4) (by omega) (by omega))
        · refine lv_iload_n hx hb dL_distance_22 rfl (lv_at hl 1 rfl) ?_
          refine lv_iload_n hx hb dL_distance_23 rfl (lv_at hl 2 rfl) ?_
          refine lv_iload hx hb dL_distance_24 (lv_at hl 0 rfl) ?_
          refine lv_ishr hx hb dL_distance_26 ?_
          refine lv_iconst (v := 1) hx hb dL_distance_27 (by decide) ?_
          refine lv_iand hx hb dL_distance_28 ?_
          refine lv_iconst (v := 1) hx hb dL_distance_29 (by decide) ?_
          refine vz_cut (fun H1 l1 g1 => ∃ (x3_0 : Int32) (ls : Array Slot), x3_0 = (if (((nI i1) >>> ((nI i2) &&& 31)) &&& 1) = 1 then (VT i2) else 0 : Int32) ∧ lv_has ls 5 [(4, .int (nI i2)), (3, .int a2), (2, .int (nI i1)), (1, .int a1), (0, .int t)] ∧ (s.heap = H1 ∧ [] = l1) ∧ g1 = F0 m 42 ls [.int x3_0, .int a2]) (fun hj3 => ?_) ?_
          · refine lv_icmp_ne (tgt := 41) hx hb dL_distance_30 (by decide) (fun c_7 => ?_) (fun c_7 => ?_)
            · refine lv_iconst (v := 0) hx hb dL_distance_41 (by decide) ?_
              exact hj3 _ _ _ ⟨0, ls, (by (rw [if_neg c_7]); first | done | rfl), lv_sub hl [0, 1, 2, 3, 4] rfl, ⟨rfl, rfl⟩, rfl⟩
            · refine lv_iload hx hb dL_distance_33 (lv_at hl 0 rfl) ?_
              refine vp_callSi (va_Run.run (va_runS (As := [.int (nI i2)]) (rest := [.int a2]) ⟨hx, hb, hml, hown, hts⟩ (cv_L_variable l i2 (by omega)) (va_cwS 1 hts gL_distance_L_variable rfl rfl rfl (by decide +kernel) ⟨Nat.le_of_ble_eq_true rfl, Nat.le_of_ble_eq_true rfl⟩) ⟨fun _ _ _ _ z => z, fun _ _ _ => ⟨rfl, trivial⟩⟩ rfl rfl hl.1 rfl (lv_room (Nat.le_of_ble_eq_true rfl)) dL_distance_35 ⟨(Nat.zero_le _), (Nat.zero_le _)⟩)) (fun r hr => ?_)
              subst r
              refine lv_goto (tgt := 42) hx hb dL_distance_38 (by decide) ?_
              exact hj3 _ _ _ ⟨(VT i2), ls, (by (rw [if_pos c_7]); first | done | rfl), lv_sub hl [0, 1, 2, 3, 4] rfl, ⟨rfl, rfl⟩, rfl⟩
          rintro H1 l1 g1 ⟨x3_0, ls, ex3_0, hl, ⟨rfl, rfl⟩, rfl⟩
          subst x3_0
          refine lv_ixor hx hb dL_distance_42 ?_
          refine lv_istore_n (lv' := [(3, .int (a2 ^^^ (if (((nI i1) >>> ((nI i2) &&& 31)) &&& 1) = 1 then (VT i2) else 0 : Int32))), (4, .int (nI i2)), (2, .int (nI i1)), (1, .int a1), (0, .int t)]) hx hb dL_distance_43 rfl hl (by decide) rfl (fun ls hl => ?_)
          refine lv_iinc (v := (nI (i2 + 1))) (lv' := [(4, .int (nI (i2 + 1))), (3, .int (a2 ^^^ (if (((nI i1) >>> ((nI i2) &&& 31)) &&& 1) = 1 then (VT i2) else 0 : Int32))), (2, .int (nI i1)), (1, .int a1), (0, .int t)]) hx hb dL_distance_44 hl (k := 1) rfl (by first | exact nI_add _ _ | rfl) (by decide) rfl (fun ls hl => ?_)
          refine lv_goto (tgt := 16) hx hb dL_distance_47 (by decide) ?_
          exact ih2 (i2 + 1) (a2 ^^^ (if (((nI i1) >>> ((nI i2) &&& 31)) &&& 1) = 1 then (VT i2) else 0 : Int32)) ls (by omega) ((congrArg (lp (sL_distance_16 i1) n2 (i2 + 1)) (show (a2 ^^^ (if (((nI i1) >>> ((nI i2) &&& 31)) &&& 1) = 1 then (VT i2) else 0 : Int32)) = (sL_distance_16 i1) i2 a2 from by first | ((rw [sL_distance_16]); first | done | rfl) | rfl)).trans hf2) (lv_sub hl [0, 1, 2, 3, 4] rfl)
