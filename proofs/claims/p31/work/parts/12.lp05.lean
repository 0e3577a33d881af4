def sL_degree_4 (t : Int32) (i1 : Nat) (a1 : Int32) : Int32 := (if ((t >>> ((nI i1) &&& 31)) &&& 1) = 1 then (if (fL_bits (nI i1)) ≤ a1 then a1 else (fL_bits (nI i1))) else a1 : Int32)
def fL_degree (t : Int32) : Int32 := (lp (sL_degree_4 t) 16 0 0)
set_option maxHeartbeats 4000000 in
set_option maxRecDepth 100000 in
theorem c_L_degree (l : Launch) (t : Int32) : Met l yL_degree wsL_degree ({ frames := 1, cells := 0, slots := 0, locals := 22 }) (va_Pc [.int t] (fun _ => True)) (vp_Si (fun r => r = (fL_degree t))) 0 0 (fun _ => False) := by
  refine Met.ofW (cc := cL_degree) (maxL := 3) (ret := (some .int)) (by decide) rfl ?_
  intro p e s m args below meth c s₁ B hml hv
  obtain ⟨rfl, -⟩ := hv
  have hx := B.exec
  have hb := B.bytes
  have hr := B.returns
  have hts := atoms_spec (ws := wsL_degree) B.pre
  have hown : s.vm.findClass RL = some m.cls := findClass_of_methodNamed B.named
  have hlocks := B.notSynchronized
  have hS : va_S (fun _ => False) s.heap s.heap [] := va_S.rf
  have hl := lv_entry ([.int t]) (n := 3) (Nat.le_of_ble_eq_true rfl)
  rw [lg_entry_eq]
  generalize (lg_sl ([.int t]) ++ List.replicate (3 - (lg_sl ([.int t])).length) Slot.unset).toArray = ls at hl ⊢
  have hl : lv_has ls 3 [(0, .int t)] := hl
  refine lv_iconst (v := 0) hx hb dL_degree_0 (by decide) ?_
  refine lv_istore_n (lv' := [(1, .int 0), (0, .int t)]) hx hb dL_degree_1 rfl hl (by decide) rfl (fun ls hl => ?_)
  refine lv_iconst (v := 0) hx hb dL_degree_2 (by decide) ?_
  refine lv_istore_n (lv' := [(2, .int 0), (1, .int 0), (0, .int t)]) hx hb dL_degree_3 rfl hl (by decide) rfl (fun ls hl => ?_)
  obtain ⟨F1, hF1⟩ : ∃ z9, z9 = (lp (sL_degree_4 t) 16 0 0) := ⟨_, rfl⟩
  refine vz_cut (fun H1 l1 g1 => ∃ (n1 i1 : Nat) (a1 : Int32) (ls : Array Slot), i1 + n1 = 16 ∧ lp (sL_degree_4 t) n1 i1 a1 = F1 ∧ lv_has ls 3 [(2, .int (nI i1)), (1, .int a1), (0, .int t)] ∧ (s.heap = H1 ∧ [] = l1) ∧ g1 = F0 m 4 ls []) (fun hj => hj _ _ _ ⟨16, 0, 0, ls, (by omega), hF1.symm, lv_sub hl [0, 1, 2] rfl, ⟨rfl, rfl⟩, rfl⟩) ?_
  rintro H1 l1 g1 ⟨n1, i1, a1, ls, hi1, hf1, hl, ⟨rfl, rfl⟩, rfl⟩
  revert i1 a1 ls
  induction n1 with
  | zero =>
    intro i1 a1 ls hi1 hf1 hl
    obtain rfl : 16 = i1 := by omega
    have hf1 : F1 = a1 := hf1.symm
    subst hf1
    refine lv_iload_n hx hb dL_degree_4 rfl (lv_at hl 0 rfl) ?_
    refine lv_bipush (v := 16) hx hb dL_degree_5 (by decide) ?_
    refine lv_icmp_ge (tgt := 42) hx hb dL_degree_7 (by decide) (fun c_1 => ?_) (fun c_1 => ?_)
    · refine lv_iload_n hx hb dL_degree_42 rfl (lv_at hl 1 rfl) ?_
      exact W.iret (v := F1) hx hb hr (fun t9 ht hW => ⟨F1, rfl, (by first | ((rw [fL_degree]); (try rw [← hF1]); first | done | rfl) | rfl), ht⟩) (fun q h => nomatch h) dL_degree_43
    · exact absurd (nI_le (a := 16) (b := 16) (by omega) (by omega)) c_1
  | succ n1 ih1 =>
    intro i1 a1 ls hi1 hf1 hl
    refine lv_iload_n hx hb dL_degree_4 rfl (lv_at hl 0 rfl) ?_
    refine lv_bipush (v := 16) hx hb dL_degree_5 (by decide) ?_
    refine lv_icmp_ge (tgt := 42) hx hb dL_degree_7 (by decide) (fun c_2 => ?_) (fun c_2 => ?_)
    · exact absurd c_2 (nI_ge (a := i1) (b := 16) (by omega) (by omega))
    · refine lv_iload_n hx hb dL_degree_10 rfl (lv_at hl 2 rfl) ?_
      refine lv_iload_n hx hb dL_degree_11 rfl (lv_at hl 0 rfl) ?_
      refine lv_ishr hx hb dL_degree_12 ?_
      refine lv_iconst (v := 1) hx hb dL_degree_13 (by decide) ?_
      refine lv_iand hx hb dL_degree_14 ?_
      refine lv_iconst (v := 1) hx hb dL_degree_15 (by decide) ?_
      refine vz_cut (fun H1 l1 g1 => ∃ (x1_0 : Int32) (ls : Array Slot), x1_0 = (if ((t >>> ((nI i1) &&& 31)) &&& 1) = 1 then (if (fL_bits (nI i1)) ≤ a1 then a1 else (fL_bits (nI i1))) else a1 : Int32) ∧ lv_has ls 3 [(2, .int (nI i1)), (1, .int a1), (0, .int t)] ∧ (s.heap = H1 ∧ [] = l1) ∧ g1 = F0 m 35 ls [.int x1_0]) (fun hj1 => ?_) ?_
      · refine lv_icmp_ne (tgt := 34) hx hb dL_degree_16 (by decide) (fun c_3 => ?_) (fun c_3 => ?_)
        · refine lv_iload_n hx hb dL_degree_34 rfl (lv_at hl 1 rfl) ?_
          exact hj1 _ _ _ ⟨a1, ls, (by (rw [if_neg c_3]); first | done | rfl), lv_sub hl [0, 1, 2] rfl, ⟨rfl, rfl⟩, rfl⟩
        · refine lv_iload_n hx hb dL_degree_19 rfl (lv_at hl 0 rfl) ?_
          refine vp_callSi (va_Run.run (va_runS (As := [.int (nI i1)]) (rest := []) ⟨hx, hb, hml, hown, hts⟩ (c_L_bits l (nI i1)) (va_cwS 1 hts gL_degree_L_bits rfl rfl rfl (by decide +kernel) ⟨Nat.le_of_ble_eq_true rfl, Nat.le_of_ble_eq_true rfl⟩) ⟨fun _ _ _ _ z => z, fun _ _ _ => ⟨rfl, trivial⟩⟩ rfl rfl hl.1 rfl (lv_room (Nat.le_of_ble_eq_true rfl)) dL_degree_20 ⟨(Nat.zero_le _), (Nat.zero_le _)⟩)) (fun r hr => ?_)
          subst r
          refine lv_iload_n hx hb dL_degree_23 rfl (lv_at hl 1 rfl) ?_
          refine lv_icmp_le (tgt := 34) hx hb dL_degree_24 (by decide) (fun c_4 => ?_) (fun c_4 => ?_)
          · refine lv_iload_n hx hb dL_degree_34 rfl (lv_at hl 1 rfl) ?_
            exact hj1 _ _ _ ⟨a1, ls, (by (rw [if_pos c_3, if_pos c_4]); first | done | rfl), lv_sub hl [0, 1, 2] rfl, ⟨rfl, rfl⟩, rfl⟩
          · refine lv_iload_n hx hb dL_degree_27 rfl (lv_at hl 0 rfl) ?_
            refine vp_callSi (va_Run.run (va_runS (As := [.int (nI i1)]) (rest := []) ⟨hx, hb, hml, hown, hts⟩ (c_L_bits l (nI i1)) (va_cwS 1 hts gL_degree_L_bits rfl rfl rfl (by decide +kernel) ⟨Nat.le_of_ble_eq_true rfl, Nat.le_of_ble_eq_true rfl⟩) ⟨fun _ _ _ _ z => z, fun _ _ _ => ⟨rfl, trivial⟩⟩ rfl rfl hl.1 rfl (lv_room (Nat.le_of_ble_eq_true rfl)) dL_degree_28 ⟨(Nat.zero_le _), (Nat.zero_le _)⟩)) (fun r hr => ?_)
            subst r
            refine lv_goto (tgt := 35) hx hb dL_degree_31 (by decide) ?_
            exact hj1 _ _ _ ⟨(fL_bits (nI i1)), ls, (by (rw [if_pos c_3, if_neg c_4]); first | done | rfl), lv_sub hl [0, 1, 2] rfl, ⟨rfl, rfl⟩, rfl⟩
      rintro H1 l1 g1 ⟨x1_0, ls, ex1_0, hl, ⟨rfl, rfl⟩, rfl⟩
      subst x1_0
      refine lv_istore_n (lv' := [(1, .int (if ((t >>> ((nI i1) &&& 31)) &&& 1) = 1 then (if (fL_bits (nI i1)) ≤ a1 then a1 else (fL_bits (nI i1))) else a1 : Int32)), (2, .int (nI i1)), (0, .int t)]) hx hb dL_degree_35 rfl hl (by decide) rfl (fun ls hl => ?_)
      refine lv_iinc (v := (nI (i1 + 1))) (lv' := [(2, .int (nI (i1 + 1))), (1, .int (if ((t >>> ((nI i1) &&& 31)) &&& 1) = 1 then (if (fL_bits (nI i1)) ≤ a1 then a1 else (fL_bits (nI i1))) else a1 : Int32)), (0, .int t)]) hx hb dL_degree_36 hl (k := 1) rfl (by first | exact nI_add _ _ | rfl) (by decide) rfl (fun ls hl => ?_)
      refine lv_goto (tgt := 4) hx hb dL_degree_39 (by decide) ?_
      exact ih1 (i1 + 1) (if ((t >>> ((nI i1) &&& 31)) &&& 1) = 1 then (if (fL_bits (nI i1)) ≤ a1 then a1 else (fL_bits (nI i1))) else a1 : Int32) ls (by omega) ((congrArg (lp (sL_degree_4 t) n1 (i1 + 1)) (show (if ((t >>> ((nI i1) &&& 31)) &&& 1) = 1 then (if (fL_bits (nI i1)) ≤ a1 then a1 else (fL_bits (nI i1))) else a1 : Int32) = (sL_degree_4 t) i1 a1 from by first | ((rw [sL_degree_4]); first | done | rfl) | rfl)).trans hf1) (lv_sub hl [0, 1, 2] rfl)
