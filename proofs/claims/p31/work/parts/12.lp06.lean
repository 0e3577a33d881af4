def sL_selfDual_4 (t : Int32) (i1 : Nat) (a1 : Int32) : Int32 := (if a1 = 0 then 0 else (if ((t >>> ((nI i1) &&& 31)) &&& 1) = ((t >>> ((15 - (nI i1)) &&& 31)) &&& 1) then 0 else 1) : Int32)
def fL_selfDual (t : Int32) : Int32 := (lp (sL_selfDual_4 t) 8 0 1)
theorem bL_selfDual (t : Int32) (i : Nat) (a : Int32) (_ : a = 0 ∨ a = 1) : sL_selfDual_4 t i a = 0 ∨ sL_selfDual_4 t i a = 1 := by unfold sL_selfDual_4; split <;> first | exact Or.inl rfl | exact Or.inr rfl | (split <;> first | exact Or.inl rfl | exact Or.inr rfl | (split <;> first | exact Or.inl rfl | exact Or.inr rfl))
set_option maxHeartbeats 4000000 in
set_option maxRecDepth 100000 in
theorem c_L_selfDual (l : Launch) (t : Int32) : Met l yL_selfDual wsL_selfDual ({ frames := 0, cells := 0, slots := 0, locals := 0 }) (va_Pc [.int t] (fun _ => True)) (vp_Si (fun r => r = (fL_selfDual t))) 0 0 (fun _ => False) := by
  refine Met.ofW (cc := cL_selfDual) (maxL := 3) (ret := (some .boolean)) (by decide) rfl ?_
  intro p e s m args below meth c s₁ B hml hv
  obtain ⟨rfl, -⟩ := hv
  have hx := B.exec
  have hb := B.bytes
  have hr := B.returns
  have hts := atoms_spec (ws := wsL_selfDual) B.pre
  have hown : s.vm.findClass RL = some m.cls := findClass_of_methodNamed B.named
  have hlocks := B.notSynchronized
  have hS : va_S (fun _ => False) s.heap s.heap [] := va_S.rf
  have hl := lv_entry ([.int t]) (n := 3) (Nat.le_of_ble_eq_true rfl)
  rw [lg_entry_eq]
  generalize (lg_sl ([.int t]) ++ List.replicate (3 - (lg_sl ([.int t])).length) Slot.unset).toArray = ls at hl ⊢
  have hl : lv_has ls 3 [(0, .int t)] := hl
  refine lv_iconst (v := 1) hx hb dL_selfDual_0 (by decide) ?_
  refine lv_istore_n (lv' := [(1, .int 1), (0, .int t)]) hx hb dL_selfDual_1 rfl hl (by decide) rfl (fun ls hl => ?_)
  refine lv_iconst (v := 0) hx hb dL_selfDual_2 (by decide) ?_
  refine lv_istore_n (lv' := [(2, .int 0), (1, .int 1), (0, .int t)]) hx hb dL_selfDual_3 rfl hl (by decide) rfl (fun ls hl => ?_)
  obtain ⟨F1, hF1⟩ : ∃ z9, z9 = (lp (sL_selfDual_4 t) 8 0 1) := ⟨_, rfl⟩
  refine vz_cut (fun H1 l1 g1 => ∃ (n1 i1 : Nat) (a1 : Int32) (ls : Array Slot), i1 + n1 = 8 ∧ lp (sL_selfDual_4 t) n1 i1 a1 = F1 ∧ lv_has ls 3 [(2, .int (nI i1)), (1, .int a1), (0, .int t)] ∧ (s.heap = H1 ∧ [] = l1) ∧ g1 = F0 m 4 ls []) (fun hj => hj _ _ _ ⟨8, 0, 1, ls, (by omega), hF1.symm, lv_sub hl [0, 1, 2] rfl, ⟨rfl, rfl⟩, rfl⟩) ?_
  rintro H1 l1 g1 ⟨n1, i1, a1, ls, hi1, hf1, hl, ⟨rfl, rfl⟩, rfl⟩
  revert i1 a1 ls
  induction n1 with
  | zero =>
    intro i1 a1 ls hi1 hf1 hl
    obtain rfl : 8 = i1 := by omega
    have hf1 : F1 = a1 := hf1.symm
    subst hf1
    refine lv_iload_n hx hb dL_selfDual_4 rfl (lv_at hl 0 rfl) ?_
    refine lv_bipush (v := 8) hx hb dL_selfDual_5 (by decide) ?_
    refine lv_icmp_ge (tgt := 42) hx hb dL_selfDual_7 (by decide) (fun c_1 => ?_) (fun c_1 => ?_)
    · refine lv_iload_n hx hb dL_selfDual_42 rfl (lv_at hl 1 rfl) ?_
      exact W.zret (v := F1) hx hb hr (by rw [hF1]; exact nar_b (lp_b (bL_selfDual t) 8 0 1 (Or.inr rfl))) (fun t9 ht hW => ⟨F1, rfl, (by first | ((rw [fL_selfDual]); (try rw [← hF1]); first | done | rfl) | rfl), ht⟩) (fun q h => nomatch h) dL_selfDual_43
    · exact absurd (nI_le (a := 8) (b := 8) (by omega) (by omega)) c_1
  | succ n1 ih1 =>
    intro i1 a1 ls hi1 hf1 hl
    refine lv_iload_n hx hb dL_selfDual_4 rfl (lv_at hl 0 rfl) ?_
    refine lv_bipush (v := 8) hx hb dL_selfDual_5 (by decide) ?_
    refine lv_icmp_ge (tgt := 42) hx hb dL_selfDual_7 (by decide) (fun c_2 => ?_) (fun c_2 => ?_)
    · exact absurd c_2 (nI_ge (a := i1) (b := 8) (by omega) (by omega))
    · refine lv_iload_n hx hb dL_selfDual_10 rfl (lv_at hl 1 rfl) ?_
      refine vz_cut (fun H1 l1 g1 => ∃ (x1_0 : Int32) (ls : Array Slot), x1_0 = (if a1 = 0 then 0 else (if ((t >>> ((nI i1) &&& 31)) &&& 1) = ((t >>> ((15 - (nI i1)) &&& 31)) &&& 1) then 0 else 1) : Int32) ∧ lv_has ls 3 [(2, .int (nI i1)), (1, .int a1), (0, .int t)] ∧ (s.heap = H1 ∧ [] = l1) ∧ g1 = F0 m 35 ls [.int x1_0]) (fun hj1 => ?_) ?_
      · refine lv_if_eq (tgt := 34) hx hb dL_selfDual_11 (by decide) (fun c_3 => ?_) (fun c_3 => ?_)
        · refine lv_iconst (v := 0) hx hb dL_selfDual_34 (by decide) ?_
          exact hj1 _ _ _ ⟨0, ls, (by (rw [if_pos c_3]); first | done | rfl), lv_sub hl [0, 1, 2] rfl, ⟨rfl, rfl⟩, rfl⟩
        · refine lv_iload_n hx hb dL_selfDual_14 rfl (lv_at hl 2 rfl) ?_
          refine lv_iload_n hx hb dL_selfDual_15 rfl (lv_at hl 0 rfl) ?_
          refine lv_ishr hx hb dL_selfDual_16 ?_
          refine lv_iconst (v := 1) hx hb dL_selfDual_17 (by decide) ?_
          refine lv_iand hx hb dL_selfDual_18 ?_
          refine lv_iload_n hx hb dL_selfDual_19 rfl (lv_at hl 2 rfl) ?_
          refine lv_bipush (v := 15) hx hb dL_selfDual_20 (by decide) ?_
          refine lv_iload_n hx hb dL_selfDual_22 rfl (lv_at hl 0 rfl) ?_
          refine lv_isub hx hb dL_selfDual_23 ?_
          refine lv_ishr hx hb dL_selfDual_24 ?_
          refine lv_iconst (v := 1) hx hb dL_selfDual_25 (by decide) ?_
          refine lv_iand hx hb dL_selfDual_26 ?_
          refine lv_icmp_eq (tgt := 34) hx hb dL_selfDual_27 (by decide) (fun c_4 => ?_) (fun c_4 => ?_)
          · refine lv_iconst (v := 0) hx hb dL_selfDual_34 (by decide) ?_
            exact hj1 _ _ _ ⟨0, ls, (by (rw [if_neg c_3, if_pos c_4]); first | done | rfl), lv_sub hl [0, 1, 2] rfl, ⟨rfl, rfl⟩, rfl⟩
          · refine lv_iconst (v := 1) hx hb dL_selfDual_30 (by decide) ?_
            refine lv_goto (tgt := 35) hx hb dL_selfDual_31 (by decide) ?_
            exact hj1 _ _ _ ⟨1, ls, (by (rw [if_neg c_3, if_neg c_4]); first | done | rfl), lv_sub hl [0, 1, 2] rfl, ⟨rfl, rfl⟩, rfl⟩
      rintro H1 l1 g1 ⟨x1_0, ls, ex1_0, hl, ⟨rfl, rfl⟩, rfl⟩
      subst x1_0
      refine lv_istore_n (lv' := [(1, .int (if a1 = 0 then 0 else (if ((t >>> ((nI i1) &&& 31)) &&& 1) = ((t >>> ((15 - (nI i1)) &&& 31)) &&& 1) then 0 else 1) : Int32)), (2, .int (nI i1)), (0, .int t)]) hx hb dL_selfDual_35 rfl hl (by decide) rfl (fun ls hl => ?_)
      refine lv_iinc (v := (nI (i1 + 1))) (lv' := [(2, .int (nI (i1 + 1))), (1, .int (if a1 = 0 then 0 else (if ((t >>> ((nI i1) &&& 31)) &&& 1) = ((t >>> ((15 - (nI i1)) &&& 31)) &&& 1) then 0 else 1) : Int32)), (0, .int t)]) hx hb dL_selfDual_36 hl (k := 1) rfl (by first | exact nI_add _ _ | rfl) (by decide) rfl (fun ls hl => ?_)
      refine lv_goto (tgt := 4) hx hb dL_selfDual_39 (by decide) ?_
      exact ih1 (i1 + 1) (if a1 = 0 then 0 else (if ((t >>> ((nI i1) &&& 31)) &&& 1) = ((t >>> ((15 - (nI i1)) &&& 31)) &&& 1) then 0 else 1) : Int32) ls (by omega) ((congrArg (lp (sL_selfDual_4 t) n1 (i1 + 1)) (show (if a1 = 0 then 0 else (if ((t >>> ((nI i1) &&& 31)) &&& 1) = ((t >>> ((15 - (nI i1)) &&& 31)) &&& 1) then 0 else 1) : Int32) = (sL_selfDual_4 t) i1 a1 from by first | ((rw [sL_selfDual_4]); first | done | rfl) | rfl)).trans hf1) (lv_sub hl [0, 1, 2] rfl)
