def fL_without (t : Int32) (g : Int32) : Int32 := (((((if (t &&& 1) = 1 then 1 else 0 : Int32) ||| (if ((t >>> ((15 : Int32) &&& 31)) &&& 1) = 0 then 2 else 0 : Int32)) ||| (if (fL_selfDual t) = 0 then 4 else 0 : Int32)) ||| (if (fL_monotone t) = 0 then 8 else 0 : Int32)) ||| (if g ≤ 1 then 0 else 16 : Int32))
set_option maxHeartbeats 4000000 in
set_option maxRecDepth 100000 in
theorem c_L_without (l : Launch) (t : Int32) (g : Int32) : Met l yL_without wsL_without ({ frames := 2, cells := 0, slots := 0, locals := 44 }) (va_Pc [.int t, .int g] (fun _ => True)) (vp_Si (fun r => r = (fL_without t g))) 0 0 (fun _ => False) := by
  refine Met.ofW (cc := cL_without) (maxL := 2) (ret := (some .int)) (by decide) rfl ?_
  intro p e s m args below meth c s₁ B hml hv
  obtain ⟨rfl, -⟩ := hv
  have hx := B.exec
  have hb := B.bytes
  have hr := B.returns
  have hts := atoms_spec (ws := wsL_without) B.pre
  have hown : s.vm.findClass RL = some m.cls := findClass_of_methodNamed B.named
  have hlocks := B.notSynchronized
  have hS : va_S (fun _ => False) s.heap s.heap [] := va_S.rf
  have hl := lv_entry ([.int t, .int g]) (n := 2) (Nat.le_of_ble_eq_true rfl)
  rw [lg_entry_eq]
  generalize (lg_sl ([.int t, .int g]) ++ List.replicate (2 - (lg_sl ([.int t, .int g])).length) Slot.unset).toArray = ls at hl ⊢
  have hl : lv_has ls 2 [(0, .int t), (1, .int g)] := hl
  refine lv_iload_n hx hb dL_without_0 rfl (lv_at hl 0 rfl) ?_
  refine lv_iconst (v := 1) hx hb dL_without_1 (by decide) ?_
  refine lv_iand hx hb dL_without_2 ?_
  refine lv_iconst (v := 1) hx hb dL_without_3 (by decide) ?_
  refine vz_cut (fun H1 l1 g1 => ∃ (x1_0 : Int32) (ls : Array Slot), x1_0 = (if (t &&& 1) = 1 then 1 else 0 : Int32) ∧ lv_has ls 2 [(0, .int t), (1, .int g)] ∧ (s.heap = H1 ∧ [] = l1) ∧ g1 = F0 m 12 ls [.int x1_0]) (fun hj1 => ?_) ?_
  · refine lv_icmp_ne (tgt := 11) hx hb dL_without_4 (by decide) (fun c_1 => ?_) (fun c_1 => ?_)
    · refine lv_iconst (v := 0) hx hb dL_without_11 (by decide) ?_
      exact hj1 _ _ _ ⟨0, ls, (by (rw [if_neg c_1]); first | done | rfl), lv_sub hl [0, 1] rfl, ⟨rfl, rfl⟩, rfl⟩
    · refine lv_iconst (v := 1) hx hb dL_without_7 (by decide) ?_
      refine lv_goto (tgt := 12) hx hb dL_without_8 (by decide) ?_
      exact hj1 _ _ _ ⟨1, ls, (by (rw [if_pos c_1]); first | done | rfl), lv_sub hl [0, 1] rfl, ⟨rfl, rfl⟩, rfl⟩
  rintro H1 l1 g1 ⟨x1_0, ls, ex1_0, hl, ⟨rfl, rfl⟩, rfl⟩
  subst x1_0
  refine lv_iload_n hx hb dL_without_12 rfl (lv_at hl 0 rfl) ?_
  refine lv_bipush (v := 15) hx hb dL_without_13 (by decide) ?_
  refine lv_ishr hx hb dL_without_15 ?_
  refine lv_iconst (v := 1) hx hb dL_without_16 (by decide) ?_
  refine lv_iand hx hb dL_without_17 ?_
  refine vz_cut (fun H1 l1 g1 => ∃ (x2_0 : Int32) (ls : Array Slot), x2_0 = (if ((t >>> ((15 : Int32) &&& 31)) &&& 1) = 0 then 2 else 0 : Int32) ∧ lv_has ls 2 [(0, .int t), (1, .int g)] ∧ (s.heap = H1 ∧ [] = l1) ∧ g1 = F0 m 26 ls [.int x2_0, .int (if (t &&& 1) = 1 then 1 else 0 : Int32)]) (fun hj2 => ?_) ?_
  · refine lv_if_ne (tgt := 25) hx hb dL_without_18 (by decide) (fun c_2 => ?_) (fun c_2 => ?_)
    · refine lv_iconst (v := 0) hx hb dL_without_25 (by decide) ?_
      exact hj2 _ _ _ ⟨0, ls, (by (rw [if_neg c_2]); first | done | rfl), lv_sub hl [0, 1] rfl, ⟨rfl, rfl⟩, rfl⟩
    · refine lv_iconst (v := 2) hx hb dL_without_21 (by decide) ?_
      refine lv_goto (tgt := 26) hx hb dL_without_22 (by decide) ?_
      exact hj2 _ _ _ ⟨2, ls, (by (rw [if_pos c_2]); first | done | rfl), lv_sub hl [0, 1] rfl, ⟨rfl, rfl⟩, rfl⟩
  rintro H1 l1 g1 ⟨x2_0, ls, ex2_0, hl, ⟨rfl, rfl⟩, rfl⟩
  subst x2_0
  refine lv_ior hx hb dL_without_26 ?_
  refine lv_iload_n hx hb dL_without_27 rfl (lv_at hl 0 rfl) ?_
  refine vp_callSi (va_Run.run (va_runS (As := [.int t]) (rest := [.int ((if (t &&& 1) = 1 then 1 else 0 : Int32) ||| (if ((t >>> ((15 : Int32) &&& 31)) &&& 1) = 0 then 2 else 0 : Int32))]) ⟨hx, hb, hml, hown, hts⟩ (c_L_selfDual l t) (va_cwS 1 hts gL_without_L_selfDual rfl rfl rfl (by decide +kernel) ⟨Nat.le_of_ble_eq_true rfl, Nat.le_of_ble_eq_true rfl⟩) ⟨fun _ _ _ _ z => z, fun _ _ _ => ⟨rfl, trivial⟩⟩ rfl rfl hl.1 rfl (lv_room (Nat.le_of_ble_eq_true rfl)) dL_without_28 ⟨(Nat.zero_le _), (Nat.zero_le _)⟩)) (fun r hr => ?_)
  subst r
  refine vz_cut (fun H1 l1 g1 => ∃ (x3_0 : Int32) (ls : Array Slot), x3_0 = (if (fL_selfDual t) = 0 then 4 else 0 : Int32) ∧ lv_has ls 2 [(0, .int t), (1, .int g)] ∧ (s.heap = H1 ∧ [] = l1) ∧ g1 = F0 m 39 ls [.int x3_0, .int ((if (t &&& 1) = 1 then 1 else 0 : Int32) ||| (if ((t >>> ((15 : Int32) &&& 31)) &&& 1) = 0 then 2 else 0 : Int32))]) (fun hj3 => ?_) ?_
  · refine lv_if_eq (tgt := 38) hx hb dL_without_31 (by decide) (fun c_3 => ?_) (fun c_3 => ?_)
    · refine lv_iconst (v := 4) hx hb dL_without_38 (by decide) ?_
      exact hj3 _ _ _ ⟨4, ls, (by (rw [if_pos c_3]); first | done | rfl), lv_sub hl [0, 1] rfl, ⟨rfl, rfl⟩, rfl⟩
    · refine lv_iconst (v := 0) hx hb dL_without_34 (by decide) ?_
      refine lv_goto (tgt := 39) hx hb dL_without_35 (by decide) ?_
      exact hj3 _ _ _ ⟨0, ls, (by (rw [if_neg c_3]); first | done | rfl), lv_sub hl [0, 1] rfl, ⟨rfl, rfl⟩, rfl⟩
  rintro H1 l1 g1 ⟨x3_0, ls, ex3_0, hl, ⟨rfl, rfl⟩, rfl⟩
  subst x3_0
  refine lv_ior hx hb dL_without_39 ?_
  refine lv_iload_n hx hb dL_without_40 rfl (lv_at hl 0 rfl) ?_
  refine vp_callSi (va_Run.run (va_runS (As := [.int t]) (rest := [.int (((if (t &&& 1) = 1 then 1 else 0 : Int32) ||| (if ((t >>> ((15 : Int32) &&& 31)) &&& 1) = 0 then 2 else 0 : Int32)) ||| (if (fL_selfDual t) = 0 then 4 else 0 : Int32))]) ⟨hx, hb, hml, hown, hts⟩ (c_L_monotone l t) (va_cwS 1 hts gL_without_L_monotone rfl rfl rfl (by decide +kernel) ⟨Nat.le_of_ble_eq_true rfl, Nat.le_of_ble_eq_true rfl⟩) ⟨fun _ _ _ _ z => z, fun _ _ _ => ⟨rfl, trivial⟩⟩ rfl rfl hl.1 rfl (lv_room (Nat.le_of_ble_eq_true rfl)) dL_without_41 ⟨(Nat.zero_le _), (Nat.zero_le _)⟩)) (fun r hr => ?_)
  subst r
  refine vz_cut (fun H1 l1 g1 => ∃ (x4_0 : Int32) (ls : Array Slot), x4_0 = (if (fL_monotone t) = 0 then 8 else 0 : Int32) ∧ lv_has ls 2 [(0, .int t), (1, .int g)] ∧ (s.heap = H1 ∧ [] = l1) ∧ g1 = F0 m 53 ls [.int x4_0, .int (((if (t &&& 1) = 1 then 1 else 0 : Int32) ||| (if ((t >>> ((15 : Int32) &&& 31)) &&& 1) = 0 then 2 else 0 : Int32)) ||| (if (fL_selfDual t) = 0 then 4 else 0 : Int32))]) (fun hj4 => ?_) ?_
  · refine lv_if_eq (tgt := 51) hx hb dL_without_44 (by decide) (fun c_4 => ?_) (fun c_4 => ?_)
    · refine lv_bipush (v := 8) hx hb dL_without_51 (by decide) ?_
      exact hj4 _ _ _ ⟨8, ls, (by (rw [if_pos c_4]); first | done | rfl), lv_sub hl [0, 1] rfl, ⟨rfl, rfl⟩, rfl⟩
    · refine lv_iconst (v := 0) hx hb dL_without_47 (by decide) ?_
      refine lv_goto (tgt := 53) hx hb dL_without_48 (by decide) ?_
      exact hj4 _ _ _ ⟨0, ls, (by (rw [if_neg c_4]); first | done | rfl), lv_sub hl [0, 1] rfl, ⟨rfl, rfl⟩, rfl⟩
  rintro H1 l1 g1 ⟨x4_0, ls, ex4_0, hl, ⟨rfl, rfl⟩, rfl⟩
  subst x4_0
  refine lv_ior hx hb dL_without_53 ?_
  refine lv_iload_n hx hb dL_without_54 rfl (lv_at hl 1 rfl) ?_
  refine lv_iconst (v := 1) hx hb dL_without_55 (by decide) ?_
  refine vz_cut (fun H1 l1 g1 => ∃ (x5_0 : Int32) (ls : Array Slot), x5_0 = (if g ≤ 1 then 0 else 16 : Int32) ∧ lv_has ls 2 [(0, .int t), (1, .int g)] ∧ (s.heap = H1 ∧ [] = l1) ∧ g1 = F0 m 65 ls [.int x5_0, .int ((((if (t &&& 1) = 1 then 1 else 0 : Int32) ||| (if ((t >>> ((15 : Int32) &&& 31)) &&& 1) = 0 then 2 else 0 : Int32)) ||| (if (fL_selfDual t) = 0 then 4 else 0 : Int32)) ||| (if (fL_monotone t) = 0 then 8 else 0 : Int32))]) (fun hj5 => ?_) ?_
  · refine lv_icmp_le (tgt := 64) hx hb dL_without_56 (by decide) (fun c_5 => ?_) (fun c_5 => ?_)
    · refine lv_iconst (v := 0) hx hb dL_without_64 (by decide) ?_
      exact hj5 _ _ _ ⟨0, ls, (by (rw [if_pos c_5]); first | done | rfl), lv_sub hl [0, 1] rfl, ⟨rfl, rfl⟩, rfl⟩
    · refine lv_bipush (v := 16) hx hb dL_without_59 (by decide) ?_
      refine lv_goto (tgt := 65) hx hb dL_without_61 (by decide) ?_
      exact hj5 _ _ _ ⟨16, ls, (by (rw [if_neg c_5]); first | done | rfl), lv_sub hl [0, 1] rfl, ⟨rfl, rfl⟩, rfl⟩
  rintro H1 l1 g1 ⟨x5_0, ls, ex5_0, hl, ⟨rfl, rfl⟩, rfl⟩
  subst x5_0
  refine lv_ior hx hb dL_without_65 ?_
  exact W.iret (v := (((((if (t &&& 1) = 1 then 1 else 0 : Int32) ||| (if ((t >>> ((15 : Int32) &&& 31)) &&& 1) = 0 then 2 else 0 : Int32)) ||| (if (fL_selfDual t) = 0 then 4 else 0 : Int32)) ||| (if (fL_monotone t) = 0 then 8 else 0 : Int32)) ||| (if g ≤ 1 then 0 else 16 : Int32))) hx hb hr (fun t9 ht hW => ⟨(((((if (t &&& 1) = 1 then 1 else 0 : Int32) ||| (if ((t >>> ((15 : Int32) &&& 31)) &&& 1) = 0 then 2 else 0 : Int32)) ||| (if (fL_selfDual t) = 0 then 4 else 0 : Int32)) ||| (if (fL_monotone t) = 0 then 8 else 0 : Int32)) ||| (if g ≤ 1 then 0 else 16 : Int32)), rfl, (by first | ((rw [fL_without]); first | done | rfl) | rfl), ht⟩) (fun q h => nomatch h) dL_without_66

