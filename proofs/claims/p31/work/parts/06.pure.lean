theorem nar_b {x : Int32} (h : x = 0 ∨ x = 1) : narrow .boolean (.int x) = .int x := by rcases h with rfl | rfl <;> rfl
theorem tbl_out3 {x : Int32} (h0 : ¬ x = 0) (h1 : ¬ x = 1) (h2 : ¬ x = 2) : x.toInt < 0 ∨ 2 < x.toInt := by
  rcases Int.lt_or_le x.toInt 0 with a | a
  · exact Or.inl a
  · rcases Int.lt_or_le 2 x.toInt with b | b
    · exact Or.inr b
    · exfalso
      have h : x.toInt = 0 ∨ x.toInt = 1 ∨ x.toInt = 2 := by omega
      rcases h with h | h | h
      · exact h0 (Int32.toInt_inj.mp (by rw [h]; rfl))
      · exact h1 (Int32.toInt_inj.mp (by rw [h]; rfl))
      · exact h2 (Int32.toInt_inj.mp (by rw [h]; rfl))
/-- 0 or 1, all along a loop -/
theorem lp_b {f : Nat → Int32 → Int32} (h : ∀ i a, (a = 0 ∨ a = 1) → (f i a = 0 ∨ f i a = 1)) : ∀ (n i : Nat) (a : Int32), (a = 0 ∨ a = 1) → (lp f n i a = 0 ∨ lp f n i a = 1)
  | 0, _, _, ha => ha
  | n + 1, i, a, ha => lp_b h n (i + 1) _ (h i a ha)
def fX1_bit (t : Int32) (b : Int32) : Int32 := ((t >>> (b &&& 31)) &&& 1)
set_option maxHeartbeats 4000000 in
set_option maxRecDepth 100000 in
theorem c_X1_bit (l : Launch) (t : Int32) (b : Int32) : Met l yX1_bit wsX1_bit ({ frames := 0, cells := 0, slots := 0, locals := 0 }) (va_Pc [.int t, .int b] (fun _ => True)) (vp_Si (fun r => r = (fX1_bit t b))) 0 0 (fun _ => False) := by
  refine Met.ofW (cc := cX1_bit) (maxL := 2) (ret := (some .int)) (by decide) rfl ?_
  intro p e s m args below meth c s₁ B hml hv
  obtain ⟨rfl, -⟩ := hv
  have hx := B.exec
  have hb := B.bytes
  have hr := B.returns
  have hts := atoms_spec (ws := wsX1_bit) B.pre
  have hown : s.vm.findClass RX1 = some m.cls := findClass_of_methodNamed B.named
  have hlocks := B.notSynchronized
  have hS : va_S (fun _ => False) s.heap s.heap [] := va_S.rf
  have hl := lv_entry ([.int t, .int b]) (n := 2) (Nat.le_of_ble_eq_true rfl)
  rw [lg_entry_eq]
  generalize (lg_sl ([.int t, .int b]) ++ List.replicate (2 - (lg_sl ([.int t, .int b])).length) Slot.unset).toArray = ls at hl ⊢
  have hl : lv_has ls 2 [(0, .int t), (1, .int b)] := hl
  refine lv_iload_n hx hb dX1_bit_0 rfl (lv_at hl 0 rfl) ?_
  refine lv_iload_n hx hb dX1_bit_1 rfl (lv_at hl 1 rfl) ?_
  refine lv_ishr hx hb dX1_bit_2 ?_
  refine lv_iconst (v := 1) hx hb dX1_bit_3 (by decide) ?_
  refine lv_iand hx hb dX1_bit_4 ?_
  exact W.iret (v := ((t >>> (b &&& 31)) &&& 1)) hx hb hr (fun t9 ht hW => ⟨((t >>> (b &&& 31)) &&& 1), rfl, (by first | ((rw [fX1_bit]); first | done | rfl) | rfl), ht⟩) (fun q h => nomatch h) dX1_bit_5
def fX1_joinTables (t : Int32) (u : Int32) (w : Int32) : Int32 := if w = 0 then (t ^^^ u) else (if w = 1 then (t &&& u) else (if w = 2 then (t ||| u) else (((t ^^^ (-1)) &&& 65535) ||| u)))
set_option maxHeartbeats 4000000 in
set_option maxRecDepth 100000 in
theorem c_X1_joinTables (l : Launch) (t : Int32) (u : Int32) (w : Int32) : Met l yX1_joinTables wsX1_joinTables ({ frames := 0, cells := 0, slots := 0, locals := 0 }) (va_Pc [.int t, .int u, .int w] (fun _ => True)) (vp_Si (fun r => r = (fX1_joinTables t u w))) 0 0 (fun _ => False) := by
  refine Met.ofW (cc := cX1_joinTables) (maxL := 3) (ret := (some .int)) (by decide) rfl ?_
  intro p e s m args below meth c s₁ B hml hv
  obtain ⟨rfl, -⟩ := hv
  have hx := B.exec
  have hb := B.bytes
  have hr := B.returns
  have hts := atoms_spec (ws := wsX1_joinTables) B.pre
  have hown : s.vm.findClass RX1 = some m.cls := findClass_of_methodNamed B.named
  have hlocks := B.notSynchronized
  have hS : va_S (fun _ => False) s.heap s.heap [] := va_S.rf
  have hl := lv_entry ([.int t, .int u, .int w]) (n := 3) (Nat.le_of_ble_eq_true rfl)
  rw [lg_entry_eq]
  generalize (lg_sl ([.int t, .int u, .int w]) ++ List.replicate (3 - (lg_sl ([.int t, .int u, .int w])).length) Slot.unset).toArray = ls at hl ⊢
  have hl : lv_has ls 3 [(0, .int t), (1, .int u), (2, .int w)] := hl
  refine lv_iload_n hx hb dX1_joinTables_0 rfl (lv_at hl 2 rfl) ?_
  by_cases c_1 : w = 0
  · rw [c_1]
    refine lv_tableIn (tgt := 28) hx hb dX1_joinTables_1 (by decide) (by decide) (show _ = some _ from rfl) (by decide) ?_
    refine lv_iload_n hx hb dX1_joinTables_28 rfl (lv_at hl 0 rfl) ?_
    refine lv_iload_n hx hb dX1_joinTables_29 rfl (lv_at hl 1 rfl) ?_
    refine lv_ixor hx hb dX1_joinTables_30 ?_
    exact W.iret (v := (t ^^^ u)) hx hb hr (fun t9 ht hW => ⟨(t ^^^ u), rfl, (by first | ((rw [fX1_joinTables, if_pos c_1]); first | done | rfl) | rfl), ht⟩) (fun q h => nomatch h) dX1_joinTables_31
  by_cases c_2 : w = 1
  · rw [c_2]
    refine lv_tableIn (tgt := 32) hx hb dX1_joinTables_1 (by decide) (by decide) (show _ = some _ from rfl) (by decide) ?_
    refine lv_iload_n hx hb dX1_joinTables_32 rfl (lv_at hl 0 rfl) ?_
    refine lv_iload_n hx hb dX1_joinTables_33 rfl (lv_at hl 1 rfl) ?_
    refine lv_iand hx hb dX1_joinTables_34 ?_
    exact W.iret (v := (t &&& u)) hx hb hr (fun t9 ht hW => ⟨(t &&& u), rfl, (by first | ((rw [fX1_joinTables, if_neg c_1, if_pos c_2]); first | done | rfl) | rfl), ht⟩) (fun q h => nomatch h) dX1_joinTables_35
  by_cases c_3 : w = 2
  · rw [c_3]
    refine lv_tableIn (tgt := 36) hx hb dX1_joinTables_1 (by decide) (by decide) (show _ = some _ from rfl) (by decide) ?_
    refine lv_iload_n hx hb dX1_joinTables_36 rfl (lv_at hl 0 rfl) ?_
    refine lv_iload_n hx hb dX1_joinTables_37 rfl (lv_at hl 1 rfl) ?_
    refine lv_ior hx hb dX1_joinTables_38 ?_
    exact W.iret (v := (t ||| u)) hx hb hr (fun t9 ht hW => ⟨(t ||| u), rfl, (by first | ((rw [fX1_joinTables, if_neg c_1, if_neg c_2, if_pos c_3]); first | done | rfl) | rfl), ht⟩) (fun q h => nomatch h) dX1_joinTables_39
  refine lv_tableOut (tgt := 40) hx hb dX1_joinTables_1 (tbl_out3 c_1 c_2 c_3) (by decide) ?_
  refine lv_iload_n hx hb dX1_joinTables_40 rfl (lv_at hl 0 rfl) ?_
  refine lv_iconst (v := (-1)) hx hb dX1_joinTables_41 (by decide) ?_
  refine lv_ixor hx hb dX1_joinTables_42 ?_
  refine lv_ldc (v := 65535) hx hb hown (hts (.constant RX1 53 (65535)) (List.mem_of_getElem? (i := 1) rfl)) dX1_joinTables_43 ?_
  refine lv_iand hx hb dX1_joinTables_45 ?_
  refine lv_iload_n hx hb dX1_joinTables_46 rfl (lv_at hl 1 rfl) ?_
  refine lv_ior hx hb dX1_joinTables_47 ?_
  exact W.iret (v := (((t ^^^ (-1)) &&& 65535) ||| u)) hx hb hr (fun t9 ht hW => ⟨(((t ^^^ (-1)) &&& 65535) ||| u), rfl, (by first | ((rw [fX1_joinTables, if_neg c_1, if_neg c_2, if_neg c_3]); first | done | rfl) | rfl), ht⟩) (fun q h => nomatch h) dX1_joinTables_48
def fX1_half (t : Int32) (v : Int32) (b : Int32) : Int32 := if b = 0 then ((t &&& ((VT v.toNatClampNeg) ^^^ (-1))) ||| ((t &&& ((VT v.toNatClampNeg) ^^^ (-1))) <<< (((1 : Int32) <<< (v &&& 31)) &&& 31))) else ((t &&& (VT v.toNatClampNeg)) ||| ((t &&& (VT v.toNatClampNeg)) >>> (((1 : Int32) <<< (v &&& 31)) &&& 31)))
set_option maxHeartbeats 4000000 in
set_option maxRecDepth 100000 in
theorem c_X1_half (l : Launch) (t : Int32) (v : Int32) (b : Int32) (hv : vp_in v 4) : Met l yX1_half wsX1_half ({ frames := 0, cells := 0, slots := 0, locals := 0 }) (va_Pc [.int t, .int v, .int b] (fun U => env0 U)) (vp_Si (fun r => r = (fX1_half t v b))) 0 0 (fun _ => False) := by
  refine Met.ofW (cc := cX1_half) (maxL := 5) (ret := (some .int)) (by decide) rfl ?_
  intro p e s m args below meth c s₁ B hml hv
  obtain ⟨rfl, hE⟩ := hv
  have hx := B.exec
  have hb := B.bytes
  have hr := B.returns
  have hts := atoms_spec (ws := wsX1_half) B.pre
  have hown : s.vm.findClass RX1 = some m.cls := findClass_of_methodNamed B.named
  have hlocks := B.notSynchronized
  have hS : va_S (fun _ => False) s.heap s.heap [] := va_S.rf
  obtain ⟨vt, hZ, hT⟩ := hE.2.2.2.1
  have hl := lv_entry ([.int t, .int v, .int b]) (n := 5) (Nat.le_of_ble_eq_true rfl)
  rw [lg_entry_eq]
  generalize (lg_sl ([.int t, .int v, .int b]) ++ List.replicate (5 - (lg_sl ([.int t, .int v, .int b])).length) Slot.unset).toArray = ls at hl ⊢
  have hl : lv_has ls 5 [(0, .int t), (1, .int v), (2, .int b)] := hl
  refine lv_iconst (v := 1) hx hb dX1_half_0 (by decide) ?_
  refine lv_iload_n hx hb dX1_half_1 rfl (lv_at hl 1 rfl) ?_
  refine lv_ishl hx hb dX1_half_2 ?_
  refine lv_istore_n (lv' := [(3, .int ((1 : Int32) <<< (v &&& 31))), (0, .int t), (1, .int v), (2, .int b)]) hx hb dX1_half_3 rfl hl (by decide) rfl (fun ls hl => ?_)
  refine lv_iload_n hx hb dX1_half_4 rfl (lv_at hl 3 rfl) ?_
  refine lv_if_eq (tgt := 25) hx hb dX1_half_5 (by decide) (fun c_1 => ?_) (fun c_1 => ?_)
  · refine lv_iload_n hx hb dX1_half_25 rfl (lv_at hl 1 rfl) ?_
    refine va_gets (v := .ref vt) hx hb hZ hS hown (hts (.fieldLink RX1 50 "ZhegalkinBench" "VARIABLE_TABLES" "[I") (List.mem_of_getElem? (i := 1) rfl)) (fun _ h9 => h9) dX1_half_26 ?_
    refine lv_iload_n hx hb dX1_half_29 rfl (lv_at hl 2 rfl) ?_
    refine va_ti hx hb hT hS hv rfl dX1_half_30 ?_
    refine lv_iconst (v := (-1)) hx hb dX1_half_31 (by decide) ?_
    refine lv_ixor hx hb dX1_half_32 ?_
    refine lv_iand hx hb dX1_half_33 ?_
    refine lv_istore (lv' := [(4, .int (t &&& ((VT v.toNatClampNeg) ^^^ (-1)))), (3, .int ((1 : Int32) <<< (v &&& 31))), (0, .int t), (1, .int v), (2, .int b)]) hx hb dX1_half_34 hl (by decide) rfl (fun ls hl => ?_)
    refine lv_iload hx hb dX1_half_36 (lv_at hl 0 rfl) ?_
    refine lv_iload hx hb dX1_half_38 (lv_at hl 0 rfl) ?_
    refine lv_iload_n hx hb dX1_half_40 rfl (lv_at hl 1 rfl) ?_
    refine lv_ishl hx hb dX1_half_41 ?_
    refine lv_ior hx hb dX1_half_42 ?_
    exact W.iret (v := ((t &&& ((VT v.toNatClampNeg) ^^^ (-1))) ||| ((t &&& ((VT v.toNatClampNeg) ^^^ (-1))) <<< (((1 : Int32) <<< (v &&& 31)) &&& 31)))) hx hb hr (fun t9 ht hW => ⟨((t &&& ((VT v.toNatClampNeg) ^^^ (-1))) ||| ((t &&& ((VT v.toNatClampNeg) ^^^ (-1))) <<< (((1 : Int32) <<< (v &&& 31)) &&& 31))), rfl, (by first | ((rw [fX1_half, if_pos c_1]); first | done | rfl) | rfl), ht⟩) (fun q h => nomatch h) dX1_half_43
  · refine lv_iload_n hx hb dX1_half_8 rfl (lv_at hl 1 rfl) ?_
    refine va_gets (v := .ref vt) hx hb hZ hS hown (hts (.fieldLink RX1 50 "ZhegalkinBench" "VARIABLE_TABLES" "[I") (List.mem_of_getElem? (i := 1) rfl)) (fun _ h9 => h9) dX1_half_9 ?_
    refine lv_iload_n hx hb dX1_half_12 rfl (lv_at hl 2 rfl) ?_
    refine va_ti hx hb hT hS hv rfl dX1_half_13 ?_
    refine lv_iand hx hb dX1_half_14 ?_
    refine lv_istore (lv' := [(4, .int (t &&& (VT v.toNatClampNeg))), (3, .int ((1 : Int32) <<< (v &&& 31))), (0, .int t), (1, .int v), (2, .int b)]) hx hb dX1_half_15 hl (by decide) rfl (fun ls hl => ?_)
    refine lv_iload hx hb dX1_half_17 (lv_at hl 0 rfl) ?_
    refine lv_iload hx hb dX1_half_19 (lv_at hl 0 rfl) ?_
    refine lv_iload_n hx hb dX1_half_21 rfl (lv_at hl 1 rfl) ?_
    refine lv_ishr hx hb dX1_half_22 ?_
    refine lv_ior hx hb dX1_half_23 ?_
    exact W.iret (v := ((t &&& (VT v.toNatClampNeg)) ||| ((t &&& (VT v.toNatClampNeg)) >>> (((1 : Int32) <<< (v &&& 31)) &&& 31)))) hx hb hr (fun t9 ht hW => ⟨((t &&& (VT v.toNatClampNeg)) ||| ((t &&& (VT v.toNatClampNeg)) >>> (((1 : Int32) <<< (v &&& 31)) &&& 31))), rfl, (by first | ((rw [fX1_half, if_neg c_1]); first | done | rfl) | rfl), ht⟩) (fun q h => nomatch h) dX1_half_24
def sX1_addHalves_4 (i1 : Nat) (a1 : Int32) : Int32 := (a1 ^^^ ((a1 &&& ((VT i1) ^^^ (-1))) <<< (((1 : Int32) <<< ((nI i1) &&& 31)) &&& 31)))
def fX1_addHalves (t : Int32) : Int32 := (lp sX1_addHalves_4 4 0 t)
set_option maxHeartbeats 4000000 in
set_option maxRecDepth 100000 in
theorem c_X1_addHalves (l : Launch) (t : Int32) : Met l yX1_addHalves wsX1_addHalves ({ frames := 0, cells := 0, slots := 0, locals := 0 }) (va_Pc [.int t] (fun U => env0 U)) (vp_Si (fun r => r = (fX1_addHalves t))) 0 0 (fun _ => False) := by
  refine Met.ofW (cc := cX1_addHalves) (maxL := 4) (ret := (some .int)) (by decide) rfl ?_
  intro p e s m args below meth c s₁ B hml hv
  obtain ⟨rfl, hE⟩ := hv
  have hx := B.exec
  have hb := B.bytes
  have hr := B.returns
  have hts := atoms_spec (ws := wsX1_addHalves) B.pre
  have hown : s.vm.findClass RX1 = some m.cls := findClass_of_methodNamed B.named
  have hlocks := B.notSynchronized
  have hS : va_S (fun _ => False) s.heap s.heap [] := va_S.rf
  obtain ⟨vt, hZ, hT⟩ := hE.2.2.2.1
  have hl := lv_entry ([.int t]) (n := 4) (Nat.le_of_ble_eq_true rfl)
  rw [lg_entry_eq]
  generalize (lg_sl ([.int t]) ++ List.replicate (4 - (lg_sl ([.int t])).length) Slot.unset).toArray = ls at hl ⊢
  have hl : lv_has ls 4 [(0, .int t)] := hl
  refine lv_iload_n hx hb dX1_addHalves_0 rfl (lv_at hl 0 rfl) ?_
  refine lv_istore_n (lv' := [(1, .int t), (0, .int t)]) hx hb dX1_addHalves_1 rfl hl (by decide) rfl (fun ls hl => ?_)
  refine lv_iconst (v := 0) hx hb dX1_addHalves_2 (by decide) ?_
  refine lv_istore_n (lv' := [(2, .int 0), (1, .int t), (0, .int t)]) hx hb dX1_addHalves_3 rfl hl (by decide) rfl (fun ls hl => ?_)
  obtain ⟨F1, hF1⟩ : ∃ z9, z9 = (lp sX1_addHalves_4 4 0 t) := ⟨_, rfl⟩
  refine vz_cut (fun H1 l1 g1 => ∃ (n1 i1 : Nat) (a1 : Int32) (ls : Array Slot), i1 + n1 = 4 ∧ lp sX1_addHalves_4 n1 i1 a1 = F1 ∧ lv_has ls 4 [(2, .int (nI i1)), (1, .int a1), (0, .int t)] ∧ (s.heap = H1 ∧ [] = l1) ∧ g1 = F0 m 4 ls []) (fun hj => hj _ _ _ ⟨4, 0, t, ls, (by omega), hF1.symm, lv_sub hl [0, 1, 2] rfl, ⟨rfl, rfl⟩, rfl⟩) ?_
  rintro H1 l1 g1 ⟨n1, i1, a1, ls, hi1, hf1, hl, ⟨rfl, rfl⟩, rfl⟩
  revert i1 a1 ls
  induction n1 with
  | zero =>
    intro i1 a1 ls hi1 hf1 hl
    obtain rfl : 4 = i1 := by omega
    have hf1 : F1 = a1 := hf1.symm
    subst hf1
    refine lv_iload_n hx hb dX1_addHalves_4 rfl (lv_at hl 0 rfl) ?_
    refine lv_iconst (v := 4) hx hb dX1_addHalves_5 (by decide) ?_
    refine lv_icmp_ge (tgt := 33) hx hb dX1_addHalves_6 (by decide) (fun c_1 => ?_) (fun c_1 => ?_)
    · refine lv_iload_n hx hb dX1_addHalves_33 rfl (lv_at hl 1 rfl) ?_
      exact W.iret (v := F1) hx hb hr (fun t9 ht hW => ⟨F1, rfl, (by first | ((rw [fX1_addHalves]); (try rw [← hF1]); first | done | rfl) | rfl), ht⟩) (fun q h => nomatch h) dX1_addHalves_34
    · exact absurd (nI_le (a := 4) (b := 4) (by omega) (by omega)) c_1
  | succ n1 ih1 =>
    intro i1 a1 ls hi1 hf1 hl
    refine lv_iload_n hx hb dX1_addHalves_4 rfl (lv_at hl 0 rfl) ?_
    refine lv_iconst (v := 4) hx hb dX1_addHalves_5 (by decide) ?_
    refine lv_icmp_ge (tgt := 33) hx hb dX1_addHalves_6 (by decide) (fun c_2 => ?_) (fun c_2 => ?_)
    · exact absurd c_2 (nI_ge (a := i1) (b := 4) (by omega) (by omega))
    · refine lv_iload_n hx hb dX1_addHalves_9 rfl (lv_at hl 1 rfl) ?_
      refine va_gets (v := .ref vt) hx hb hZ hS hown (hts (.fieldLink RX1 50 "ZhegalkinBench" "VARIABLE_TABLES" "[I") (List.mem_of_getElem? (i := 1) rfl)) (fun _ h9 => h9) dX1_addHalves_10 ?_
      refine lv_iload_n hx hb dX1_addHalves_13 rfl (lv_at hl 0 rfl) ?_
      refine vz_ti hx hb hT hS i1 (by omega) (by decide) dX1_addHalves_14 ?_
      refine lv_iconst (v := (-1)) hx hb dX1_addHalves_15 (by decide) ?_
      refine lv_ixor hx hb dX1_addHalves_16 ?_
      refine lv_iand hx hb dX1_addHalves_17 ?_
      refine lv_istore_n (lv' := [(3, .int (a1 &&& ((VT i1) ^^^ (-1)))), (2, .int (nI i1)), (1, .int a1), (0, .int t)]) hx hb dX1_addHalves_18 rfl hl (by decide) rfl (fun ls hl => ?_)
      refine lv_iload_n hx hb dX1_addHalves_19 rfl (lv_at hl 2 rfl) ?_
      refine lv_iload_n hx hb dX1_addHalves_20 rfl (lv_at hl 0 rfl) ?_
      refine lv_iconst (v := 1) hx hb dX1_addHalves_21 (by decide) ?_
      refine lv_iload_n hx hb dX1_addHalves_22 rfl (lv_at hl 1 rfl) ?_
      refine lv_ishl hx hb dX1_addHalves_23 ?_
      refine lv_ishl hx hb dX1_addHalves_24 ?_
      refine lv_ixor hx hb dX1_addHalves_25 ?_
      refine lv_istore_n (lv' := [(1, .int (a1 ^^^ ((a1 &&& ((VT i1) ^^^ (-1))) <<< (((1 : Int32) <<< ((nI i1) &&& 31)) &&& 31)))), (3, .int (a1 &&& ((VT i1) ^^^ (-1)))), (2, .int (nI i1)), (0, .int t)]) hx hb dX1_addHalves_26 rfl hl (by decide) rfl (fun ls hl => ?_)
      refine lv_iinc (v := (nI (i1 + 1))) (lv' := [(2, .int (nI (i1 + 1))), (1, .int (a1 ^^^ ((a1 &&& ((VT i1) ^^^ (-1))) <<< (((1 : Int32) <<< ((nI i1) &&& 31)) &&& 31)))), (3, .int (a1 &&& ((VT i1) ^^^ (-1)))), (0, .int t)]) hx hb dX1_addHalves_27 hl (k := 2) rfl (by first | exact nI_add _ _ | rfl) (by decide) rfl (fun ls hl => ?_)
      refine lv_goto (tgt := 4) hx hb dX1_addHalves_30 (by decide) ?_
      exact ih1 (i1 + 1) (a1 ^^^ ((a1 &&& ((VT i1) ^^^ (-1))) <<< (((1 : Int32) <<< ((nI i1) &&& 31)) &&& 31))) ls (by omega) ((congrArg (lp sX1_addHalves_4 n1 (i1 + 1)) (show (a1 ^^^ ((a1 &&& ((VT i1) ^^^ (-1))) <<< (((1 : Int32) <<< ((nI i1) &&& 31)) &&& 31))) = sX1_addHalves_4 i1 a1 from by first | ((rw [sX1_addHalves_4]); first | done | rfl) | rfl)).trans hf1) (lv_sub hl [0, 1, 3] rfl)
def sJ6_bitCount_0f7a4_9 (t : Int32) : Int32 := (t - (((t.toUInt32 >>> ((1 : Int32).toUInt32 &&& Int32.toUInt32 31)).toInt32) &&& 1431655765))
def sJ6_bitCount_0f7a4_23 (y1 : Int32) : Int32 := ((y1 &&& 858993459) + (((y1.toUInt32 >>> ((2 : Int32).toUInt32 &&& Int32.toUInt32 31)).toInt32) &&& 858993459))
def sJ6_bitCount_0f7a4_33 (y2 : Int32) : Int32 := ((y2 + ((y2.toUInt32 >>> ((4 : Int32).toUInt32 &&& Int32.toUInt32 31)).toInt32)) &&& 252645135)
def sJ6_bitCount_0f7a4_40 (y3 : Int32) : Int32 := (y3 + ((y3.toUInt32 >>> ((8 : Int32).toUInt32 &&& Int32.toUInt32 31)).toInt32))
def sJ6_bitCount_0f7a4_47 (y4 : Int32) : Int32 := (y4 + ((y4.toUInt32 >>> ((16 : Int32).toUInt32 &&& Int32.toUInt32 31)).toInt32))
def fJ6_bitCount_0f7a4 (t : Int32) : Int32 := ((sJ6_bitCount_0f7a4_47 (sJ6_bitCount_0f7a4_40 (sJ6_bitCount_0f7a4_33 (sJ6_bitCount_0f7a4_23 (sJ6_bitCount_0f7a4_9 t))))) &&& 63)
set_option maxHeartbeats 4000000 in
set_option maxRecDepth 100000 in
theorem c_J6_bitCount_0f7a4 (l : Launch) (t : Int32) : Met l yJ6_bitCount_0f7a4 wsJ6_bitCount_0f7a4 ({ frames := 0, cells := 0, slots := 0, locals := 0 }) (va_Pc [.int t] (fun _ => True)) (vp_Si (fun r => r = (fJ6_bitCount_0f7a4 t))) 0 0 (fun _ => False) := by
  refine Met.ofW (cc := cJ6_bitCount_0f7a4) (maxL := 1) (ret := (some .int)) (by decide) rfl ?_
  intro p e s m args below meth c s₁ B hml hv
  obtain ⟨rfl, -⟩ := hv
  have hx := B.exec
  have hb := B.bytes
  have hr := B.returns
  have hts := atoms_spec (ws := wsJ6_bitCount_0f7a4) B.pre
  have hown : s.vm.findClass RJ6 = some m.cls := findClass_of_methodNamed B.named
  have hlocks := B.notSynchronized
  have hS : va_S (fun _ => False) s.heap s.heap [] := va_S.rf
  have hl := lv_entry ([.int t]) (n := 1) (Nat.le_of_ble_eq_true rfl)
  rw [lg_entry_eq]
  generalize (lg_sl ([.int t]) ++ List.replicate (1 - (lg_sl ([.int t])).length) Slot.unset).toArray = ls at hl ⊢
  have hl : lv_has ls 1 [(0, .int t)] := hl
  refine lv_iload_n hx hb dJ6_bitCount_0f7a4_0 rfl (lv_at hl 0 rfl) ?_
  refine lv_iload_n hx hb dJ6_bitCount_0f7a4_1 rfl (lv_at hl 0 rfl) ?_
  refine lv_iconst (v := 1) hx hb dJ6_bitCount_0f7a4_2 (by decide) ?_
  refine lv_iushr (v := (t.toUInt32 >>> ((1 : Int32).toUInt32 &&& Int32.toUInt32 31)).toInt32) hx hb dJ6_bitCount_0f7a4_3 rfl ?_
  refine lv_ldcw (v := 1431655765) hx hb hown (hts (.constant RJ6 265 (1431655765)) (List.mem_of_getElem? (i := 1) rfl)) dJ6_bitCount_0f7a4_4 ?_
  refine lv_iand hx hb dJ6_bitCount_0f7a4_7 ?_
  refine lv_isub hx hb dJ6_bitCount_0f7a4_8 ?_
  refine lv_topi (fun y1 ey1 => ?_)
  have ey1 : y1 = (sJ6_bitCount_0f7a4_9 t) := ey1
  refine lv_istore_n (lv' := [(0, .int y1)]) hx hb dJ6_bitCount_0f7a4_9 rfl hl (by decide) rfl (fun ls hl => ?_)
  refine lv_iload_n hx hb dJ6_bitCount_0f7a4_10 rfl (lv_at hl 0 rfl) ?_
  refine lv_ldcw (v := 858993459) hx hb hown (hts (.constant RJ6 266 (858993459)) (List.mem_of_getElem? (i := 2) rfl)) dJ6_bitCount_0f7a4_11 ?_
  refine lv_iand hx hb dJ6_bitCount_0f7a4_14 ?_
  refine lv_iload_n hx hb dJ6_bitCount_0f7a4_15 rfl (lv_at hl 0 rfl) ?_
  refine lv_iconst (v := 2) hx hb dJ6_bitCount_0f7a4_16 (by decide) ?_
  refine lv_iushr (v := (y1.toUInt32 >>> ((2 : Int32).toUInt32 &&& Int32.toUInt32 31)).toInt32) hx hb dJ6_bitCount_0f7a4_17 rfl ?_
  refine lv_ldcw (v := 858993459) hx hb hown (hts (.constant RJ6 266 (858993459)) (List.mem_of_getElem? (i := 2) rfl)) dJ6_bitCount_0f7a4_18 ?_
  refine lv_iand hx hb dJ6_bitCount_0f7a4_21 ?_
  refine lv_iadd hx hb dJ6_bitCount_0f7a4_22 ?_
  refine lv_topi (fun y2 ey2 => ?_)
  have ey2 : y2 = (sJ6_bitCount_0f7a4_23 y1) := ey2
  refine lv_istore_n (lv' := [(0, .int y2)]) hx hb dJ6_bitCount_0f7a4_23 rfl hl (by decide) rfl (fun ls hl => ?_)
  refine lv_iload_n hx hb dJ6_bitCount_0f7a4_24 rfl (lv_at hl 0 rfl) ?_
  refine lv_iload_n hx hb dJ6_bitCount_0f7a4_25 rfl (lv_at hl 0 rfl) ?_
  refine lv_iconst (v := 4) hx hb dJ6_bitCount_0f7a4_26 (by decide) ?_
  refine lv_iushr (v := (y2.toUInt32 >>> ((4 : Int32).toUInt32 &&& Int32.toUInt32 31)).toInt32) hx hb dJ6_bitCount_0f7a4_27 rfl ?_
  refine lv_iadd hx hb dJ6_bitCount_0f7a4_28 ?_
  refine lv_ldcw (v := 252645135) hx hb hown (hts (.constant RJ6 267 (252645135)) (List.mem_of_getElem? (i := 3) rfl)) dJ6_bitCount_0f7a4_29 ?_
  refine lv_iand hx hb dJ6_bitCount_0f7a4_32 ?_
  refine lv_topi (fun y3 ey3 => ?_)
  have ey3 : y3 = (sJ6_bitCount_0f7a4_33 y2) := ey3
  refine lv_istore_n (lv' := [(0, .int y3)]) hx hb dJ6_bitCount_0f7a4_33 rfl hl (by decide) rfl (fun ls hl => ?_)
  refine lv_iload_n hx hb dJ6_bitCount_0f7a4_34 rfl (lv_at hl 0 rfl) ?_
  refine lv_iload_n hx hb dJ6_bitCount_0f7a4_35 rfl (lv_at hl 0 rfl) ?_
  refine lv_bipush (v := 8) hx hb dJ6_bitCount_0f7a4_36 (by decide) ?_
  refine lv_iushr (v := (y3.toUInt32 >>> ((8 : Int32).toUInt32 &&& Int32.toUInt32 31)).toInt32) hx hb dJ6_bitCount_0f7a4_38 rfl ?_
  refine lv_iadd hx hb dJ6_bitCount_0f7a4_39 ?_
  refine lv_topi (fun y4 ey4 => ?_)
  have ey4 : y4 = (sJ6_bitCount_0f7a4_40 y3) := ey4
  refine lv_istore_n (lv' := [(0, .int y4)]) hx hb dJ6_bitCount_0f7a4_40 rfl hl (by decide) rfl (fun ls hl => ?_)
  refine lv_iload_n hx hb dJ6_bitCount_0f7a4_41 rfl (lv_at hl 0 rfl) ?_
  refine lv_iload_n hx hb dJ6_bitCount_0f7a4_42 rfl (lv_at hl 0 rfl) ?_
  refine lv_bipush (v := 16) hx hb dJ6_bitCount_0f7a4_43 (by decide) ?_
  refine lv_iushr (v := (y4.toUInt32 >>> ((16 : Int32).toUInt32 &&& Int32.toUInt32 31)).toInt32) hx hb dJ6_bitCount_0f7a4_45 rfl ?_
  refine lv_iadd hx hb dJ6_bitCount_0f7a4_46 ?_
  refine lv_topi (fun y5 ey5 => ?_)
  have ey5 : y5 = (sJ6_bitCount_0f7a4_47 y4) := ey5
  refine lv_istore_n (lv' := [(0, .int y5)]) hx hb dJ6_bitCount_0f7a4_47 rfl hl (by decide) rfl (fun ls hl => ?_)
  refine lv_iload_n hx hb dJ6_bitCount_0f7a4_48 rfl (lv_at hl 0 rfl) ?_
  refine lv_bipush (v := 63) hx hb dJ6_bitCount_0f7a4_49 (by decide) ?_
  refine lv_iand hx hb dJ6_bitCount_0f7a4_51 ?_
  exact W.iret (v := (y5 &&& 63)) hx hb hr (fun t9 ht hW => ⟨(y5 &&& 63), rfl, (by first | ((rw [fJ6_bitCount_0f7a4]); (try rw [← ey1]); (try rw [← ey2]); (try rw [← ey3]); (try rw [← ey4]); (try rw [← ey5]); first | done | rfl) | rfl), ht⟩) (fun q h => nomatch h) dJ6_bitCount_0f7a4_52
def sX1_sumBelow_4 (t : Int32) (j : Nat) (i1 : Nat) (a1 : Int32) : Int32 := if ((nI i1) &&& ((nI j) ^^^ (-1))) = 0 then (a1 ^^^ (fX1_bit t (nI i1))) else a1
def fX1_sumBelow (t : Int32) (j : Nat) : Int32 := (lp (sX1_sumBelow_4 t j) (j + 1) 0 0)
set_option maxHeartbeats 4000000 in
set_option maxRecDepth 100000 in
theorem c_X1_sumBelow (l : Launch) (t : Int32) (j : Nat) (hj : j < 16) : Met l yX1_sumBelow wsX1_sumBelow ({ frames := 1, cells := 0, slots := 0, locals := 21 }) (va_Pc [.int t, .int (nI j)] (fun _ => True)) (vp_Si (fun r => r = (fX1_sumBelow t j))) 0 0 (fun _ => False) := by
  refine Met.ofW (cc := cX1_sumBelow) (maxL := 4) (ret := (some .int)) (by decide) rfl ?_
  intro p e s m args below meth c s₁ B hml hv
  obtain ⟨rfl, -⟩ := hv
  have hx := B.exec
  have hb := B.bytes
  have hr := B.returns
  have hts := atoms_spec (ws := wsX1_sumBelow) B.pre
  have hown : s.vm.findClass RX1 = some m.cls := findClass_of_methodNamed B.named
  have hlocks := B.notSynchronized
  have hS : va_S (fun _ => False) s.heap s.heap [] := va_S.rf
  have hl := lv_entry ([.int t, .int (nI j)]) (n := 4) (Nat.le_of_ble_eq_true rfl)
  rw [lg_entry_eq]
  generalize (lg_sl ([.int t, .int (nI j)]) ++ List.replicate (4 - (lg_sl ([.int t, .int (nI j)])).length) Slot.unset).toArray = ls at hl ⊢
  have hl : lv_has ls 4 [(0, .int t), (1, .int (nI j))] := hl
  refine lv_iconst (v := 0) hx hb dX1_sumBelow_0 (by decide) ?_
  refine lv_istore_n (lv' := [(2, .int 0), (0, .int t), (1, .int (nI j))]) hx hb dX1_sumBelow_1 rfl hl (by decide) rfl (fun ls hl => ?_)
  refine lv_iconst (v := 0) hx hb dX1_sumBelow_2 (by decide) ?_
  refine lv_istore_n (lv' := [(3, .int 0), (2, .int 0), (0, .int t), (1, .int (nI j))]) hx hb dX1_sumBelow_3 rfl hl (by decide) rfl (fun ls hl => ?_)
  obtain ⟨F1, hF1⟩ : ∃ z9, z9 = (lp (sX1_sumBelow_4 t j) (j + 1) 0 0) := ⟨_, rfl⟩
  refine vz_cut (fun H1 l1 g1 => ∃ (n1 i1 : Nat) (a1 : Int32) (ls : Array Slot), i1 + n1 = j + 1 ∧ lp (sX1_sumBelow_4 t j) n1 i1 a1 = F1 ∧ lv_has ls 4 [(3, .int (nI i1)), (2, .int a1), (0, .int t), (1, .int (nI j))] ∧ (s.heap = H1 ∧ [] = l1) ∧ g1 = F0 m 4 ls []) (fun hj => hj _ _ _ ⟨j + 1, 0, 0, ls, (by omega), hF1.symm, lv_sub hl [0, 1, 2, 3] rfl, ⟨rfl, rfl⟩, rfl⟩) ?_
  rintro H1 l1 g1 ⟨n1, i1, a1, ls, hi1, hf1, hl, ⟨rfl, rfl⟩, rfl⟩
  revert i1 a1 ls
  induction n1 with
  | zero =>
    intro i1 a1 ls hi1 hf1 hl
    obtain rfl : j + 1 = i1 := by omega
    have hf1 : F1 = a1 := hf1.symm
    subst hf1
    refine lv_iload_n hx hb dX1_sumBelow_4 rfl (lv_at hl 0 rfl) ?_
    refine lv_iload_n hx hb dX1_sumBelow_5 rfl (lv_at hl 3 rfl) ?_
    refine lv_icmp_gt (tgt := 31) hx hb dX1_sumBelow_6 (by decide) (fun c_1 => ?_) (fun c_1 => ?_)
    · refine lv_iload_n hx hb dX1_sumBelow_31 rfl (lv_at hl 1 rfl) ?_
      exact W.iret (v := F1) hx hb hr (fun t9 ht hW => ⟨F1, rfl, (by first | ((rw [fX1_sumBelow]); (try rw [← hF1]); first | done | rfl) | rfl), ht⟩) (fun q h => nomatch h) dX1_sumBelow_32
    · exact absurd (nI_lt (a := j) (b := j + 1) (by omega) (by omega)) c_1
  | succ n1 ih1 =>
    intro i1 a1 ls hi1 hf1 hl
    refine lv_iload_n hx hb dX1_sumBelow_4 rfl (lv_at hl 0 rfl) ?_
    refine lv_iload_n hx hb dX1_sumBelow_5 rfl (lv_at hl 3 rfl) ?_
    refine lv_icmp_gt (tgt := 31) hx hb dX1_sumBelow_6 (by decide) (fun c_2 => ?_) (fun c_2 => ?_)
    · exact absurd c_2 (nI_nlt (a := j) (b := i1) (by omega) (by omega))
    · refine lv_iload_n hx hb dX1_sumBelow_9 rfl (lv_at hl 0 rfl) ?_
      refine lv_iload_n hx hb dX1_sumBelow_10 rfl (lv_at hl 3 rfl) ?_
      refine lv_iconst (v := (-1)) hx hb dX1_sumBelow_11 (by decide) ?_
      refine lv_ixor hx hb dX1_sumBelow_12 ?_
      refine lv_iand hx hb dX1_sumBelow_13 ?_
      refine lv_if_ne (tgt := 25) hx hb dX1_sumBelow_14 (by decide) (fun c_3 => ?_) (fun c_3 => ?_)
      · refine lv_iinc (v := (nI (i1 + 1))) (lv' := [(3, .int (nI (i1 + 1))), (2, .int a1), (0, .int t), (1, .int (nI j))]) hx hb dX1_sumBelow_25 hl (k := 0) rfl (by first | exact nI_add _ _ | rfl) (by decide) rfl (fun ls hl => ?_)
        refine lv_goto (tgt := 4) hx hb dX1_sumBelow_28 (by decide) ?_
        exact ih1 (i1 + 1) a1 ls (by omega) ((congrArg (lp (sX1_sumBelow_4 t j) n1 (i1 + 1)) (show a1 = (sX1_sumBelow_4 t j) i1 a1 from by first | ((rw [sX1_sumBelow_4, if_neg c_3]); first | done | rfl) | rfl)).trans hf1) (lv_sub hl [0, 1, 2, 3] rfl)
      · refine lv_iload_n hx hb dX1_sumBelow_17 rfl (lv_at hl 1 rfl) ?_
        refine lv_iload_n hx hb dX1_sumBelow_18 rfl (lv_at hl 2 rfl) ?_
        refine lv_iload_n hx hb dX1_sumBelow_19 rfl (lv_at hl 0 rfl) ?_
        refine vp_callSi (va_Run.run (va_runS (As := [.int t, .int (nI i1)]) (rest := [.int a1]) ⟨hx, hb, hml, hown, hts⟩ (c_X1_bit l t (nI i1)) (va_cwS 2 hts gX1_sumBelow_X1_bit rfl rfl rfl (by decide +kernel) ⟨Nat.le_of_ble_eq_true rfl, Nat.le_of_ble_eq_true rfl⟩) ⟨fun _ _ _ _ z => z, fun _ _ _ => ⟨rfl, trivial⟩⟩ rfl rfl hl.1 rfl (lv_room (Nat.le_of_ble_eq_true rfl)) dX1_sumBelow_20 ⟨(Nat.zero_le _), (Nat.zero_le _)⟩)) (fun r hr => ?_)
        subst hr
        refine lv_ixor hx hb dX1_sumBelow_23 ?_
        refine lv_istore_n (lv' := [(2, .int (a1 ^^^ (fX1_bit t (nI i1)))), (3, .int (nI i1)), (0, .int t), (1, .int (nI j))]) hx hb dX1_sumBelow_24 rfl hl (by decide) rfl (fun ls hl => ?_)
        refine lv_iinc (v := (nI (i1 + 1))) (lv' := [(3, .int (nI (i1 + 1))), (2, .int (a1 ^^^ (fX1_bit t (nI i1)))), (0, .int t), (1, .int (nI j))]) hx hb dX1_sumBelow_25 hl (k := 1) rfl (by first | exact nI_add _ _ | rfl) (by decide) rfl (fun ls hl => ?_)
        refine lv_goto (tgt := 4) hx hb dX1_sumBelow_28 (by decide) ?_
        exact ih1 (i1 + 1) (a1 ^^^ (fX1_bit t (nI i1))) ls (by omega) ((congrArg (lp (sX1_sumBelow_4 t j) n1 (i1 + 1)) (show (a1 ^^^ (fX1_bit t (nI i1))) = (sX1_sumBelow_4 t j) i1 a1 from by first | ((rw [sX1_sumBelow_4, if_pos c_3]); first | done | rfl) | rfl)).trans hf1) (lv_sub hl [0, 1, 2, 3] rfl)
def sX1_degree_9 (t : Int32) (i1 : Nat) (a1 : Int32) : Int32 := if (fX1_bit (fX1_addHalves t) (nI i1)) = 1 then (if a1 < (fJ6_bitCount_0f7a4 (nI i1)) then (fJ6_bitCount_0f7a4 (nI i1)) else a1) else a1
def fX1_degree (t : Int32) : Int32 := (lp (sX1_degree_9 t) 16 0 0)
set_option maxHeartbeats 4000000 in
set_option maxRecDepth 100000 in
theorem c_X1_degree (l : Launch) (t : Int32) : Met l yX1_degree wsX1_degree ({ frames := 1, cells := 0, slots := 0, locals := 23 }) (va_Pc [.int t] (fun U => env0 U)) (vp_Si (fun r => r = (fX1_degree t))) 0 0 (fun _ => False) := by
  refine Met.ofW (cc := cX1_degree) (maxL := 4) (ret := (some .int)) (by decide) rfl ?_
  intro p e s m args below meth c s₁ B hml hv
  obtain ⟨rfl, hE⟩ := hv
  have hx := B.exec
  have hb := B.bytes
  have hr := B.returns
  have hts := atoms_spec (ws := wsX1_degree) B.pre
  have hown : s.vm.findClass RX1 = some m.cls := findClass_of_methodNamed B.named
  have hlocks := B.notSynchronized
  have hS : va_S (fun _ => False) s.heap s.heap [] := va_S.rf
  have hl := lv_entry ([.int t]) (n := 4) (Nat.le_of_ble_eq_true rfl)
  rw [lg_entry_eq]
  generalize (lg_sl ([.int t]) ++ List.replicate (4 - (lg_sl ([.int t])).length) Slot.unset).toArray = ls at hl ⊢
  have hl : lv_has ls 4 [(0, .int t)] := hl
  refine lv_iload_n hx hb dX1_degree_0 rfl (lv_at hl 0 rfl) ?_
  refine vp_callSi (va_Run.run (va_runS (As := [.int t]) (rest := []) ⟨hx, hb, hml, hown, hts⟩ (c_X1_addHalves l t) (va_cwS 1 hts gX1_degree_X1_addHalves rfl rfl rfl (by decide +kernel) ⟨Nat.le_of_ble_eq_true rfl, Nat.le_of_ble_eq_true rfl⟩) ⟨fun a U g mk z => ⟨z.1, z.2.blind g mk a⟩, fun U hU hW => ⟨rfl, hE.at0 hS hU hW⟩⟩ rfl rfl hl.1 rfl (lv_room (Nat.le_of_ble_eq_true rfl)) dX1_degree_1 ⟨(Nat.zero_le _), (Nat.zero_le _)⟩)) (fun r hr => ?_)
  subst hr
  refine lv_istore_n (lv' := [(1, .int (fX1_addHalves t)), (0, .int t)]) hx hb dX1_degree_4 rfl hl (by decide) rfl (fun ls hl => ?_)
  refine lv_iconst (v := 0) hx hb dX1_degree_5 (by decide) ?_
  refine lv_istore_n (lv' := [(2, .int 0), (1, .int (fX1_addHalves t)), (0, .int t)]) hx hb dX1_degree_6 rfl hl (by decide) rfl (fun ls hl => ?_)
  refine lv_iconst (v := 0) hx hb dX1_degree_7 (by decide) ?_
  refine lv_istore_n (lv' := [(3, .int 0), (2, .int 0), (1, .int (fX1_addHalves t)), (0, .int t)]) hx hb dX1_degree_8 rfl hl (by decide) rfl (fun ls hl => ?_)
  obtain ⟨F1, hF1⟩ : ∃ z9, z9 = (lp (sX1_degree_9 t) 16 0 0) := ⟨_, rfl⟩
  refine vz_cut (fun H1 l1 g1 => ∃ (n1 i1 : Nat) (a1 : Int32) (ls : Array Slot), i1 + n1 = 16 ∧ lp (sX1_degree_9 t) n1 i1 a1 = F1 ∧ lv_has ls 4 [(3, .int (nI i1)), (2, .int a1), (1, .int (fX1_addHalves t)), (0, .int t)] ∧ (s.heap = H1 ∧ [] = l1) ∧ g1 = F0 m 9 ls []) (fun hj => hj _ _ _ ⟨16, 0, 0, ls, (by omega), hF1.symm, lv_sub hl [0, 1, 2, 3] rfl, ⟨rfl, rfl⟩, rfl⟩) ?_
  rintro H1 l1 g1 ⟨n1, i1, a1, ls, hi1, hf1, hl, ⟨rfl, rfl⟩, rfl⟩
  revert i1 a1 ls
  induction n1 with
  | zero =>
    intro i1 a1 ls hi1 hf1 hl
    obtain rfl : 16 = i1 := by omega
    have hf1 : F1 = a1 := hf1.symm
    subst hf1
    refine lv_iload_n hx hb dX1_degree_9 rfl (lv_at hl 0 rfl) ?_
    refine lv_bipush (v := 16) hx hb dX1_degree_10 (by decide) ?_
    refine lv_icmp_ge (tgt := 39) hx hb dX1_degree_12 (by decide) (fun c_1 => ?_) (fun c_1 => ?_)
    · refine lv_iload_n hx hb dX1_degree_39 rfl (lv_at hl 1 rfl) ?_
      exact W.iret (v := F1) hx hb hr (fun t9 ht hW => ⟨F1, rfl, (by first | ((rw [fX1_degree]); (try rw [← hF1]); first | done | rfl) | rfl), ht⟩) (fun q h => nomatch h) dX1_degree_40
    · exact absurd (nI_le (a := 16) (b := 16) (by omega) (by omega)) c_1
  | succ n1 ih1 =>
    intro i1 a1 ls hi1 hf1 hl
    refine lv_iload_n hx hb dX1_degree_9 rfl (lv_at hl 0 rfl) ?_
    refine lv_bipush (v := 16) hx hb dX1_degree_10 (by decide) ?_
    refine lv_icmp_ge (tgt := 39) hx hb dX1_degree_12 (by decide) (fun c_2 => ?_) (fun c_2 => ?_)
    · exact absurd c_2 (nI_ge (a := i1) (b := 16) (by omega) (by omega))
    · refine lv_iload_n hx hb dX1_degree_15 rfl (lv_at hl 2 rfl) ?_
      refine lv_iload_n hx hb dX1_degree_16 rfl (lv_at hl 0 rfl) ?_
      refine vp_callSi (va_Run.run (va_runS (As := [.int (fX1_addHalves t), .int (nI i1)]) (rest := []) ⟨hx, hb, hml, hown, hts⟩ (c_X1_bit l (fX1_addHalves t) (nI i1)) (va_cwS 2 hts gX1_degree_X1_bit rfl rfl rfl (by decide +kernel) ⟨Nat.le_of_ble_eq_true rfl, Nat.le_of_ble_eq_true rfl⟩) ⟨fun _ _ _ _ z => z, fun _ _ _ => ⟨rfl, trivial⟩⟩ rfl rfl hl.1 rfl (lv_room (Nat.le_of_ble_eq_true rfl)) dX1_degree_17 ⟨(Nat.zero_le _), (Nat.zero_le _)⟩)) (fun r hr => ?_)
      subst hr
      refine lv_iconst (v := 1) hx hb dX1_degree_20 (by decide) ?_
      refine lv_icmp_ne (tgt := 33) hx hb dX1_degree_21 (by decide) (fun c_3 => ?_) (fun c_3 => ?_)
      · refine lv_iinc (v := (nI (i1 + 1))) (lv' := [(3, .int (nI (i1 + 1))), (2, .int a1), (1, .int (fX1_addHalves t)), (0, .int t)]) hx hb dX1_degree_33 hl (k := 0) rfl (by first | exact nI_add _ _ | rfl) (by decide) rfl (fun ls hl => ?_)
        refine lv_goto (tgt := 9) hx hb dX1_degree_36 (by decide) ?_
        exact ih1 (i1 + 1) a1 ls (by omega) ((congrArg (lp (sX1_degree_9 t) n1 (i1 + 1)) (show a1 = (sX1_degree_9 t) i1 a1 from by first | ((rw [sX1_degree_9, if_neg c_3]); first | done | rfl) | rfl)).trans hf1) (lv_sub hl [0, 1, 2, 3] rfl)
      · refine lv_iload_n hx hb dX1_degree_24 rfl (lv_at hl 1 rfl) ?_
        refine lv_iload_n hx hb dX1_degree_25 rfl (lv_at hl 0 rfl) ?_
        refine vp_callSi (va_Run.run (va_runS (As := [.int (nI i1)]) (rest := [.int a1]) ⟨hx, hb, hml, hown, hts⟩ (c_J6_bitCount_0f7a4 l (nI i1)) (va_cwS 1 hts gX1_degree_J6_bitCount_0f7a4 rfl rfl rfl (by decide +kernel) ⟨Nat.le_of_ble_eq_true rfl, Nat.le_of_ble_eq_true rfl⟩) ⟨fun _ _ _ _ z => z, fun _ _ _ => ⟨rfl, trivial⟩⟩ rfl rfl hl.1 rfl (lv_room (Nat.le_of_ble_eq_true rfl)) dX1_degree_26 ⟨(Nat.zero_le _), (Nat.zero_le _)⟩)) (fun r hr => ?_)
        subst hr
        refine va_mmax hx hb (by rw [hml]; exact hl.1.symm) hown (hts (.methodLink RX1 150 Lib.Math.max.name) (List.mem_of_getElem? (i := 1) rfl)) (hts (.static Lib.Math.max.name) (List.mem_of_getElem? (i := 2) rfl)) (hts (.initialized "java/lang/Math") (List.mem_of_getElem? (i := 3) rfl)) (hts (.code Lib.Math.max.name Lib.Math.max.code 2 (some .int)) (List.mem_of_getElem? (i := 4) rfl)) (Nat.le_of_ble_eq_true rfl) (Nat.le_of_ble_eq_true rfl) (Nat.zero_le _) (Nat.zero_le _) dX1_degree_29 ?_
        refine lv_istore_n (lv' := [(2, .int (if a1 < (fJ6_bitCount_0f7a4 (nI i1)) then (fJ6_bitCount_0f7a4 (nI i1)) else a1)), (3, .int (nI i1)), (1, .int (fX1_addHalves t)), (0, .int t)]) hx hb dX1_degree_32 rfl hl (by decide) rfl (fun ls hl => ?_)
        refine lv_iinc (v := (nI (i1 + 1))) (lv' := [(3, .int (nI (i1 + 1))), (2, .int (if a1 < (fJ6_bitCount_0f7a4 (nI i1)) then (fJ6_bitCount_0f7a4 (nI i1)) else a1)), (1, .int (fX1_addHalves t)), (0, .int t)]) hx hb dX1_degree_33 hl (k := 1) rfl (by first | exact nI_add _ _ | rfl) (by decide) rfl (fun ls hl => ?_)
        refine lv_goto (tgt := 9) hx hb dX1_degree_36 (by decide) ?_
        exact ih1 (i1 + 1) (if a1 < (fJ6_bitCount_0f7a4 (nI i1)) then (fJ6_bitCount_0f7a4 (nI i1)) else a1) ls (by omega) ((congrArg (lp (sX1_degree_9 t) n1 (i1 + 1)) (show (if a1 < (fJ6_bitCount_0f7a4 (nI i1)) then (fJ6_bitCount_0f7a4 (nI i1)) else a1) = (sX1_degree_9 t) i1 a1 from by first | ((rw [sX1_degree_9, if_pos c_3]); first | done | rfl) | rfl)).trans hf1) (lv_sub hl [0, 1, 2, 3] rfl)
def sX1_linearTable_18 (t : Int32) (i1 : Nat) (a1 : Int32) : Int32 := if (fX1_bit t (nI i1)) = 1 then (a1 ^^^ (VT i1)) else a1
def fX1_linearTable (t : Int32) : Int32 := (lp (sX1_linearTable_18 t) 4 0 (if (fX1_bit t 4) = 1 then 65535 else 0 : Int32))
set_option maxHeartbeats 4000000 in
set_option maxRecDepth 100000 in
theorem c_X1_linearTable (l : Launch) (t : Int32) : Met l yX1_linearTable wsX1_linearTable ({ frames := 1, cells := 0, slots := 0, locals := 21 }) (va_Pc [.int t] (fun U => env0 U)) (vp_Si (fun r => r = (fX1_linearTable t))) 0 0 (fun _ => False) := by
  refine Met.ofW (cc := cX1_linearTable) (maxL := 3) (ret := (some .int)) (by decide) rfl ?_
  intro p e s m args below meth c s₁ B hml hv
  obtain ⟨rfl, hE⟩ := hv
  have hx := B.exec
  have hb := B.bytes
  have hr := B.returns
  have hts := atoms_spec (ws := wsX1_linearTable) B.pre
  have hown : s.vm.findClass RX1 = some m.cls := findClass_of_methodNamed B.named
  have hlocks := B.notSynchronized
  have hS : va_S (fun _ => False) s.heap s.heap [] := va_S.rf
  obtain ⟨vt, hZ, hT⟩ := hE.2.2.2.1
  have hl := lv_entry ([.int t]) (n := 3) (Nat.le_of_ble_eq_true rfl)
  rw [lg_entry_eq]
  generalize (lg_sl ([.int t]) ++ List.replicate (3 - (lg_sl ([.int t])).length) Slot.unset).toArray = ls at hl ⊢
  have hl : lv_has ls 3 [(0, .int t)] := hl
  refine lv_iload_n hx hb dX1_linearTable_0 rfl (lv_at hl 0 rfl) ?_
  refine lv_iconst (v := 4) hx hb dX1_linearTable_1 (by decide) ?_
  refine vp_callSi (va_Run.run (va_runS (As := [.int t, .int 4]) (rest := []) ⟨hx, hb, hml, hown, hts⟩ (c_X1_bit l t 4) (va_cwS 2 hts gX1_linearTable_X1_bit rfl rfl rfl (by decide +kernel) ⟨Nat.le_of_ble_eq_true rfl, Nat.le_of_ble_eq_true rfl⟩) ⟨fun _ _ _ _ z => z, fun _ _ _ => ⟨rfl, trivial⟩⟩ rfl rfl hl.1 rfl (lv_room (Nat.le_of_ble_eq_true rfl)) dX1_linearTable_2 ⟨(Nat.zero_le _), (Nat.zero_le _)⟩)) (fun r hr => ?_)
  subst hr
  refine lv_iconst (v := 1) hx hb dX1_linearTable_5 (by decide) ?_
  refine vz_cut (fun H1 l1 g1 => ∃ (x1_0 : Int32) (ls : Array Slot), x1_0 = (if (fX1_bit t 4) = 1 then 65535 else 0 : Int32) ∧ lv_has ls 3 [(0, .int t)] ∧ (s.heap = H1 ∧ [] = l1) ∧ g1 = F0 m 15 ls [.int x1_0]) (fun hj1 => ?_) ?_
  · refine lv_icmp_ne (tgt := 14) hx hb dX1_linearTable_6 (by decide) (fun c_1 => ?_) (fun c_1 => ?_)
    · refine lv_iconst (v := 0) hx hb dX1_linearTable_14 (by decide) ?_
      exact hj1 _ _ _ ⟨0, ls, (by (rw [if_neg c_1]); first | done | rfl), lv_sub hl [0] rfl, ⟨rfl, rfl⟩, rfl⟩
    · refine lv_ldc (v := 65535) hx hb hown (hts (.constant RX1 53 (65535)) (List.mem_of_getElem? (i := 1) rfl)) dX1_linearTable_9 ?_
      refine lv_goto (tgt := 15) hx hb dX1_linearTable_11 (by decide) ?_
      exact hj1 _ _ _ ⟨65535, ls, (by (rw [if_pos c_1]); first | done | rfl), lv_sub hl [0] rfl, ⟨rfl, rfl⟩, rfl⟩
  rintro H1 l1 g1 ⟨x1_0, ls, ex1_0, hl, ⟨rfl, rfl⟩, rfl⟩
  subst x1_0
  refine lv_istore_n (lv' := [(1, .int (if (fX1_bit t 4) = 1 then 65535 else 0 : Int32)), (0, .int t)]) hx hb dX1_linearTable_15 rfl hl (by decide) rfl (fun ls hl => ?_)
  refine lv_iconst (v := 0) hx hb dX1_linearTable_16 (by decide) ?_
  refine lv_istore_n (lv' := [(2, .int 0), (1, .int (if (fX1_bit t 4) = 1 then 65535 else 0 : Int32)), (0, .int t)]) hx hb dX1_linearTable_17 rfl hl (by decide) rfl (fun ls hl => ?_)
  obtain ⟨F1, hF1⟩ : ∃ z9, z9 = (lp (sX1_linearTable_18 t) 4 0 (if (fX1_bit t 4) = 1 then 65535 else 0 : Int32)) := ⟨_, rfl⟩
  refine vz_cut (fun H1 l1 g1 => ∃ (n1 i1 : Nat) (a1 : Int32) (ls : Array Slot), i1 + n1 = 4 ∧ lp (sX1_linearTable_18 t) n1 i1 a1 = F1 ∧ lv_has ls 3 [(2, .int (nI i1)), (1, .int a1), (0, .int t)] ∧ (s.heap = H1 ∧ [] = l1) ∧ g1 = F0 m 18 ls []) (fun hj => hj _ _ _ ⟨4, 0, (if (fX1_bit t 4) = 1 then 65535 else 0 : Int32), ls, (by omega), hF1.symm, lv_sub hl [0, 1, 2] rfl, ⟨rfl, rfl⟩, rfl⟩) ?_
  rintro H1 l1 g1 ⟨n1, i1, a1, ls, hi1, hf1, hl, ⟨rfl, rfl⟩, rfl⟩
  revert i1 a1 ls
  induction n1 with
  | zero =>
    intro i1 a1 ls hi1 hf1 hl
    obtain rfl : 4 = i1 := by omega
    have hf1 : F1 = a1 := hf1.symm
    subst hf1
    refine lv_iload_n hx hb dX1_linearTable_18 rfl (lv_at hl 0 rfl) ?_
    refine lv_iconst (v := 4) hx hb dX1_linearTable_19 (by decide) ?_
    refine lv_icmp_ge (tgt := 46) hx hb dX1_linearTable_20 (by decide) (fun c_2 => ?_) (fun c_2 => ?_)
    · refine lv_iload_n hx hb dX1_linearTable_46 rfl (lv_at hl 1 rfl) ?_
      exact W.iret (v := F1) hx hb hr (fun t9 ht hW => ⟨F1, rfl, (by first | ((rw [fX1_linearTable]); (try rw [← hF1]); first | done | rfl) | rfl), ht⟩) (fun q h => nomatch h) dX1_linearTable_47
    · exact absurd (nI_le (a := 4) (b := 4) (by omega) (by omega)) c_2
  | succ n1 ih1 =>
    intro i1 a1 ls hi1 hf1 hl
    refine lv_iload_n hx hb dX1_linearTable_18 rfl (lv_at hl 0 rfl) ?_
    refine lv_iconst (v := 4) hx hb dX1_linearTable_19 (by decide) ?_
    refine lv_icmp_ge (tgt := 46) hx hb dX1_linearTable_20 (by decide) (fun c_3 => ?_) (fun c_3 => ?_)
    · exact absurd c_3 (nI_ge (a := i1) (b := 4) (by omega) (by omega))
    · refine lv_iload_n hx hb dX1_linearTable_23 rfl (lv_at hl 2 rfl) ?_
      refine lv_iload_n hx hb dX1_linearTable_24 rfl (lv_at hl 0 rfl) ?_
      refine vp_callSi (va_Run.run (va_runS (As := [.int t, .int (nI i1)]) (rest := []) ⟨hx, hb, hml, hown, hts⟩ (c_X1_bit l t (nI i1)) (va_cwS 2 hts gX1_linearTable_X1_bit rfl rfl rfl (by decide +kernel) ⟨Nat.le_of_ble_eq_true rfl, Nat.le_of_ble_eq_true rfl⟩) ⟨fun _ _ _ _ z => z, fun _ _ _ => ⟨rfl, trivial⟩⟩ rfl rfl hl.1 rfl (lv_room (Nat.le_of_ble_eq_true rfl)) dX1_linearTable_25 ⟨(Nat.zero_le _), (Nat.zero_le _)⟩)) (fun r hr => ?_)
      subst hr
      refine lv_iconst (v := 1) hx hb dX1_linearTable_28 (by decide) ?_
      refine lv_icmp_ne (tgt := 40) hx hb dX1_linearTable_29 (by decide) (fun c_4 => ?_) (fun c_4 => ?_)
      · refine lv_iinc (v := (nI (i1 + 1))) (lv' := [(2, .int (nI (i1 + 1))), (1, .int a1), (0, .int t)]) hx hb dX1_linearTable_40 hl (k := 0) rfl (by first | exact nI_add _ _ | rfl) (by decide) rfl (fun ls hl => ?_)
        refine lv_goto (tgt := 18) hx hb dX1_linearTable_43 (by decide) ?_
        exact ih1 (i1 + 1) a1 ls (by omega) ((congrArg (lp (sX1_linearTable_18 t) n1 (i1 + 1)) (show a1 = (sX1_linearTable_18 t) i1 a1 from by first | ((rw [sX1_linearTable_18, if_neg c_4]); first | done | rfl) | rfl)).trans hf1) (lv_sub hl [0, 1, 2] rfl)
      · refine lv_iload_n hx hb dX1_linearTable_32 rfl (lv_at hl 1 rfl) ?_
        refine va_gets (v := .ref vt) hx hb hZ hS hown (hts (.fieldLink RX1 50 "ZhegalkinBench" "VARIABLE_TABLES" "[I") (List.mem_of_getElem? (i := 2) rfl)) (fun _ h9 => h9) dX1_linearTable_33 ?_
        refine lv_iload_n hx hb dX1_linearTable_36 rfl (lv_at hl 0 rfl) ?_
        refine vz_ti hx hb hT hS i1 (by omega) (by decide) dX1_linearTable_37 ?_
        refine lv_ixor hx hb dX1_linearTable_38 ?_
        refine lv_istore_n (lv' := [(1, .int (a1 ^^^ (VT i1))), (2, .int (nI i1)), (0, .int t)]) hx hb dX1_linearTable_39 rfl hl (by decide) rfl (fun ls hl => ?_)
        refine lv_iinc (v := (nI (i1 + 1))) (lv' := [(2, .int (nI (i1 + 1))), (1, .int (a1 ^^^ (VT i1))), (0, .int t)]) hx hb dX1_linearTable_40 hl (k := 1) rfl (by first | exact nI_add _ _ | rfl) (by decide) rfl (fun ls hl => ?_)
        refine lv_goto (tgt := 18) hx hb dX1_linearTable_43 (by decide) ?_
        exact ih1 (i1 + 1) (a1 ^^^ (VT i1)) ls (by omega) ((congrArg (lp (sX1_linearTable_18 t) n1 (i1 + 1)) (show (a1 ^^^ (VT i1)) = (sX1_linearTable_18 t) i1 a1 from by first | ((rw [sX1_linearTable_18, if_pos c_4]); first | done | rfl) | rfl)).trans hf1) (lv_sub hl [0, 1, 2] rfl)
def tX1_hasOppositeEnds_2 (t : Int32) : Nat → Nat → Unit → Int32
  | 0, _, _ => 1
  | n1 + 1, i1, a1 => if (fX1_bit t (nI i1)) = (fX1_bit t (15 - (nI i1))) then 0 else tX1_hasOppositeEnds_2 t n1 (i1 + 1) ()
def fX1_hasOppositeEnds (t : Int32) : Int32 := tX1_hasOppositeEnds_2 t 16 0 ()
set_option maxHeartbeats 4000000 in
set_option maxRecDepth 100000 in
theorem c_X1_hasOppositeEnds (l : Launch) (t : Int32) : Met l yX1_hasOppositeEnds wsX1_hasOppositeEnds ({ frames := 1, cells := 0, slots := 0, locals := 21 }) (va_Pc [.int t] (fun _ => True)) (vp_Si (fun r => r = (fX1_hasOppositeEnds t))) 0 0 (fun _ => False) := by
  refine Met.ofW (cc := cX1_hasOppositeEnds) (maxL := 2) (ret := (some .boolean)) (by decide) rfl ?_
  intro p e s m args below meth c s₁ B hml hv
  obtain ⟨rfl, -⟩ := hv
  have hx := B.exec
  have hb := B.bytes
  have hr := B.returns
  have hts := atoms_spec (ws := wsX1_hasOppositeEnds) B.pre
  have hown : s.vm.findClass RX1 = some m.cls := findClass_of_methodNamed B.named
  have hlocks := B.notSynchronized
  have hS : va_S (fun _ => False) s.heap s.heap [] := va_S.rf
  have hl := lv_entry ([.int t]) (n := 2) (Nat.le_of_ble_eq_true rfl)
  rw [lg_entry_eq]
  generalize (lg_sl ([.int t]) ++ List.replicate (2 - (lg_sl ([.int t])).length) Slot.unset).toArray = ls at hl ⊢
  have hl : lv_has ls 2 [(0, .int t)] := hl
  refine lv_iconst (v := 0) hx hb dX1_hasOppositeEnds_0 (by decide) ?_
  refine lv_istore_n (lv' := [(1, .int 0), (0, .int t)]) hx hb dX1_hasOppositeEnds_1 rfl hl (by decide) rfl (fun ls hl => ?_)
  refine vz_cut (fun H1 l1 g1 => ∃ (n1 i1 : Nat) (a1 : Unit) (ls : Array Slot), i1 + n1 = 16 ∧ tX1_hasOppositeEnds_2 t n1 i1 a1 = tX1_hasOppositeEnds_2 t 16 0 () ∧ lv_has ls 2 [(1, .int (nI i1)), (0, .int t)] ∧ (s.heap = H1 ∧ [] = l1) ∧ g1 = F0 m 2 ls []) (fun hj => hj _ _ _ ⟨16, 0, (), ls, (by omega), rfl, lv_sub hl [0, 1] rfl, ⟨rfl, rfl⟩, rfl⟩) ?_
  rintro H1 l1 g1 ⟨n1, i1, a1, ls, hi1, hf1, hl, ⟨rfl, rfl⟩, rfl⟩
  revert i1 a1 ls
  induction n1 with
  | zero =>
    intro i1 a1 ls hi1 hf1 hl
    obtain rfl : 16 = i1 := by omega
    refine lv_iload_n hx hb dX1_hasOppositeEnds_2 rfl (lv_at hl 0 rfl) ?_
    refine lv_bipush (v := 16) hx hb dX1_hasOppositeEnds_3 (by decide) ?_
    refine lv_icmp_ge (tgt := 32) hx hb dX1_hasOppositeEnds_5 (by decide) (fun c_1 => ?_) (fun c_1 => ?_)
    · refine lv_iconst (v := 1) hx hb dX1_hasOppositeEnds_32 (by decide) ?_
      exact W.zret (v := 1) hx hb hr rfl (fun t9 ht hW => ⟨1, rfl, ((show 1 = tX1_hasOppositeEnds_2 t 0 16 a1 from by first | (symm; (rw [tX1_hasOppositeEnds_2]); first | done | rfl) | rfl).trans hf1), ht⟩) (fun q h => nomatch h) dX1_hasOppositeEnds_33
    · exact absurd (nI_le (a := 16) (b := 16) (by omega) (by omega)) c_1
  | succ n1 ih1 =>
    intro i1 a1 ls hi1 hf1 hl
    refine lv_iload_n hx hb dX1_hasOppositeEnds_2 rfl (lv_at hl 0 rfl) ?_
    refine lv_bipush (v := 16) hx hb dX1_hasOppositeEnds_3 (by decide) ?_
    refine lv_icmp_ge (tgt := 32) hx hb dX1_hasOppositeEnds_5 (by decide) (fun c_2 => ?_) (fun c_2 => ?_)
    · exact absurd c_2 (nI_ge (a := i1) (b := 16) (by omega) (by omega))
    · refine lv_iload_n hx hb dX1_hasOppositeEnds_8 rfl (lv_at hl 1 rfl) ?_
      refine lv_iload_n hx hb dX1_hasOppositeEnds_9 rfl (lv_at hl 0 rfl) ?_
      refine vp_callSi (va_Run.run (va_runS (As := [.int t, .int (nI i1)]) (rest := []) ⟨hx, hb, hml, hown, hts⟩ (c_X1_bit l t (nI i1)) (va_cwS 2 hts gX1_hasOppositeEnds_X1_bit rfl rfl rfl (by decide +kernel) ⟨Nat.le_of_ble_eq_true rfl, Nat.le_of_ble_eq_true rfl⟩) ⟨fun _ _ _ _ z => z, fun _ _ _ => ⟨rfl, trivial⟩⟩ rfl rfl hl.1 rfl (lv_room (Nat.le_of_ble_eq_true rfl)) dX1_hasOppositeEnds_10 ⟨(Nat.zero_le _), (Nat.zero_le _)⟩)) (fun r hr => ?_)
      subst hr
      refine lv_iload_n hx hb dX1_hasOppositeEnds_13 rfl (lv_at hl 1 rfl) ?_
      refine lv_bipush (v := 15) hx hb dX1_hasOppositeEnds_14 (by decide) ?_
      refine lv_iload_n hx hb dX1_hasOppositeEnds_16 rfl (lv_at hl 0 rfl) ?_
      refine lv_isub hx hb dX1_hasOppositeEnds_17 ?_
      refine vp_callSi (va_Run.run (va_runS (As := [.int t, .int (15 - (nI i1))]) (rest := [.int (fX1_bit t (nI i1))]) ⟨hx, hb, hml, hown, hts⟩ (c_X1_bit l t (15 - (nI i1))) (va_cwS 2 hts gX1_hasOppositeEnds_X1_bit rfl rfl rfl (by decide +kernel) ⟨Nat.le_of_ble_eq_true rfl, Nat.le_of_ble_eq_true rfl⟩) ⟨fun _ _ _ _ z => z, fun _ _ _ => ⟨rfl, trivial⟩⟩ rfl rfl hl.1 rfl (lv_room (Nat.le_of_ble_eq_true rfl)) dX1_hasOppositeEnds_18 ⟨(Nat.zero_le _), (Nat.zero_le _)⟩)) (fun r hr => ?_)
      subst hr
      refine lv_icmp_ne (tgt := 26) hx hb dX1_hasOppositeEnds_21 (by decide) (fun c_3 => ?_) (fun c_3 => ?_)
      · refine lv_iinc (v := (nI (i1 + 1))) (lv' := [(1, .int (nI (i1 + 1))), (0, .int t)]) hx hb dX1_hasOppositeEnds_26 hl (k := 0) rfl (by first | exact nI_add _ _ | rfl) (by decide) rfl (fun ls hl => ?_)
        refine lv_goto (tgt := 2) hx hb dX1_hasOppositeEnds_29 (by decide) ?_
        exact ih1 (i1 + 1) () ls (by omega) ((show tX1_hasOppositeEnds_2 t n1 (i1 + 1) () = tX1_hasOppositeEnds_2 t (n1 + 1) i1 a1 from by first | (symm; (rw [tX1_hasOppositeEnds_2, if_neg c_3]); first | done | rfl) | rfl).trans hf1) (lv_sub hl [0, 1] rfl)
      · refine lv_iconst (v := 0) hx hb dX1_hasOppositeEnds_24 (by decide) ?_
        exact W.zret (v := 0) hx hb hr rfl (fun t9 ht hW => ⟨0, rfl, ((show 0 = tX1_hasOppositeEnds_2 t (n1 + 1) i1 a1 from by first | (symm; (rw [tX1_hasOppositeEnds_2, if_pos c_3]); first | done | rfl) | rfl).trans hf1), ht⟩) (fun q h => nomatch h) dX1_hasOppositeEnds_25
def tX1_neverFalls_2 (t : Int32) : Nat → Nat → Unit → Int32
  | 0, _, _ => 1
  | n1 + 1, i1, a1 => if ((fX1_half t (nI i1) 0) &&& ((fX1_half t (nI i1) 1) ^^^ (-1))) = 0 then tX1_neverFalls_2 t n1 (i1 + 1) () else 0
def fX1_neverFalls (t : Int32) : Int32 := tX1_neverFalls_2 t 4 0 ()
set_option maxHeartbeats 4000000 in
set_option maxRecDepth 100000 in
theorem c_X1_neverFalls (l : Launch) (t : Int32) : Met l yX1_neverFalls wsX1_neverFalls ({ frames := 1, cells := 0, slots := 0, locals := 24 }) (va_Pc [.int t] (fun U => env0 U)) (vp_Si (fun r => r = (fX1_neverFalls t))) 0 0 (fun _ => False) := by
  refine Met.ofW (cc := cX1_neverFalls) (maxL := 2) (ret := (some .boolean)) (by decide) rfl ?_
  intro p e s m args below meth c s₁ B hml hv
  obtain ⟨rfl, hE⟩ := hv
  have hx := B.exec
  have hb := B.bytes
  have hr := B.returns
  have hts := atoms_spec (ws := wsX1_neverFalls) B.pre
  have hown : s.vm.findClass RX1 = some m.cls := findClass_of_methodNamed B.named
  have hlocks := B.notSynchronized
  have hS : va_S (fun _ => False) s.heap s.heap [] := va_S.rf
  have hl := lv_entry ([.int t]) (n := 2) (Nat.le_of_ble_eq_true rfl)
  rw [lg_entry_eq]
  generalize (lg_sl ([.int t]) ++ List.replicate (2 - (lg_sl ([.int t])).length) Slot.unset).toArray = ls at hl ⊢
  have hl : lv_has ls 2 [(0, .int t)] := hl
  refine lv_iconst (v := 0) hx hb dX1_neverFalls_0 (by decide) ?_
  refine lv_istore_n (lv' := [(1, .int 0), (0, .int t)]) hx hb dX1_neverFalls_1 rfl hl (by decide) rfl (fun ls hl => ?_)
  refine vz_cut (fun H1 l1 g1 => ∃ (n1 i1 : Nat) (a1 : Unit) (ls : Array Slot), i1 + n1 = 4 ∧ tX1_neverFalls_2 t n1 i1 a1 = tX1_neverFalls_2 t 4 0 () ∧ lv_has ls 2 [(1, .int (nI i1)), (0, .int t)] ∧ (s.heap = H1 ∧ [] = l1) ∧ g1 = F0 m 2 ls []) (fun hj => hj _ _ _ ⟨4, 0, (), ls, (by omega), rfl, lv_sub hl [0, 1] rfl, ⟨rfl, rfl⟩, rfl⟩) ?_
  rintro H1 l1 g1 ⟨n1, i1, a1, ls, hi1, hf1, hl, ⟨rfl, rfl⟩, rfl⟩
  revert i1 a1 ls
  induction n1 with
  | zero =>
    intro i1 a1 ls hi1 hf1 hl
    obtain rfl : 4 = i1 := by omega
    refine lv_iload_n hx hb dX1_neverFalls_2 rfl (lv_at hl 0 rfl) ?_
    refine lv_iconst (v := 4) hx hb dX1_neverFalls_3 (by decide) ?_
    refine lv_icmp_ge (tgt := 33) hx hb dX1_neverFalls_4 (by decide) (fun c_1 => ?_) (fun c_1 => ?_)
    · refine lv_iconst (v := 1) hx hb dX1_neverFalls_33 (by decide) ?_
      exact W.zret (v := 1) hx hb hr rfl (fun t9 ht hW => ⟨1, rfl, ((show 1 = tX1_neverFalls_2 t 0 4 a1 from by first | (symm; (rw [tX1_neverFalls_2]); first | done | rfl) | rfl).trans hf1), ht⟩) (fun q h => nomatch h) dX1_neverFalls_34
    · exact absurd (nI_le (a := 4) (b := 4) (by omega) (by omega)) c_1
  | succ n1 ih1 =>
    intro i1 a1 ls hi1 hf1 hl
    refine lv_iload_n hx hb dX1_neverFalls_2 rfl (lv_at hl 0 rfl) ?_
    refine lv_iconst (v := 4) hx hb dX1_neverFalls_3 (by decide) ?_
    refine lv_icmp_ge (tgt := 33) hx hb dX1_neverFalls_4 (by decide) (fun c_2 => ?_) (fun c_2 => ?_)
    · exact absurd c_2 (nI_ge (a := i1) (b := 4) (by omega) (by omega))
    · refine lv_iload_n hx hb dX1_neverFalls_7 rfl (lv_at hl 1 rfl) ?_
      refine lv_iload_n hx hb dX1_neverFalls_8 rfl (lv_at hl 0 rfl) ?_
      refine lv_iconst (v := 0) hx hb dX1_neverFalls_9 (by decide) ?_
      refine vp_callSi (va_Run.run (va_runS (As := [.int t, .int (nI i1), .int 0]) (rest := []) ⟨hx, hb, hml, hown, hts⟩ (c_X1_half l t (nI i1) 0 (vp_in_nI (n := i1) (by omega) (by decide))) (va_cwS 3 hts gX1_neverFalls_X1_half rfl rfl rfl (by decide +kernel) ⟨Nat.le_of_ble_eq_true rfl, Nat.le_of_ble_eq_true rfl⟩) ⟨fun a U g mk z => ⟨z.1, z.2.blind g mk a⟩, fun U hU hW => ⟨rfl, hE.at0 hS hU hW⟩⟩ rfl rfl hl.1 rfl (lv_room (Nat.le_of_ble_eq_true rfl)) dX1_neverFalls_10 ⟨(Nat.zero_le _), (Nat.zero_le _)⟩)) (fun r hr => ?_)
      subst hr
      refine lv_iload_n hx hb dX1_neverFalls_13 rfl (lv_at hl 1 rfl) ?_
      refine lv_iload_n hx hb dX1_neverFalls_14 rfl (lv_at hl 0 rfl) ?_
      refine lv_iconst (v := 1) hx hb dX1_neverFalls_15 (by decide) ?_
      refine vp_callSi (va_Run.run (va_runS (As := [.int t, .int (nI i1), .int 1]) (rest := [.int (fX1_half t (nI i1) 0)]) ⟨hx, hb, hml, hown, hts⟩ (c_X1_half l t (nI i1) 1 (vp_in_nI (n := i1) (by omega) (by decide))) (va_cwS 3 hts gX1_neverFalls_X1_half rfl rfl rfl (by decide +kernel) ⟨Nat.le_of_ble_eq_true rfl, Nat.le_of_ble_eq_true rfl⟩) ⟨fun a U g mk z => ⟨z.1, z.2.blind g mk a⟩, fun U hU hW => ⟨rfl, hE.at0 hS hU hW⟩⟩ rfl rfl hl.1 rfl (lv_room (Nat.le_of_ble_eq_true rfl)) dX1_neverFalls_16 ⟨(Nat.zero_le _), (Nat.zero_le _)⟩)) (fun r hr => ?_)
      subst hr
      refine lv_iconst (v := (-1)) hx hb dX1_neverFalls_19 (by decide) ?_
      refine lv_ixor hx hb dX1_neverFalls_20 ?_
      refine lv_iand hx hb dX1_neverFalls_21 ?_
      refine lv_if_eq (tgt := 27) hx hb dX1_neverFalls_22 (by decide) (fun c_3 => ?_) (fun c_3 => ?_)
      · refine lv_iinc (v := (nI (i1 + 1))) (lv' := [(1, .int (nI (i1 + 1))), (0, .int t)]) hx hb dX1_neverFalls_27 hl (k := 0) rfl (by first | exact nI_add _ _ | rfl) (by decide) rfl (fun ls hl => ?_)
        refine lv_goto (tgt := 2) hx hb dX1_neverFalls_30 (by decide) ?_
        exact ih1 (i1 + 1) () ls (by omega) ((show tX1_neverFalls_2 t n1 (i1 + 1) () = tX1_neverFalls_2 t (n1 + 1) i1 a1 from by first | (symm; (rw [tX1_neverFalls_2, if_pos c_3]); first | done | rfl) | rfl).trans hf1) (lv_sub hl [0, 1] rfl)
      · refine lv_iconst (v := 0) hx hb dX1_neverFalls_25 (by decide) ?_
        exact W.zret (v := 0) hx hb hr rfl (fun t9 ht hW => ⟨0, rfl, ((show 0 = tX1_neverFalls_2 t (n1 + 1) i1 a1 from by first | (symm; (rw [tX1_neverFalls_2, if_neg c_3]); first | done | rfl) | rfl).trans hf1), ht⟩) (fun q h => nomatch h) dX1_neverFalls_26
def mX1_classesOf_7 (t : Int32) : Int32 := (if (fX1_bit t 0) = 0 then (0 ||| 1) else 0 : Int32)
def mX1_classesOf_21 (t : Int32) (x1_0 : Int32) : Int32 := (if (fX1_bit t 15) = 1 then (x1_0 ||| 2) else x1_0 : Int32)
def mX1_classesOf_32 (t : Int32) (x2_0 : Int32) : Int32 := (if (fX1_hasOppositeEnds t) = 0 then x2_0 else (x2_0 ||| 4) : Int32)
def mX1_classesOf_43 (t : Int32) (x3_0 : Int32) : Int32 := (if (fX1_neverFalls t) = 0 then x3_0 else (x3_0 ||| 8) : Int32)
def mX1_classesOf_56 (t : Int32) (x4_0 : Int32) : Int32 := (if 1 < (fX1_degree t) then x4_0 else (x4_0 ||| 16) : Int32)
def fX1_classesOf (t : Int32) : Int32 := (mX1_classesOf_56 t (mX1_classesOf_43 t (mX1_classesOf_32 t (mX1_classesOf_21 t (mX1_classesOf_7 t)))))
set_option maxHeartbeats 4000000 in
set_option maxRecDepth 100000 in
theorem c_X1_classesOf (l : Launch) (t : Int32) : Met l yX1_classesOf wsX1_classesOf ({ frames := 2, cells := 0, slots := 0, locals := 46 }) (va_Pc [.int t] (fun U => env0 U)) (vp_Si (fun r => r = (fX1_classesOf t))) 0 0 (fun _ => False) := by
  refine Met.ofW (cc := cX1_classesOf) (maxL := 2) (ret := (some .int)) (by decide) rfl ?_
  intro p e s m args below meth c s₁ B hml hv
  obtain ⟨rfl, hE⟩ := hv
  have hx := B.exec
  have hb := B.bytes
  have hr := B.returns
  have hts := atoms_spec (ws := wsX1_classesOf) B.pre
  have hown : s.vm.findClass RX1 = some m.cls := findClass_of_methodNamed B.named
  have hlocks := B.notSynchronized
  have hS : va_S (fun _ => False) s.heap s.heap [] := va_S.rf
  have hl := lv_entry ([.int t]) (n := 2) (Nat.le_of_ble_eq_true rfl)
  rw [lg_entry_eq]
  generalize (lg_sl ([.int t]) ++ List.replicate (2 - (lg_sl ([.int t])).length) Slot.unset).toArray = ls at hl ⊢
  have hl : lv_has ls 2 [(0, .int t)] := hl
  refine lv_iconst (v := 0) hx hb dX1_classesOf_0 (by decide) ?_
  refine lv_istore_n (lv' := [(1, .int 0), (0, .int t)]) hx hb dX1_classesOf_1 rfl hl (by decide) rfl (fun ls hl => ?_)
  refine lv_iload_n hx hb dX1_classesOf_2 rfl (lv_at hl 1 rfl) ?_
  refine lv_iconst (v := 0) hx hb dX1_classesOf_3 (by decide) ?_
  refine vp_callSi (va_Run.run (va_runS (As := [.int t, .int 0]) (rest := []) ⟨hx, hb, hml, hown, hts⟩ (c_X1_bit l t 0) (va_cwS 2 hts gX1_classesOf_X1_bit rfl rfl rfl (by decide +kernel) ⟨Nat.le_of_ble_eq_true rfl, Nat.le_of_ble_eq_true rfl⟩) ⟨fun _ _ _ _ z => z, fun _ _ _ => ⟨rfl, trivial⟩⟩ rfl rfl hl.1 rfl (lv_room (Nat.le_of_ble_eq_true rfl)) dX1_classesOf_4 ⟨(Nat.zero_le _), (Nat.zero_le _)⟩)) (fun r hr => ?_)
  subst hr
  refine vz_cut (fun H1 l1 g1 => ∃ (x1_0 : Int32) (ls : Array Slot), x1_0 = (if (fX1_bit t 0) = 0 then (0 ||| 1) else 0 : Int32) ∧ lv_has ls 2 [(1, .int x1_0), (0, .int t)] ∧ (s.heap = H1 ∧ [] = l1) ∧ g1 = F0 m 14 ls []) (fun hj1 => ?_) ?_
  · refine lv_if_ne (tgt := 14) hx hb dX1_classesOf_7 (by decide) (fun c_1 => ?_) (fun c_1 => ?_)
    · exact hj1 _ _ _ ⟨0, ls, (by (rw [if_neg c_1]); first | done | rfl), lv_sub hl [0, 1] rfl, ⟨rfl, rfl⟩, rfl⟩
    · refine lv_iload_n hx hb dX1_classesOf_10 rfl (lv_at hl 0 rfl) ?_
      refine lv_iconst (v := 1) hx hb dX1_classesOf_11 (by decide) ?_
      refine lv_ior hx hb dX1_classesOf_12 ?_
      refine lv_istore_n (lv' := [(1, .int (0 ||| 1)), (0, .int t)]) hx hb dX1_classesOf_13 rfl hl (by decide) rfl (fun ls hl => ?_)
      exact hj1 _ _ _ ⟨(0 ||| 1), ls, (by (rw [if_pos c_1]); first | done | rfl), lv_sub hl [0, 1] rfl, ⟨rfl, rfl⟩, rfl⟩
  rintro H1 l1 g1 ⟨x1_0, ls, ex1_0, hl, ⟨rfl, rfl⟩, rfl⟩
  have ex1_0 : x1_0 = (mX1_classesOf_7 t) := ex1_0
  refine lv_iload_n hx hb dX1_classesOf_14 rfl (lv_at hl 1 rfl) ?_
  refine lv_bipush (v := 15) hx hb dX1_classesOf_15 (by decide) ?_
  refine vp_callSi (va_Run.run (va_runS (As := [.int t, .int 15]) (rest := []) ⟨hx, hb, hml, hown, hts⟩ (c_X1_bit l t 15) (va_cwS 2 hts gX1_classesOf_X1_bit rfl rfl rfl (by decide +kernel) ⟨Nat.le_of_ble_eq_true rfl, Nat.le_of_ble_eq_true rfl⟩) ⟨fun _ _ _ _ z => z, fun _ _ _ => ⟨rfl, trivial⟩⟩ rfl rfl hl.1 rfl (lv_room (Nat.le_of_ble_eq_true rfl)) dX1_classesOf_17 ⟨(Nat.zero_le _), (Nat.zero_le _)⟩)) (fun r hr => ?_)
  subst hr
  refine lv_iconst (v := 1) hx hb dX1_classesOf_20 (by decide) ?_
  refine vz_cut (fun H1 l1 g1 => ∃ (x2_0 : Int32) (ls : Array Slot), x2_0 = (if (fX1_bit t 15) = 1 then (x1_0 ||| 2) else x1_0 : Int32) ∧ lv_has ls 2 [(1, .int x2_0), (0, .int t)] ∧ (s.heap = H1 ∧ [] = l1) ∧ g1 = F0 m 28 ls []) (fun hj2 => ?_) ?_
  · refine lv_icmp_ne (tgt := 28) hx hb dX1_classesOf_21 (by decide) (fun c_2 => ?_) (fun c_2 => ?_)
    · exact hj2 _ _ _ ⟨x1_0, ls, (by (rw [if_neg c_2]); first | done | rfl), lv_sub hl [0, 1] rfl, ⟨rfl, rfl⟩, rfl⟩
    · refine lv_iload_n hx hb dX1_classesOf_24 rfl (lv_at hl 0 rfl) ?_
      refine lv_iconst (v := 2) hx hb dX1_classesOf_25 (by decide) ?_
      refine lv_ior hx hb dX1_classesOf_26 ?_
      refine lv_istore_n (lv' := [(1, .int (x1_0 ||| 2)), (0, .int t)]) hx hb dX1_classesOf_27 rfl hl (by decide) rfl (fun ls hl => ?_)
      exact hj2 _ _ _ ⟨(x1_0 ||| 2), ls, (by (rw [if_pos c_2]); first | done | rfl), lv_sub hl [0, 1] rfl, ⟨rfl, rfl⟩, rfl⟩
  rintro H1 l1 g1 ⟨x2_0, ls, ex2_0, hl, ⟨rfl, rfl⟩, rfl⟩
  have ex2_0 : x2_0 = (mX1_classesOf_21 t x1_0) := ex2_0
  refine lv_iload_n hx hb dX1_classesOf_28 rfl (lv_at hl 1 rfl) ?_
  refine vp_callSi (va_Run.run (va_runS (As := [.int t]) (rest := []) ⟨hx, hb, hml, hown, hts⟩ (c_X1_hasOppositeEnds l t) (va_cwS 1 hts gX1_classesOf_X1_hasOppositeEnds rfl rfl rfl (by decide +kernel) ⟨Nat.le_of_ble_eq_true rfl, Nat.le_of_ble_eq_true rfl⟩) ⟨fun _ _ _ _ z => z, fun _ _ _ => ⟨rfl, trivial⟩⟩ rfl rfl hl.1 rfl (lv_room (Nat.le_of_ble_eq_true rfl)) dX1_classesOf_29 ⟨(Nat.zero_le _), (Nat.zero_le _)⟩)) (fun r hr => ?_)
  subst hr
  refine vz_cut (fun H1 l1 g1 => ∃ (x3_0 : Int32) (ls : Array Slot), x3_0 = (if (fX1_hasOppositeEnds t) = 0 then x2_0 else (x2_0 ||| 4) : Int32) ∧ lv_has ls 2 [(1, .int x3_0), (0, .int t)] ∧ (s.heap = H1 ∧ [] = l1) ∧ g1 = F0 m 39 ls []) (fun hj3 => ?_) ?_
  · refine lv_if_eq (tgt := 39) hx hb dX1_classesOf_32 (by decide) (fun c_3 => ?_) (fun c_3 => ?_)
    · exact hj3 _ _ _ ⟨x2_0, ls, (by (rw [if_pos c_3]); first | done | rfl), lv_sub hl [0, 1] rfl, ⟨rfl, rfl⟩, rfl⟩
    · refine lv_iload_n hx hb dX1_classesOf_35 rfl (lv_at hl 0 rfl) ?_
      refine lv_iconst (v := 4) hx hb dX1_classesOf_36 (by decide) ?_
      refine lv_ior hx hb dX1_classesOf_37 ?_
      refine lv_istore_n (lv' := [(1, .int (x2_0 ||| 4)), (0, .int t)]) hx hb dX1_classesOf_38 rfl hl (by decide) rfl (fun ls hl => ?_)
      exact hj3 _ _ _ ⟨(x2_0 ||| 4), ls, (by (rw [if_neg c_3]); first | done | rfl), lv_sub hl [0, 1] rfl, ⟨rfl, rfl⟩, rfl⟩
  rintro H1 l1 g1 ⟨x3_0, ls, ex3_0, hl, ⟨rfl, rfl⟩, rfl⟩
  have ex3_0 : x3_0 = (mX1_classesOf_32 t x2_0) := ex3_0
  refine lv_iload_n hx hb dX1_classesOf_39 rfl (lv_at hl 1 rfl) ?_
  refine vp_callSi (va_Run.run (va_runS (As := [.int t]) (rest := []) ⟨hx, hb, hml, hown, hts⟩ (c_X1_neverFalls l t) (va_cwS 1 hts gX1_classesOf_X1_neverFalls rfl rfl rfl (by decide +kernel) ⟨Nat.le_of_ble_eq_true rfl, Nat.le_of_ble_eq_true rfl⟩) ⟨fun a U g mk z => ⟨z.1, z.2.blind g mk a⟩, fun U hU hW => ⟨rfl, hE.at0 hS hU hW⟩⟩ rfl rfl hl.1 rfl (lv_room (Nat.le_of_ble_eq_true rfl)) dX1_classesOf_40 ⟨(Nat.zero_le _), (Nat.zero_le _)⟩)) (fun r hr => ?_)
  subst hr
  refine vz_cut (fun H1 l1 g1 => ∃ (x4_0 : Int32) (ls : Array Slot), x4_0 = (if (fX1_neverFalls t) = 0 then x3_0 else (x3_0 ||| 8) : Int32) ∧ lv_has ls 2 [(1, .int x4_0), (0, .int t)] ∧ (s.heap = H1 ∧ [] = l1) ∧ g1 = F0 m 51 ls []) (fun hj4 => ?_) ?_
  · refine lv_if_eq (tgt := 51) hx hb dX1_classesOf_43 (by decide) (fun c_4 => ?_) (fun c_4 => ?_)
    · exact hj4 _ _ _ ⟨x3_0, ls, (by (rw [if_pos c_4]); first | done | rfl), lv_sub hl [0, 1] rfl, ⟨rfl, rfl⟩, rfl⟩
    · refine lv_iload_n hx hb dX1_classesOf_46 rfl (lv_at hl 0 rfl) ?_
      refine lv_bipush (v := 8) hx hb dX1_classesOf_47 (by decide) ?_
      refine lv_ior hx hb dX1_classesOf_49 ?_
      refine lv_istore_n (lv' := [(1, .int (x3_0 ||| 8)), (0, .int t)]) hx hb dX1_classesOf_50 rfl hl (by decide) rfl (fun ls hl => ?_)
      exact hj4 _ _ _ ⟨(x3_0 ||| 8), ls, (by (rw [if_neg c_4]); first | done | rfl), lv_sub hl [0, 1] rfl, ⟨rfl, rfl⟩, rfl⟩
  rintro H1 l1 g1 ⟨x4_0, ls, ex4_0, hl, ⟨rfl, rfl⟩, rfl⟩
  have ex4_0 : x4_0 = (mX1_classesOf_43 t x3_0) := ex4_0
  refine lv_iload_n hx hb dX1_classesOf_51 rfl (lv_at hl 1 rfl) ?_
  refine vp_callSi (va_Run.run (va_runS (As := [.int t]) (rest := []) ⟨hx, hb, hml, hown, hts⟩ (c_X1_degree l t) (va_cwS 1 hts gX1_classesOf_X1_degree rfl rfl rfl (by decide +kernel) ⟨Nat.le_of_ble_eq_true rfl, Nat.le_of_ble_eq_true rfl⟩) ⟨fun a U g mk z => ⟨z.1, z.2.blind g mk a⟩, fun U hU hW => ⟨rfl, hE.at0 hS hU hW⟩⟩ rfl rfl hl.1 rfl (lv_room (Nat.le_of_ble_eq_true rfl)) dX1_classesOf_52 ⟨(Nat.zero_le _), (Nat.zero_le _)⟩)) (fun r hr => ?_)
  subst hr
  refine lv_iconst (v := 1) hx hb dX1_classesOf_55 (by decide) ?_
  refine vz_cut (fun H1 l1 g1 => ∃ (x5_0 : Int32) (ls : Array Slot), x5_0 = (if 1 < (fX1_degree t) then x4_0 else (x4_0 ||| 16) : Int32) ∧ lv_has ls 2 [(1, .int x5_0), (0, .int t)] ∧ (s.heap = H1 ∧ [] = l1) ∧ g1 = F0 m 64 ls []) (fun hj5 => ?_) ?_
  · refine lv_icmp_gt (tgt := 64) hx hb dX1_classesOf_56 (by decide) (fun c_5 => ?_) (fun c_5 => ?_)
    · exact hj5 _ _ _ ⟨x4_0, ls, (by (rw [if_pos c_5]); first | done | rfl), lv_sub hl [0, 1] rfl, ⟨rfl, rfl⟩, rfl⟩
    · refine lv_iload_n hx hb dX1_classesOf_59 rfl (lv_at hl 0 rfl) ?_
      refine lv_bipush (v := 16) hx hb dX1_classesOf_60 (by decide) ?_
      refine lv_ior hx hb dX1_classesOf_62 ?_
      refine lv_istore_n (lv' := [(1, .int (x4_0 ||| 16)), (0, .int t)]) hx hb dX1_classesOf_63 rfl hl (by decide) rfl (fun ls hl => ?_)
      exact hj5 _ _ _ ⟨(x4_0 ||| 16), ls, (by (rw [if_neg c_5]); first | done | rfl), lv_sub hl [0, 1] rfl, ⟨rfl, rfl⟩, rfl⟩
  rintro H1 l1 g1 ⟨x5_0, ls, ex5_0, hl, ⟨rfl, rfl⟩, rfl⟩
  have ex5_0 : x5_0 = (mX1_classesOf_56 t x4_0) := ex5_0
  refine lv_iload_n hx hb dX1_classesOf_64 rfl (lv_at hl 0 rfl) ?_
  exact W.iret (v := x5_0) hx hb hr (fun t9 ht hW => ⟨x5_0, rfl, (by first | ((rw [fX1_classesOf]); (try rw [← ex1_0]); (try rw [← ex2_0]); (try rw [← ex3_0]); (try rw [← ex4_0]); (try rw [← ex5_0]); first | done | rfl) | rfl), ht⟩) (fun q h => nomatch h) dX1_classesOf_65
