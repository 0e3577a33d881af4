def vQ (l : List Nat) : Nat → Nat := fun i => l.getD i 0
def vC (d : ClassId) (l : List ClassId) : Nat → ClassId := fun i => l.getD i d
theorem in_X1_init_X1 : ∀ w ∈ wsX10, w ∈ wsX1_init := by decide +kernel
theorem in_X1_init_X0 : ∀ w ∈ wsX00, w ∈ wsX1_init := by decide +kernel
def sX1_init_85 (i1 : Nat) (a1 : (Nat → Int32)) : (Nat → Int32) := (upd a1 i1 (VT i1))
def fX1_init : Nat → Int32 := (upd (upd (lp sX1_init_85 4 0 (fun _ => 0)) 4 0) 5 65535)
set_option maxHeartbeats 4000000 in
set_option maxRecDepth 100000 in
theorem c_X1_init (l : Launch) (D : va_G) (a0 : Nat) (sz : Nat) : Met l yX1_init wsX1_init ({ frames := 2, cells := 7, slots := 184, locals := 33 }) (va_Pc [.ref a0] (fun U => U.heap.size = sz ∧ va_P D vwCl [(a0, .inr (1, [.null, .null, .int 0, .null, .int 0, .null, .int 0, .null, .null, .null, .int 0]))] U.heap ∧ va_K D vwCl [] U ∧ va_D (fun _ => True) [(a0, .inr (1, [.null, .null, .int 0, .null, .int 0, .null, .int 0, .null, .null, .null, .int 0]))] ∧ envE (va_A [(a0, .inr (1, [.null, .null, .int 0, .null, .int 0, .null, .int 0, .null, .null, .null, .int 0]))] sz) U)) (va_Qv (fun (_ : Unit) => True) (fun _ t9 => ∃ (q : Nat → Nat) (cq : Nat → ClassId), q 0 = a0 ∧ va_P D vwCl (wB q cq fX1_init (fun _ => 0) (fun _ => 0) (fun _ => 0) (fun _ => 0) (fun _ => 0) 0 0 0 fX0_init.1 fX0_init.2.1 fX0_init.2.2.1 fX0_init.2.2.2 0) t9.heap ∧ va_K D vwCl (tyB cq) t9 ∧ va_D (va_A [(a0, .inr (1, [.null, .null, .int 0, .null, .int 0, .null, .int 0, .null, .null, .null, .int 0]))] sz) (wB q cq fX1_init (fun _ => 0) (fun _ => 0) (fun _ => 0) (fun _ => 0) (fun _ => 0) 0 0 0 fX0_init.1 fX0_init.2.1 fX0_init.2.2.1 fX0_init.2.2.2 0)) (va_A [(a0, .inr (1, [.null, .null, .int 0, .null, .int 0, .null, .int 0, .null, .null, .null, .int 0]))] sz)) 7 184 (va_A [(a0, .inr (1, [.null, .null, .int 0, .null, .int 0, .null, .int 0, .null, .null, .null, .int 0]))] sz) := by
  refine Met.ofW (cc := cX1_init) (maxL := 2) (ret := none) (by decide) rfl ?_
  intro p e s m args below meth c s₁ B hml hv
  obtain ⟨rfl, hsz, hP, hK, hD0, hE⟩ := hv
  have hx := B.exec
  have hb := B.bytes
  have hr := B.returns
  have hts := atoms_spec (ws := wsX1_init) B.pre
  have hown : s.vm.findClass RX1 = some m.cls := findClass_of_methodNamed B.named
  have hlocks := B.notSynchronized
  have hinit : meth.name = "<init>" := (name_of_methodNamed B.named B.method).1
  subst hsz
  have hD := hD0.self (sz := s.heap.size)
  generalize hAe : va_A [(a0, .inr (1, [.null, .null, .int 0, .null, .int 0, .null, .int 0, .null, .null, .null, .int 0]))] s.heap.size = A at hD hE ⊢
  have hA : ∀ q : Nat, s.heap.size ≤ q → A q := fun q h => by rw [← hAe]; exact Or.inr h
  have hS : va_S A s.heap s.heap [] := va_S.rf
  have hP : va_P D vwCl [(a0, .inr (1, [.null, .null, .int 0, .null, .int 0, .null, .int 0, .null, .null, .null, .int 0]))] s.heap := hP
  obtain ⟨vt, hZ, hT⟩ := hE.2.2.2.1
  have hl := lv_entry ([.ref a0]) (n := 2) (Nat.le_of_ble_eq_true rfl)
  rw [lg_entry_eq]
  generalize (lg_sl ([.ref a0]) ++ List.replicate (2 - (lg_sl ([.ref a0])).length) Slot.unset).toArray = ls at hl ⊢
  have hl : lv_has ls 2 [(0, .ref a0)] := hl
  refine lv_aload_n hx hb dX1_init_0 rfl (lv_at hl 0 rfl) ?_
  refine W.objInit hx hb hown (hts (.methodLink RX1 1 objectInit) (List.mem_of_getElem? (i := 1) rfl)) (hts (.instanceMethod objectInit) (List.mem_of_getElem? (i := 2) rfl)) (hts (.code objectInit ⟨#[0xb1]⟩ 1 none) (List.mem_of_getElem? (i := 3) rfl)) rfl (by rw [hml]; exact hl.1) rfl dX1_init_1 (Nat.le_of_ble_eq_true rfl) (Nat.le_of_ble_eq_true rfl) ?_
  refine W.eq (g2 := F0 m 4 ls []) rfl ?_
  refine lv_aload_n hx hb dX1_init_4 rfl (lv_at hl 0 rfl) ?_
  refine lv_bipush (v := 6) hx hb dX1_init_5 (by decide) ?_
  refine va_newa (atype := .int) (ty := .int) (n := 6) (N' := 6) (a0 := (6, .inl (fun _ => 0))) hx hb (hts (.arrayClass .int) (List.mem_of_getElem? (i := 4) rfl)) rfl hK hP hD hS hA (fun _ => rfl) (by decide) rfl (by decide) (Nat.le_of_ble_eq_true rfl) (Nat.le_of_ble_eq_true rfl) dX1_init_7 (fun q7 c7 H hK hP hD hS => ?_)
  have hK : va_K D vwCl [(c7, .int)] s := hK
  have hP : va_P D vwCl [(a0, .inr (1, [.null, .null, .int 0, .null, .int 0, .null, .int 0, .null, .null, .null, .int 0])), (q7, .inl (c7, (6, .inl (fun _ => 0))))] H := hP
  have hD : va_D A [(a0, .inr (1, [.null, .null, .int 0, .null, .int 0, .null, .int 0, .null, .null, .null, .int 0])), (q7, .inl (c7, (6, .inl (fun _ => 0))))] := hD
  refine W.widen (k := 1) (n := 6) (Nat.le_of_ble_eq_true rfl) (Nat.le_of_ble_eq_true rfl) ?_
  refine va_putF (D := D) (ci := 1) (v := .ref q7) (ty := .array .int) (C := RX1) (T := TX1) (N := 11) hx hb hts in_X1_init_X1 tyX1 tyX1_ok nmX1 hown hK hP hD hS 0 rfl rfl 0 (by decide) (hts (.fieldLink RX1 9 "ZhegalkinBench" "tables" "[I") (List.mem_of_getElem? (i := 5) rfl)) (fun _ h9 => h9) rfl hinit rfl (by decide +kernel) rfl rfl (Nat.le_of_ble_eq_true rfl) dX1_init_9 (fun H locs hP hD hS => ?_)
  have hP : va_P D vwCl [(a0, .inr (1, [.ref q7, .null, .int 0, .null, .int 0, .null, .int 0, .null, .null, .null, .int 0])), (q7, .inl (c7, (6, .inl (fun _ => 0))))] H := hP
  have hD : va_D A [(a0, .inr (1, [.ref q7, .null, .int 0, .null, .int 0, .null, .int 0, .null, .null, .null, .int 0])), (q7, .inl (c7, (6, .inl (fun _ => 0))))] := hD
  refine lv_aload_n hx hb dX1_init_12 rfl (lv_at hl 0 rfl) ?_
  refine lv_bipush (v := 24) hx hb dX1_init_13 (by decide) ?_
  refine va_newa (atype := .int) (ty := .int) (n := 24) (N' := 24) (a0 := (24, .inl (fun _ => 0))) hx hb (hts (.arrayClass .int) (List.mem_of_getElem? (i := 4) rfl)) rfl hK hP hD hS hA (fun _ => rfl) (by decide) rfl (by decide) (Nat.le_of_ble_eq_true rfl) (Nat.le_of_ble_eq_true rfl) dX1_init_15 (fun q15 c15 H hK hP hD hS => ?_)
  have hK : va_K D vwCl [(c7, .int), (c15, .int)] s := hK
  have hP : va_P D vwCl [(a0, .inr (1, [.ref q7, .null, .int 0, .null, .int 0, .null, .int 0, .null, .null, .null, .int 0])), (q7, .inl (c7, (6, .inl (fun _ => 0)))), (q15, .inl (c15, (24, .inl (fun _ => 0))))] H := hP
  have hD : va_D A [(a0, .inr (1, [.ref q7, .null, .int 0, .null, .int 0, .null, .int 0, .null, .null, .null, .int 0])), (q7, .inl (c7, (6, .inl (fun _ => 0)))), (q15, .inl (c15, (24, .inl (fun _ => 0))))] := hD
  refine W.widen (k := 2) (n := 30) (Nat.le_of_ble_eq_true rfl) (Nat.le_of_ble_eq_true rfl) ?_
  refine va_putF (D := D) (ci := 1) (v := .ref q15) (ty := .array .int) (C := RX1) (T := TX1) (N := 11) hx hb hts in_X1_init_X1 tyX1 tyX1_ok nmX1 hown hK hP hD hS 0 rfl rfl 1 (by decide) (hts (.fieldLink RX1 13 "ZhegalkinBench" "recorded" "[I") (List.mem_of_getElem? (i := 6) rfl)) (fun _ h9 => h9) rfl hinit rfl (by decide +kernel) rfl rfl (Nat.le_of_ble_eq_true rfl) dX1_init_17 (fun H locs hP hD hS => ?_)
  have hP : va_P D vwCl [(a0, .inr (1, [.ref q7, .ref q15, .int 0, .null, .int 0, .null, .int 0, .null, .null, .null, .int 0])), (q7, .inl (c7, (6, .inl (fun _ => 0)))), (q15, .inl (c15, (24, .inl (fun _ => 0))))] H := hP
  have hD : va_D A [(a0, .inr (1, [.ref q7, .ref q15, .int 0, .null, .int 0, .null, .int 0, .null, .null, .null, .int 0])), (q7, .inl (c7, (6, .inl (fun _ => 0)))), (q15, .inl (c15, (24, .inl (fun _ => 0))))] := hD
  refine lv_aload_n hx hb dX1_init_20 rfl (lv_at hl 0 rfl) ?_
  refine lv_iconst (v := 0) hx hb dX1_init_21 (by decide) ?_
  refine va_put (D := D) (ci := 1) (v := .int 0) (ty := .int) (C := RX1) (T := TX1) (N := 11) hx hb hts in_X1_init_X1 tyX1 tyX1_ok nmX1 hown hK hP hD hS 0 rfl rfl 2 (by decide) (hts (.fieldLink RX1 16 "ZhegalkinBench" "recordedCount" "I") (List.mem_of_getElem? (i := 7) rfl)) (fun _ h9 => h9) rfl (by decide +kernel) rfl rfl (Nat.le_of_ble_eq_true rfl) dX1_init_22 (fun H locs hP hD hS => ?_)
  have hP : va_P D vwCl [(a0, .inr (1, [.ref q7, .ref q15, .int 0, .null, .int 0, .null, .int 0, .null, .null, .null, .int 0])), (q7, .inl (c7, (6, .inl (fun _ => 0)))), (q15, .inl (c15, (24, .inl (fun _ => 0))))] H := hP
  have hD : va_D A [(a0, .inr (1, [.ref q7, .ref q15, .int 0, .null, .int 0, .null, .int 0, .null, .null, .null, .int 0])), (q7, .inl (c7, (6, .inl (fun _ => 0)))), (q15, .inl (c15, (24, .inl (fun _ => 0))))] := hD
  refine lv_aload_n hx hb dX1_init_25 rfl (lv_at hl 0 rfl) ?_
  refine lv_bipush (v := 6) hx hb dX1_init_26 (by decide) ?_
  refine va_newa (atype := .int) (ty := .int) (n := 6) (N' := 6) (a0 := (6, .inl (fun _ => 0))) hx hb (hts (.arrayClass .int) (List.mem_of_getElem? (i := 4) rfl)) rfl hK hP hD hS hA (fun _ => rfl) (by decide) rfl (by decide) (Nat.le_of_ble_eq_true rfl) (Nat.le_of_ble_eq_true rfl) dX1_init_28 (fun q28 c28 H hK hP hD hS => ?_)
  have hK : va_K D vwCl [(c7, .int), (c15, .int), (c28, .int)] s := hK
  have hP : va_P D vwCl [(a0, .inr (1, [.ref q7, .ref q15, .int 0, .null, .int 0, .null, .int 0, .null, .null, .null, .int 0])), (q7, .inl (c7, (6, .inl (fun _ => 0)))), (q15, .inl (c15, (24, .inl (fun _ => 0)))), (q28, .inl (c28, (6, .inl (fun _ => 0))))] H := hP
  have hD : va_D A [(a0, .inr (1, [.ref q7, .ref q15, .int 0, .null, .int 0, .null, .int 0, .null, .null, .null, .int 0])), (q7, .inl (c7, (6, .inl (fun _ => 0)))), (q15, .inl (c15, (24, .inl (fun _ => 0)))), (q28, .inl (c28, (6, .inl (fun _ => 0))))] := hD
  refine W.widen (k := 3) (n := 36) (Nat.le_of_ble_eq_true rfl) (Nat.le_of_ble_eq_true rfl) ?_
  refine va_putF (D := D) (ci := 1) (v := .ref q28) (ty := .array .int) (C := RX1) (T := TX1) (N := 11) hx hb hts in_X1_init_X1 tyX1 tyX1_ok nmX1 hown hK hP hD hS 0 rfl rfl 3 (by decide) (hts (.fieldLink RX1 20 "ZhegalkinBench" "snapshot" "[I") (List.mem_of_getElem? (i := 8) rfl)) (fun _ h9 => h9) rfl hinit rfl (by decide +kernel) rfl rfl (Nat.le_of_ble_eq_true rfl) dX1_init_30 (fun H locs hP hD hS => ?_)
  have hP : va_P D vwCl [(a0, .inr (1, [.ref q7, .ref q15, .int 0, .ref q28, .int 0, .null, .int 0, .null, .null, .null, .int 0])), (q7, .inl (c7, (6, .inl (fun _ => 0)))), (q15, .inl (c15, (24, .inl (fun _ => 0)))), (q28, .inl (c28, (6, .inl (fun _ => 0))))] H := hP
  have hD : va_D A [(a0, .inr (1, [.ref q7, .ref q15, .int 0, .ref q28, .int 0, .null, .int 0, .null, .null, .null, .int 0])), (q7, .inl (c7, (6, .inl (fun _ => 0)))), (q15, .inl (c15, (24, .inl (fun _ => 0)))), (q28, .inl (c28, (6, .inl (fun _ => 0))))] := hD
  refine lv_aload_n hx hb dX1_init_33 rfl (lv_at hl 0 rfl) ?_
  refine lv_iconst (v := 0) hx hb dX1_init_34 (by decide) ?_
  refine va_put (D := D) (ci := 1) (v := .int 0) (ty := .boolean) (C := RX1) (T := TX1) (N := 11) hx hb hts in_X1_init_X1 tyX1 tyX1_ok nmX1 hown hK hP hD hS 0 rfl rfl 4 (by decide) (hts (.fieldLink RX1 23 "ZhegalkinBench" "hasSnapshot" "Z") (List.mem_of_getElem? (i := 9) rfl)) (fun _ h9 => h9) rfl (by decide +kernel) rfl rfl (Nat.le_of_ble_eq_true rfl) dX1_init_35 (fun H locs hP hD hS => ?_)
  have hP : va_P D vwCl [(a0, .inr (1, [.ref q7, .ref q15, .int 0, .ref q28, .int 0, .null, .int 0, .null, .null, .null, .int 0])), (q7, .inl (c7, (6, .inl (fun _ => 0)))), (q15, .inl (c15, (24, .inl (fun _ => 0)))), (q28, .inl (c28, (6, .inl (fun _ => 0))))] H := hP
  have hD : va_D A [(a0, .inr (1, [.ref q7, .ref q15, .int 0, .ref q28, .int 0, .null, .int 0, .null, .null, .null, .int 0])), (q7, .inl (c7, (6, .inl (fun _ => 0)))), (q15, .inl (c15, (24, .inl (fun _ => 0)))), (q28, .inl (c28, (6, .inl (fun _ => 0))))] := hD
  refine lv_aload_n hx hb dX1_init_38 rfl (lv_at hl 0 rfl) ?_
  refine lv_bipush (v := 80) hx hb dX1_init_39 (by decide) ?_
  refine va_newa (atype := .char) (ty := .char) (n := 80) (N' := 80) (a0 := (80, .inl (fun _ => 0))) hx hb (hts (.arrayClass .char) (List.mem_of_getElem? (i := 10) rfl)) rfl hK hP hD hS hA (fun _ => rfl) (by decide) rfl (by decide) (Nat.le_of_ble_eq_true rfl) (Nat.le_of_ble_eq_true rfl) dX1_init_41 (fun q41 c41 H hK hP hD hS => ?_)
  have hK : va_K D vwCl [(c7, .int), (c15, .int), (c28, .int), (c41, .char)] s := hK
  have hP : va_P D vwCl [(a0, .inr (1, [.ref q7, .ref q15, .int 0, .ref q28, .int 0, .null, .int 0, .null, .null, .null, .int 0])), (q7, .inl (c7, (6, .inl (fun _ => 0)))), (q15, .inl (c15, (24, .inl (fun _ => 0)))), (q28, .inl (c28, (6, .inl (fun _ => 0)))), (q41, .inl (c41, (80, .inl (fun _ => 0))))] H := hP
  have hD : va_D A [(a0, .inr (1, [.ref q7, .ref q15, .int 0, .ref q28, .int 0, .null, .int 0, .null, .null, .null, .int 0])), (q7, .inl (c7, (6, .inl (fun _ => 0)))), (q15, .inl (c15, (24, .inl (fun _ => 0)))), (q28, .inl (c28, (6, .inl (fun _ => 0)))), (q41, .inl (c41, (80, .inl (fun _ => 0))))] := hD
  refine W.widen (k := 4) (n := 116) (Nat.le_of_ble_eq_true rfl) (Nat.le_of_ble_eq_true rfl) ?_
  refine va_putF (D := D) (ci := 1) (v := .ref q41) (ty := .array .char) (C := RX1) (T := TX1) (N := 11) hx hb hts in_X1_init_X1 tyX1 tyX1_ok nmX1 hown hK hP hD hS 0 rfl rfl 5 (by decide) (hts (.fieldLink RX1 27 "ZhegalkinBench" "text" "[C") (List.mem_of_getElem? (i := 11) rfl)) (fun _ h9 => h9) rfl hinit rfl (by decide +kernel) rfl rfl (Nat.le_of_ble_eq_true rfl) dX1_init_43 (fun H locs hP hD hS => ?_)
  have hP : va_P D vwCl [(a0, .inr (1, [.ref q7, .ref q15, .int 0, .ref q28, .int 0, .ref q41, .int 0, .null, .null, .null, .int 0])), (q7, .inl (c7, (6, .inl (fun _ => 0)))), (q15, .inl (c15, (24, .inl (fun _ => 0)))), (q28, .inl (c28, (6, .inl (fun _ => 0)))), (q41, .inl (c41, (80, .inl (fun _ => 0))))] H := hP
  have hD : va_D A [(a0, .inr (1, [.ref q7, .ref q15, .int 0, .ref q28, .int 0, .ref q41, .int 0, .null, .null, .null, .int 0])), (q7, .inl (c7, (6, .inl (fun _ => 0)))), (q15, .inl (c15, (24, .inl (fun _ => 0)))), (q28, .inl (c28, (6, .inl (fun _ => 0)))), (q41, .inl (c41, (80, .inl (fun _ => 0))))] := hD
  refine lv_aload_n hx hb dX1_init_46 rfl (lv_at hl 0 rfl) ?_
  refine lv_iconst (v := 0) hx hb dX1_init_47 (by decide) ?_
  refine va_put (D := D) (ci := 1) (v := .int 0) (ty := .int) (C := RX1) (T := TX1) (N := 11) hx hb hts in_X1_init_X1 tyX1 tyX1_ok nmX1 hown hK hP hD hS 0 rfl rfl 6 (by decide) (hts (.fieldLink RX1 31 "ZhegalkinBench" "textLength" "I") (List.mem_of_getElem? (i := 12) rfl)) (fun _ h9 => h9) rfl (by decide +kernel) rfl rfl (Nat.le_of_ble_eq_true rfl) dX1_init_48 (fun H locs hP hD hS => ?_)
  have hP : va_P D vwCl [(a0, .inr (1, [.ref q7, .ref q15, .int 0, .ref q28, .int 0, .ref q41, .int 0, .null, .null, .null, .int 0])), (q7, .inl (c7, (6, .inl (fun _ => 0)))), (q15, .inl (c15, (24, .inl (fun _ => 0)))), (q28, .inl (c28, (6, .inl (fun _ => 0)))), (q41, .inl (c41, (80, .inl (fun _ => 0))))] H := hP
  have hD : va_D A [(a0, .inr (1, [.ref q7, .ref q15, .int 0, .ref q28, .int 0, .ref q41, .int 0, .null, .null, .null, .int 0])), (q7, .inl (c7, (6, .inl (fun _ => 0)))), (q15, .inl (c15, (24, .inl (fun _ => 0)))), (q28, .inl (c28, (6, .inl (fun _ => 0)))), (q41, .inl (c41, (80, .inl (fun _ => 0))))] := hD
  refine lv_aload_n hx hb dX1_init_51 rfl (lv_at hl 0 rfl) ?_
  refine va_new (ci := 0) (fs := [.int 0, .int 0, .int 0, .int 0]) (C := RX0) (T := TX0) (N := 4) hx hb hts in_X1_init_X0 tyX0 tyX0_ok hown (hts (.classLink RX1 34 RX0) (List.mem_of_getElem? (i := 13) rfl)) (hts (.instantiable RX0 4) (List.mem_of_getElem? (i := 14) rfl)) (hts (.initialized RX0) (List.mem_of_getElem? (i := 15) rfl)) hK hP hD hS hA rfl (fun j hj => by rcases (show j = 0 ∨ j = 1 ∨ j = 2 ∨ j = 3 by omega) with rfl | rfl | rfl | rfl <;> rfl) (Nat.le_of_ble_eq_true rfl) (Nat.le_of_ble_eq_true rfl) dX1_init_52 (fun q52 H hP hD hS => ?_)
  have hP : va_P D vwCl [(a0, .inr (1, [.ref q7, .ref q15, .int 0, .ref q28, .int 0, .ref q41, .int 0, .null, .null, .null, .int 0])), (q7, .inl (c7, (6, .inl (fun _ => 0)))), (q15, .inl (c15, (24, .inl (fun _ => 0)))), (q28, .inl (c28, (6, .inl (fun _ => 0)))), (q41, .inl (c41, (80, .inl (fun _ => 0)))), (q52, .inr (0, [.int 0, .int 0, .int 0, .int 0]))] H := hP
  have hD : va_D A [(a0, .inr (1, [.ref q7, .ref q15, .int 0, .ref q28, .int 0, .ref q41, .int 0, .null, .null, .null, .int 0])), (q7, .inl (c7, (6, .inl (fun _ => 0)))), (q15, .inl (c15, (24, .inl (fun _ => 0)))), (q28, .inl (c28, (6, .inl (fun _ => 0)))), (q41, .inl (c41, (80, .inl (fun _ => 0)))), (q52, .inr (0, [.int 0, .int 0, .int 0, .int 0]))] := hD
  refine W.widen (k := 5) (n := 120) (Nat.le_of_ble_eq_true rfl) (Nat.le_of_ble_eq_true rfl) ?_
  refine lv_dup hx hb dX1_init_55 rfl ?_
  have hPc := hP.sub (ws' := (wR q52 0 0 0 0)) [5] rfl
  have hKc := hK.sub (tys' := []) [] rfl
  have hDc := hD.sub (ws' := (wR q52 0 0 0 0)) [5] (by decide) rfl
  have hFc := va_free (wc := (wR q52 0 0 0 0)) hD hS hA [5] rfl
  refine va_callv (va_runIN (As := []) (rest := [.ref q52, .ref a0]) ⟨hx, hb, hml, hown, hts⟩ (c_X0_init l D q52 H.size 0 0 0 0) ⟨(va_cnB 0 hts gX1_init_X0_init_n36 rfl rfl rfl hE.1.2.1 (hts (.initialized RX0) (List.mem_of_getElem? (i := 15) rfl)) (by decide +kernel) ⟨Nat.le_of_ble_eq_true rfl, Nat.le_of_ble_eq_true rfl⟩), rfl, (hts (.instanceMethod yX0_init) (List.mem_of_getElem? (i := 22) rfl))⟩ ⟨fun a U g mk z => ⟨z.1, z.2.1, z.2.2.1, va_K.moved (u := U) (U := U.calling g mk a) (Vm.Alike.refl U.vm) z.2.2.2.1, z.2.2.2.2.1, z.2.2.2.2.2.blind g mk a⟩, fun U hU hW => ⟨rfl, by rw [hU], by rw [hU]; exact hPc, va_K.moved hW.alike hKc, hDc.weaken (fun _ _ _ _ => trivial), hE.at hS hU hW hFc⟩⟩ rfl rfl hl.1 rfl (lv_room (Nat.le_of_ble_eq_true rfl)) dX1_init_56 ⟨(Nat.le_of_ble_eq_true rfl), (Nat.le_of_ble_eq_true rfl)⟩) hS (fun q _ h => hFc q h) hFc (fun u9 t8 H1 locs ht hvm hw hB hz1 hk1 hS => ?_)
  obtain ⟨hP1, hD1⟩ := hB
  rw [ht] at hP1
  obtain ⟨hP, hD⟩ := va_join (wr := [(a0, .inr (1, [.ref q7, .ref q15, .int 0, .ref q28, .int 0, .ref q41, .int 0, .null, .null, .null, .int 0])), (q7, .inl (c7, (6, .inl (fun _ => 0)))), (q15, .inl (c15, (24, .inl (fun _ => 0)))), (q28, .inl (c28, (6, .inl (fun _ => 0)))), (q41, .inl (c41, (80, .inl (fun _ => 0))))]) (w1 := (wR q52 fX0_init.1 fX0_init.2.1 fX0_init.2.2.1 fX0_init.2.2.2)) hP hD [5] [0, 1, 2, 3, 4] rfl rfl (by decide) (by decide) hk1 hFc hP1 hD1
  have hP := hP.sub (ws' := [(a0, .inr (1, [.ref q7, .ref q15, .int 0, .ref q28, .int 0, .ref q41, .int 0, .null, .null, .null, .int 0])), (q7, .inl (c7, (6, .inl (fun _ => 0)))), (q15, .inl (c15, (24, .inl (fun _ => 0)))), (q28, .inl (c28, (6, .inl (fun _ => 0)))), (q41, .inl (c41, (80, .inl (fun _ => 0)))), (q52, .inr (0, [.int 0, .int 0, .int 0, .int 0]))]) [0, 1, 2, 3, 4, 5] rfl
  have hD := hD.sub (ws' := [(a0, .inr (1, [.ref q7, .ref q15, .int 0, .ref q28, .int 0, .ref q41, .int 0, .null, .null, .null, .int 0])), (q7, .inl (c7, (6, .inl (fun _ => 0)))), (q15, .inl (c15, (24, .inl (fun _ => 0)))), (q28, .inl (c28, (6, .inl (fun _ => 0)))), (q41, .inl (c41, (80, .inl (fun _ => 0)))), (q52, .inr (0, [.int 0, .int 0, .int 0, .int 0]))]) [0, 1, 2, 3, 4, 5] (by decide) rfl
  generalize H1 = H at hP hS ⊢
  refine va_putF (D := D) (ci := 1) (v := .ref q52) (ty := .object "ZhegalkinBench$TextReader") (C := RX1) (T := TX1) (N := 11) hx hb hts in_X1_init_X1 tyX1 tyX1_ok nmX1 hown hK hP hD hS 0 rfl rfl 7 (by decide) (hts (.fieldLink RX1 37 "ZhegalkinBench" "reader" "LZhegalkinBench$TextReader;") (List.mem_of_getElem? (i := 16) rfl)) (fun _ h9 => h9) rfl hinit rfl (by decide +kernel) rfl rfl (Nat.le_of_ble_eq_true rfl) dX1_init_59 (fun H locs hP hD hS => ?_)
  have hP : va_P D vwCl [(a0, .inr (1, [.ref q7, .ref q15, .int 0, .ref q28, .int 0, .ref q41, .int 0, .ref q52, .null, .null, .int 0])), (q7, .inl (c7, (6, .inl (fun _ => 0)))), (q15, .inl (c15, (24, .inl (fun _ => 0)))), (q28, .inl (c28, (6, .inl (fun _ => 0)))), (q41, .inl (c41, (80, .inl (fun _ => 0)))), (q52, .inr (0, [.int 0, .int 0, .int 0, .int 0]))] H := hP
  have hD : va_D A [(a0, .inr (1, [.ref q7, .ref q15, .int 0, .ref q28, .int 0, .ref q41, .int 0, .ref q52, .null, .null, .int 0])), (q7, .inl (c7, (6, .inl (fun _ => 0)))), (q15, .inl (c15, (24, .inl (fun _ => 0)))), (q28, .inl (c28, (6, .inl (fun _ => 0)))), (q41, .inl (c41, (80, .inl (fun _ => 0)))), (q52, .inr (0, [.int 0, .int 0, .int 0, .int 0]))] := hD
  refine lv_aload_n hx hb dX1_init_62 rfl (lv_at hl 0 rfl) ?_
  refine lv_bipush (v := 16) hx hb dX1_init_63 (by decide) ?_
  refine va_newa (atype := .int) (ty := .int) (n := 16) (N' := 16) (a0 := (16, .inl (fun _ => 0))) hx hb (hts (.arrayClass .int) (List.mem_of_getElem? (i := 4) rfl)) rfl hK hP hD hS hA (fun _ => rfl) (by decide) rfl (by decide) (Nat.le_of_ble_eq_true rfl) (Nat.le_of_ble_eq_true rfl) dX1_init_65 (fun q65 c65 H hK hP hD hS => ?_)
  have hK : va_K D vwCl [(c7, .int), (c15, .int), (c28, .int), (c41, .char), (c65, .int)] s := hK
  have hP : va_P D vwCl [(a0, .inr (1, [.ref q7, .ref q15, .int 0, .ref q28, .int 0, .ref q41, .int 0, .ref q52, .null, .null, .int 0])), (q7, .inl (c7, (6, .inl (fun _ => 0)))), (q15, .inl (c15, (24, .inl (fun _ => 0)))), (q28, .inl (c28, (6, .inl (fun _ => 0)))), (q41, .inl (c41, (80, .inl (fun _ => 0)))), (q52, .inr (0, [.int 0, .int 0, .int 0, .int 0])), (q65, .inl (c65, (16, .inl (fun _ => 0))))] H := hP
  have hD : va_D A [(a0, .inr (1, [.ref q7, .ref q15, .int 0, .ref q28, .int 0, .ref q41, .int 0, .ref q52, .null, .null, .int 0])), (q7, .inl (c7, (6, .inl (fun _ => 0)))), (q15, .inl (c15, (24, .inl (fun _ => 0)))), (q28, .inl (c28, (6, .inl (fun _ => 0)))), (q41, .inl (c41, (80, .inl (fun _ => 0)))), (q52, .inr (0, [.int 0, .int 0, .int 0, .int 0])), (q65, .inl (c65, (16, .inl (fun _ => 0))))] := hD
  refine W.widen (k := 6) (n := 136) (Nat.le_of_ble_eq_true rfl) (Nat.le_of_ble_eq_true rfl) ?_
  refine va_putF (D := D) (ci := 1) (v := .ref q65) (ty := .array .int) (C := RX1) (T := TX1) (N := 11) hx hb hts in_X1_init_X1 tyX1 tyX1_ok nmX1 hown hK hP hD hS 0 rfl rfl 8 (by decide) (hts (.fieldLink RX1 41 "ZhegalkinBench" "sums" "[I") (List.mem_of_getElem? (i := 17) rfl)) (fun _ h9 => h9) rfl hinit rfl (by decide +kernel) rfl rfl (Nat.le_of_ble_eq_true rfl) dX1_init_67 (fun H locs hP hD hS => ?_)
  have hP : va_P D vwCl [(a0, .inr (1, [.ref q7, .ref q15, .int 0, .ref q28, .int 0, .ref q41, .int 0, .ref q52, .ref q65, .null, .int 0])), (q7, .inl (c7, (6, .inl (fun _ => 0)))), (q15, .inl (c15, (24, .inl (fun _ => 0)))), (q28, .inl (c28, (6, .inl (fun _ => 0)))), (q41, .inl (c41, (80, .inl (fun _ => 0)))), (q52, .inr (0, [.int 0, .int 0, .int 0, .int 0])), (q65, .inl (c65, (16, .inl (fun _ => 0))))] H := hP
  have hD : va_D A [(a0, .inr (1, [.ref q7, .ref q15, .int 0, .ref q28, .int 0, .ref q41, .int 0, .ref q52, .ref q65, .null, .int 0])), (q7, .inl (c7, (6, .inl (fun _ => 0)))), (q15, .inl (c15, (24, .inl (fun _ => 0)))), (q28, .inl (c28, (6, .inl (fun _ => 0)))), (q41, .inl (c41, (80, .inl (fun _ => 0)))), (q52, .inr (0, [.int 0, .int 0, .int 0, .int 0])), (q65, .inl (c65, (16, .inl (fun _ => 0))))] := hD
  refine lv_aload_n hx hb dX1_init_70 rfl (lv_at hl 0 rfl) ?_
  refine lv_bipush (v := 48) hx hb dX1_init_71 (by decide) ?_
  refine va_newa (atype := .char) (ty := .char) (n := 48) (N' := 48) (a0 := (48, .inl (fun _ => 0))) hx hb (hts (.arrayClass .char) (List.mem_of_getElem? (i := 10) rfl)) rfl hK hP hD hS hA (fun _ => rfl) (by decide) rfl (by decide) (Nat.le_of_ble_eq_true rfl) (Nat.le_of_ble_eq_true rfl) dX1_init_73 (fun q73 c73 H hK hP hD hS => ?_)
  have hK : va_K D vwCl [(c7, .int), (c15, .int), (c28, .int), (c41, .char), (c65, .int), (c73, .char)] s := hK
  have hP : va_P D vwCl [(a0, .inr (1, [.ref q7, .ref q15, .int 0, .ref q28, .int 0, .ref q41, .int 0, .ref q52, .ref q65, .null, .int 0])), (q7, .inl (c7, (6, .inl (fun _ => 0)))), (q15, .inl (c15, (24, .inl (fun _ => 0)))), (q28, .inl (c28, (6, .inl (fun _ => 0)))), (q41, .inl (c41, (80, .inl (fun _ => 0)))), (q52, .inr (0, [.int 0, .int 0, .int 0, .int 0])), (q65, .inl (c65, (16, .inl (fun _ => 0)))), (q73, .inl (c73, (48, .inl (fun _ => 0))))] H := hP
  have hD : va_D A [(a0, .inr (1, [.ref q7, .ref q15, .int 0, .ref q28, .int 0, .ref q41, .int 0, .ref q52, .ref q65, .null, .int 0])), (q7, .inl (c7, (6, .inl (fun _ => 0)))), (q15, .inl (c15, (24, .inl (fun _ => 0)))), (q28, .inl (c28, (6, .inl (fun _ => 0)))), (q41, .inl (c41, (80, .inl (fun _ => 0)))), (q52, .inr (0, [.int 0, .int 0, .int 0, .int 0])), (q65, .inl (c65, (16, .inl (fun _ => 0)))), (q73, .inl (c73, (48, .inl (fun _ => 0))))] := hD
  refine W.widen (k := 7) (n := 184) (Nat.le_of_ble_eq_true rfl) (Nat.le_of_ble_eq_true rfl) ?_
  refine va_putF (D := D) (ci := 1) (v := .ref q73) (ty := .array .char) (C := RX1) (T := TX1) (N := 11) hx hb hts in_X1_init_X1 tyX1 tyX1_ok nmX1 hown hK hP hD hS 0 rfl rfl 9 (by decide) (hts (.fieldLink RX1 44 "ZhegalkinBench" "printed" "[C") (List.mem_of_getElem? (i := 18) rfl)) (fun _ h9 => h9) rfl hinit rfl (by decide +kernel) rfl rfl (Nat.le_of_ble_eq_true rfl) dX1_init_75 (fun H locs hP hD hS => ?_)
  have hP : va_P D vwCl [(a0, .inr (1, [.ref q7, .ref q15, .int 0, .ref q28, .int 0, .ref q41, .int 0, .ref q52, .ref q65, .ref q73, .int 0])), (q7, .inl (c7, (6, .inl (fun _ => 0)))), (q15, .inl (c15, (24, .inl (fun _ => 0)))), (q28, .inl (c28, (6, .inl (fun _ => 0)))), (q41, .inl (c41, (80, .inl (fun _ => 0)))), (q52, .inr (0, [.int 0, .int 0, .int 0, .int 0])), (q65, .inl (c65, (16, .inl (fun _ => 0)))), (q73, .inl (c73, (48, .inl (fun _ => 0))))] H := hP
  have hD : va_D A [(a0, .inr (1, [.ref q7, .ref q15, .int 0, .ref q28, .int 0, .ref q41, .int 0, .ref q52, .ref q65, .ref q73, .int 0])), (q7, .inl (c7, (6, .inl (fun _ => 0)))), (q15, .inl (c15, (24, .inl (fun _ => 0)))), (q28, .inl (c28, (6, .inl (fun _ => 0)))), (q41, .inl (c41, (80, .inl (fun _ => 0)))), (q52, .inr (0, [.int 0, .int 0, .int 0, .int 0])), (q65, .inl (c65, (16, .inl (fun _ => 0)))), (q73, .inl (c73, (48, .inl (fun _ => 0))))] := hD
  refine lv_aload_n hx hb dX1_init_78 rfl (lv_at hl 0 rfl) ?_
  refine lv_iconst (v := 0) hx hb dX1_init_79 (by decide) ?_
  refine va_put (D := D) (ci := 1) (v := .int 0) (ty := .int) (C := RX1) (T := TX1) (N := 11) hx hb hts in_X1_init_X1 tyX1 tyX1_ok nmX1 hown hK hP hD hS 0 rfl rfl 10 (by decide) (hts (.fieldLink RX1 47 "ZhegalkinBench" "printedCount" "I") (List.mem_of_getElem? (i := 19) rfl)) (fun _ h9 => h9) rfl (by decide +kernel) rfl rfl (Nat.le_of_ble_eq_true rfl) dX1_init_80 (fun H locs hP hD hS => ?_)
  have hP : va_P D vwCl [(a0, .inr (1, [.ref q7, .ref q15, .int 0, .ref q28, .int 0, .ref q41, .int 0, .ref q52, .ref q65, .ref q73, .int 0])), (q7, .inl (c7, (6, .inl (fun _ => 0)))), (q15, .inl (c15, (24, .inl (fun _ => 0)))), (q28, .inl (c28, (6, .inl (fun _ => 0)))), (q41, .inl (c41, (80, .inl (fun _ => 0)))), (q52, .inr (0, [.int 0, .int 0, .int 0, .int 0])), (q65, .inl (c65, (16, .inl (fun _ => 0)))), (q73, .inl (c73, (48, .inl (fun _ => 0))))] H := hP
  have hD : va_D A [(a0, .inr (1, [.ref q7, .ref q15, .int 0, .ref q28, .int 0, .ref q41, .int 0, .ref q52, .ref q65, .ref q73, .int 0])), (q7, .inl (c7, (6, .inl (fun _ => 0)))), (q15, .inl (c15, (24, .inl (fun _ => 0)))), (q28, .inl (c28, (6, .inl (fun _ => 0)))), (q41, .inl (c41, (80, .inl (fun _ => 0)))), (q52, .inr (0, [.int 0, .int 0, .int 0, .int 0])), (q65, .inl (c65, (16, .inl (fun _ => 0)))), (q73, .inl (c73, (48, .inl (fun _ => 0))))] := hD
  refine lv_iconst (v := 0) hx hb dX1_init_83 (by decide) ?_
  refine lv_istore_n (lv' := [(1, .int 0), (0, .ref a0)]) hx hb dX1_init_84 rfl hl (by decide) rfl (fun ls hl => ?_)
  obtain ⟨F1, hF1⟩ : ∃ z9, z9 = (lp sX1_init_85 4 0 (fun _ => 0)) := ⟨_, rfl⟩
  refine vz_cut (fun H1 l1 g1 => ∃ (n1 i1 : Nat) (a1 : (Nat → Int32)) (ls : Array Slot), i1 + n1 = 4 ∧ lp sX1_init_85 n1 i1 a1 = F1 ∧ lv_has ls 2 [(1, .int (nI i1)), (0, .ref a0)] ∧ va_P D vwCl [(a0, .inr (1, [.ref q7, .ref q15, .int 0, .ref q28, .int 0, .ref q41, .int 0, .ref q52, .ref q65, .ref q73, .int 0])), (q7, .inl (c7, (6, .inl a1))), (q15, .inl (c15, (24, .inl (fun _ => 0)))), (q28, .inl (c28, (6, .inl (fun _ => 0)))), (q41, .inl (c41, (80, .inl (fun _ => 0)))), (q52, .inr (0, [.int 0, .int 0, .int 0, .int 0])), (q65, .inl (c65, (16, .inl (fun _ => 0)))), (q73, .inl (c73, (48, .inl (fun _ => 0))))] H1 ∧ va_D A [(a0, .inr (1, [.ref q7, .ref q15, .int 0, .ref q28, .int 0, .ref q41, .int 0, .ref q52, .ref q65, .ref q73, .int 0])), (q7, .inl (c7, (6, .inl a1))), (q15, .inl (c15, (24, .inl (fun _ => 0)))), (q28, .inl (c28, (6, .inl (fun _ => 0)))), (q41, .inl (c41, (80, .inl (fun _ => 0)))), (q52, .inr (0, [.int 0, .int 0, .int 0, .int 0])), (q65, .inl (c65, (16, .inl (fun _ => 0)))), (q73, .inl (c73, (48, .inl (fun _ => 0))))] ∧ va_S A s.heap H1 l1 ∧ g1 = F0 m 85 ls []) (fun hj => hj _ _ _ ⟨4, 0, (fun _ => 0), ls, (by omega), hF1.symm, lv_sub hl [0, 1] rfl, hP, hD, hS, rfl⟩) ?_
  rintro H locs g1 ⟨n1, i1, a1, ls, hi1, hf1, hl, hP, hD, hS, rfl⟩
  revert H locs i1 a1 ls
  induction n1 with
  | zero =>
    intro H locs i1 a1 ls hi1 hf1 hl hP hD hS
    obtain rfl : 4 = i1 := by omega
    have hf1 : F1 = a1 := hf1.symm
    subst hf1
    refine lv_iload_n hx hb dX1_init_85 rfl (lv_at hl 0 rfl) ?_
    refine lv_iconst (v := 4) hx hb dX1_init_86 (by decide) ?_
    refine lv_icmp_ge (tgt := 107) hx hb dX1_init_87 (by decide) (fun c_1 => ?_) (fun c_1 => ?_)
    · refine lv_aload_n hx hb dX1_init_107 rfl (lv_at hl 1 rfl) ?_
      refine va_get (D := D) (ci := 1) (v := .ref q7) (C := RX1) (T := TX1) (N := 11) hx hb hts in_X1_init_X1 hown hK hP 0 rfl rfl 0 (by decide) (hts (.fieldLink RX1 9 "ZhegalkinBench" "tables" "[I") (List.mem_of_getElem? (i := 5) rfl)) (fun _ h9 => h9) rfl dX1_init_108 ?_
      refine lv_iconst (v := 4) hx hb dX1_init_111 (by decide) ?_
      refine lv_iconst (v := 0) hx hb dX1_init_112 (by decide) ?_
      refine vz_iast hx hb hK hP hD hS 1 0 rfl rfl 4 (by omega) (by decide) dX1_init_113 (fun H locs hP hD hS => ?_)
      have hP : va_P D vwCl [(a0, .inr (1, [.ref q7, .ref q15, .int 0, .ref q28, .int 0, .ref q41, .int 0, .ref q52, .ref q65, .ref q73, .int 0])), (q7, .inl (c7, (6, .inl (upd F1 4 0)))), (q15, .inl (c15, (24, .inl (fun _ => 0)))), (q28, .inl (c28, (6, .inl (fun _ => 0)))), (q41, .inl (c41, (80, .inl (fun _ => 0)))), (q52, .inr (0, [.int 0, .int 0, .int 0, .int 0])), (q65, .inl (c65, (16, .inl (fun _ => 0)))), (q73, .inl (c73, (48, .inl (fun _ => 0))))] H := hP
      have hD : va_D A [(a0, .inr (1, [.ref q7, .ref q15, .int 0, .ref q28, .int 0, .ref q41, .int 0, .ref q52, .ref q65, .ref q73, .int 0])), (q7, .inl (c7, (6, .inl (upd F1 4 0)))), (q15, .inl (c15, (24, .inl (fun _ => 0)))), (q28, .inl (c28, (6, .inl (fun _ => 0)))), (q41, .inl (c41, (80, .inl (fun _ => 0)))), (q52, .inr (0, [.int 0, .int 0, .int 0, .int 0])), (q65, .inl (c65, (16, .inl (fun _ => 0)))), (q73, .inl (c73, (48, .inl (fun _ => 0))))] := hD
      refine lv_aload_n hx hb dX1_init_114 rfl (lv_at hl 1 rfl) ?_
      refine va_get (D := D) (ci := 1) (v := .ref q7) (C := RX1) (T := TX1) (N := 11) hx hb hts in_X1_init_X1 hown hK hP 0 rfl rfl 0 (by decide) (hts (.fieldLink RX1 9 "ZhegalkinBench" "tables" "[I") (List.mem_of_getElem? (i := 5) rfl)) (fun _ h9 => h9) rfl dX1_init_115 ?_
      refine lv_iconst (v := 5) hx hb dX1_init_118 (by decide) ?_
      refine lv_ldc (v := 65535) hx hb hown (hts (.constant RX1 53 (65535)) (List.mem_of_getElem? (i := 21) rfl)) dX1_init_119 ?_
      refine vz_iast hx hb hK hP hD hS 1 0 rfl rfl 5 (by omega) (by decide) dX1_init_121 (fun H locs hP hD hS => ?_)
      have hP : va_P D vwCl [(a0, .inr (1, [.ref q7, .ref q15, .int 0, .ref q28, .int 0, .ref q41, .int 0, .ref q52, .ref q65, .ref q73, .int 0])), (q7, .inl (c7, (6, .inl (upd (upd F1 4 0) 5 65535)))), (q15, .inl (c15, (24, .inl (fun _ => 0)))), (q28, .inl (c28, (6, .inl (fun _ => 0)))), (q41, .inl (c41, (80, .inl (fun _ => 0)))), (q52, .inr (0, [.int 0, .int 0, .int 0, .int 0])), (q65, .inl (c65, (16, .inl (fun _ => 0)))), (q73, .inl (c73, (48, .inl (fun _ => 0))))] H := hP
      have hD : va_D A [(a0, .inr (1, [.ref q7, .ref q15, .int 0, .ref q28, .int 0, .ref q41, .int 0, .ref q52, .ref q65, .ref q73, .int 0])), (q7, .inl (c7, (6, .inl (upd (upd F1 4 0) 5 65535)))), (q15, .inl (c15, (24, .inl (fun _ => 0)))), (q28, .inl (c28, (6, .inl (fun _ => 0)))), (q41, .inl (c41, (80, .inl (fun _ => 0)))), (q52, .inr (0, [.int 0, .int 0, .int 0, .int 0])), (q65, .inl (c65, (16, .inl (fun _ => 0)))), (q73, .inl (c73, (48, .inl (fun _ => 0))))] := hD
      have hq : fX1_init = (upd (upd F1 4 0) 5 65535) := Eq.symm (by first | ((rw [fX1_init]); (try rw [← hF1]); first | done | rfl) | rfl)
      exact W.vret hx hb hr (fun t9 ht hW => ⟨⟨(), rfl, trivial, (vQ [a0, q7, q15, q28, q41, q52, q65, q73]), (vC c7 [c7, c15, c28, c41, c65, c73]), rfl, by rw [ht, hq]; exact hP, va_K.moved hW.alike hK, by rw [hq]; exact hD⟩, hS.F ht⟩) hS.2.2 dX1_init_122
    · exact absurd (nI_le (a := 4) (b := 4) (by omega) (by omega)) c_1
  | succ n1 ih1 =>
    intro H locs i1 a1 ls hi1 hf1 hl hP hD hS
    refine lv_iload_n hx hb dX1_init_85 rfl (lv_at hl 0 rfl) ?_
    refine lv_iconst (v := 4) hx hb dX1_init_86 (by decide) ?_
    refine lv_icmp_ge (tgt := 107) hx hb dX1_init_87 (by decide) (fun c_2 => ?_) (fun c_2 => ?_)
    · exact absurd c_2 (nI_ge (a := i1) (b := 4) (by omega) (by omega))
    · refine lv_aload_n hx hb dX1_init_90 rfl (lv_at hl 1 rfl) ?_
      refine va_get (D := D) (ci := 1) (v := .ref q7) (C := RX1) (T := TX1) (N := 11) hx hb hts in_X1_init_X1 hown hK hP 0 rfl rfl 0 (by decide) (hts (.fieldLink RX1 9 "ZhegalkinBench" "tables" "[I") (List.mem_of_getElem? (i := 5) rfl)) (fun _ h9 => h9) rfl dX1_init_91 ?_
      refine lv_iload_n hx hb dX1_init_94 rfl (lv_at hl 0 rfl) ?_
      refine va_gets (v := .ref vt) hx hb hZ hS hown (hts (.fieldLink RX1 50 "ZhegalkinBench" "VARIABLE_TABLES" "[I") (List.mem_of_getElem? (i := 20) rfl)) (fun _ h9 => h9) dX1_init_95 ?_
      refine lv_iload_n hx hb dX1_init_98 rfl (lv_at hl 0 rfl) ?_
      refine vz_ti hx hb hT hS i1 (by omega) (by decide) dX1_init_99 ?_
      refine vz_iast hx hb hK hP hD hS 1 0 rfl rfl i1 (by omega) (by decide) dX1_init_100 (fun H locs hP hD hS => ?_)
      have hP : va_P D vwCl [(a0, .inr (1, [.ref q7, .ref q15, .int 0, .ref q28, .int 0, .ref q41, .int 0, .ref q52, .ref q65, .ref q73, .int 0])), (q7, .inl (c7, (6, .inl (upd a1 i1 (VT i1))))), (q15, .inl (c15, (24, .inl (fun _ => 0)))), (q28, .inl (c28, (6, .inl (fun _ => 0)))), (q41, .inl (c41, (80, .inl (fun _ => 0)))), (q52, .inr (0, [.int 0, .int 0, .int 0, .int 0])), (q65, .inl (c65, (16, .inl (fun _ => 0)))), (q73, .inl (c73, (48, .inl (fun _ => 0))))] H := hP
      have hD : va_D A [(a0, .inr (1, [.ref q7, .ref q15, .int 0, .ref q28, .int 0, .ref q41, .int 0, .ref q52, .ref q65, .ref q73, .int 0])), (q7, .inl (c7, (6, .inl (upd a1 i1 (VT i1))))), (q15, .inl (c15, (24, .inl (fun _ => 0)))), (q28, .inl (c28, (6, .inl (fun _ => 0)))), (q41, .inl (c41, (80, .inl (fun _ => 0)))), (q52, .inr (0, [.int 0, .int 0, .int 0, .int 0])), (q65, .inl (c65, (16, .inl (fun _ => 0)))), (q73, .inl (c73, (48, .inl (fun _ => 0))))] := hD
      refine lv_iinc (v := (nI (i1 + 1))) (lv' := [(1, .int (nI (i1 + 1))), (0, .ref a0)]) hx hb dX1_init_101 hl (k := 0) rfl (by first | exact nI_add _ _ | rfl) (by decide) rfl (fun ls hl => ?_)
      refine lv_goto (tgt := 85) hx hb dX1_init_104 (by decide) ?_
      exact ih1 H locs (i1 + 1) (upd a1 i1 (VT i1)) ls (by omega) ((congrArg (lp sX1_init_85 n1 (i1 + 1)) (show (upd a1 i1 (VT i1)) = sX1_init_85 i1 a1 from by first | ((rw [sX1_init_85]); first | done | rfl) | rfl)).trans hf1) (lv_sub hl [0, 1] rfl) hP hD hS
