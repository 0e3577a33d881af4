theorem in_X0_init_X0 : ∀ w ∈ wsX00, w ∈ wsX0_init := by decide +kernel
def fX0_init : Int32 × Int32 × Int32 × Int32 := (0, 0, 0, 0)
set_option maxHeartbeats 4000000 in
set_option maxRecDepth 100000 in
theorem c_X0_init (l : Launch) (D : va_G) (r : Nat) (sz : Nat) (w : Int32) (f : Int32) (d : Int32) (v : Int32) : Met l yX0_init wsX0_init ({ frames := 1, cells := 0, slots := 0, locals := 13 }) (va_Pc [.ref r] (fun U => U.heap.size = sz ∧ va_P D vwCl (wR r w f d v) U.heap ∧ va_K D vwCl [] U ∧ va_D (fun _ => True) (wR r w f d v) ∧ envE (va_A (wR r w f d v) sz) U)) (va_Qv (fun (_ : Unit) => True) (fun _ t9 => va_P D vwCl (wR r ((fX0_init).1) ((fX0_init).2.1) ((fX0_init).2.2.1) ((fX0_init).2.2.2)) t9.heap ∧ va_D (va_A (wR r w f d v) sz) (wR r ((fX0_init).1) ((fX0_init).2.1) ((fX0_init).2.2.1) ((fX0_init).2.2.2))) (va_A (wR r w f d v) sz)) 0 0 (va_A (wR r w f d v) sz) := by
  refine Met.ofW (cc := cX0_init) (maxL := 1) (ret := none) (by decide) rfl ?_
  intro p e s m args below meth c s₁ B hml hv
  obtain ⟨rfl, hsz, hP, hK, hD0, hE⟩ := hv
  have hx := B.exec
  have hb := B.bytes
  have hr := B.returns
  have hts := atoms_spec (ws := wsX0_init) B.pre
  have hown : s.vm.findClass RX0 = some m.cls := findClass_of_methodNamed B.named
  have hlocks := B.notSynchronized
  subst hsz
  have hD := hD0.self (sz := s.heap.size)
  generalize hAe : va_A (wR r w f d v) s.heap.size = A at hD hE ⊢
  have hA : ∀ q : Nat, s.heap.size ≤ q → A q := fun q h => by rw [← hAe]; exact Or.inr h
  have hS : va_S A s.heap s.heap [] := va_S.rf
  have hP : va_P D vwCl (wR r w f d v) s.heap := hP
  have hl := lv_entry ([.ref r]) (n := 1) (Nat.le_of_ble_eq_true rfl)
  rw [lg_entry_eq]
  generalize (lg_sl ([.ref r]) ++ List.replicate (1 - (lg_sl ([.ref r])).length) Slot.unset).toArray = ls at hl ⊢
  have hl : lv_has ls 1 [(0, .ref r)] := hl
  refine lv_aload_n hx hb dX0_init_0 rfl (lv_at hl 0 rfl) ?_
  refine W.objInit hx hb hown (hts (.methodLink RX0 3 objectInit) (List.mem_of_getElem? (i := 1) rfl)) (hts (.instanceMethod objectInit) (List.mem_of_getElem? (i := 2) rfl)) (hts (.code objectInit ⟨#[0xb1]⟩ 1 none) (List.mem_of_getElem? (i := 3) rfl)) rfl (by rw [hml]; exact hl.1) rfl dX0_init_1 (Nat.le_of_ble_eq_true rfl) (Nat.le_of_ble_eq_true rfl) ?_
  refine W.eq (g2 := F0 m 4 ls []) rfl ?_
  refine lv_aload_n hx hb dX0_init_4 rfl (lv_at hl 0 rfl) ?_
  refine lv_iconst (v := 0) hx hb dX0_init_5 (by decide) ?_
  refine va_put (D := D) (ci := 0) (v := .int 0) (ty := .int) (C := RX0) (T := TX0) (N := 4) hx hb hts in_X0_init_X0 tyX0 tyX0_ok nmX0 hown hK hP hD hS 0 rfl rfl 0 (by decide) (hts (.fieldLink RX0 11 "ZhegalkinBench$TextReader" "where" "I") (List.mem_of_getElem? (i := 4) rfl)) (fun _ h9 => h9) rfl (by decide +kernel) rfl rfl (Nat.le_of_ble_eq_true rfl) dX0_init_6 (fun H locs hP hD hS => ?_)
  have hP : va_P D vwCl (wR r 0 f d v) H := hP
  have hD : va_D A (wR r 0 f d v) := hD
  refine lv_aload_n hx hb dX0_init_9 rfl (lv_at hl 0 rfl) ?_
  refine lv_iconst (v := 0) hx hb dX0_init_10 (by decide) ?_
  refine va_put (D := D) (ci := 0) (v := .int 0) (ty := .int) (C := RX0) (T := TX0) (N := 4) hx hb hts in_X0_init_X0 tyX0 tyX0_ok nmX0 hown hK hP hD hS 0 rfl rfl 1 (by decide) (hts (.fieldLink RX0 15 "ZhegalkinBench$TextReader" "finished" "I") (List.mem_of_getElem? (i := 5) rfl)) (fun _ h9 => h9) rfl (by decide +kernel) rfl rfl (Nat.le_of_ble_eq_true rfl) dX0_init_11 (fun H locs hP hD hS => ?_)
  have hP : va_P D vwCl (wR r 0 0 d v) H := hP
  have hD : va_D A (wR r 0 0 d v) := hD
  refine lv_aload_n hx hb dX0_init_14 rfl (lv_at hl 0 rfl) ?_
  refine lv_iconst (v := 0) hx hb dX0_init_15 (by decide) ?_
  refine va_put (D := D) (ci := 0) (v := .int 0) (ty := .int) (C := RX0) (T := TX0) (N := 4) hx hb hts in_X0_init_X0 tyX0 tyX0_ok nmX0 hown hK hP hD hS 0 rfl rfl 2 (by decide) (hts (.fieldLink RX0 18 "ZhegalkinBench$TextReader" "product" "I") (List.mem_of_getElem? (i := 6) rfl)) (fun _ h9 => h9) rfl (by decide +kernel) rfl rfl (Nat.le_of_ble_eq_true rfl) dX0_init_16 (fun H locs hP hD hS => ?_)
  have hP : va_P D vwCl (wR r 0 0 0 v) H := hP
  have hD : va_D A (wR r 0 0 0 v) := hD
  refine lv_aload_n hx hb dX0_init_19 rfl (lv_at hl 0 rfl) ?_
  refine lv_iconst (v := 0) hx hb dX0_init_20 (by decide) ?_
  refine va_put (D := D) (ci := 0) (v := .int 0) (ty := .int) (C := RX0) (T := TX0) (N := 4) hx hb hts in_X0_init_X0 tyX0 tyX0_ok nmX0 hown hK hP hD hS 0 rfl rfl 3 (by decide) (hts (.fieldLink RX0 21 "ZhegalkinBench$TextReader" "nextVariable" "I") (List.mem_of_getElem? (i := 7) rfl)) (fun _ h9 => h9) rfl (by decide +kernel) rfl rfl (Nat.le_of_ble_eq_true rfl) dX0_init_21 (fun H locs hP hD hS => ?_)
  have hP : va_P D vwCl (wR r 0 0 0 0) H := hP
  have hD : va_D A (wR r 0 0 0 0) := hD
  have hq : (fX0_init) = (0, 0, 0, 0) := Eq.symm (by first | ((rw [fX0_init]); first | done | rfl) | rfl)
  exact W.vret hx hb hr (fun t9 ht hW => ⟨⟨(), rfl, trivial, by rw [hq]; exact ⟨by rw [ht]; exact hP, hD⟩⟩, hS.F ht⟩) hS.2.2 dX0_init_24
theorem in_X0_startProduct_X0 : ∀ w ∈ wsX00, w ∈ wsX0_startProduct := by decide +kernel
def fX0_startProduct : Int32 × Int32 := (0, 0)
set_option maxHeartbeats 4000000 in
set_option maxRecDepth 100000 in
theorem c_X0_startProduct (l : Launch) (D : va_G) (r : Nat) (sz : Nat) (w : Int32) (f : Int32) (d : Int32) (v : Int32) : Met l yX0_startProduct wsX0_startProduct ({ frames := 0, cells := 0, slots := 0, locals := 0 }) (va_Pc [.ref r] (fun U => U.heap.size = sz ∧ va_P D vwCl (wR r w f d v) U.heap ∧ va_K D vwCl [] U ∧ va_D (fun _ => True) (wR r w f d v) ∧ envE (va_A (wR r w f d v) sz) U)) (va_Qv (fun (_ : Unit) => True) (fun _ t9 => va_P D vwCl (wR r w f ((fX0_startProduct).1) ((fX0_startProduct).2)) t9.heap ∧ va_D (va_A (wR r w f d v) sz) (wR r w f ((fX0_startProduct).1) ((fX0_startProduct).2))) (va_A (wR r w f d v) sz)) 0 0 (va_A (wR r w f d v) sz) := by
  refine Met.ofW (cc := cX0_startProduct) (maxL := 1) (ret := none) (by decide) rfl ?_
  intro p e s m args below meth c s₁ B hml hv
  obtain ⟨rfl, hsz, hP, hK, hD0, hE⟩ := hv
  have hx := B.exec
  have hb := B.bytes
  have hr := B.returns
  have hts := atoms_spec (ws := wsX0_startProduct) B.pre
  have hown : s.vm.findClass RX0 = some m.cls := findClass_of_methodNamed B.named
  have hlocks := B.notSynchronized
  subst hsz
  have hD := hD0.self (sz := s.heap.size)
  generalize hAe : va_A (wR r w f d v) s.heap.size = A at hD hE ⊢
  have hA : ∀ q : Nat, s.heap.size ≤ q → A q := fun q h => by rw [← hAe]; exact Or.inr h
  have hS : va_S A s.heap s.heap [] := va_S.rf
  have hP : va_P D vwCl (wR r w f d v) s.heap := hP
  have hl := lv_entry ([.ref r]) (n := 1) (Nat.le_of_ble_eq_true rfl)
  rw [lg_entry_eq]
  generalize (lg_sl ([.ref r]) ++ List.replicate (1 - (lg_sl ([.ref r])).length) Slot.unset).toArray = ls at hl ⊢
  have hl : lv_has ls 1 [(0, .ref r)] := hl
  refine lv_aload_n hx hb dX0_startProduct_0 rfl (lv_at hl 0 rfl) ?_
  refine lv_iconst (v := 0) hx hb dX0_startProduct_1 (by decide) ?_
  refine va_put (D := D) (ci := 0) (v := .int 0) (ty := .int) (C := RX0) (T := TX0) (N := 4) hx hb hts in_X0_startProduct_X0 tyX0 tyX0_ok nmX0 hown hK hP hD hS 0 rfl rfl 2 (by decide) (hts (.fieldLink RX0 18 "ZhegalkinBench$TextReader" "product" "I") (List.mem_of_getElem? (i := 1) rfl)) (fun _ h9 => h9) rfl (by decide +kernel) rfl rfl (Nat.le_of_ble_eq_true rfl) dX0_startProduct_2 (fun H locs hP hD hS => ?_)
  have hP : va_P D vwCl (wR r w f 0 v) H := hP
  have hD : va_D A (wR r w f 0 v) := hD
  refine lv_aload_n hx hb dX0_startProduct_5 rfl (lv_at hl 0 rfl) ?_
  refine lv_iconst (v := 0) hx hb dX0_startProduct_6 (by decide) ?_
  refine va_put (D := D) (ci := 0) (v := .int 0) (ty := .int) (C := RX0) (T := TX0) (N := 4) hx hb hts in_X0_startProduct_X0 tyX0 tyX0_ok nmX0 hown hK hP hD hS 0 rfl rfl 3 (by decide) (hts (.fieldLink RX0 21 "ZhegalkinBench$TextReader" "nextVariable" "I") (List.mem_of_getElem? (i := 2) rfl)) (fun _ h9 => h9) rfl (by decide +kernel) rfl rfl (Nat.le_of_ble_eq_true rfl) dX0_startProduct_7 (fun H locs hP hD hS => ?_)
  have hP : va_P D vwCl (wR r w f 0 0) H := hP
  have hD : va_D A (wR r w f 0 0) := hD
  have hq : (fX0_startProduct) = (0, 0) := Eq.symm (by first | ((rw [fX0_startProduct]); first | done | rfl) | rfl)
  exact W.vret hx hb hr (fun t9 ht hW => ⟨⟨(), rfl, trivial, by rw [hq]; exact ⟨by rw [ht]; exact hP, hD⟩⟩, hS.F ht⟩) hS.2.2 dX0_startProduct_10
theorem in_X0_takesZero_X0 : ∀ w ∈ wsX00, w ∈ wsX0_takesZero := by decide +kernel
def fX0_takesZero (w : Int32) (v : Int32) : Int32 × Int32 × Int32 := if w = 0 then (1, 1, 4) else (0, w, v)
set_option maxHeartbeats 4000000 in
set_option maxRecDepth 100000 in
theorem c_X0_takesZero (l : Launch) (D : va_G) (r : Nat) (sz : Nat) (w : Int32) (f : Int32) (d : Int32) (v : Int32) : Met l yX0_takesZero wsX0_takesZero ({ frames := 0, cells := 0, slots := 0, locals := 0 }) (va_Pc [.ref r] (fun U => U.heap.size = sz ∧ va_P D vwCl (wR r w f d v) U.heap ∧ va_K D vwCl [] U ∧ va_D (fun _ => True) (wR r w f d v) ∧ envE (va_A (wR r w f d v) sz) U)) (va_Qi (fun r9 (_ : Unit) => r9 = (fX0_takesZero w v).1) (fun _ t9 => va_P D vwCl (wR r ((fX0_takesZero w v).2.1) f d ((fX0_takesZero w v).2.2)) t9.heap ∧ va_D (va_A (wR r w f d v) sz) (wR r ((fX0_takesZero w v).2.1) f d ((fX0_takesZero w v).2.2))) (va_A (wR r w f d v) sz)) 0 0 (va_A (wR r w f d v) sz) := by
  refine Met.ofW (cc := cX0_takesZero) (maxL := 1) (ret := (some .boolean)) (by decide) rfl ?_
  intro p e s m args below meth c s₁ B hml hv
  obtain ⟨rfl, hsz, hP, hK, hD0, hE⟩ := hv
  have hx := B.exec
  have hb := B.bytes
  have hr := B.returns
  have hts := atoms_spec (ws := wsX0_takesZero) B.pre
  have hown : s.vm.findClass RX0 = some m.cls := findClass_of_methodNamed B.named
  have hlocks := B.notSynchronized
  subst hsz
  have hD := hD0.self (sz := s.heap.size)
  generalize hAe : va_A (wR r w f d v) s.heap.size = A at hD hE ⊢
  have hA : ∀ q : Nat, s.heap.size ≤ q → A q := fun q h => by rw [← hAe]; exact Or.inr h
  have hS : va_S A s.heap s.heap [] := va_S.rf
  have hP : va_P D vwCl (wR r w f d v) s.heap := hP
  have hl := lv_entry ([.ref r]) (n := 1) (Nat.le_of_ble_eq_true rfl)
  rw [lg_entry_eq]
  generalize (lg_sl ([.ref r]) ++ List.replicate (1 - (lg_sl ([.ref r])).length) Slot.unset).toArray = ls at hl ⊢
  have hl : lv_has ls 1 [(0, .ref r)] := hl
  refine lv_aload_n hx hb dX0_takesZero_0 rfl (lv_at hl 0 rfl) ?_
  refine va_get (D := D) (ci := 0) (v := .int w) (C := RX0) (T := TX0) (N := 4) hx hb hts in_X0_takesZero_X0 hown hK hP 0 rfl rfl 0 (by decide) (hts (.fieldLink RX0 11 "ZhegalkinBench$TextReader" "where" "I") (List.mem_of_getElem? (i := 1) rfl)) (fun _ h9 => h9) rfl dX0_takesZero_1 ?_
  refine lv_if_eq (tgt := 9) hx hb dX0_takesZero_4 (by decide) (fun c_1 => ?_) (fun c_1 => ?_)
  · refine lv_aload_n hx hb dX0_takesZero_9 rfl (lv_at hl 0 rfl) ?_
    refine lv_iconst (v := 1) hx hb dX0_takesZero_10 (by decide) ?_
    refine va_put (D := D) (ci := 0) (v := .int 1) (ty := .int) (C := RX0) (T := TX0) (N := 4) hx hb hts in_X0_takesZero_X0 tyX0 tyX0_ok nmX0 hown hK hP hD hS 0 rfl rfl 0 (by decide) (hts (.fieldLink RX0 11 "ZhegalkinBench$TextReader" "where" "I") (List.mem_of_getElem? (i := 1) rfl)) (fun _ h9 => h9) rfl (by decide +kernel) rfl rfl (Nat.le_of_ble_eq_true rfl) dX0_takesZero_11 (fun H locs hP hD hS => ?_)
    have hP : va_P D vwCl (wR r 1 f d v) H := hP
    have hD : va_D A (wR r 1 f d v) := hD
    refine lv_aload_n hx hb dX0_takesZero_14 rfl (lv_at hl 0 rfl) ?_
    refine lv_iconst (v := 4) hx hb dX0_takesZero_15 (by decide) ?_
    refine va_put (D := D) (ci := 0) (v := .int 4) (ty := .int) (C := RX0) (T := TX0) (N := 4) hx hb hts in_X0_takesZero_X0 tyX0 tyX0_ok nmX0 hown hK hP hD hS 0 rfl rfl 3 (by decide) (hts (.fieldLink RX0 21 "ZhegalkinBench$TextReader" "nextVariable" "I") (List.mem_of_getElem? (i := 2) rfl)) (fun _ h9 => h9) rfl (by decide +kernel) rfl rfl (Nat.le_of_ble_eq_true rfl) dX0_takesZero_16 (fun H locs hP hD hS => ?_)
    have hP : va_P D vwCl (wR r 1 f d 4) H := hP
    have hD : va_D A (wR r 1 f d 4) := hD
    refine lv_iconst (v := 1) hx hb dX0_takesZero_19 (by decide) ?_
    have hq : (fX0_takesZero w v) = (1, 1, 4) := Eq.symm (by first | ((rw [fX0_takesZero, if_pos c_1]); first | done | rfl) | rfl)
    exact W.zret (v := 1) hx hb hr rfl (fun t9 ht hW => ⟨⟨1, (), rfl, by rw [hq], by rw [hq]; exact ⟨by rw [ht]; exact hP, hD⟩⟩, hS.F ht⟩) hS.2.2 dX0_takesZero_20
  · refine lv_iconst (v := 0) hx hb dX0_takesZero_7 (by decide) ?_
    have hq : (fX0_takesZero w v) = (0, w, v) := Eq.symm (by first | ((rw [fX0_takesZero, if_neg c_1]); first | done | rfl) | rfl)
    exact W.zret (v := 0) hx hb hr rfl (fun t9 ht hW => ⟨⟨0, (), rfl, by rw [hq], by rw [hq]; exact ⟨by rw [ht]; exact hP, hD⟩⟩, hS.F ht⟩) hS.2.2 dX0_takesZero_8
theorem in_X0_isNew_X0 : ∀ w ∈ wsX00, w ∈ wsX0_isNew := by decide +kernel
def fX0_isNew (f : Int32) (x : Int32) : Int32 := if (f &&& ((1 : Int32) <<< (x &&& 31))) = 0 then 1 else 0
set_option maxHeartbeats 4000000 in
set_option maxRecDepth 100000 in
theorem c_X0_isNew (l : Launch) (D : va_G) (r : Nat) (w : Int32) (f : Int32) (d : Int32) (v : Int32) (x : Int32) : Met l yX0_isNew wsX0_isNew ({ frames := 0, cells := 0, slots := 0, locals := 0 }) (va_Pc [.ref r, .int x] (fun U => va_P D vwCl (wR r w f d v) U.heap ∧ va_K D vwCl [] U ∧ env0 U)) (vp_Si (fun r9 => r9 = (fX0_isNew f x))) 0 0 (fun _ => False) := by
  refine Met.ofW (cc := cX0_isNew) (maxL := 2) (ret := (some .boolean)) (by decide) rfl ?_
  intro p e s m args below meth c s₁ B hml hv
  obtain ⟨rfl, hP, hK, hE⟩ := hv
  have hx := B.exec
  have hb := B.bytes
  have hr := B.returns
  have hts := atoms_spec (ws := wsX0_isNew) B.pre
  have hown : s.vm.findClass RX0 = some m.cls := findClass_of_methodNamed B.named
  have hlocks := B.notSynchronized
  have hS : va_S (fun _ => False) s.heap s.heap [] := va_S.rf
  have hP : va_P D vwCl (wR r w f d v) s.heap := hP
  have hl := lv_entry ([.ref r, .int x]) (n := 2) (Nat.le_of_ble_eq_true rfl)
  rw [lg_entry_eq]
  generalize (lg_sl ([.ref r, .int x]) ++ List.replicate (2 - (lg_sl ([.ref r, .int x])).length) Slot.unset).toArray = ls at hl ⊢
  have hl : lv_has ls 2 [(0, .ref r), (1, .int x)] := hl
  refine lv_aload_n hx hb dX0_isNew_0 rfl (lv_at hl 0 rfl) ?_
  refine va_get (D := D) (ci := 0) (v := .int f) (C := RX0) (T := TX0) (N := 4) hx hb hts in_X0_isNew_X0 hown hK hP 0 rfl rfl 1 (by decide) (hts (.fieldLink RX0 15 "ZhegalkinBench$TextReader" "finished" "I") (List.mem_of_getElem? (i := 1) rfl)) (fun _ h9 => h9) rfl dX0_isNew_1 ?_
  refine lv_iconst (v := 1) hx hb dX0_isNew_4 (by decide) ?_
  refine lv_iload_n hx hb dX0_isNew_5 rfl (lv_at hl 1 rfl) ?_
  refine lv_ishl hx hb dX0_isNew_6 ?_
  refine lv_iand hx hb dX0_isNew_7 ?_
  refine lv_if_ne (tgt := 15) hx hb dX0_isNew_8 (by decide) (fun c_1 => ?_) (fun c_1 => ?_)
  · refine lv_iconst (v := 0) hx hb dX0_isNew_15 (by decide) ?_
    exact W.zret (v := 0) hx hb hr rfl (fun t9 ht hW => ⟨0, rfl, (by first | ((rw [fX0_isNew, if_neg c_1]); first | done | rfl) | rfl), ht⟩) (fun q h => nomatch h) dX0_isNew_16
  · refine lv_iconst (v := 1) hx hb dX0_isNew_11 (by decide) ?_
    refine lv_goto (tgt := 16) hx hb dX0_isNew_12 (by decide) ?_
    exact W.zret (v := 1) hx hb hr rfl (fun t9 ht hW => ⟨1, rfl, (by first | ((rw [fX0_isNew, if_pos c_1]); first | done | rfl) | rfl), ht⟩) (fun q h => nomatch h) dX0_isNew_16
theorem in_X0_takesOne_X0 : ∀ w ∈ wsX00, w ∈ wsX0_takesOne := by decide +kernel
def fX0_takesOne (w : Int32) (f : Int32) (v : Int32) : Int32 × Int32 × Int32 := if w = 0 then (if (fX0_isNew f 0) = 0 then (0, w, v) else (1, 3, 4)) else (if w = 2 then (if (fX0_isNew f 0) = 0 then (0, w, v) else (1, 3, 4)) else (0, w, v))
set_option maxHeartbeats 4000000 in
set_option maxRecDepth 100000 in
theorem c_X0_takesOne (l : Launch) (D : va_G) (r : Nat) (sz : Nat) (w : Int32) (f : Int32) (d : Int32) (v : Int32) : Met l yX0_takesOne wsX0_takesOne ({ frames := 1, cells := 0, slots := 0, locals := 21 }) (va_Pc [.ref r] (fun U => U.heap.size = sz ∧ va_P D vwCl (wR r w f d v) U.heap ∧ va_K D vwCl [] U ∧ va_D (fun _ => True) (wR r w f d v) ∧ envE (va_A (wR r w f d v) sz) U)) (va_Qi (fun r9 (_ : Unit) => r9 = (fX0_takesOne w f v).1) (fun _ t9 => va_P D vwCl (wR r ((fX0_takesOne w f v).2.1) f d ((fX0_takesOne w f v).2.2)) t9.heap ∧ va_D (va_A (wR r w f d v) sz) (wR r ((fX0_takesOne w f v).2.1) f d ((fX0_takesOne w f v).2.2))) (va_A (wR r w f d v) sz)) 0 0 (va_A (wR r w f d v) sz) := by
  refine Met.ofW (cc := cX0_takesOne) (maxL := 2) (ret := (some .boolean)) (by decide) rfl ?_
  intro p e s m args below meth c s₁ B hml hv
  obtain ⟨rfl, hsz, hP, hK, hD0, hE⟩ := hv
  have hx := B.exec
  have hb := B.bytes
  have hr := B.returns
  have hts := atoms_spec (ws := wsX0_takesOne) B.pre
  have hown : s.vm.findClass RX0 = some m.cls := findClass_of_methodNamed B.named
  have hlocks := B.notSynchronized
  subst hsz
  have hD := hD0.self (sz := s.heap.size)
  generalize hAe : va_A (wR r w f d v) s.heap.size = A at hD hE ⊢
  have hA : ∀ q : Nat, s.heap.size ≤ q → A q := fun q h => by rw [← hAe]; exact Or.inr h
  have hS : va_S A s.heap s.heap [] := va_S.rf
  have hP : va_P D vwCl (wR r w f d v) s.heap := hP
  have hl := lv_entry ([.ref r]) (n := 2) (Nat.le_of_ble_eq_true rfl)
  rw [lg_entry_eq]
  generalize (lg_sl ([.ref r]) ++ List.replicate (2 - (lg_sl ([.ref r])).length) Slot.unset).toArray = ls at hl ⊢
  have hl : lv_has ls 2 [(0, .ref r)] := hl
  refine lv_aload_n hx hb dX0_takesOne_0 rfl (lv_at hl 0 rfl) ?_
  refine va_get (D := D) (ci := 0) (v := .int w) (C := RX0) (T := TX0) (N := 4) hx hb hts in_X0_takesOne_X0 hown hK hP 0 rfl rfl 0 (by decide) (hts (.fieldLink RX0 11 "ZhegalkinBench$TextReader" "where" "I") (List.mem_of_getElem? (i := 1) rfl)) (fun _ h9 => h9) rfl dX0_takesOne_1 ?_
  refine lv_if_eq (tgt := 15) hx hb dX0_takesOne_4 (by decide) (fun c_1 => ?_) (fun c_1 => ?_)
  · refine lv_iconst (v := 1) hx hb dX0_takesOne_15 (by decide) ?_
    refine lv_goto (tgt := 20) hx hb dX0_takesOne_16 (by decide) ?_
    refine lv_istore_n (lv' := [(1, .int 1), (0, .ref r)]) hx hb dX0_takesOne_20 rfl hl (by decide) rfl (fun ls hl => ?_)
    refine lv_iload_n hx hb dX0_takesOne_21 rfl (lv_at hl 0 rfl) ?_
    refine lv_if_eq (tgt := 33) hx hb dX0_takesOne_22 (by decide) (fun c_2 => ?_) (fun c_2 => ?_)
    · exact absurd c_2 (by decide)
    · refine lv_aload_n hx hb dX0_takesOne_25 rfl (lv_at hl 1 rfl) ?_
      refine lv_iconst (v := 0) hx hb dX0_takesOne_26 (by decide) ?_
      have hPc := hP.sub (ws' := (wR r w f d v)) [0] rfl
      have hKc := hK.sub (tys' := []) [] rfl
      refine vp_callSi (va_Run.run (va_runV (As := [.int 0]) (rest := []) ⟨hx, hb, hml, hown, hts⟩ (c_X0_isNew l D r w f d v 0) (cwV 1 hts gX0_takesOne_X0_isNew rfl rfl rfl (by decide +kernel) ⟨Nat.le_of_ble_eq_true rfl, Nat.le_of_ble_eq_true rfl⟩) ⟨fun a U g mk z => ⟨z.1, z.2.1, va_K.moved (u := U) (U := U.calling g mk a) (Vm.Alike.refl U.vm) z.2.2.1, z.2.2.2.blind g mk a⟩, va_recv hKc hPc (ci := 0) (q0 := 0) rfl rfl, fun U hU hW => ⟨rfl, by rw [hU]; exact hPc, va_K.moved hW.alike hKc, hE.at0 hS hU hW⟩⟩ rfl rfl hl.1 rfl (lv_room (Nat.le_of_ble_eq_true rfl)) dX0_takesOne_27 ⟨(Nat.zero_le _), (Nat.zero_le _)⟩)) (fun r9 hr => ?_)
      subst r9
      refine lv_if_ne (tgt := 35) hx hb dX0_takesOne_30 (by decide) (fun c_3 => ?_) (fun c_3 => ?_)
      · refine lv_aload_n hx hb dX0_takesOne_35 rfl (lv_at hl 1 rfl) ?_
        refine lv_iconst (v := 3) hx hb dX0_takesOne_36 (by decide) ?_
        refine va_put (D := D) (ci := 0) (v := .int 3) (ty := .int) (C := RX0) (T := TX0) (N := 4) hx hb hts in_X0_takesOne_X0 tyX0 tyX0_ok nmX0 hown hK hP hD hS 0 rfl rfl 0 (by decide) (hts (.fieldLink RX0 11 "ZhegalkinBench$TextReader" "where" "I") (List.mem_of_getElem? (i := 1) rfl)) (fun _ h9 => h9) rfl (by decide +kernel) rfl rfl (Nat.le_of_ble_eq_true rfl) dX0_takesOne_37 (fun H locs hP hD hS => ?_)
        have hP : va_P D vwCl (wR r 3 f d v) H := hP
        have hD : va_D A (wR r 3 f d v) := hD
        refine lv_aload_n hx hb dX0_takesOne_40 rfl (lv_at hl 1 rfl) ?_
        refine lv_iconst (v := 4) hx hb dX0_takesOne_41 (by decide) ?_
        refine va_put (D := D) (ci := 0) (v := .int 4) (ty := .int) (C := RX0) (T := TX0) (N := 4) hx hb hts in_X0_takesOne_X0 tyX0 tyX0_ok nmX0 hown hK hP hD hS 0 rfl rfl 3 (by decide) (hts (.fieldLink RX0 21 "ZhegalkinBench$TextReader" "nextVariable" "I") (List.mem_of_getElem? (i := 2) rfl)) (fun _ h9 => h9) rfl (by decide +kernel) rfl rfl (Nat.le_of_ble_eq_true rfl) dX0_takesOne_42 (fun H locs hP hD hS => ?_)
        have hP : va_P D vwCl (wR r 3 f d 4) H := hP
        have hD : va_D A (wR r 3 f d 4) := hD
        refine lv_iconst (v := 1) hx hb dX0_takesOne_45 (by decide) ?_
        have hq : (fX0_takesOne w f v) = (1, 3, 4) := Eq.symm (by first | ((rw [fX0_takesOne, if_pos c_1, if_neg c_3]); first | done | rfl) | rfl)
        exact W.zret (v := 1) hx hb hr rfl (fun t9 ht hW => ⟨⟨1, (), rfl, by rw [hq], by rw [hq]; exact ⟨by rw [ht]; exact hP, hD⟩⟩, hS.F ht⟩) hS.2.2 dX0_takesOne_46
      · refine lv_iconst (v := 0) hx hb dX0_takesOne_33 (by decide) ?_
        have hq : (fX0_takesOne w f v) = (0, w, v) := Eq.symm (by first | ((rw [fX0_takesOne, if_pos c_1, if_pos c_3]); first | done | rfl) | rfl)
        exact W.zret (v := 0) hx hb hr rfl (fun t9 ht hW => ⟨⟨0, (), rfl, by rw [hq], by rw [hq]; exact ⟨by rw [ht]; exact hP, hD⟩⟩, hS.F ht⟩) hS.2.2 dX0_takesOne_34
  · refine lv_aload_n hx hb dX0_takesOne_7 rfl (lv_at hl 0 rfl) ?_
    refine va_get (D := D) (ci := 0) (v := .int w) (C := RX0) (T := TX0) (N := 4) hx hb hts in_X0_takesOne_X0 hown hK hP 0 rfl rfl 0 (by decide) (hts (.fieldLink RX0 11 "ZhegalkinBench$TextReader" "where" "I") (List.mem_of_getElem? (i := 1) rfl)) (fun _ h9 => h9) rfl dX0_takesOne_8 ?_
    refine lv_iconst (v := 2) hx hb dX0_takesOne_11 (by decide) ?_
    refine lv_icmp_ne (tgt := 19) hx hb dX0_takesOne_12 (by decide) (fun c_4 => ?_) (fun c_4 => ?_)
    · refine lv_iconst (v := 0) hx hb dX0_takesOne_19 (by decide) ?_
      refine lv_istore_n (lv' := [(1, .int 0), (0, .ref r)]) hx hb dX0_takesOne_20 rfl hl (by decide) rfl (fun ls hl => ?_)
      refine lv_iload_n hx hb dX0_takesOne_21 rfl (lv_at hl 0 rfl) ?_
      refine lv_if_eq (tgt := 33) hx hb dX0_takesOne_22 (by decide) (fun c_5 => ?_) (fun c_5 => ?_)
      · refine lv_iconst (v := 0) hx hb dX0_takesOne_33 (by decide) ?_
        have hq : (fX0_takesOne w f v) = (0, w, v) := Eq.symm (by first | ((rw [fX0_takesOne, if_neg c_1, if_neg c_4]); first | done | rfl) | rfl)
        exact W.zret (v := 0) hx hb hr rfl (fun t9 ht hW => ⟨⟨0, (), rfl, by rw [hq], by rw [hq]; exact ⟨by rw [ht]; exact hP, hD⟩⟩, hS.F ht⟩) hS.2.2 dX0_takesOne_34
      · exact absurd (by decide) c_5
    · refine lv_iconst (v := 1) hx hb dX0_takesOne_15 (by decide) ?_
      refine lv_goto (tgt := 20) hx hb dX0_takesOne_16 (by decide) ?_
      refine lv_istore_n (lv' := [(1, .int 1), (0, .ref r)]) hx hb dX0_takesOne_20 rfl hl (by decide) rfl (fun ls hl => ?_)
      refine lv_iload_n hx hb dX0_takesOne_21 rfl (lv_at hl 0 rfl) ?_
      refine lv_if_eq (tgt := 33) hx hb dX0_takesOne_22 (by decide) (fun c_6 => ?_) (fun c_6 => ?_)
      · exact absurd c_6 (by decide)
      · refine lv_aload_n hx hb dX0_takesOne_25 rfl (lv_at hl 1 rfl) ?_
        refine lv_iconst (v := 0) hx hb dX0_takesOne_26 (by decide) ?_
        have hPc := hP.sub (ws' := (wR r w f d v)) [0] rfl
        have hKc := hK.sub (tys' := []) [] rfl
        refine vp_callSi (va_Run.run (va_runV (As := [.int 0]) (rest := []) ⟨hx, hb, hml, hown, hts⟩ (c_X0_isNew l D r w f d v 0) (cwV 1 hts gX0_takesOne_X0_isNew rfl rfl rfl (by decide +kernel) ⟨Nat.le_of_ble_eq_true rfl, Nat.le_of_ble_eq_true rfl⟩) ⟨fun a U g mk z => ⟨z.1, z.2.1, va_K.moved (u := U) (U := U.calling g mk a) (Vm.Alike.refl U.vm) z.2.2.1, z.2.2.2.blind g mk a⟩, va_recv hKc hPc (ci := 0) (q0 := 0) rfl rfl, fun U hU hW => ⟨rfl, by rw [hU]; exact hPc, va_K.moved hW.alike hKc, hE.at0 hS hU hW⟩⟩ rfl rfl hl.1 rfl (lv_room (Nat.le_of_ble_eq_true rfl)) dX0_takesOne_27 ⟨(Nat.zero_le _), (Nat.zero_le _)⟩)) (fun r9 hr => ?_)
        subst r9
        refine lv_if_ne (tgt := 35) hx hb dX0_takesOne_30 (by decide) (fun c_7 => ?_) (fun c_7 => ?_)
        · refine lv_aload_n hx hb dX0_takesOne_35 rfl (lv_at hl 1 rfl) ?_
          refine lv_iconst (v := 3) hx hb dX0_takesOne_36 (by decide) ?_
          refine va_put (D := D) (ci := 0) (v := .int 3) (ty := .int) (C := RX0) (T := TX0) (N := 4) hx hb hts in_X0_takesOne_X0 tyX0 tyX0_ok nmX0 hown hK hP hD hS 0 rfl rfl 0 (by decide) (hts (.fieldLink RX0 11 "ZhegalkinBench$TextReader" "where" "I") (List.mem_of_getElem? (i := 1) rfl)) (fun _ h9 => h9) rfl (by decide +kernel) rfl rfl (Nat.le_of_ble_eq_true rfl) dX0_takesOne_37 (fun H locs hP hD hS => ?_)
          have hP : va_P D vwCl (wR r 3 f d v) H := hP
          have hD : va_D A (wR r 3 f d v) := hD
          refine lv_aload_n hx hb dX0_takesOne_40 rfl (lv_at hl 1 rfl) ?_
          refine lv_iconst (v := 4) hx hb dX0_takesOne_41 (by decide) ?_
          refine va_put (D := D) (ci := 0) (v := .int 4) (ty := .int) (C := RX0) (T := TX0) (N := 4) hx hb hts in_X0_takesOne_X0 tyX0 tyX0_ok nmX0 hown hK hP hD hS 0 rfl rfl 3 (by decide) (hts (.fieldLink RX0 21 "ZhegalkinBench$TextReader" "nextVariable" "I") (List.mem_of_getElem? (i := 2) rfl)) (fun _ h9 => h9) rfl (by decide +kernel) rfl rfl (Nat.le_of_ble_eq_true rfl) dX0_takesOne_42 (fun H locs hP hD hS => ?_)
          have hP : va_P D vwCl (wR r 3 f d 4) H := hP
          have hD : va_D A (wR r 3 f d 4) := hD
          refine lv_iconst (v := 1) hx hb dX0_takesOne_45 (by decide) ?_
          have hq : (fX0_takesOne w f v) = (1, 3, 4) := Eq.symm (by first | ((rw [fX0_takesOne, if_neg c_1, if_pos c_4, if_neg c_7]); first | done | rfl) | rfl)
          exact W.zret (v := 1) hx hb hr rfl (fun t9 ht hW => ⟨⟨1, (), rfl, by rw [hq], by rw [hq]; exact ⟨by rw [ht]; exact hP, hD⟩⟩, hS.F ht⟩) hS.2.2 dX0_takesOne_46
        · refine lv_iconst (v := 0) hx hb dX0_takesOne_33 (by decide) ?_
          have hq : (fX0_takesOne w f v) = (0, w, v) := Eq.symm (by first | ((rw [fX0_takesOne, if_neg c_1, if_pos c_4, if_pos c_7]); first | done | rfl) | rfl)
          exact W.zret (v := 0) hx hb hr rfl (fun t9 ht hW => ⟨⟨0, (), rfl, by rw [hq], by rw [hq]; exact ⟨by rw [ht]; exact hP, hD⟩⟩, hS.F ht⟩) hS.2.2 dX0_takesOne_34
theorem in_X0_takesPlus_X0 : ∀ w ∈ wsX00, w ∈ wsX0_takesPlus := by decide +kernel
def fX0_takesPlus (w : Int32) (f : Int32) (d : Int32) (v : Int32) : Int32 × Int32 × Int32 × Int32 × Int32 := if w = 3 then (if (fX0_isNew f d) = 0 then (0, w, f, d, v) else (if (f ||| ((1 : Int32) <<< (d &&& 31))) = 65535 then (0, w, f, d, v) else (1, 2, (f ||| ((1 : Int32) <<< (d &&& 31))), fX0_startProduct.1, fX0_startProduct.2))) else (0, w, f, d, v)
set_option maxHeartbeats 4000000 in
set_option maxRecDepth 100000 in
theorem c_X0_takesPlus (l : Launch) (D : va_G) (r : Nat) (sz : Nat) (w : Int32) (f : Int32) (d : Int32) (v : Int32) : Met l yX0_takesPlus wsX0_takesPlus ({ frames := 1, cells := 0, slots := 0, locals := 21 }) (va_Pc [.ref r] (fun U => U.heap.size = sz ∧ va_P D vwCl (wR r w f d v) U.heap ∧ va_K D vwCl [] U ∧ va_D (fun _ => True) (wR r w f d v) ∧ envE (va_A (wR r w f d v) sz) U)) (va_Qi (fun r9 (_ : Unit) => r9 = (fX0_takesPlus w f d v).1) (fun _ t9 => va_P D vwCl (wR r ((fX0_takesPlus w f d v).2.1) ((fX0_takesPlus w f d v).2.2.1) ((fX0_takesPlus w f d v).2.2.2.1) ((fX0_takesPlus w f d v).2.2.2.2)) t9.heap ∧ va_D (va_A (wR r w f d v) sz) (wR r ((fX0_takesPlus w f d v).2.1) ((fX0_takesPlus w f d v).2.2.1) ((fX0_takesPlus w f d v).2.2.2.1) ((fX0_takesPlus w f d v).2.2.2.2))) (va_A (wR r w f d v) sz)) 0 0 (va_A (wR r w f d v) sz) := by
  refine Met.ofW (cc := cX0_takesPlus) (maxL := 2) (ret := (some .boolean)) (by decide) rfl ?_
  intro p e s m args below meth c s₁ B hml hv
  obtain ⟨rfl, hsz, hP, hK, hD0, hE⟩ := hv
  have hx := B.exec
  have hb := B.bytes
  have hr := B.returns
  have hts := atoms_spec (ws := wsX0_takesPlus) B.pre
  have hown : s.vm.findClass RX0 = some m.cls := findClass_of_methodNamed B.named
  have hlocks := B.notSynchronized
  subst hsz
  have hD := hD0.self (sz := s.heap.size)
  generalize hAe : va_A (wR r w f d v) s.heap.size = A at hD hE ⊢
  have hA : ∀ q : Nat, s.heap.size ≤ q → A q := fun q h => by rw [← hAe]; exact Or.inr h
  have hS : va_S A s.heap s.heap [] := va_S.rf
  have hP : va_P D vwCl (wR r w f d v) s.heap := hP
  have hl := lv_entry ([.ref r]) (n := 2) (Nat.le_of_ble_eq_true rfl)
  rw [lg_entry_eq]
  generalize (lg_sl ([.ref r]) ++ List.replicate (2 - (lg_sl ([.ref r])).length) Slot.unset).toArray = ls at hl ⊢
  have hl : lv_has ls 2 [(0, .ref r)] := hl
  refine lv_aload_n hx hb dX0_takesPlus_0 rfl (lv_at hl 0 rfl) ?_
  refine va_get (D := D) (ci := 0) (v := .int w) (C := RX0) (T := TX0) (N := 4) hx hb hts in_X0_takesPlus_X0 hown hK hP 0 rfl rfl 0 (by decide) (hts (.fieldLink RX0 11 "ZhegalkinBench$TextReader" "where" "I") (List.mem_of_getElem? (i := 1) rfl)) (fun _ h9 => h9) rfl dX0_takesPlus_1 ?_
  refine lv_iconst (v := 3) hx hb dX0_takesPlus_4 (by decide) ?_
  refine lv_icmp_ne (tgt := 19) hx hb dX0_takesPlus_5 (by decide) (fun c_1 => ?_) (fun c_1 => ?_)
  · refine lv_iconst (v := 0) hx hb dX0_takesPlus_19 (by decide) ?_
    have hq : (fX0_takesPlus w f d v) = (0, w, f, d, v) := Eq.symm (by first | ((rw [fX0_takesPlus, if_neg c_1]); first | done | rfl) | rfl)
    exact W.zret (v := 0) hx hb hr rfl (fun t9 ht hW => ⟨⟨0, (), rfl, by rw [hq], by rw [hq]; exact ⟨by rw [ht]; exact hP, hD⟩⟩, hS.F ht⟩) hS.2.2 dX0_takesPlus_20
  · refine lv_aload_n hx hb dX0_takesPlus_8 rfl (lv_at hl 0 rfl) ?_
    refine lv_aload_n hx hb dX0_takesPlus_9 rfl (lv_at hl 0 rfl) ?_
    refine va_get (D := D) (ci := 0) (v := .int d) (C := RX0) (T := TX0) (N := 4) hx hb hts in_X0_takesPlus_X0 hown hK hP 0 rfl rfl 2 (by decide) (hts (.fieldLink RX0 18 "ZhegalkinBench$TextReader" "product" "I") (List.mem_of_getElem? (i := 2) rfl)) (fun _ h9 => h9) rfl dX0_takesPlus_10 ?_
    have hPc := hP.sub (ws' := (wR r w f d v)) [0] rfl
    have hKc := hK.sub (tys' := []) [] rfl
    refine vp_callSi (va_Run.run (va_runV (As := [.int d]) (rest := []) ⟨hx, hb, hml, hown, hts⟩ (c_X0_isNew l D r w f d v d) (cwV 1 hts gX0_takesPlus_X0_isNew rfl rfl rfl (by decide +kernel) ⟨Nat.le_of_ble_eq_true rfl, Nat.le_of_ble_eq_true rfl⟩) ⟨fun a U g mk z => ⟨z.1, z.2.1, va_K.moved (u := U) (U := U.calling g mk a) (Vm.Alike.refl U.vm) z.2.2.1, z.2.2.2.blind g mk a⟩, va_recv hKc hPc (ci := 0) (q0 := 0) rfl rfl, fun U hU hW => ⟨rfl, by rw [hU]; exact hPc, va_K.moved hW.alike hKc, hE.at0 hS hU hW⟩⟩ rfl rfl hl.1 rfl (lv_room (Nat.le_of_ble_eq_true rfl)) dX0_takesPlus_13 ⟨(Nat.zero_le _), (Nat.zero_le _)⟩)) (fun r9 hr => ?_)
    subst r9
    refine lv_if_ne (tgt := 21) hx hb dX0_takesPlus_16 (by decide) (fun c_2 => ?_) (fun c_2 => ?_)
    · refine lv_aload_n hx hb dX0_takesPlus_21 rfl (lv_at hl 0 rfl) ?_
      refine va_get (D := D) (ci := 0) (v := .int f) (C := RX0) (T := TX0) (N := 4) hx hb hts in_X0_takesPlus_X0 hown hK hP 0 rfl rfl 1 (by decide) (hts (.fieldLink RX0 15 "ZhegalkinBench$TextReader" "finished" "I") (List.mem_of_getElem? (i := 3) rfl)) (fun _ h9 => h9) rfl dX0_takesPlus_22 ?_
      refine lv_iconst (v := 1) hx hb dX0_takesPlus_25 (by decide) ?_
      refine lv_aload_n hx hb dX0_takesPlus_26 rfl (lv_at hl 0 rfl) ?_
      refine va_get (D := D) (ci := 0) (v := .int d) (C := RX0) (T := TX0) (N := 4) hx hb hts in_X0_takesPlus_X0 hown hK hP 0 rfl rfl 2 (by decide) (hts (.fieldLink RX0 18 "ZhegalkinBench$TextReader" "product" "I") (List.mem_of_getElem? (i := 2) rfl)) (fun _ h9 => h9) rfl dX0_takesPlus_27 ?_
      refine lv_ishl hx hb dX0_takesPlus_30 ?_
      refine lv_ior hx hb dX0_takesPlus_31 ?_
      refine lv_istore_n (lv' := [(1, .int (f ||| ((1 : Int32) <<< (d &&& 31)))), (0, .ref r)]) hx hb dX0_takesPlus_32 rfl hl (by decide) rfl (fun ls hl => ?_)
      refine lv_iload_n hx hb dX0_takesPlus_33 rfl (lv_at hl 0 rfl) ?_
      refine lv_ldc (v := 65535) hx hb hown (hts (.constant RX0 51 (65535)) (List.mem_of_getElem? (i := 4) rfl)) dX0_takesPlus_34 ?_
      refine lv_icmp_ne (tgt := 41) hx hb dX0_takesPlus_36 (by decide) (fun c_3 => ?_) (fun c_3 => ?_)
      · refine lv_aload_n hx hb dX0_takesPlus_41 rfl (lv_at hl 1 rfl) ?_
        refine lv_iconst (v := 2) hx hb dX0_takesPlus_42 (by decide) ?_
        refine va_put (D := D) (ci := 0) (v := .int 2) (ty := .int) (C := RX0) (T := TX0) (N := 4) hx hb hts in_X0_takesPlus_X0 tyX0 tyX0_ok nmX0 hown hK hP hD hS 0 rfl rfl 0 (by decide) (hts (.fieldLink RX0 11 "ZhegalkinBench$TextReader" "where" "I") (List.mem_of_getElem? (i := 1) rfl)) (fun _ h9 => h9) rfl (by decide +kernel) rfl rfl (Nat.le_of_ble_eq_true rfl) dX0_takesPlus_43 (fun H locs hP hD hS => ?_)
        have hP : va_P D vwCl (wR r 2 f d v) H := hP
        have hD : va_D A (wR r 2 f d v) := hD
        refine lv_aload_n hx hb dX0_takesPlus_46 rfl (lv_at hl 1 rfl) ?_
        refine lv_iload_n hx hb dX0_takesPlus_47 rfl (lv_at hl 0 rfl) ?_
        refine va_put (D := D) (ci := 0) (v := .int (f ||| ((1 : Int32) <<< (d &&& 31)))) (ty := .int) (C := RX0) (T := TX0) (N := 4) hx hb hts in_X0_takesPlus_X0 tyX0 tyX0_ok nmX0 hown hK hP hD hS 0 rfl rfl 1 (by decide) (hts (.fieldLink RX0 15 "ZhegalkinBench$TextReader" "finished" "I") (List.mem_of_getElem? (i := 3) rfl)) (fun _ h9 => h9) rfl (by decide +kernel) rfl rfl (Nat.le_of_ble_eq_true rfl) dX0_takesPlus_48 (fun H locs hP hD hS => ?_)
        have hP : va_P D vwCl (wR r 2 (f ||| ((1 : Int32) <<< (d &&& 31))) d v) H := hP
        have hD : va_D A (wR r 2 (f ||| ((1 : Int32) <<< (d &&& 31))) d v) := hD
        refine lv_aload_n hx hb dX0_takesPlus_51 rfl (lv_at hl 1 rfl) ?_
        have hPc := hP.sub (ws' := (wR r 2 (f ||| ((1 : Int32) <<< (d &&& 31))) d v)) [0] rfl
        have hKc := hK.sub (tys' := []) [] rfl
        have hDc := hD.sub (ws' := (wR r 2 (f ||| ((1 : Int32) <<< (d &&& 31))) d v)) [0] (by decide) rfl
        have hFc := va_free (wc := (wR r 2 (f ||| ((1 : Int32) <<< (d &&& 31))) d v)) hD hS hA [0] rfl
        refine va_callv (va_runV (As := []) (rest := []) ⟨hx, hb, hml, hown, hts⟩ (c_X0_startProduct l D r H.size 2 (f ||| ((1 : Int32) <<< (d &&& 31))) d v) (cwV 0 hts gX0_takesPlus_X0_startProduct rfl rfl rfl (by decide +kernel) ⟨Nat.le_of_ble_eq_true rfl, Nat.le_of_ble_eq_true rfl⟩) ⟨fun a U g mk z => ⟨z.1, z.2.1, z.2.2.1, va_K.moved (u := U) (U := U.calling g mk a) (Vm.Alike.refl U.vm) z.2.2.2.1, z.2.2.2.2.1, z.2.2.2.2.2.blind g mk a⟩, va_recv hKc hPc (ci := 0) (q0 := 0) rfl rfl, fun U hU hW => ⟨rfl, by rw [hU], by rw [hU]; exact hPc, va_K.moved hW.alike hKc, hDc.weaken (fun _ _ _ _ => trivial), hE.at hS hU hW hFc⟩⟩ rfl rfl hl.1 rfl (lv_room (Nat.le_of_ble_eq_true rfl)) dX0_takesPlus_52 ⟨(Nat.zero_le _), (Nat.zero_le _)⟩) hS (fun q _ h => hFc q h) hFc (fun u9 t8 H1 locs ht hvm hw hB hz1 hk1 hS => ?_)
        obtain ⟨hP1, hD1⟩ := hB
        rw [ht] at hP1
        obtain ⟨hP, hD⟩ := va_join (wr := []) (w1 := (wR r 2 (f ||| ((1 : Int32) <<< (d &&& 31))) fX0_startProduct.1 fX0_startProduct.2)) hP hD [0] [] rfl rfl (by decide) (by decide) hk1 hFc hP1 hD1
        have hP := hP.sub (ws' := (wR r 2 (f ||| ((1 : Int32) <<< (d &&& 31))) fX0_startProduct.1 fX0_startProduct.2)) [0] rfl
        have hD := hD.sub (ws' := (wR r 2 (f ||| ((1 : Int32) <<< (d &&& 31))) fX0_startProduct.1 fX0_startProduct.2)) [0] (by decide) rfl
        generalize H1 = H at hP hS ⊢
        refine lv_iconst (v := 1) hx hb dX0_takesPlus_55 (by decide) ?_
        have hq : (fX0_takesPlus w f d v) = (1, 2, (f ||| ((1 : Int32) <<< (d &&& 31))), fX0_startProduct.1, fX0_startProduct.2) := Eq.symm (by first | ((rw [fX0_takesPlus, if_pos c_1, if_neg c_2, if_neg c_3]); first | done | rfl) | rfl)
        exact W.zret (v := 1) hx hb hr rfl (fun t9 ht hW => ⟨⟨1, (), rfl, by rw [hq], by rw [hq]; exact ⟨by rw [ht]; exact hP, hD⟩⟩, hS.F ht⟩) hS.2.2 dX0_takesPlus_56
      · refine lv_iconst (v := 0) hx hb dX0_takesPlus_39 (by decide) ?_
        have hq : (fX0_takesPlus w f d v) = (0, w, f, d, v) := Eq.symm (by first | ((rw [fX0_takesPlus, if_pos c_1, if_neg c_2, if_pos c_3]); first | done | rfl) | rfl)
        exact W.zret (v := 0) hx hb hr rfl (fun t9 ht hW => ⟨⟨0, (), rfl, by rw [hq], by rw [hq]; exact ⟨by rw [ht]; exact hP, hD⟩⟩, hS.F ht⟩) hS.2.2 dX0_takesPlus_40
    · refine lv_iconst (v := 0) hx hb dX0_takesPlus_19 (by decide) ?_
      have hq : (fX0_takesPlus w f d v) = (0, w, f, d, v) := Eq.symm (by first | ((rw [fX0_takesPlus, if_pos c_1, if_pos c_2]); first | done | rfl) | rfl)
      exact W.zret (v := 0) hx hb hr rfl (fun t9 ht hW => ⟨⟨0, (), rfl, by rw [hq], by rw [hq]; exact ⟨by rw [ht]; exact hP, hD⟩⟩, hS.F ht⟩) hS.2.2 dX0_takesPlus_20
def tX0_canBecomeNew_9 (f : Int32) (b : Int32) (u : Int32) : Nat → Nat → Unit → Int32
  | 0, _, _ => 0
  | n1 + 1, i1, a1 => if ((nI i1) &&& (((1 : Int32) <<< (u &&& 31)) - 1)) = b then (if (fX0_isNew f (nI i1)) = 0 then tX0_canBecomeNew_9 f b u n1 (i1 + 1) () else 1) else tX0_canBecomeNew_9 f b u n1 (i1 + 1) ()
def fX0_canBecomeNew (f : Int32) (b : Int32) (u : Int32) : Int32 := tX0_canBecomeNew_9 f b u 16 0 ()
set_option maxHeartbeats 4000000 in
set_option maxRecDepth 100000 in
theorem c_X0_canBecomeNew (l : Launch) (D : va_G) (r : Nat) (w : Int32) (f : Int32) (d : Int32) (v : Int32) (b : Int32) (u : Int32) : Met l yX0_canBecomeNew wsX0_canBecomeNew ({ frames := 1, cells := 0, slots := 0, locals := 21 }) (va_Pc [.ref r, .int b, .int u] (fun U => va_P D vwCl (wR r w f d v) U.heap ∧ va_K D vwCl [] U ∧ env0 U)) (vp_Si (fun r9 => r9 = (fX0_canBecomeNew f b u))) 0 0 (fun _ => False) := by
  refine Met.ofW (cc := cX0_canBecomeNew) (maxL := 5) (ret := (some .boolean)) (by decide) rfl ?_
  intro p e s m args below meth c s₁ B hml hv
  obtain ⟨rfl, hP, hK, hE⟩ := hv
  have hx := B.exec
  have hb := B.bytes
  have hr := B.returns
  have hts := atoms_spec (ws := wsX0_canBecomeNew) B.pre
  have hown : s.vm.findClass RX0 = some m.cls := findClass_of_methodNamed B.named
  have hlocks := B.notSynchronized
  have hS : va_S (fun _ => False) s.heap s.heap [] := va_S.rf
  have hP : va_P D vwCl (wR r w f d v) s.heap := hP
  have hl := lv_entry ([.ref r, .int b, .int u]) (n := 5) (Nat.le_of_ble_eq_true rfl)
  rw [lg_entry_eq]
  generalize (lg_sl ([.ref r, .int b, .int u]) ++ List.replicate (5 - (lg_sl ([.ref r, .int b, .int u])).length) Slot.unset).toArray = ls at hl ⊢
  have hl : lv_has ls 5 [(0, .ref r), (1, .int b), (2, .int u)] := hl
  refine lv_iconst (v := 1) hx hb dX0_canBecomeNew_0 (by decide) ?_
  refine lv_iload_n hx hb dX0_canBecomeNew_1 rfl (lv_at hl 2 rfl) ?_
  refine lv_ishl hx hb dX0_canBecomeNew_2 ?_
  refine lv_iconst (v := 1) hx hb dX0_canBecomeNew_3 (by decide) ?_
  refine lv_isub hx hb dX0_canBecomeNew_4 ?_
  refine lv_istore_n (lv' := [(3, .int (((1 : Int32) <<< (u &&& 31)) - 1)), (0, .ref r), (1, .int b), (2, .int u)]) hx hb dX0_canBecomeNew_5 rfl hl (by decide) rfl (fun ls hl => ?_)
  refine lv_iconst (v := 0) hx hb dX0_canBecomeNew_6 (by decide) ?_
  refine lv_istore (lv' := [(4, .int 0), (3, .int (((1 : Int32) <<< (u &&& 31)) - 1)), (0, .ref r), (1, .int b), (2, .int u)]) hx hb dX0_canBecomeNew_7 hl (by decide) rfl (fun ls hl => ?_)
  refine vz_cut (fun H1 l1 g1 => ∃ (n1 i1 : Nat) (a1 : Unit) (ls : Array Slot), i1 + n1 = 16 ∧ tX0_canBecomeNew_9 f b u n1 i1 a1 = tX0_canBecomeNew_9 f b u 16 0 () ∧ lv_has ls 5 [(4, .int (nI i1)), (3, .int (((1 : Int32) <<< (u &&& 31)) - 1)), (0, .ref r), (1, .int b), (2, .int u)] ∧ (s.heap = H1 ∧ [] = l1) ∧ g1 = F0 m 9 ls []) (fun hj => hj _ _ _ ⟨16, 0, (), ls, (by omega), rfl, lv_sub hl [0, 1, 2, 3, 4] rfl, ⟨rfl, rfl⟩, rfl⟩) ?_
  rintro H1 l1 g1 ⟨n1, i1, a1, ls, hi1, hf1, hl, ⟨rfl, rfl⟩, rfl⟩
  revert i1 a1 ls
  induction n1 with
  | zero =>
    intro i1 a1 ls hi1 hf1 hl
    obtain rfl : 16 = i1 := by omega
    refine lv_iload hx hb dX0_canBecomeNew_9 (lv_at hl 0 rfl) ?_
    refine lv_bipush (v := 16) hx hb dX0_canBecomeNew_11 (by decide) ?_
    refine lv_icmp_ge (tgt := 41) hx hb dX0_canBecomeNew_13 (by decide) (fun c_1 => ?_) (fun c_1 => ?_)
    · refine lv_iconst (v := 0) hx hb dX0_canBecomeNew_41 (by decide) ?_
      exact W.zret (v := 0) hx hb hr rfl (fun t9 ht hW => ⟨0, rfl, ((show 0 = tX0_canBecomeNew_9 f b u 0 16 a1 from by first | (symm; (rw [tX0_canBecomeNew_9]); first | done | rfl) | rfl).trans hf1), ht⟩) (fun q h => nomatch h) dX0_canBecomeNew_42
    · exact absurd (nI_le (a := 16) (b := 16) (by omega) (by omega)) c_1
  | succ n1 ih1 =>
    intro i1 a1 ls hi1 hf1 hl
    refine lv_iload hx hb dX0_canBecomeNew_9 (lv_at hl 0 rfl) ?_
    refine lv_bipush (v := 16) hx hb dX0_canBecomeNew_11 (by decide) ?_
    refine lv_icmp_ge (tgt := 41) hx hb dX0_canBecomeNew_13 (by decide) (fun c_2 => ?_) (fun c_2 => ?_)
    · exact absurd c_2 (nI_ge (a := i1) (b := 16) (by omega) (by omega))
    · refine lv_iload hx hb dX0_canBecomeNew_16 (lv_at hl 0 rfl) ?_
      refine lv_iload_n hx hb dX0_canBecomeNew_18 rfl (lv_at hl 1 rfl) ?_
      refine lv_iand hx hb dX0_canBecomeNew_19 ?_
      refine lv_iload_n hx hb dX0_canBecomeNew_20 rfl (lv_at hl 3 rfl) ?_
      refine lv_icmp_ne (tgt := 35) hx hb dX0_canBecomeNew_21 (by decide) (fun c_3 => ?_) (fun c_3 => ?_)
      · refine lv_iinc (v := (nI (i1 + 1))) (lv' := [(4, .int (nI (i1 + 1))), (3, .int (((1 : Int32) <<< (u &&& 31)) - 1)), (0, .ref r), (1, .int b), (2, .int u)]) hx hb dX0_canBecomeNew_35 hl (k := 0) rfl (by first | exact nI_add _ _ | rfl) (by decide) rfl (fun ls hl => ?_)
        refine lv_goto (tgt := 9) hx hb dX0_canBecomeNew_38 (by decide) ?_
        exact ih1 (i1 + 1) () ls (by omega) ((show tX0_canBecomeNew_9 f b u n1 (i1 + 1) () = tX0_canBecomeNew_9 f b u (n1 + 1) i1 a1 from by first | (symm; (rw [tX0_canBecomeNew_9, if_neg c_3]); first | done | rfl) | rfl).trans hf1) (lv_sub hl [0, 1, 2, 3, 4] rfl)
      · refine lv_aload_n hx hb dX0_canBecomeNew_24 rfl (lv_at hl 2 rfl) ?_
        refine lv_iload hx hb dX0_canBecomeNew_25 (lv_at hl 0 rfl) ?_
        have hPc := hP.sub (ws' := (wR r w f d v)) [0] rfl
        have hKc := hK.sub (tys' := []) [] rfl
        refine vp_callSi (va_Run.run (va_runV (As := [.int (nI i1)]) (rest := []) ⟨hx, hb, hml, hown, hts⟩ (c_X0_isNew l D r w f d v (nI i1)) (cwV 1 hts gX0_canBecomeNew_X0_isNew rfl rfl rfl (by decide +kernel) ⟨Nat.le_of_ble_eq_true rfl, Nat.le_of_ble_eq_true rfl⟩) ⟨fun a U g mk z => ⟨z.1, z.2.1, va_K.moved (u := U) (U := U.calling g mk a) (Vm.Alike.refl U.vm) z.2.2.1, z.2.2.2.blind g mk a⟩, va_recv hKc hPc (ci := 0) (q0 := 0) rfl rfl, fun U hU hW => ⟨rfl, by rw [hU]; exact hPc, va_K.moved hW.alike hKc, hE.at0 hS hU hW⟩⟩ rfl rfl hl.1 rfl (lv_room (Nat.le_of_ble_eq_true rfl)) dX0_canBecomeNew_27 ⟨(Nat.zero_le _), (Nat.zero_le _)⟩)) (fun r9 hr => ?_)
        subst r9
        refine lv_if_eq (tgt := 35) hx hb dX0_canBecomeNew_30 (by decide) (fun c_4 => ?_) (fun c_4 => ?_)
        · refine lv_iinc (v := (nI (i1 + 1))) (lv' := [(4, .int (nI (i1 + 1))), (3, .int (((1 : Int32) <<< (u &&& 31)) - 1)), (0, .ref r), (1, .int b), (2, .int u)]) hx hb dX0_canBecomeNew_35 hl (k := 0) rfl (by first | exact nI_add _ _ | rfl) (by decide) rfl (fun ls hl => ?_)
          refine lv_goto (tgt := 9) hx hb dX0_canBecomeNew_38 (by decide) ?_
          exact ih1 (i1 + 1) () ls (by omega) ((show tX0_canBecomeNew_9 f b u n1 (i1 + 1) () = tX0_canBecomeNew_9 f b u (n1 + 1) i1 a1 from by first | (symm; (rw [tX0_canBecomeNew_9, if_pos c_3, if_pos c_4]); first | done | rfl) | rfl).trans hf1) (lv_sub hl [0, 1, 2, 3, 4] rfl)
        · refine lv_iconst (v := 1) hx hb dX0_canBecomeNew_33 (by decide) ?_
          exact W.zret (v := 1) hx hb hr rfl (fun t9 ht hW => ⟨1, rfl, ((show 1 = tX0_canBecomeNew_9 f b u (n1 + 1) i1 a1 from by first | (symm; (rw [tX0_canBecomeNew_9, if_pos c_3, if_neg c_4]); first | done | rfl) | rfl).trans hf1), ht⟩) (fun q h => nomatch h) dX0_canBecomeNew_34
theorem in_X0_takesVariable_X0 : ∀ w ∈ wsX00, w ∈ wsX0_takesVariable := by decide +kernel
def fX0_takesVariable (w : Int32) (f : Int32) (d : Int32) (v : Int32) (x : Int32) : Int32 × Int32 × Int32 × Int32 := if x < v then (0, w, d, v) else (if x < 4 then (if (fX0_canBecomeNew f (d ||| ((1 : Int32) <<< (x &&& 31))) (x + 1)) = 0 then (0, w, d, v) else (1, 3, (d ||| ((1 : Int32) <<< (x &&& 31))), (x + 1))) else (0, w, d, v))
set_option maxHeartbeats 4000000 in
set_option maxRecDepth 100000 in
theorem c_X0_takesVariable (l : Launch) (D : va_G) (r : Nat) (sz : Nat) (w : Int32) (f : Int32) (d : Int32) (v : Int32) (x : Int32) : Met l yX0_takesVariable wsX0_takesVariable ({ frames := 2, cells := 0, slots := 0, locals := 45 }) (va_Pc [.ref r, .int x] (fun U => U.heap.size = sz ∧ va_P D vwCl (wR r w f d v) U.heap ∧ va_K D vwCl [] U ∧ va_D (fun _ => True) (wR r w f d v) ∧ envE (va_A (wR r w f d v) sz) U)) (va_Qi (fun r9 (_ : Unit) => r9 = (fX0_takesVariable w f d v x).1) (fun _ t9 => va_P D vwCl (wR r ((fX0_takesVariable w f d v x).2.1) f ((fX0_takesVariable w f d v x).2.2.1) ((fX0_takesVariable w f d v x).2.2.2)) t9.heap ∧ va_D (va_A (wR r w f d v) sz) (wR r ((fX0_takesVariable w f d v x).2.1) f ((fX0_takesVariable w f d v x).2.2.1) ((fX0_takesVariable w f d v x).2.2.2))) (va_A (wR r w f d v) sz)) 0 0 (va_A (wR r w f d v) sz) := by
  refine Met.ofW (cc := cX0_takesVariable) (maxL := 3) (ret := (some .boolean)) (by decide) rfl ?_
  intro p e s m args below meth c s₁ B hml hv
  obtain ⟨rfl, hsz, hP, hK, hD0, hE⟩ := hv
  have hx := B.exec
  have hb := B.bytes
  have hr := B.returns
  have hts := atoms_spec (ws := wsX0_takesVariable) B.pre
  have hown : s.vm.findClass RX0 = some m.cls := findClass_of_methodNamed B.named
  have hlocks := B.notSynchronized
  subst hsz
  have hD := hD0.self (sz := s.heap.size)
  generalize hAe : va_A (wR r w f d v) s.heap.size = A at hD hE ⊢
  have hA : ∀ q : Nat, s.heap.size ≤ q → A q := fun q h => by rw [← hAe]; exact Or.inr h
  have hS : va_S A s.heap s.heap [] := va_S.rf
  have hP : va_P D vwCl (wR r w f d v) s.heap := hP
  have hl := lv_entry ([.ref r, .int x]) (n := 3) (Nat.le_of_ble_eq_true rfl)
  rw [lg_entry_eq]
  generalize (lg_sl ([.ref r, .int x]) ++ List.replicate (3 - (lg_sl ([.ref r, .int x])).length) Slot.unset).toArray = ls at hl ⊢
  have hl : lv_has ls 3 [(0, .ref r), (1, .int x)] := hl
  refine lv_iload_n hx hb dX0_takesVariable_0 rfl (lv_at hl 1 rfl) ?_
  refine lv_aload_n hx hb dX0_takesVariable_1 rfl (lv_at hl 0 rfl) ?_
  refine va_get (D := D) (ci := 0) (v := .int v) (C := RX0) (T := TX0) (N := 4) hx hb hts in_X0_takesVariable_X0 hown hK hP 0 rfl rfl 3 (by decide) (hts (.fieldLink RX0 21 "ZhegalkinBench$TextReader" "nextVariable" "I") (List.mem_of_getElem? (i := 1) rfl)) (fun _ h9 => h9) rfl dX0_takesVariable_2 ?_
  refine lv_icmp_lt (tgt := 13) hx hb dX0_takesVariable_5 (by decide) (fun c_1 => ?_) (fun c_1 => ?_)
  · refine lv_iconst (v := 0) hx hb dX0_takesVariable_13 (by decide) ?_
    have hq : (fX0_takesVariable w f d v x) = (0, w, d, v) := Eq.symm (by first | ((rw [fX0_takesVariable, if_pos c_1]); first | done | rfl) | rfl)
    exact W.zret (v := 0) hx hb hr rfl (fun t9 ht hW => ⟨⟨0, (), rfl, by rw [hq], by rw [hq]; exact ⟨by rw [ht]; exact hP, hD⟩⟩, hS.F ht⟩) hS.2.2 dX0_takesVariable_14
  · refine lv_iload_n hx hb dX0_takesVariable_8 rfl (lv_at hl 1 rfl) ?_
    refine lv_iconst (v := 4) hx hb dX0_takesVariable_9 (by decide) ?_
    refine lv_icmp_lt (tgt := 15) hx hb dX0_takesVariable_10 (by decide) (fun c_2 => ?_) (fun c_2 => ?_)
    · refine lv_aload_n hx hb dX0_takesVariable_15 rfl (lv_at hl 0 rfl) ?_
      refine va_get (D := D) (ci := 0) (v := .int d) (C := RX0) (T := TX0) (N := 4) hx hb hts in_X0_takesVariable_X0 hown hK hP 0 rfl rfl 2 (by decide) (hts (.fieldLink RX0 18 "ZhegalkinBench$TextReader" "product" "I") (List.mem_of_getElem? (i := 2) rfl)) (fun _ h9 => h9) rfl dX0_takesVariable_16 ?_
      refine lv_iconst (v := 1) hx hb dX0_takesVariable_19 (by decide) ?_
      refine lv_iload_n hx hb dX0_takesVariable_20 rfl (lv_at hl 1 rfl) ?_
      refine lv_ishl hx hb dX0_takesVariable_21 ?_
      refine lv_ior hx hb dX0_takesVariable_22 ?_
      refine lv_istore_n (lv' := [(2, .int (d ||| ((1 : Int32) <<< (x &&& 31)))), (0, .ref r), (1, .int x)]) hx hb dX0_takesVariable_23 rfl hl (by decide) rfl (fun ls hl => ?_)
      refine lv_aload_n hx hb dX0_takesVariable_24 rfl (lv_at hl 1 rfl) ?_
      refine lv_iload_n hx hb dX0_takesVariable_25 rfl (lv_at hl 0 rfl) ?_
      refine lv_iload_n hx hb dX0_takesVariable_26 rfl (lv_at hl 2 rfl) ?_
      refine lv_iconst (v := 1) hx hb dX0_takesVariable_27 (by decide) ?_
      refine lv_iadd hx hb dX0_takesVariable_28 ?_
      have hPc := hP.sub (ws' := (wR r w f d v)) [0] rfl
      have hKc := hK.sub (tys' := []) [] rfl
      refine vp_callSi (va_Run.run (va_runV (As := [.int (d ||| ((1 : Int32) <<< (x &&& 31))), .int (x + 1)]) (rest := []) ⟨hx, hb, hml, hown, hts⟩ (c_X0_canBecomeNew l D r w f d v (d ||| ((1 : Int32) <<< (x &&& 31))) (x + 1)) (cwV 2 hts gX0_takesVariable_X0_canBecomeNew rfl rfl rfl (by decide +kernel) ⟨Nat.le_of_ble_eq_true rfl, Nat.le_of_ble_eq_true rfl⟩) ⟨fun a U g mk z => ⟨z.1, z.2.1, va_K.moved (u := U) (U := U.calling g mk a) (Vm.Alike.refl U.vm) z.2.2.1, z.2.2.2.blind g mk a⟩, va_recv hKc hPc (ci := 0) (q0 := 0) rfl rfl, fun U hU hW => ⟨rfl, by rw [hU]; exact hPc, va_K.moved hW.alike hKc, hE.at0 hS hU hW⟩⟩ rfl rfl hl.1 rfl (lv_room (Nat.le_of_ble_eq_true rfl)) dX0_takesVariable_29 ⟨(Nat.zero_le _), (Nat.zero_le _)⟩)) (fun r9 hr => ?_)
      subst r9
      refine lv_if_ne (tgt := 37) hx hb dX0_takesVariable_32 (by decide) (fun c_3 => ?_) (fun c_3 => ?_)
      · refine lv_aload_n hx hb dX0_takesVariable_37 rfl (lv_at hl 1 rfl) ?_
        refine lv_iconst (v := 3) hx hb dX0_takesVariable_38 (by decide) ?_
        refine va_put (D := D) (ci := 0) (v := .int 3) (ty := .int) (C := RX0) (T := TX0) (N := 4) hx hb hts in_X0_takesVariable_X0 tyX0 tyX0_ok nmX0 hown hK hP hD hS 0 rfl rfl 0 (by decide) (hts (.fieldLink RX0 11 "ZhegalkinBench$TextReader" "where" "I") (List.mem_of_getElem? (i := 3) rfl)) (fun _ h9 => h9) rfl (by decide +kernel) rfl rfl (Nat.le_of_ble_eq_true rfl) dX0_takesVariable_39 (fun H locs hP hD hS => ?_)
        have hP : va_P D vwCl (wR r 3 f d v) H := hP
        have hD : va_D A (wR r 3 f d v) := hD
        refine lv_aload_n hx hb dX0_takesVariable_42 rfl (lv_at hl 1 rfl) ?_
        refine lv_iload_n hx hb dX0_takesVariable_43 rfl (lv_at hl 0 rfl) ?_
        refine va_put (D := D) (ci := 0) (v := .int (d ||| ((1 : Int32) <<< (x &&& 31)))) (ty := .int) (C := RX0) (T := TX0) (N := 4) hx hb hts in_X0_takesVariable_X0 tyX0 tyX0_ok nmX0 hown hK hP hD hS 0 rfl rfl 2 (by decide) (hts (.fieldLink RX0 18 "ZhegalkinBench$TextReader" "product" "I") (List.mem_of_getElem? (i := 2) rfl)) (fun _ h9 => h9) rfl (by decide +kernel) rfl rfl (Nat.le_of_ble_eq_true rfl) dX0_takesVariable_44 (fun H locs hP hD hS => ?_)
        have hP : va_P D vwCl (wR r 3 f (d ||| ((1 : Int32) <<< (x &&& 31))) v) H := hP
        have hD : va_D A (wR r 3 f (d ||| ((1 : Int32) <<< (x &&& 31))) v) := hD
        refine lv_aload_n hx hb dX0_takesVariable_47 rfl (lv_at hl 1 rfl) ?_
        refine lv_iload_n hx hb dX0_takesVariable_48 rfl (lv_at hl 2 rfl) ?_
        refine lv_iconst (v := 1) hx hb dX0_takesVariable_49 (by decide) ?_
        refine lv_iadd hx hb dX0_takesVariable_50 ?_
        refine va_put (D := D) (ci := 0) (v := .int (x + 1)) (ty := .int) (C := RX0) (T := TX0) (N := 4) hx hb hts in_X0_takesVariable_X0 tyX0 tyX0_ok nmX0 hown hK hP hD hS 0 rfl rfl 3 (by decide) (hts (.fieldLink RX0 21 "ZhegalkinBench$TextReader" "nextVariable" "I") (List.mem_of_getElem? (i := 1) rfl)) (fun _ h9 => h9) rfl (by decide +kernel) rfl rfl (Nat.le_of_ble_eq_true rfl) dX0_takesVariable_51 (fun H locs hP hD hS => ?_)
        have hP : va_P D vwCl (wR r 3 f (d ||| ((1 : Int32) <<< (x &&& 31))) (x + 1)) H := hP
        have hD : va_D A (wR r 3 f (d ||| ((1 : Int32) <<< (x &&& 31))) (x + 1)) := hD
        refine lv_iconst (v := 1) hx hb dX0_takesVariable_54 (by decide) ?_
        have hq : (fX0_takesVariable w f d v x) = (1, 3, (d ||| ((1 : Int32) <<< (x &&& 31))), (x + 1)) := Eq.symm (by first | ((rw [fX0_takesVariable, if_neg c_1, if_pos c_2, if_neg c_3]); first | done | rfl) | rfl)
        exact W.zret (v := 1) hx hb hr rfl (fun t9 ht hW => ⟨⟨1, (), rfl, by rw [hq], by rw [hq]; exact ⟨by rw [ht]; exact hP, hD⟩⟩, hS.F ht⟩) hS.2.2 dX0_takesVariable_55
      · refine lv_iconst (v := 0) hx hb dX0_takesVariable_35 (by decide) ?_
        have hq : (fX0_takesVariable w f d v x) = (0, w, d, v) := Eq.symm (by first | ((rw [fX0_takesVariable, if_neg c_1, if_pos c_2, if_pos c_3]); first | done | rfl) | rfl)
        exact W.zret (v := 0) hx hb hr rfl (fun t9 ht hW => ⟨⟨0, (), rfl, by rw [hq], by rw [hq]; exact ⟨by rw [ht]; exact hP, hD⟩⟩, hS.F ht⟩) hS.2.2 dX0_takesVariable_36
    · refine lv_iconst (v := 0) hx hb dX0_takesVariable_13 (by decide) ?_
      have hq : (fX0_takesVariable w f d v x) = (0, w, d, v) := Eq.symm (by first | ((rw [fX0_takesVariable, if_neg c_1, if_neg c_2]); first | done | rfl) | rfl)
      exact W.zret (v := 0) hx hb hr rfl (fun t9 ht hW => ⟨⟨0, (), rfl, by rw [hq], by rw [hq]; exact ⟨by rw [ht]; exact hP, hD⟩⟩, hS.F ht⟩) hS.2.2 dX0_takesVariable_14
def fX0_takes (w : Int32) (f : Int32) (d : Int32) (v : Int32) (x : Int32) : Int32 × Int32 × Int32 × Int32 × Int32 := if x = 48 then ((fX0_takesZero w v).1, (fX0_takesZero w v).2.1, f, d, (fX0_takesZero w v).2.2) else (if x = 49 then ((fX0_takesOne w f v).1, (fX0_takesOne w f v).2.1, f, d, (fX0_takesOne w f v).2.2) else (if x = 43 then ((fX0_takesPlus w f d v).1, (fX0_takesPlus w f d v).2.1, (fX0_takesPlus w f d v).2.2.1, (fX0_takesPlus w f d v).2.2.2.1, (fX0_takesPlus w f d v).2.2.2.2) else ((fX0_takesVariable w f d v (x - 97)).1, (fX0_takesVariable w f d v (x - 97)).2.1, f, (fX0_takesVariable w f d v (x - 97)).2.2.1, (fX0_takesVariable w f d v (x - 97)).2.2.2)))
theorem nX0_takesZero (w v : Int32) : narrow .boolean (.int (fX0_takesZero w v).1) = .int (fX0_takesZero w v).1 := nar_b (by unfold fX0_takesZero; (split <;> first | exact Or.inl rfl | exact Or.inr rfl | (split <;> first | exact Or.inl rfl | exact Or.inr rfl | (split <;> first | exact Or.inl rfl | exact Or.inr rfl | (split <;> first | exact Or.inl rfl | exact Or.inr rfl)))))
theorem nX0_takesOne (w f v : Int32) : narrow .boolean (.int (fX0_takesOne w f v).1) = .int (fX0_takesOne w f v).1 := nar_b (by unfold fX0_takesOne; (split <;> first | exact Or.inl rfl | exact Or.inr rfl | (split <;> first | exact Or.inl rfl | exact Or.inr rfl | (split <;> first | exact Or.inl rfl | exact Or.inr rfl | (split <;> first | exact Or.inl rfl | exact Or.inr rfl)))))
theorem nX0_takesPlus (w f d v : Int32) : narrow .boolean (.int (fX0_takesPlus w f d v).1) = .int (fX0_takesPlus w f d v).1 := nar_b (by unfold fX0_takesPlus; (split <;> first | exact Or.inl rfl | exact Or.inr rfl | (split <;> first | exact Or.inl rfl | exact Or.inr rfl | (split <;> first | exact Or.inl rfl | exact Or.inr rfl | (split <;> first | exact Or.inl rfl | exact Or.inr rfl)))))
theorem nX0_takesVariable (w f d v x : Int32) : narrow .boolean (.int (fX0_takesVariable w f d v x).1) = .int (fX0_takesVariable w f d v x).1 := nar_b (by unfold fX0_takesVariable; (split <;> first | exact Or.inl rfl | exact Or.inr rfl | (split <;> first | exact Or.inl rfl | exact Or.inr rfl | (split <;> first | exact Or.inl rfl | exact Or.inr rfl | (split <;> first | exact Or.inl rfl | exact Or.inr rfl)))))
set_option maxHeartbeats 4000000 in
set_option maxRecDepth 100000 in
theorem c_X0_takes (l : Launch) (D : va_G) (r : Nat) (sz : Nat) (w : Int32) (f : Int32) (d : Int32) (v : Int32) (x : Int32) : Met l yX0_takes wsX0_takes ({ frames := 3, cells := 0, slots := 0, locals := 67 }) (va_Pc [.ref r, .int x] (fun U => U.heap.size = sz ∧ va_P D vwCl (wR r w f d v) U.heap ∧ va_K D vwCl [] U ∧ va_D (fun _ => True) (wR r w f d v) ∧ envE (va_A (wR r w f d v) sz) U)) (va_Qi (fun r9 (_ : Unit) => r9 = (fX0_takes w f d v x).1) (fun _ t9 => va_P D vwCl (wR r ((fX0_takes w f d v x).2.1) ((fX0_takes w f d v x).2.2.1) ((fX0_takes w f d v x).2.2.2.1) ((fX0_takes w f d v x).2.2.2.2)) t9.heap ∧ va_D (va_A (wR r w f d v) sz) (wR r ((fX0_takes w f d v x).2.1) ((fX0_takes w f d v x).2.2.1) ((fX0_takes w f d v x).2.2.2.1) ((fX0_takes w f d v x).2.2.2.2))) (va_A (wR r w f d v) sz)) 0 0 (va_A (wR r w f d v) sz) := by
  refine Met.ofW (cc := cX0_takes) (maxL := 2) (ret := (some .boolean)) (by decide) rfl ?_
  intro p e s m args below meth c s₁ B hml hv
  obtain ⟨rfl, hsz, hP, hK, hD0, hE⟩ := hv
  have hx := B.exec
  have hb := B.bytes
  have hr := B.returns
  have hts := atoms_spec (ws := wsX0_takes) B.pre
  have hown : s.vm.findClass RX0 = some m.cls := findClass_of_methodNamed B.named
  have hlocks := B.notSynchronized
  subst hsz
  have hD := hD0.self (sz := s.heap.size)
  generalize hAe : va_A (wR r w f d v) s.heap.size = A at hD hE ⊢
  have hA : ∀ q : Nat, s.heap.size ≤ q → A q := fun q h => by rw [← hAe]; exact Or.inr h
  have hS : va_S A s.heap s.heap [] := va_S.rf
  have hP : va_P D vwCl (wR r w f d v) s.heap := hP
  have hl := lv_entry ([.ref r, .int x]) (n := 2) (Nat.le_of_ble_eq_true rfl)
  rw [lg_entry_eq]
  generalize (lg_sl ([.ref r, .int x]) ++ List.replicate (2 - (lg_sl ([.ref r, .int x])).length) Slot.unset).toArray = ls at hl ⊢
  have hl : lv_has ls 2 [(0, .ref r), (1, .int x)] := hl
  refine lv_iload_n hx hb dX0_takes_0 rfl (lv_at hl 1 rfl) ?_
  refine lv_bipush (v := 48) hx hb dX0_takes_1 (by decide) ?_
  refine lv_icmp_ne (tgt := 11) hx hb dX0_takes_3 (by decide) (fun c_1 => ?_) (fun c_1 => ?_)
  · refine lv_iload_n hx hb dX0_takes_11 rfl (lv_at hl 1 rfl) ?_
    refine lv_bipush (v := 49) hx hb dX0_takes_12 (by decide) ?_
    refine lv_icmp_ne (tgt := 22) hx hb dX0_takes_14 (by decide) (fun c_2 => ?_) (fun c_2 => ?_)
    · refine lv_iload_n hx hb dX0_takes_22 rfl (lv_at hl 1 rfl) ?_
      refine lv_bipush (v := 43) hx hb dX0_takes_23 (by decide) ?_
      refine lv_icmp_ne (tgt := 33) hx hb dX0_takes_25 (by decide) (fun c_3 => ?_) (fun c_3 => ?_)
      · refine lv_aload_n hx hb dX0_takes_33 rfl (lv_at hl 0 rfl) ?_
        refine lv_iload_n hx hb dX0_takes_34 rfl (lv_at hl 1 rfl) ?_
        refine lv_bipush (v := 97) hx hb dX0_takes_35 (by decide) ?_
        refine lv_isub hx hb dX0_takes_37 ?_
        have hPc := hP.sub (ws' := (wR r w f d v)) [0] rfl
        have hKc := hK.sub (tys' := []) [] rfl
        have hDc := hD.sub (ws' := (wR r w f d v)) [0] (by decide) rfl
        have hFc := va_free (wc := (wR r w f d v)) hD hS hA [0] rfl
        refine va_calli (va_runV (As := [.int (x - 97)]) (rest := []) ⟨hx, hb, hml, hown, hts⟩ (c_X0_takesVariable l D r s.heap.size w f d v (x - 97)) (cwV 1 hts gX0_takes_X0_takesVariable rfl rfl rfl (by decide +kernel) ⟨Nat.le_of_ble_eq_true rfl, Nat.le_of_ble_eq_true rfl⟩) ⟨fun a U g mk z => ⟨z.1, z.2.1, z.2.2.1, va_K.moved (u := U) (U := U.calling g mk a) (Vm.Alike.refl U.vm) z.2.2.2.1, z.2.2.2.2.1, z.2.2.2.2.2.blind g mk a⟩, va_recv hKc hPc (ci := 0) (q0 := 0) rfl rfl, fun U hU hW => ⟨rfl, by rw [hU], by rw [hU]; exact hPc, va_K.moved hW.alike hKc, hDc.weaken (fun _ _ _ _ => trivial), hE.at hS hU hW hFc⟩⟩ rfl rfl hl.1 rfl (lv_room (Nat.le_of_ble_eq_true rfl)) dX0_takes_38 ⟨(Nat.zero_le _), (Nat.zero_le _)⟩) hS (fun q _ h => hFc q h) hFc (fun r9 u9 t8 H1 locs ht hvm hw hB hz1 hk1 hS => ?_)
        obtain ⟨hP1, hD1⟩ := hB
        rw [ht] at hP1
        obtain ⟨hP, hD⟩ := va_join (wr := []) (w1 := (wR r ((fX0_takesVariable w f d v (x - 97)).2.1) f ((fX0_takesVariable w f d v (x - 97)).2.2.1) ((fX0_takesVariable w f d v (x - 97)).2.2.2))) hP hD [0] [] rfl rfl (by decide) (by decide) hk1 hFc hP1 hD1
        have hP := hP.sub (ws' := (wR r ((fX0_takesVariable w f d v (x - 97)).2.1) f ((fX0_takesVariable w f d v (x - 97)).2.2.1) ((fX0_takesVariable w f d v (x - 97)).2.2.2))) [0] rfl
        have hD := hD.sub (ws' := (wR r ((fX0_takesVariable w f d v (x - 97)).2.1) f ((fX0_takesVariable w f d v (x - 97)).2.2.1) ((fX0_takesVariable w f d v (x - 97)).2.2.2))) [0] (by decide) rfl
        generalize H1 = H at hP hS ⊢
        subst r9
        have hq : (fX0_takes w f d v x) = ((fX0_takesVariable w f d v (x - 97)).1, (fX0_takesVariable w f d v (x - 97)).2.1, f, (fX0_takesVariable w f d v (x - 97)).2.2.1, (fX0_takesVariable w f d v (x - 97)).2.2.2) := Eq.symm (by first | ((rw [fX0_takes, if_neg c_1, if_neg c_2, if_neg c_3]); first | done | rfl) | rfl)
        exact W.zret (v := (fX0_takesVariable w f d v (x - 97)).1) hx hb hr (nX0_takesVariable _ _ _ _ _) (fun t9 ht hW => ⟨⟨(fX0_takesVariable w f d v (x - 97)).1, (), rfl, by rw [hq], by rw [hq]; exact ⟨by rw [ht]; exact hP, hD⟩⟩, hS.F ht⟩) hS.2.2 dX0_takes_41
      · refine lv_aload_n hx hb dX0_takes_28 rfl (lv_at hl 0 rfl) ?_
        have hPc := hP.sub (ws' := (wR r w f d v)) [0] rfl
        have hKc := hK.sub (tys' := []) [] rfl
        have hDc := hD.sub (ws' := (wR r w f d v)) [0] (by decide) rfl
        have hFc := va_free (wc := (wR r w f d v)) hD hS hA [0] rfl
        refine va_calli (va_runV (As := []) (rest := []) ⟨hx, hb, hml, hown, hts⟩ (c_X0_takesPlus l D r s.heap.size w f d v) (cwV 0 hts gX0_takes_X0_takesPlus rfl rfl rfl (by decide +kernel) ⟨Nat.le_of_ble_eq_true rfl, Nat.le_of_ble_eq_true rfl⟩) ⟨fun a U g mk z => ⟨z.1, z.2.1, z.2.2.1, va_K.moved (u := U) (U := U.calling g mk a) (Vm.Alike.refl U.vm) z.2.2.2.1, z.2.2.2.2.1, z.2.2.2.2.2.blind g mk a⟩, va_recv hKc hPc (ci := 0) (q0 := 0) rfl rfl, fun U hU hW => ⟨rfl, by rw [hU], by rw [hU]; exact hPc, va_K.moved hW.alike hKc, hDc.weaken (fun _ _ _ _ => trivial), hE.at hS hU hW hFc⟩⟩ rfl rfl hl.1 rfl (lv_room (Nat.le_of_ble_eq_true rfl)) dX0_takes_29 ⟨(Nat.zero_le _), (Nat.zero_le _)⟩) hS (fun q _ h => hFc q h) hFc (fun r9 u9 t8 H1 locs ht hvm hw hB hz1 hk1 hS => ?_)
        obtain ⟨hP1, hD1⟩ := hB
        rw [ht] at hP1
        obtain ⟨hP, hD⟩ := va_join (wr := []) (w1 := (wR r ((fX0_takesPlus w f d v).2.1) ((fX0_takesPlus w f d v).2.2.1) ((fX0_takesPlus w f d v).2.2.2.1) ((fX0_takesPlus w f d v).2.2.2.2))) hP hD [0] [] rfl rfl (by decide) (by decide) hk1 hFc hP1 hD1
        have hP := hP.sub (ws' := (wR r ((fX0_takesPlus w f d v).2.1) ((fX0_takesPlus w f d v).2.2.1) ((fX0_takesPlus w f d v).2.2.2.1) ((fX0_takesPlus w f d v).2.2.2.2))) [0] rfl
        have hD := hD.sub (ws' := (wR r ((fX0_takesPlus w f d v).2.1) ((fX0_takesPlus w f d v).2.2.1) ((fX0_takesPlus w f d v).2.2.2.1) ((fX0_takesPlus w f d v).2.2.2.2))) [0] (by decide) rfl
        generalize H1 = H at hP hS ⊢
        subst r9
        have hq : (fX0_takes w f d v x) = ((fX0_takesPlus w f d v).1, (fX0_takesPlus w f d v).2.1, (fX0_takesPlus w f d v).2.2.1, (fX0_takesPlus w f d v).2.2.2.1, (fX0_takesPlus w f d v).2.2.2.2) := Eq.symm (by first | ((rw [fX0_takes, if_neg c_1, if_neg c_2, if_pos c_3]); first | done | rfl) | rfl)
        exact W.zret (v := (fX0_takesPlus w f d v).1) hx hb hr (nX0_takesPlus _ _ _ _) (fun t9 ht hW => ⟨⟨(fX0_takesPlus w f d v).1, (), rfl, by rw [hq], by rw [hq]; exact ⟨by rw [ht]; exact hP, hD⟩⟩, hS.F ht⟩) hS.2.2 dX0_takes_32
    · refine lv_aload_n hx hb dX0_takes_17 rfl (lv_at hl 0 rfl) ?_
      have hPc := hP.sub (ws' := (wR r w f d v)) [0] rfl
      have hKc := hK.sub (tys' := []) [] rfl
      have hDc := hD.sub (ws' := (wR r w f d v)) [0] (by decide) rfl
      have hFc := va_free (wc := (wR r w f d v)) hD hS hA [0] rfl
      refine va_calli (va_runV (As := []) (rest := []) ⟨hx, hb, hml, hown, hts⟩ (c_X0_takesOne l D r s.heap.size w f d v) (cwV 0 hts gX0_takes_X0_takesOne rfl rfl rfl (by decide +kernel) ⟨Nat.le_of_ble_eq_true rfl, Nat.le_of_ble_eq_true rfl⟩) ⟨fun a U g mk z => ⟨z.1, z.2.1, z.2.2.1, va_K.moved (u := U) (U := U.calling g mk a) (Vm.Alike.refl U.vm) z.2.2.2.1, z.2.2.2.2.1, z.2.2.2.2.2.blind g mk a⟩, va_recv hKc hPc (ci := 0) (q0 := 0) rfl rfl, fun U hU hW => ⟨rfl, by rw [hU], by rw [hU]; exact hPc, va_K.moved hW.alike hKc, hDc.weaken (fun _ _ _ _ => trivial), hE.at hS hU hW hFc⟩⟩ rfl rfl hl.1 rfl (lv_room (Nat.le_of_ble_eq_true rfl)) dX0_takes_18 ⟨(Nat.zero_le _), (Nat.zero_le _)⟩) hS (fun q _ h => hFc q h) hFc (fun r9 u9 t8 H1 locs ht hvm hw hB hz1 hk1 hS => ?_)
      obtain ⟨hP1, hD1⟩ := hB
      rw [ht] at hP1
      obtain ⟨hP, hD⟩ := va_join (wr := []) (w1 := (wR r ((fX0_takesOne w f v).2.1) f d ((fX0_takesOne w f v).2.2))) hP hD [0] [] rfl rfl (by decide) (by decide) hk1 hFc hP1 hD1
      have hP := hP.sub (ws' := (wR r ((fX0_takesOne w f v).2.1) f d ((fX0_takesOne w f v).2.2))) [0] rfl
      have hD := hD.sub (ws' := (wR r ((fX0_takesOne w f v).2.1) f d ((fX0_takesOne w f v).2.2))) [0] (by decide) rfl
      generalize H1 = H at hP hS ⊢
      subst r9
      have hq : (fX0_takes w f d v x) = ((fX0_takesOne w f v).1, (fX0_takesOne w f v).2.1, f, d, (fX0_takesOne w f v).2.2) := Eq.symm (by first | ((rw [fX0_takes, if_neg c_1, if_pos c_2]); first | done | rfl) | rfl)
      exact W.zret (v := (fX0_takesOne w f v).1) hx hb hr (nX0_takesOne _ _ _) (fun t9 ht hW => ⟨⟨(fX0_takesOne w f v).1, (), rfl, by rw [hq], by rw [hq]; exact ⟨by rw [ht]; exact hP, hD⟩⟩, hS.F ht⟩) hS.2.2 dX0_takes_21
  · refine lv_aload_n hx hb dX0_takes_6 rfl (lv_at hl 0 rfl) ?_
    have hPc := hP.sub (ws' := (wR r w f d v)) [0] rfl
    have hKc := hK.sub (tys' := []) [] rfl
    have hDc := hD.sub (ws' := (wR r w f d v)) [0] (by decide) rfl
    have hFc := va_free (wc := (wR r w f d v)) hD hS hA [0] rfl
    refine va_calli (va_runV (As := []) (rest := []) ⟨hx, hb, hml, hown, hts⟩ (c_X0_takesZero l D r s.heap.size w f d v) (cwV 0 hts gX0_takes_X0_takesZero rfl rfl rfl (by decide +kernel) ⟨Nat.le_of_ble_eq_true rfl, Nat.le_of_ble_eq_true rfl⟩) ⟨fun a U g mk z => ⟨z.1, z.2.1, z.2.2.1, va_K.moved (u := U) (U := U.calling g mk a) (Vm.Alike.refl U.vm) z.2.2.2.1, z.2.2.2.2.1, z.2.2.2.2.2.blind g mk a⟩, va_recv hKc hPc (ci := 0) (q0 := 0) rfl rfl, fun U hU hW => ⟨rfl, by rw [hU], by rw [hU]; exact hPc, va_K.moved hW.alike hKc, hDc.weaken (fun _ _ _ _ => trivial), hE.at hS hU hW hFc⟩⟩ rfl rfl hl.1 rfl (lv_room (Nat.le_of_ble_eq_true rfl)) dX0_takes_7 ⟨(Nat.zero_le _), (Nat.zero_le _)⟩) hS (fun q _ h => hFc q h) hFc (fun r9 u9 t8 H1 locs ht hvm hw hB hz1 hk1 hS => ?_)
    obtain ⟨hP1, hD1⟩ := hB
    rw [ht] at hP1
    obtain ⟨hP, hD⟩ := va_join (wr := []) (w1 := (wR r ((fX0_takesZero w v).2.1) f d ((fX0_takesZero w v).2.2))) hP hD [0] [] rfl rfl (by decide) (by decide) hk1 hFc hP1 hD1
    have hP := hP.sub (ws' := (wR r ((fX0_takesZero w v).2.1) f d ((fX0_takesZero w v).2.2))) [0] rfl
    have hD := hD.sub (ws' := (wR r ((fX0_takesZero w v).2.1) f d ((fX0_takesZero w v).2.2))) [0] (by decide) rfl
    generalize H1 = H at hP hS ⊢
    subst r9
    have hq : (fX0_takes w f d v x) = ((fX0_takesZero w v).1, (fX0_takesZero w v).2.1, f, d, (fX0_takesZero w v).2.2) := Eq.symm (by first | ((rw [fX0_takes, if_pos c_1]); first | done | rfl) | rfl)
    exact W.zret (v := (fX0_takesZero w v).1) hx hb hr (nX0_takesZero _ _) (fun t9 ht hW => ⟨⟨(fX0_takesZero w v).1, (), rfl, by rw [hq], by rw [hq]; exact ⟨by rw [ht]; exact hP, hD⟩⟩, hS.F ht⟩) hS.2.2 dX0_takes_10
theorem in_X0_canEnd_X0 : ∀ w ∈ wsX00, w ∈ wsX0_canEnd := by decide +kernel
def fX0_canEnd (w : Int32) (f : Int32) (d : Int32) : Int32 := if w = 1 then 1 else (if w = 3 then (if (fX0_isNew f d) = 0 then 0 else 1) else 0)
set_option maxHeartbeats 4000000 in
set_option maxRecDepth 100000 in
theorem c_X0_canEnd (l : Launch) (D : va_G) (r : Nat) (w : Int32) (f : Int32) (d : Int32) (v : Int32) : Met l yX0_canEnd wsX0_canEnd ({ frames := 1, cells := 0, slots := 0, locals := 21 }) (va_Pc [.ref r] (fun U => va_P D vwCl (wR r w f d v) U.heap ∧ va_K D vwCl [] U ∧ env0 U)) (vp_Si (fun r9 => r9 = (fX0_canEnd w f d))) 0 0 (fun _ => False) := by
  refine Met.ofW (cc := cX0_canEnd) (maxL := 1) (ret := (some .boolean)) (by decide) rfl ?_
  intro p e s m args below meth c s₁ B hml hv
  obtain ⟨rfl, hP, hK, hE⟩ := hv
  have hx := B.exec
  have hb := B.bytes
  have hr := B.returns
  have hts := atoms_spec (ws := wsX0_canEnd) B.pre
  have hown : s.vm.findClass RX0 = some m.cls := findClass_of_methodNamed B.named
  have hlocks := B.notSynchronized
  have hS : va_S (fun _ => False) s.heap s.heap [] := va_S.rf
  have hP : va_P D vwCl (wR r w f d v) s.heap := hP
  have hl := lv_entry ([.ref r]) (n := 1) (Nat.le_of_ble_eq_true rfl)
  rw [lg_entry_eq]
  generalize (lg_sl ([.ref r]) ++ List.replicate (1 - (lg_sl ([.ref r])).length) Slot.unset).toArray = ls at hl ⊢
  have hl : lv_has ls 1 [(0, .ref r)] := hl
  refine lv_aload_n hx hb dX0_canEnd_0 rfl (lv_at hl 0 rfl) ?_
  refine va_get (D := D) (ci := 0) (v := .int w) (C := RX0) (T := TX0) (N := 4) hx hb hts in_X0_canEnd_X0 hown hK hP 0 rfl rfl 0 (by decide) (hts (.fieldLink RX0 11 "ZhegalkinBench$TextReader" "where" "I") (List.mem_of_getElem? (i := 1) rfl)) (fun _ h9 => h9) rfl dX0_canEnd_1 ?_
  refine lv_iconst (v := 1) hx hb dX0_canEnd_4 (by decide) ?_
  refine lv_icmp_eq (tgt := 27) hx hb dX0_canEnd_5 (by decide) (fun c_1 => ?_) (fun c_1 => ?_)
  · refine lv_iconst (v := 1) hx hb dX0_canEnd_27 (by decide) ?_
    refine lv_goto (tgt := 32) hx hb dX0_canEnd_28 (by decide) ?_
    exact W.zret (v := 1) hx hb hr rfl (fun t9 ht hW => ⟨1, rfl, (by first | ((rw [fX0_canEnd, if_pos c_1]); first | done | rfl) | rfl), ht⟩) (fun q h => nomatch h) dX0_canEnd_32
  · refine lv_aload_n hx hb dX0_canEnd_8 rfl (lv_at hl 0 rfl) ?_
    refine va_get (D := D) (ci := 0) (v := .int w) (C := RX0) (T := TX0) (N := 4) hx hb hts in_X0_canEnd_X0 hown hK hP 0 rfl rfl 0 (by decide) (hts (.fieldLink RX0 11 "ZhegalkinBench$TextReader" "where" "I") (List.mem_of_getElem? (i := 1) rfl)) (fun _ h9 => h9) rfl dX0_canEnd_9 ?_
    refine lv_iconst (v := 3) hx hb dX0_canEnd_12 (by decide) ?_
    refine lv_icmp_ne (tgt := 31) hx hb dX0_canEnd_13 (by decide) (fun c_2 => ?_) (fun c_2 => ?_)
    · refine lv_iconst (v := 0) hx hb dX0_canEnd_31 (by decide) ?_
      exact W.zret (v := 0) hx hb hr rfl (fun t9 ht hW => ⟨0, rfl, (by first | ((rw [fX0_canEnd, if_neg c_1, if_neg c_2]); first | done | rfl) | rfl), ht⟩) (fun q h => nomatch h) dX0_canEnd_32
    · refine lv_aload_n hx hb dX0_canEnd_16 rfl (lv_at hl 0 rfl) ?_
      refine lv_aload_n hx hb dX0_canEnd_17 rfl (lv_at hl 0 rfl) ?_
      refine va_get (D := D) (ci := 0) (v := .int d) (C := RX0) (T := TX0) (N := 4) hx hb hts in_X0_canEnd_X0 hown hK hP 0 rfl rfl 2 (by decide) (hts (.fieldLink RX0 18 "ZhegalkinBench$TextReader" "product" "I") (List.mem_of_getElem? (i := 2) rfl)) (fun _ h9 => h9) rfl dX0_canEnd_18 ?_
      have hPc := hP.sub (ws' := (wR r w f d v)) [0] rfl
      have hKc := hK.sub (tys' := []) [] rfl
      refine vp_callSi (va_Run.run (va_runV (As := [.int d]) (rest := []) ⟨hx, hb, hml, hown, hts⟩ (c_X0_isNew l D r w f d v d) (cwV 1 hts gX0_canEnd_X0_isNew rfl rfl rfl (by decide +kernel) ⟨Nat.le_of_ble_eq_true rfl, Nat.le_of_ble_eq_true rfl⟩) ⟨fun a U g mk z => ⟨z.1, z.2.1, va_K.moved (u := U) (U := U.calling g mk a) (Vm.Alike.refl U.vm) z.2.2.1, z.2.2.2.blind g mk a⟩, va_recv hKc hPc (ci := 0) (q0 := 0) rfl rfl, fun U hU hW => ⟨rfl, by rw [hU]; exact hPc, va_K.moved hW.alike hKc, hE.at0 hS hU hW⟩⟩ rfl rfl hl.1 rfl (lv_room (Nat.le_of_ble_eq_true rfl)) dX0_canEnd_21 ⟨(Nat.zero_le _), (Nat.zero_le _)⟩)) (fun r9 hr => ?_)
      subst r9
      refine lv_if_eq (tgt := 31) hx hb dX0_canEnd_24 (by decide) (fun c_3 => ?_) (fun c_3 => ?_)
      · refine lv_iconst (v := 0) hx hb dX0_canEnd_31 (by decide) ?_
        exact W.zret (v := 0) hx hb hr rfl (fun t9 ht hW => ⟨0, rfl, (by first | ((rw [fX0_canEnd, if_neg c_1, if_pos c_2, if_pos c_3]); first | done | rfl) | rfl), ht⟩) (fun q h => nomatch h) dX0_canEnd_32
      · refine lv_iconst (v := 1) hx hb dX0_canEnd_27 (by decide) ?_
        refine lv_goto (tgt := 32) hx hb dX0_canEnd_28 (by decide) ?_
        exact W.zret (v := 1) hx hb hr rfl (fun t9 ht hW => ⟨1, rfl, (by first | ((rw [fX0_canEnd, if_neg c_1, if_pos c_2, if_neg c_3]); first | done | rfl) | rfl), ht⟩) (fun q h => nomatch h) dX0_canEnd_32
theorem in_X0_productsRead_X0 : ∀ w ∈ wsX00, w ∈ wsX0_productsRead := by decide +kernel
def fX0_productsRead (w : Int32) (f : Int32) (d : Int32) : Int32 := if w = 1 then 0 else (f ||| ((1 : Int32) <<< (d &&& 31)))
set_option maxHeartbeats 4000000 in
set_option maxRecDepth 100000 in
theorem c_X0_productsRead (l : Launch) (D : va_G) (r : Nat) (w : Int32) (f : Int32) (d : Int32) (v : Int32) : Met l yX0_productsRead wsX0_productsRead ({ frames := 0, cells := 0, slots := 0, locals := 0 }) (va_Pc [.ref r] (fun U => va_P D vwCl (wR r w f d v) U.heap ∧ va_K D vwCl [] U ∧ env0 U)) (vp_Si (fun r9 => r9 = (fX0_productsRead w f d))) 0 0 (fun _ => False) := by
  refine Met.ofW (cc := cX0_productsRead) (maxL := 1) (ret := (some .int)) (by decide) rfl ?_
  intro p e s m args below meth c s₁ B hml hv
  obtain ⟨rfl, hP, hK, hE⟩ := hv
  have hx := B.exec
  have hb := B.bytes
  have hr := B.returns
  have hts := atoms_spec (ws := wsX0_productsRead) B.pre
  have hown : s.vm.findClass RX0 = some m.cls := findClass_of_methodNamed B.named
  have hlocks := B.notSynchronized
  have hS : va_S (fun _ => False) s.heap s.heap [] := va_S.rf
  have hP : va_P D vwCl (wR r w f d v) s.heap := hP
  have hl := lv_entry ([.ref r]) (n := 1) (Nat.le_of_ble_eq_true rfl)
  rw [lg_entry_eq]
  generalize (lg_sl ([.ref r]) ++ List.replicate (1 - (lg_sl ([.ref r])).length) Slot.unset).toArray = ls at hl ⊢
  have hl : lv_has ls 1 [(0, .ref r)] := hl
  refine lv_aload_n hx hb dX0_productsRead_0 rfl (lv_at hl 0 rfl) ?_
  refine va_get (D := D) (ci := 0) (v := .int w) (C := RX0) (T := TX0) (N := 4) hx hb hts in_X0_productsRead_X0 hown hK hP 0 rfl rfl 0 (by decide) (hts (.fieldLink RX0 11 "ZhegalkinBench$TextReader" "where" "I") (List.mem_of_getElem? (i := 1) rfl)) (fun _ h9 => h9) rfl dX0_productsRead_1 ?_
  refine lv_iconst (v := 1) hx hb dX0_productsRead_4 (by decide) ?_
  refine lv_icmp_ne (tgt := 12) hx hb dX0_productsRead_5 (by decide) (fun c_1 => ?_) (fun c_1 => ?_)
  · refine lv_aload_n hx hb dX0_productsRead_12 rfl (lv_at hl 0 rfl) ?_
    refine va_get (D := D) (ci := 0) (v := .int f) (C := RX0) (T := TX0) (N := 4) hx hb hts in_X0_productsRead_X0 hown hK hP 0 rfl rfl 1 (by decide) (hts (.fieldLink RX0 15 "ZhegalkinBench$TextReader" "finished" "I") (List.mem_of_getElem? (i := 2) rfl)) (fun _ h9 => h9) rfl dX0_productsRead_13 ?_
    refine lv_iconst (v := 1) hx hb dX0_productsRead_16 (by decide) ?_
    refine lv_aload_n hx hb dX0_productsRead_17 rfl (lv_at hl 0 rfl) ?_
    refine va_get (D := D) (ci := 0) (v := .int d) (C := RX0) (T := TX0) (N := 4) hx hb hts in_X0_productsRead_X0 hown hK hP 0 rfl rfl 2 (by decide) (hts (.fieldLink RX0 18 "ZhegalkinBench$TextReader" "product" "I") (List.mem_of_getElem? (i := 3) rfl)) (fun _ h9 => h9) rfl dX0_productsRead_18 ?_
    refine lv_ishl hx hb dX0_productsRead_21 ?_
    refine lv_ior hx hb dX0_productsRead_22 ?_
    exact W.iret (v := (f ||| ((1 : Int32) <<< (d &&& 31)))) hx hb hr (fun t9 ht hW => ⟨(f ||| ((1 : Int32) <<< (d &&& 31))), rfl, (by first | ((rw [fX0_productsRead, if_neg c_1]); first | done | rfl) | rfl), ht⟩) (fun q h => nomatch h) dX0_productsRead_23
  · refine lv_iconst (v := 0) hx hb dX0_productsRead_8 (by decide) ?_
    refine lv_goto (tgt := 23) hx hb dX0_productsRead_9 (by decide) ?_
    exact W.iret (v := 0) hx hb hr (fun t9 ht hW => ⟨0, rfl, (by first | ((rw [fX0_productsRead, if_pos c_1]); first | done | rfl) | rfl), ht⟩) (fun q h => nomatch h) dX0_productsRead_23
theorem in_X0_firstError_X0 : ∀ w ∈ wsX00, w ∈ wsX0_firstError := by decide +kernel
def tX0_firstError_16 (X : Nat → Int32) (k : Nat) : Nat → Nat → Int32 × Int32 × Int32 × Int32 → Int32 × Int32 × Int32 × Int32 × Int32
  | 0, _, a1 => if (fX0_canEnd a1.1 a1.2.1 a1.2.2.1) = 0 then ((nI k), a1.1, a1.2.1, a1.2.2.1, a1.2.2.2) else ((-1), a1.1, a1.2.1, a1.2.2.1, a1.2.2.2)
  | n1 + 1, i1, a1 => if (fX0_takes a1.1 a1.2.1 a1.2.2.1 a1.2.2.2 (X i1)).1 = 0 then ((nI i1), (fX0_takes a1.1 a1.2.1 a1.2.2.1 a1.2.2.2 (X i1)).2.1, (fX0_takes a1.1 a1.2.1 a1.2.2.1 a1.2.2.2 (X i1)).2.2.1, (fX0_takes a1.1 a1.2.1 a1.2.2.1 a1.2.2.2 (X i1)).2.2.2.1, (fX0_takes a1.1 a1.2.1 a1.2.2.1 a1.2.2.2 (X i1)).2.2.2.2) else tX0_firstError_16 X k n1 (i1 + 1) ((fX0_takes a1.1 a1.2.1 a1.2.2.1 a1.2.2.2 (X i1)).2.1, (fX0_takes a1.1 a1.2.1 a1.2.2.1 a1.2.2.2 (X i1)).2.2.1, (fX0_takes a1.1 a1.2.1 a1.2.2.1 a1.2.2.2 (X i1)).2.2.2.1, (fX0_takes a1.1 a1.2.1 a1.2.2.1 a1.2.2.2 (X i1)).2.2.2.2)
def fX0_firstError (X : Nat → Int32) (k : Nat) : Int32 × Int32 × Int32 × Int32 × Int32 := tX0_firstError_16 X k k 0 (0, 0, fX0_startProduct.1, fX0_startProduct.2)
set_option maxHeartbeats 4000000 in
set_option maxRecDepth 100000 in
theorem c_X0_firstError (l : Launch) (D : va_G) (a : Nat) (ca : ClassId) (r : Nat) (sz : Nat) (X : Nat → Int32) (w : Int32) (f : Int32) (d : Int32) (v : Int32) (k : Nat) (hk : k ≤ 80) : Met l yX0_firstError wsX0_firstError ({ frames := 4, cells := 0, slots := 0, locals := 88 }) (va_Pc [.ref r, .ref a, .int (nI k)] (fun U => U.heap.size = sz ∧ va_P D vwCl (wF a ca r X w f d v) U.heap ∧ va_K D vwCl [(ca, .char)] U ∧ va_D (fun _ => True) (wF a ca r X w f d v) ∧ envE (va_A (wF a ca r X w f d v) sz) U)) (va_Qi (fun r9 (_ : Unit) => r9 = (fX0_firstError X k).1) (fun _ t9 => va_P D vwCl (wF a ca r X ((fX0_firstError X k).2.1) ((fX0_firstError X k).2.2.1) ((fX0_firstError X k).2.2.2.1) ((fX0_firstError X k).2.2.2.2)) t9.heap ∧ va_D (va_A (wF a ca r X w f d v) sz) (wF a ca r X ((fX0_firstError X k).2.1) ((fX0_firstError X k).2.2.1) ((fX0_firstError X k).2.2.2.1) ((fX0_firstError X k).2.2.2.2))) (va_A (wF a ca r X w f d v) sz)) 0 0 (va_A (wF a ca r X w f d v) sz) := by
  refine Met.ofW (cc := cX0_firstError) (maxL := 4) (ret := (some .int)) (by decide) rfl ?_
  intro p e s m args below meth c s₁ B hml hv
  obtain ⟨rfl, hsz, hP, hK, hD0, hE⟩ := hv
  have hx := B.exec
  have hb := B.bytes
  have hr := B.returns
  have hts := atoms_spec (ws := wsX0_firstError) B.pre
  have hown : s.vm.findClass RX0 = some m.cls := findClass_of_methodNamed B.named
  have hlocks := B.notSynchronized
  subst hsz
  have hD := hD0.self (sz := s.heap.size)
  generalize hAe : va_A (wF a ca r X w f d v) s.heap.size = A at hD hE ⊢
  have hA : ∀ q : Nat, s.heap.size ≤ q → A q := fun q h => by rw [← hAe]; exact Or.inr h
  have hS : va_S A s.heap s.heap [] := va_S.rf
  have hP : va_P D vwCl (wF a ca r X w f d v) s.heap := hP
  have hl := lv_entry ([.ref r, .ref a, .int (nI k)]) (n := 4) (Nat.le_of_ble_eq_true rfl)
  rw [lg_entry_eq]
  generalize (lg_sl ([.ref r, .ref a, .int (nI k)]) ++ List.replicate (4 - (lg_sl ([.ref r, .ref a, .int (nI k)])).length) Slot.unset).toArray = ls at hl ⊢
  have hl : lv_has ls 4 [(0, .ref r), (1, .ref a), (2, .int (nI k))] := hl
  refine lv_aload_n hx hb dX0_firstError_0 rfl (lv_at hl 0 rfl) ?_
  refine lv_iconst (v := 0) hx hb dX0_firstError_1 (by decide) ?_
  refine va_put (D := D) (ci := 0) (v := .int 0) (ty := .int) (C := RX0) (T := TX0) (N := 4) hx hb hts in_X0_firstError_X0 tyX0 tyX0_ok nmX0 hown hK hP hD hS 1 rfl rfl 0 (by decide) (hts (.fieldLink RX0 11 "ZhegalkinBench$TextReader" "where" "I") (List.mem_of_getElem? (i := 1) rfl)) (fun _ h9 => h9) rfl (by decide +kernel) rfl rfl (Nat.le_of_ble_eq_true rfl) dX0_firstError_2 (fun H locs hP hD hS => ?_)
  have hP : va_P D vwCl (wF a ca r X 0 f d v) H := hP
  have hD : va_D A (wF a ca r X 0 f d v) := hD
  refine lv_aload_n hx hb dX0_firstError_5 rfl (lv_at hl 0 rfl) ?_
  refine lv_iconst (v := 0) hx hb dX0_firstError_6 (by decide) ?_
  refine va_put (D := D) (ci := 0) (v := .int 0) (ty := .int) (C := RX0) (T := TX0) (N := 4) hx hb hts in_X0_firstError_X0 tyX0 tyX0_ok nmX0 hown hK hP hD hS 1 rfl rfl 1 (by decide) (hts (.fieldLink RX0 15 "ZhegalkinBench$TextReader" "finished" "I") (List.mem_of_getElem? (i := 2) rfl)) (fun _ h9 => h9) rfl (by decide +kernel) rfl rfl (Nat.le_of_ble_eq_true rfl) dX0_firstError_7 (fun H locs hP hD hS => ?_)
  have hP : va_P D vwCl (wF a ca r X 0 0 d v) H := hP
  have hD : va_D A (wF a ca r X 0 0 d v) := hD
  refine lv_aload_n hx hb dX0_firstError_10 rfl (lv_at hl 0 rfl) ?_
  have hPc := hP.sub (ws' := (wR r 0 0 d v)) [1] rfl
  have hKc := hK.sub (tys' := []) [] rfl
  have hDc := hD.sub (ws' := (wR r 0 0 d v)) [1] (by decide) rfl
  have hFc := va_free (wc := (wR r 0 0 d v)) hD hS hA [1] rfl
  refine va_callv (va_runV (As := []) (rest := []) ⟨hx, hb, hml, hown, hts⟩ (c_X0_startProduct l D r H.size 0 0 d v) (cwV 0 hts gX0_firstError_X0_startProduct rfl rfl rfl (by decide +kernel) ⟨Nat.le_of_ble_eq_true rfl, Nat.le_of_ble_eq_true rfl⟩) ⟨fun a U g mk z => ⟨z.1, z.2.1, z.2.2.1, va_K.moved (u := U) (U := U.calling g mk a) (Vm.Alike.refl U.vm) z.2.2.2.1, z.2.2.2.2.1, z.2.2.2.2.2.blind g mk a⟩, va_recv hKc hPc (ci := 0) (q0 := 0) rfl rfl, fun U hU hW => ⟨rfl, by rw [hU], by rw [hU]; exact hPc, va_K.moved hW.alike hKc, hDc.weaken (fun _ _ _ _ => trivial), hE.at hS hU hW hFc⟩⟩ rfl rfl hl.1 rfl (lv_room (Nat.le_of_ble_eq_true rfl)) dX0_firstError_11 ⟨(Nat.zero_le _), (Nat.zero_le _)⟩) hS (fun q _ h => hFc q h) hFc (fun u9 t8 H1 locs ht hvm hw hB hz1 hk1 hS => ?_)
  obtain ⟨hP1, hD1⟩ := hB
  rw [ht] at hP1
  obtain ⟨hP, hD⟩ := va_join (wr := [(a, .inl (ca, (80, .inl X)))]) (w1 := (wR r 0 0 fX0_startProduct.1 fX0_startProduct.2)) hP hD [1] [0] rfl rfl (by decide) (by decide) hk1 hFc hP1 hD1
  have hP := hP.sub (ws' := (wF a ca r X 0 0 fX0_startProduct.1 fX0_startProduct.2)) [0, 1] rfl
  have hD := hD.sub (ws' := (wF a ca r X 0 0 fX0_startProduct.1 fX0_startProduct.2)) [0, 1] (by decide) rfl
  generalize H1 = H at hP hS ⊢
  refine lv_iconst (v := 0) hx hb dX0_firstError_14 (by decide) ?_
  refine lv_istore_n (lv' := [(3, .int 0), (0, .ref r), (1, .ref a), (2, .int (nI k))]) hx hb dX0_firstError_15 rfl hl (by decide) rfl (fun ls hl => ?_)
  refine vz_cut (fun H1 l1 g1 => ∃ (n1 i1 : Nat) (a1 : Int32 × Int32 × Int32 × Int32) (ls : Array Slot), i1 + n1 = k ∧ tX0_firstError_16 X k n1 i1 a1 = tX0_firstError_16 X k k 0 (0, 0, fX0_startProduct.1, fX0_startProduct.2) ∧ lv_has ls 4 [(3, .int (nI i1)), (0, .ref r), (1, .ref a), (2, .int (nI k))] ∧ va_P D vwCl (wF a ca r X a1.1 a1.2.1 a1.2.2.1 a1.2.2.2) H1 ∧ va_D A (wF a ca r X a1.1 a1.2.1 a1.2.2.1 a1.2.2.2) ∧ va_S A s.heap H1 l1 ∧ g1 = F0 m 16 ls []) (fun hj => hj _ _ _ ⟨k, 0, (0, 0, fX0_startProduct.1, fX0_startProduct.2), ls, (by omega), rfl, lv_sub hl [0, 1, 2, 3] rfl, hP, hD, hS, rfl⟩) ?_
  rintro H locs g1 ⟨n1, i1, a1, ls, hi1, hf1, hl, hP, hD, hS, rfl⟩
  revert H locs i1 a1 ls
  induction n1 with
  | zero =>
    intro H locs i1 a1 ls hi1 hf1 hl hP hD hS
    obtain rfl : k = i1 := by omega
    refine lv_iload_n hx hb dX0_firstError_16 rfl (lv_at hl 0 rfl) ?_
    refine lv_iload_n hx hb dX0_firstError_17 rfl (lv_at hl 3 rfl) ?_
    refine lv_icmp_ge (tgt := 45) hx hb dX0_firstError_18 (by decide) (fun c_1 => ?_) (fun c_1 => ?_)
    · refine lv_aload_n hx hb dX0_firstError_45 rfl (lv_at hl 1 rfl) ?_
      have hPc := hP.sub (ws' := (wR r a1.1 a1.2.1 a1.2.2.1 a1.2.2.2)) [1] rfl
      have hKc := hK.sub (tys' := []) [] rfl
      refine vp_callSi (va_Run.run (va_runV (As := []) (rest := []) ⟨hx, hb, hml, hown, hts⟩ (c_X0_canEnd l D r a1.1 a1.2.1 a1.2.2.1 a1.2.2.2) (cwV 0 hts gX0_firstError_X0_canEnd rfl rfl rfl (by decide +kernel) ⟨Nat.le_of_ble_eq_true rfl, Nat.le_of_ble_eq_true rfl⟩) ⟨fun a U g mk z => ⟨z.1, z.2.1, va_K.moved (u := U) (U := U.calling g mk a) (Vm.Alike.refl U.vm) z.2.2.1, z.2.2.2.blind g mk a⟩, va_recv hKc hPc (ci := 0) (q0 := 0) rfl rfl, fun U hU hW => ⟨rfl, by rw [hU]; exact hPc, va_K.moved hW.alike hKc, hE.at0 hS hU hW⟩⟩ rfl rfl hl.1 rfl (lv_room (Nat.le_of_ble_eq_true rfl)) dX0_firstError_46 ⟨(Nat.zero_le _), (Nat.zero_le _)⟩)) (fun r9 hr => ?_)
      subst r9
      refine lv_if_eq (tgt := 56) hx hb dX0_firstError_49 (by decide) (fun c_2 => ?_) (fun c_2 => ?_)
      · refine lv_iload_n hx hb dX0_firstError_56 rfl (lv_at hl 3 rfl) ?_
        have hq : (fX0_firstError X k) = ((nI k), a1.1, a1.2.1, a1.2.2.1, a1.2.2.2) := Eq.symm ((show ((nI k), a1.1, a1.2.1, a1.2.2.1, a1.2.2.2) = tX0_firstError_16 X k 0 k a1 from by first | (symm; (rw [tX0_firstError_16, if_pos c_2]); first | done | rfl) | rfl).trans hf1)
        exact W.iret (v := (nI k)) hx hb hr (fun t9 ht hW => ⟨⟨(nI k), (), rfl, by rw [hq], by rw [hq]; exact ⟨by rw [ht]; exact hP, hD⟩⟩, hS.F ht⟩) hS.2.2 dX0_firstError_57
      · refine lv_iconst (v := (-1)) hx hb dX0_firstError_52 (by decide) ?_
        refine lv_goto (tgt := 57) hx hb dX0_firstError_53 (by decide) ?_
        have hq : (fX0_firstError X k) = ((-1), a1.1, a1.2.1, a1.2.2.1, a1.2.2.2) := Eq.symm ((show ((-1), a1.1, a1.2.1, a1.2.2.1, a1.2.2.2) = tX0_firstError_16 X k 0 k a1 from by first | (symm; (rw [tX0_firstError_16, if_neg c_2]); first | done | rfl) | rfl).trans hf1)
        exact W.iret (v := (-1)) hx hb hr (fun t9 ht hW => ⟨⟨(-1), (), rfl, by rw [hq], by rw [hq]; exact ⟨by rw [ht]; exact hP, hD⟩⟩, hS.F ht⟩) hS.2.2 dX0_firstError_57
    · exact absurd (nI_le (a := k) (b := k) (by omega) (by omega)) c_1
  | succ n1 ih1 =>
    intro H locs i1 a1 ls hi1 hf1 hl hP hD hS
    refine lv_iload_n hx hb dX0_firstError_16 rfl (lv_at hl 0 rfl) ?_
    refine lv_iload_n hx hb dX0_firstError_17 rfl (lv_at hl 3 rfl) ?_
    refine lv_icmp_ge (tgt := 45) hx hb dX0_firstError_18 (by decide) (fun c_3 => ?_) (fun c_3 => ?_)
    · exact absurd c_3 (nI_ge (a := i1) (b := k) (by omega) (by omega))
    · refine lv_iload_n hx hb dX0_firstError_21 rfl (lv_at hl 0 rfl) ?_
      refine lv_aload_n hx hb dX0_firstError_22 rfl (lv_at hl 2 rfl) ?_
      refine va_alen (v := 80) hx hb hK hP 0 0 rfl rfl rfl dX0_firstError_23 ?_
      refine lv_icmp_ge (tgt := 45) hx hb dX0_firstError_24 (by decide) (fun c_4 => ?_) (fun c_4 => ?_)
      · exact absurd c_4 (nI_ge (a := i1) (b := 80) (by omega) (by omega))
      · refine lv_aload_n hx hb dX0_firstError_27 rfl (lv_at hl 1 rfl) ?_
        refine lv_aload_n hx hb dX0_firstError_28 rfl (lv_at hl 2 rfl) ?_
        refine lv_iload_n hx hb dX0_firstError_29 rfl (lv_at hl 0 rfl) ?_
        refine vz_cald hx hb hK hP 0 0 rfl rfl i1 (by omega) (by decide) dX0_firstError_30 ?_
        have hPc := hP.sub (ws' := (wR r a1.1 a1.2.1 a1.2.2.1 a1.2.2.2)) [1] rfl
        have hKc := hK.sub (tys' := []) [] rfl
        have hDc := hD.sub (ws' := (wR r a1.1 a1.2.1 a1.2.2.1 a1.2.2.2)) [1] (by decide) rfl
        have hFc := va_free (wc := (wR r a1.1 a1.2.1 a1.2.2.1 a1.2.2.2)) hD hS hA [1] rfl
        refine va_calli (va_runV (As := [.int (X i1)]) (rest := []) ⟨hx, hb, hml, hown, hts⟩ (c_X0_takes l D r H.size a1.1 a1.2.1 a1.2.2.1 a1.2.2.2 (X i1)) (cwV 1 hts gX0_firstError_X0_takes rfl rfl rfl (by decide +kernel) ⟨Nat.le_of_ble_eq_true rfl, Nat.le_of_ble_eq_true rfl⟩) ⟨fun a U g mk z => ⟨z.1, z.2.1, z.2.2.1, va_K.moved (u := U) (U := U.calling g mk a) (Vm.Alike.refl U.vm) z.2.2.2.1, z.2.2.2.2.1, z.2.2.2.2.2.blind g mk a⟩, va_recv hKc hPc (ci := 0) (q0 := 0) rfl rfl, fun U hU hW => ⟨rfl, by rw [hU], by rw [hU]; exact hPc, va_K.moved hW.alike hKc, hDc.weaken (fun _ _ _ _ => trivial), hE.at hS hU hW hFc⟩⟩ rfl rfl hl.1 rfl (lv_room (Nat.le_of_ble_eq_true rfl)) dX0_firstError_31 ⟨(Nat.zero_le _), (Nat.zero_le _)⟩) hS (fun q _ h => hFc q h) hFc (fun r9 u9 t8 H1 locs ht hvm hw hB hz1 hk1 hS => ?_)
        obtain ⟨hP1, hD1⟩ := hB
        rw [ht] at hP1
        obtain ⟨hP, hD⟩ := va_join (wr := [(a, .inl (ca, (80, .inl X)))]) (w1 := (wR r ((fX0_takes a1.1 a1.2.1 a1.2.2.1 a1.2.2.2 (X i1)).2.1) ((fX0_takes a1.1 a1.2.1 a1.2.2.1 a1.2.2.2 (X i1)).2.2.1) ((fX0_takes a1.1 a1.2.1 a1.2.2.1 a1.2.2.2 (X i1)).2.2.2.1) ((fX0_takes a1.1 a1.2.1 a1.2.2.1 a1.2.2.2 (X i1)).2.2.2.2))) hP hD [1] [0] rfl rfl (by decide) (by decide) hk1 hFc hP1 hD1
        have hP := hP.sub (ws' := (wF a ca r X ((fX0_takes a1.1 a1.2.1 a1.2.2.1 a1.2.2.2 (X i1)).2.1) ((fX0_takes a1.1 a1.2.1 a1.2.2.1 a1.2.2.2 (X i1)).2.2.1) ((fX0_takes a1.1 a1.2.1 a1.2.2.1 a1.2.2.2 (X i1)).2.2.2.1) ((fX0_takes a1.1 a1.2.1 a1.2.2.1 a1.2.2.2 (X i1)).2.2.2.2))) [0, 1] rfl
        have hD := hD.sub (ws' := (wF a ca r X ((fX0_takes a1.1 a1.2.1 a1.2.2.1 a1.2.2.2 (X i1)).2.1) ((fX0_takes a1.1 a1.2.1 a1.2.2.1 a1.2.2.2 (X i1)).2.2.1) ((fX0_takes a1.1 a1.2.1 a1.2.2.1 a1.2.2.2 (X i1)).2.2.2.1) ((fX0_takes a1.1 a1.2.1 a1.2.2.1 a1.2.2.2 (X i1)).2.2.2.2))) [0, 1] (by decide) rfl
        generalize H1 = H at hP hS ⊢
        subst r9
        refine lv_if_ne (tgt := 39) hx hb dX0_firstError_34 (by decide) (fun c_5 => ?_) (fun c_5 => ?_)
        · refine lv_iinc (v := (nI (i1 + 1))) (lv' := [(3, .int (nI (i1 + 1))), (0, .ref r), (1, .ref a), (2, .int (nI k))]) hx hb dX0_firstError_39 hl (k := 0) rfl (by first | exact nI_add _ _ | rfl) (by decide) rfl (fun ls hl => ?_)
          refine lv_goto (tgt := 16) hx hb dX0_firstError_42 (by decide) ?_
          exact ih1 H locs (i1 + 1) ((fX0_takes a1.1 a1.2.1 a1.2.2.1 a1.2.2.2 (X i1)).2.1, (fX0_takes a1.1 a1.2.1 a1.2.2.1 a1.2.2.2 (X i1)).2.2.1, (fX0_takes a1.1 a1.2.1 a1.2.2.1 a1.2.2.2 (X i1)).2.2.2.1, (fX0_takes a1.1 a1.2.1 a1.2.2.1 a1.2.2.2 (X i1)).2.2.2.2) ls (by omega) ((show tX0_firstError_16 X k n1 (i1 + 1) ((fX0_takes a1.1 a1.2.1 a1.2.2.1 a1.2.2.2 (X i1)).2.1, (fX0_takes a1.1 a1.2.1 a1.2.2.1 a1.2.2.2 (X i1)).2.2.1, (fX0_takes a1.1 a1.2.1 a1.2.2.1 a1.2.2.2 (X i1)).2.2.2.1, (fX0_takes a1.1 a1.2.1 a1.2.2.1 a1.2.2.2 (X i1)).2.2.2.2) = tX0_firstError_16 X k (n1 + 1) i1 a1 from by first | (symm; (rw [tX0_firstError_16, if_neg c_5]); first | done | rfl) | rfl).trans hf1) (lv_sub hl [0, 1, 2, 3] rfl) hP hD hS
        · refine lv_iload_n hx hb dX0_firstError_37 rfl (lv_at hl 0 rfl) ?_
          have hq : (fX0_firstError X k) = ((nI i1), (fX0_takes a1.1 a1.2.1 a1.2.2.1 a1.2.2.2 (X i1)).2.1, (fX0_takes a1.1 a1.2.1 a1.2.2.1 a1.2.2.2 (X i1)).2.2.1, (fX0_takes a1.1 a1.2.1 a1.2.2.1 a1.2.2.2 (X i1)).2.2.2.1, (fX0_takes a1.1 a1.2.1 a1.2.2.1 a1.2.2.2 (X i1)).2.2.2.2) := Eq.symm ((show ((nI i1), (fX0_takes a1.1 a1.2.1 a1.2.2.1 a1.2.2.2 (X i1)).2.1, (fX0_takes a1.1 a1.2.1 a1.2.2.1 a1.2.2.2 (X i1)).2.2.1, (fX0_takes a1.1 a1.2.1 a1.2.2.1 a1.2.2.2 (X i1)).2.2.2.1, (fX0_takes a1.1 a1.2.1 a1.2.2.1 a1.2.2.2 (X i1)).2.2.2.2) = tX0_firstError_16 X k (n1 + 1) i1 a1 from by first | (symm; (rw [tX0_firstError_16, if_pos c_5]); first | done | rfl) | rfl).trans hf1)
          exact W.iret (v := (nI i1)) hx hb hr (fun t9 ht hW => ⟨⟨(nI i1), (), rfl, by rw [hq], by rw [hq]; exact ⟨by rw [ht]; exact hP, hD⟩⟩, hS.F ht⟩) hS.2.2 dX0_firstError_38
