theorem kin_lo {x lo hi : Int32} (h : ¬ fX2_in x lo hi = 0) : ¬ x < lo ∧ ¬ hi < x := by
  unfold fX2_in at h
  split at h
  · exact absurd rfl h
  · split at h
    · exact absurd rfl h
    · rename_i h1 h2
      exact ⟨h1, h2⟩
theorem kinN {x : Int32} {N : Nat} (hN : N < 2 ^ 31) (h : ¬ fX2_in x 0 (nI N) = 0) : vp_in x (N + 1) := by
  obtain ⟨h1, h2⟩ := kin_lo h
  rw [vp_in_iff]
  rw [Int32.lt_iff_toInt_lt] at h1 h2
  rw [nI_toInt hN] at h2
  have e0 : (0 : Int32).toInt = 0 := rfl
  omega
theorem kisOne {x : Int32} (h : ¬ fX2_isOne x = 0) : vp_in x 6 := kinN (N := 5) (by decide) h
theorem kin3 {x : Int32} (h : ¬ fX2_in x 0 3 = 0) : vp_in x 4 := kinN (N := 3) (by decide) h
theorem in_X2_thrown_X2 : ∀ w ∈ wsX20, w ∈ wsX2_thrown := by decide +kernel
def fX2_thrown (th : Int32) : Int32 := th
set_option maxHeartbeats 4000000 in
set_option maxRecDepth 100000 in
theorem c_X2_thrown (l : Launch) (D : va_G) (q : Nat → Nat) (cq : Nat → ClassId) (T : Nat → Int32) (R : Nat → Int32) (S : Nat → Int32) (X : Nat → Int32) (n : Int32) (h : Int32) (k : Int32) (th : Int32) (a : Int32) (o : Int32) : Met l yX2_thrown wsX2_thrown ({ frames := 0, cells := 0, slots := 0, locals := 0 }) (va_Pc [.ref (q 0)] (fun U => va_P D vwCl (wM q cq T R S X n h k th a o) U.heap ∧ va_K D vwCl (tyM cq) U ∧ env0 U)) (vp_Si (fun r9 => r9 = (fX2_thrown th))) 0 0 (fun _ => False) := by
  refine Met.ofW (cc := cX2_thrown) (maxL := 1) (ret := (some .int)) (by decide) rfl ?_
  intro p e s m args below meth c s₁ B hml hv
  obtain ⟨rfl, hP, hK, hE⟩ := hv
  have hx := B.exec
  have hb := B.bytes
  have hr := B.returns
  have hts := atoms_spec (ws := wsX2_thrown) B.pre
  have hown : s.vm.findClass RX2 = some m.cls := findClass_of_methodNamed B.named
  have hlocks := B.notSynchronized
  have hS : va_S (fun _ => False) s.heap s.heap [] := va_S.rf
  have hP : va_P D vwCl (wM q cq T R S X n h k th a o) s.heap := hP
  have hl := lv_entry ([.ref (q 0)]) (n := 1) (Nat.le_of_ble_eq_true rfl)
  rw [lg_entry_eq]
  generalize (lg_sl ([.ref (q 0)]) ++ List.replicate (1 - (lg_sl ([.ref (q 0)])).length) Slot.unset).toArray = ls at hl ⊢
  have hl : lv_has ls 1 [(0, .ref (q 0))] := hl
  refine lv_aload_n hx hb dX2_thrown_0 rfl (lv_at hl 0 rfl) ?_
  refine va_get (D := D) (ci := 2) (v := .int th) (C := RX2) (T := TX2) (N := 10) hx hb hts in_X2_thrown_X2 hown hK hP 0 rfl rfl 7 (by decide) (hts (.fieldLink RX2 27 "ZhegalkinBenchModel" "thrown" "I") (List.mem_of_getElem? (i := 1) rfl)) (fun _ h9 => h9) rfl dX2_thrown_1 ?_
  exact W.iret (v := th) hx hb hr (fun t9 ht hW => ⟨th, rfl, (by first | ((rw [fX2_thrown]); first | done | rfl) | rfl), ht⟩) (fun q h => nomatch h) dX2_thrown_4
theorem in_X2_fails_X2 : ∀ w ∈ wsX20, w ∈ wsX2_fails := by decide +kernel
def fX2_fails (x : Int32) : Int32 × Int32 := (0, x)
set_option maxHeartbeats 4000000 in
set_option maxRecDepth 100000 in
theorem c_X2_fails (l : Launch) (D : va_G) (q : Nat → Nat) (cq : Nat → ClassId) (sz : Nat) (T : Nat → Int32) (R : Nat → Int32) (S : Nat → Int32) (X : Nat → Int32) (n : Int32) (h : Int32) (k : Int32) (th : Int32) (a : Int32) (o : Int32) (x : Int32) : Met l yX2_fails wsX2_fails ({ frames := 0, cells := 0, slots := 0, locals := 0 }) (va_Pc [.ref (q 0), .int x] (fun U => U.heap.size = sz ∧ va_P D vwCl (wM q cq T R S X n h k th a o) U.heap ∧ va_K D vwCl (tyM cq) U ∧ va_D (fun _ => True) (wM q cq T R S X n h k th a o) ∧ envE (va_A (wM q cq T R S X n h k th a o) sz) U)) (va_Qi (fun r9 (_ : Unit) => r9 = (fX2_fails x).1) (fun _ t9 => va_P D vwCl (wM q cq T R S X n h k ((fX2_fails x).2) a o) t9.heap ∧ va_D (va_A (wM q cq T R S X n h k th a o) sz) (wM q cq T R S X n h k ((fX2_fails x).2) a o)) (va_A (wM q cq T R S X n h k th a o) sz)) 0 0 (va_A (wM q cq T R S X n h k th a o) sz) := by
  refine Met.ofW (cc := cX2_fails) (maxL := 2) (ret := (some .int)) (by decide) rfl ?_
  intro p e s m args below meth c s₁ B hml hv
  obtain ⟨rfl, hsz, hP, hK, hD0, hE⟩ := hv
  have hx := B.exec
  have hb := B.bytes
  have hr := B.returns
  have hts := atoms_spec (ws := wsX2_fails) B.pre
  have hown : s.vm.findClass RX2 = some m.cls := findClass_of_methodNamed B.named
  have hlocks := B.notSynchronized
  subst hsz
  have hD := hD0.self (sz := s.heap.size)
  generalize hAe : va_A (wM q cq T R S X n h k th a o) s.heap.size = A at hD hE ⊢
  have hA : ∀ q : Nat, s.heap.size ≤ q → A q := fun q h => by rw [← hAe]; exact Or.inr h
  have hS : va_S A s.heap s.heap [] := va_S.rf
  have hP : va_P D vwCl (wM q cq T R S X n h k th a o) s.heap := hP
  have hl := lv_entry ([.ref (q 0), .int x]) (n := 2) (Nat.le_of_ble_eq_true rfl)
  rw [lg_entry_eq]
  generalize (lg_sl ([.ref (q 0), .int x]) ++ List.replicate (2 - (lg_sl ([.ref (q 0), .int x])).length) Slot.unset).toArray = ls at hl ⊢
  have hl : lv_has ls 2 [(0, .ref (q 0)), (1, .int x)] := hl
  refine lv_aload_n hx hb dX2_fails_0 rfl (lv_at hl 0 rfl) ?_
  refine lv_iload_n hx hb dX2_fails_1 rfl (lv_at hl 1 rfl) ?_
  refine va_put (D := D) (ci := 2) (v := .int x) (ty := .int) (C := RX2) (T := TX2) (N := 10) hx hb hts in_X2_fails_X2 tyX2 tyX2_ok nmX2 hown hK hP hD hS 0 rfl rfl 7 (by decide) (hts (.fieldLink RX2 27 "ZhegalkinBenchModel" "thrown" "I") (List.mem_of_getElem? (i := 1) rfl)) (fun _ h9 => h9) rfl (by decide +kernel) rfl rfl (Nat.le_of_ble_eq_true rfl) dX2_fails_2 (fun H locs hP hD hS => ?_)
  have hP : va_P D vwCl (wM q cq T R S X n h k x a o) H := hP
  have hD : va_D A (wM q cq T R S X n h k x a o) := hD
  refine lv_iconst (v := 0) hx hb dX2_fails_5 (by decide) ?_
  have hq : (fX2_fails x) = (0, x) := Eq.symm (by first | ((rw [fX2_fails]); first | done | rfl) | rfl)
  exact W.iret (v := 0) hx hb hr (fun t9 ht hW => ⟨⟨0, (), rfl, by rw [hq], by rw [hq]; exact ⟨by rw [ht]; exact hP, hD⟩⟩, hS.F ht⟩) hS.2.2 dX2_fails_6
def sX2_copies_3 (f : Nat → Int32) (fa : Nat) (ta : Nat) (i1 : Nat) (a1 : (Nat → Int32)) : (Nat → Int32) := (upd a1 (ta + i1) (f (fa + i1)))
def fX2_copies (f : Nat → Int32) (g : Nat → Int32) (fa : Nat) (ta : Nat) : (Nat → Int32) := (lp (sX2_copies_3 f fa ta) 6 0 g)
set_option maxHeartbeats 4000000 in
set_option maxRecDepth 100000 in
theorem c_X2_copies (l : Launch) (D : va_G) (a : Nat) (ca : ClassId) (na : Nat) (b : Nat) (cb : ClassId) (nb : Nat) (sz : Nat) (f : Nat → Int32) (g : Nat → Int32) (fa : Nat) (ta : Nat) (h1 : fa + 6 ≤ na) (h2 : ta + 6 ≤ nb) (h3 : na ≤ 80) (h4 : nb ≤ 80) : Met l yX2_copies wsX2_copies ({ frames := 0, cells := 0, slots := 0, locals := 0 }) (va_Pc [.ref a, .int (nI fa), .ref b, .int (nI ta)] (fun U => U.heap.size = sz ∧ va_P D vwCl (wC a ca na b cb nb f g) U.heap ∧ va_K D vwCl [(ca, .int), (cb, .int)] U ∧ va_D (fun _ => True) (wC a ca na b cb nb f g) ∧ envE (va_A (wC a ca na b cb nb f g) sz) U)) (va_Qv (fun (_ : Unit) => True) (fun _ t9 => va_P D vwCl (wC a ca na b cb nb f ((fX2_copies f g fa ta))) t9.heap ∧ va_D (va_A (wC a ca na b cb nb f g) sz) (wC a ca na b cb nb f ((fX2_copies f g fa ta)))) (va_A (wC a ca na b cb nb f g) sz)) 0 0 (va_A (wC a ca na b cb nb f g) sz) := by
  refine Met.ofW (cc := cX2_copies) (maxL := 5) (ret := none) (by decide) rfl ?_
  intro p e s m args below meth c s₁ B hml hv
  obtain ⟨rfl, hsz, hP, hK, hD0, hE⟩ := hv
  have hx := B.exec
  have hb := B.bytes
  have hr := B.returns
  have hts := atoms_spec (ws := wsX2_copies) B.pre
  have hown : s.vm.findClass RX2 = some m.cls := findClass_of_methodNamed B.named
  have hlocks := B.notSynchronized
  subst hsz
  have hD := hD0.self (sz := s.heap.size)
  generalize hAe : va_A (wC a ca na b cb nb f g) s.heap.size = A at hD hE ⊢
  have hA : ∀ q : Nat, s.heap.size ≤ q → A q := fun q h => by rw [← hAe]; exact Or.inr h
  have hS : va_S A s.heap s.heap [] := va_S.rf
  have hP : va_P D vwCl (wC a ca na b cb nb f g) s.heap := hP
  have hl := lv_entry ([.ref a, .int (nI fa), .ref b, .int (nI ta)]) (n := 5) (Nat.le_of_ble_eq_true rfl)
  rw [lg_entry_eq]
  generalize (lg_sl ([.ref a, .int (nI fa), .ref b, .int (nI ta)]) ++ List.replicate (5 - (lg_sl ([.ref a, .int (nI fa), .ref b, .int (nI ta)])).length) Slot.unset).toArray = ls at hl ⊢
  have hl : lv_has ls 5 [(0, .ref a), (1, .int (nI fa)), (2, .ref b), (3, .int (nI ta))] := hl
  refine lv_iconst (v := 0) hx hb dX2_copies_0 (by decide) ?_
  refine lv_istore (lv' := [(4, .int 0), (0, .ref a), (1, .int (nI fa)), (2, .ref b), (3, .int (nI ta))]) hx hb dX2_copies_1 hl (by decide) rfl (fun ls hl => ?_)
  obtain ⟨F1, hF1⟩ : ∃ z9, z9 = (lp (sX2_copies_3 f fa ta) 6 0 g) := ⟨_, rfl⟩
  refine vz_cut (fun H1 l1 g1 => ∃ (n1 i1 : Nat) (a1 : (Nat → Int32)) (ls : Array Slot), i1 + n1 = 6 ∧ lp (sX2_copies_3 f fa ta) n1 i1 a1 = F1 ∧ lv_has ls 5 [(4, .int (nI i1)), (0, .ref a), (1, .int (nI fa)), (2, .ref b), (3, .int (nI ta))] ∧ va_P D vwCl (wC a ca na b cb nb f a1) H1 ∧ va_D A (wC a ca na b cb nb f a1) ∧ va_S A s.heap H1 l1 ∧ g1 = F0 m 3 ls []) (fun hj => hj _ _ _ ⟨6, 0, g, ls, (by omega), hF1.symm, lv_sub hl [0, 1, 2, 3, 4] rfl, hP, hD, hS, rfl⟩) ?_
  rintro H locs g1 ⟨n1, i1, a1, ls, hi1, hf1, hl, hP, hD, hS, rfl⟩
  revert H locs i1 a1 ls
  induction n1 with
  | zero =>
    intro H locs i1 a1 ls hi1 hf1 hl hP hD hS
    obtain rfl : 6 = i1 := by omega
    have hf1 : F1 = a1 := hf1.symm
    subst hf1
    refine lv_iload hx hb dX2_copies_3 (lv_at hl 0 rfl) ?_
    refine lv_bipush (v := 6) hx hb dX2_copies_5 (by decide) ?_
    refine lv_icmp_ge (tgt := 28) hx hb dX2_copies_7 (by decide) (fun c_1 => ?_) (fun c_1 => ?_)
    · have hq : (fX2_copies f g fa ta) = F1 := Eq.symm (by first | ((rw [fX2_copies]); (try rw [← hF1]); first | done | rfl) | rfl)
      exact W.vret hx hb hr (fun t9 ht hW => ⟨⟨(), rfl, trivial, by rw [hq]; exact ⟨by rw [ht]; exact hP, hD⟩⟩, hS.F ht⟩) hS.2.2 dX2_copies_28
    · exact absurd (nI_le (a := 6) (b := 6) (by omega) (by omega)) c_1
  | succ n1 ih1 =>
    intro H locs i1 a1 ls hi1 hf1 hl hP hD hS
    refine lv_iload hx hb dX2_copies_3 (lv_at hl 0 rfl) ?_
    refine lv_bipush (v := 6) hx hb dX2_copies_5 (by decide) ?_
    refine lv_icmp_ge (tgt := 28) hx hb dX2_copies_7 (by decide) (fun c_2 => ?_) (fun c_2 => ?_)
    · exact absurd c_2 (nI_ge (a := i1) (b := 6) (by omega) (by omega))
    · refine lv_aload_n hx hb dX2_copies_10 rfl (lv_at hl 3 rfl) ?_
      refine lv_iload_n hx hb dX2_copies_11 rfl (lv_at hl 4 rfl) ?_
      refine lv_iload hx hb dX2_copies_12 (lv_at hl 0 rfl) ?_
      refine lv_iadd hx hb dX2_copies_14 ?_
      refine lv_is (nI (ta + i1)) (by first | exact nI_add _ _ | rfl) ?_
      refine lv_aload_n hx hb dX2_copies_15 rfl (lv_at hl 1 rfl) ?_
      refine lv_iload_n hx hb dX2_copies_16 rfl (lv_at hl 2 rfl) ?_
      refine lv_iload hx hb dX2_copies_17 (lv_at hl 0 rfl) ?_
      refine lv_iadd hx hb dX2_copies_19 ?_
      refine lv_is (nI (fa + i1)) (by first | exact nI_add _ _ | rfl) ?_
      refine vz_iald hx hb hK hP 0 0 rfl rfl (fa + i1) (by omega) (by omega) dX2_copies_20 ?_
      refine vz_iast hx hb hK hP hD hS 1 1 rfl rfl (ta + i1) (by omega) (by omega) dX2_copies_21 (fun H locs hP hD hS => ?_)
      have hP : va_P D vwCl (wC a ca na b cb nb f (upd a1 (ta + i1) (f (fa + i1)))) H := hP
      have hD : va_D A (wC a ca na b cb nb f (upd a1 (ta + i1) (f (fa + i1)))) := hD
      refine lv_iinc (v := (nI (i1 + 1))) (lv' := [(4, .int (nI (i1 + 1))), (0, .ref a), (1, .int (nI fa)), (2, .ref b), (3, .int (nI ta))]) hx hb dX2_copies_22 hl (k := 0) rfl (by first | exact nI_add _ _ | rfl) (by decide) rfl (fun ls hl => ?_)
      refine lv_goto (tgt := 3) hx hb dX2_copies_25 (by decide) ?_
      exact ih1 H locs (i1 + 1) (upd a1 (ta + i1) (f (fa + i1))) ls (by omega) ((congrArg (lp (sX2_copies_3 f fa ta) n1 (i1 + 1)) (show (upd a1 (ta + i1) (f (fa + i1))) = (sX2_copies_3 f fa ta) i1 a1 from by first | ((rw [sX2_copies_3]); first | done | rfl) | rfl)).trans hf1) (lv_sub hl [0, 1, 2, 3, 4] rfl) hP hD hS
theorem in_X2_records_X2 : ∀ w ∈ wsX20, w ∈ wsX2_records := by decide +kernel
def sX2_records_10 (i1 : Nat) (a1 : (Nat → Int32)) : (Nat → Int32) := (upd a1 i1 (a1 (i1 + 6)))
def fX2_records (T : Nat → Int32) (R : Nat → Int32) (n : Nat) : (Nat → Int32) × Nat := if (nI n) = 4 then ((fX2_copies T (lp sX2_records_10 18 0 R) 0 (6 * (n - 1))), ((n - 1) + 1)) else ((fX2_copies T R 0 (6 * n)), (n + 1))
set_option maxHeartbeats 4000000 in
set_option maxRecDepth 100000 in
theorem c_X2_records (l : Launch) (D : va_G) (q : Nat → Nat) (cq : Nat → ClassId) (sz : Nat) (T : Nat → Int32) (R : Nat → Int32) (S : Nat → Int32) (X : Nat → Int32) (n : Nat) (h : Int32) (k : Int32) (th : Int32) (a : Int32) (o : Int32) (hn : n ≤ 4) : Met l yX2_records wsX2_records ({ frames := 1, cells := 0, slots := 0, locals := 24 }) (va_Pc [.ref (q 0)] (fun U => U.heap.size = sz ∧ va_P D vwCl (wM q cq T R S X (nI n) h k th a o) U.heap ∧ va_K D vwCl (tyM cq) U ∧ va_D (fun _ => True) (wM q cq T R S X (nI n) h k th a o) ∧ envE (va_A (wM q cq T R S X (nI n) h k th a o) sz) U)) (va_Qv (fun (_ : Unit) => True) (fun _ t9 => va_P D vwCl (wM q cq T ((fX2_records T R n).1) S X (nI (fX2_records T R n).2) h k th a o) t9.heap ∧ va_D (va_A (wM q cq T R S X (nI n) h k th a o) sz) (wM q cq T ((fX2_records T R n).1) S X (nI (fX2_records T R n).2) h k th a o)) (va_A (wM q cq T R S X (nI n) h k th a o) sz)) 0 0 (va_A (wM q cq T R S X (nI n) h k th a o) sz) := by
  refine Met.ofW (cc := cX2_records) (maxL := 2) (ret := none) (by decide) rfl ?_
  intro p e s m args below meth c s₁ B hml hv
  obtain ⟨rfl, hsz, hP, hK, hD0, hE⟩ := hv
  have hx := B.exec
  have hb := B.bytes
  have hr := B.returns
  have hts := atoms_spec (ws := wsX2_records) B.pre
  have hown : s.vm.findClass RX2 = some m.cls := findClass_of_methodNamed B.named
  have hlocks := B.notSynchronized
  subst hsz
  have hD := hD0.self (sz := s.heap.size)
  generalize hAe : va_A (wM q cq T R S X (nI n) h k th a o) s.heap.size = A at hD hE ⊢
  have hA : ∀ q : Nat, s.heap.size ≤ q → A q := fun q h => by rw [← hAe]; exact Or.inr h
  have hS : va_S A s.heap s.heap [] := va_S.rf
  have hP : va_P D vwCl (wM q cq T R S X (nI n) h k th a o) s.heap := hP
  have hl := lv_entry ([.ref (q 0)]) (n := 2) (Nat.le_of_ble_eq_true rfl)
  rw [lg_entry_eq]
  generalize (lg_sl ([.ref (q 0)]) ++ List.replicate (2 - (lg_sl ([.ref (q 0)])).length) Slot.unset).toArray = ls at hl ⊢
  have hl : lv_has ls 2 [(0, .ref (q 0))] := hl
  refine lv_aload_n hx hb dX2_records_0 rfl (lv_at hl 0 rfl) ?_
  refine va_get (D := D) (ci := 2) (v := .int (nI n)) (C := RX2) (T := TX2) (N := 10) hx hb hts in_X2_records_X2 hown hK hP 0 rfl rfl 4 (by decide) (hts (.fieldLink RX2 35 "ZhegalkinBenchModel" "kept" "I") (List.mem_of_getElem? (i := 1) rfl)) (fun _ h9 => h9) rfl dX2_records_1 ?_
  refine lv_iconst (v := 4) hx hb dX2_records_4 (by decide) ?_
  refine lv_icmp_ne (tgt := 47) hx hb dX2_records_5 (by decide) (fun c_1 => ?_) (fun c_1 => ?_)
  · have hlt : n < 4 := by
      have h9 : ¬ n = 4 := fun q9 => c_1 (by rw [q9]; rfl)
      omega
    refine lv_aload_n hx hb dX2_records_47 rfl (lv_at hl 0 rfl) ?_
    refine va_get (D := D) (ci := 2) (v := .ref (q 1)) (C := RX2) (T := TX2) (N := 10) hx hb hts in_X2_records_X2 hown hK hP 0 rfl rfl 0 (by decide) (hts (.fieldLink RX2 7 "ZhegalkinBenchModel" "now" "[I") (List.mem_of_getElem? (i := 3) rfl)) (fun _ h9 => h9) rfl dX2_records_48 ?_
    refine lv_iconst (v := 0) hx hb dX2_records_51 (by decide) ?_
    refine lv_aload_n hx hb dX2_records_52 rfl (lv_at hl 0 rfl) ?_
    refine va_get (D := D) (ci := 2) (v := .ref (q 2)) (C := RX2) (T := TX2) (N := 10) hx hb hts in_X2_records_X2 hown hK hP 0 rfl rfl 1 (by decide) (hts (.fieldLink RX2 13 "ZhegalkinBenchModel" "past" "[I") (List.mem_of_getElem? (i := 2) rfl)) (fun _ h9 => h9) rfl dX2_records_53 ?_
    refine lv_bipush (v := 6) hx hb dX2_records_56 (by decide) ?_
    refine lv_aload_n hx hb dX2_records_58 rfl (lv_at hl 0 rfl) ?_
    refine va_get (D := D) (ci := 2) (v := .int (nI n)) (C := RX2) (T := TX2) (N := 10) hx hb hts in_X2_records_X2 hown hK hP 0 rfl rfl 4 (by decide) (hts (.fieldLink RX2 35 "ZhegalkinBenchModel" "kept" "I") (List.mem_of_getElem? (i := 1) rfl)) (fun _ h9 => h9) rfl dX2_records_59 ?_
    refine lv_imul hx hb dX2_records_62 ?_
    refine lv_is (nI (6 * n)) (by first | exact pk_mul _ _ | rfl) ?_
    have hPc := hP.sub (ws' := (wC (q 1) (cq 0) 6 (q 2) (cq 1) 24 T R)) [1, 2] rfl
    have hKc := hK.sub (tys' := [(cq 0, .int), (cq 1, .int)]) [0, 1] rfl
    have hDc := hD.sub (ws' := (wC (q 1) (cq 0) 6 (q 2) (cq 1) 24 T R)) [1, 2] (by decide) rfl
    have hFc := va_free (wc := (wC (q 1) (cq 0) 6 (q 2) (cq 1) 24 T R)) hD hS hA [1, 2] rfl
    refine va_callv (va_runS (As := [.ref (q 1), .int 0, .ref (q 2), .int (nI (6 * n))]) (rest := []) ⟨hx, hb, hml, hown, hts⟩ (c_X2_copies l D (q 1) (cq 0) 6 (q 2) (cq 1) 24 s.heap.size T R 0 (6 * n) (by omega) (by omega) (by omega) (by omega)) (va_cwS 4 hts gX2_records_X2_copies rfl rfl rfl (by decide +kernel) ⟨Nat.le_of_ble_eq_true rfl, Nat.le_of_ble_eq_true rfl⟩) ⟨fun a U g mk z => ⟨z.1, z.2.1, z.2.2.1, va_K.moved (u := U) (U := U.calling g mk a) (Vm.Alike.refl U.vm) z.2.2.2.1, z.2.2.2.2.1, z.2.2.2.2.2.blind g mk a⟩, fun U hU hW => ⟨rfl, by rw [hU], by rw [hU]; exact hPc, va_K.moved hW.alike hKc, hDc.weaken (fun _ _ _ _ => trivial), hE.at hS hU hW hFc⟩⟩ rfl rfl hl.1 rfl (lv_room (Nat.le_of_ble_eq_true rfl)) dX2_records_63 ⟨(Nat.zero_le _), (Nat.zero_le _)⟩) hS (fun q _ h => hFc q h) hFc (fun u9 t8 H1 locs ht hvm hw hB hz1 hk1 hS => ?_)
    obtain ⟨hP1, hD1⟩ := hB
    rw [ht] at hP1
    obtain ⟨hP, hD⟩ := va_join (wr := [((q 0), .inr (2, [.ref (q 1), .ref (q 2), .ref (q 3), .int h, .int (nI n), .ref (q 4), .int k, .int th, .int a, .int o])), ((q 3), .inl ((cq 2), (6, .inl S))), ((q 4), .inl ((cq 3), (80, .inl X)))]) (w1 := (wC (q 1) (cq 0) 6 (q 2) (cq 1) 24 T (fX2_copies T R 0 (6 * n)))) hP hD [1, 2] [0, 3, 4] rfl rfl (by decide) (by decide) hk1 hFc hP1 hD1
    have hP := hP.sub (ws' := (wM q cq T (fX2_copies T R 0 (6 * n)) S X (nI n) h k th a o)) [0, 3, 4, 1, 2] rfl
    have hD := hD.sub (ws' := (wM q cq T (fX2_copies T R 0 (6 * n)) S X (nI n) h k th a o)) [0, 3, 4, 1, 2] (by decide) rfl
    generalize H1 = H at hP hS ⊢
    refine lv_aload_n hx hb dX2_records_66 rfl (lv_at hl 0 rfl) ?_
    refine lv_dup hx hb dX2_records_67 rfl ?_
    refine va_get (D := D) (ci := 2) (v := .int (nI n)) (C := RX2) (T := TX2) (N := 10) hx hb hts in_X2_records_X2 hown hK hP 0 rfl rfl 4 (by decide) (hts (.fieldLink RX2 35 "ZhegalkinBenchModel" "kept" "I") (List.mem_of_getElem? (i := 1) rfl)) (fun _ h9 => h9) rfl dX2_records_68 ?_
    refine lv_iconst (v := 1) hx hb dX2_records_71 (by decide) ?_
    refine lv_iadd hx hb dX2_records_72 ?_
    refine lv_is (nI (n + 1)) (by first | exact nI_add _ _ | rfl) ?_
    refine va_put (D := D) (ci := 2) (v := .int (nI (n + 1))) (ty := .int) (C := RX2) (T := TX2) (N := 10) hx hb hts in_X2_records_X2 tyX2 tyX2_ok nmX2 hown hK hP hD hS 0 rfl rfl 4 (by decide) (hts (.fieldLink RX2 35 "ZhegalkinBenchModel" "kept" "I") (List.mem_of_getElem? (i := 1) rfl)) (fun _ h9 => h9) rfl (by decide +kernel) rfl rfl (Nat.le_of_ble_eq_true rfl) dX2_records_73 (fun H locs hP hD hS => ?_)
    have hP : va_P D vwCl (wM q cq T (fX2_copies T R 0 (6 * n)) S X (nI (n + 1)) h k th a o) H := hP
    have hD : va_D A (wM q cq T (fX2_copies T R 0 (6 * n)) S X (nI (n + 1)) h k th a o) := hD
    have hq : (fX2_records T R n) = ((fX2_copies T R 0 (6 * n)), (n + 1)) := Eq.symm (by first | ((rw [fX2_records, if_neg c_1]); first | done | rfl) | rfl)
    exact W.vret hx hb hr (fun t9 ht hW => ⟨⟨(), rfl, trivial, by rw [hq]; exact ⟨by rw [ht]; exact hP, hD⟩⟩, hS.F ht⟩) hS.2.2 dX2_records_76
  · have hn4 : n = 4 := (nI_eq (a := n) (b := 4) (by omega) (by omega)).mp c_1
    refine lv_iconst (v := 0) hx hb dX2_records_8 (by decide) ?_
    refine lv_istore_n (lv' := [(1, .int 0), (0, .ref (q 0))]) hx hb dX2_records_9 rfl hl (by decide) rfl (fun ls hl => ?_)
    obtain ⟨F1, hF1⟩ : ∃ z9, z9 = (lp sX2_records_10 18 0 R) := ⟨_, rfl⟩
    refine vz_cut (fun H1 l1 g1 => ∃ (n1 i1 : Nat) (a1 : (Nat → Int32)) (ls : Array Slot), i1 + n1 = 18 ∧ lp sX2_records_10 n1 i1 a1 = F1 ∧ lv_has ls 2 [(1, .int (nI i1)), (0, .ref (q 0))] ∧ va_P D vwCl (wM q cq T a1 S X (nI n) h k th a o) H1 ∧ va_D A (wM q cq T a1 S X (nI n) h k th a o) ∧ va_S A s.heap H1 l1 ∧ g1 = F0 m 10 ls []) (fun hj => hj _ _ _ ⟨18, 0, R, ls, (by omega), hF1.symm, lv_sub hl [0, 1] rfl, hP, hD, hS, rfl⟩) ?_
    rintro H locs g1 ⟨n1, i1, a1, ls, hi1, hf1, hl, hP, hD, hS, rfl⟩
    revert H locs i1 a1 ls
    induction n1 with
    | zero =>
      intro H locs i1 a1 ls hi1 hf1 hl hP hD hS
      obtain rfl : 18 = i1 := by omega
      have hf1 : F1 = a1 := hf1.symm
      subst hf1
      refine lv_iload_n hx hb dX2_records_10 rfl (lv_at hl 0 rfl) ?_
      refine lv_bipush (v := 18) hx hb dX2_records_11 (by decide) ?_
      refine lv_icmp_ge (tgt := 37) hx hb dX2_records_13 (by decide) (fun c_2 => ?_) (fun c_2 => ?_)
      · refine lv_aload_n hx hb dX2_records_37 rfl (lv_at hl 1 rfl) ?_
        refine lv_dup hx hb dX2_records_38 rfl ?_
        refine va_get (D := D) (ci := 2) (v := .int (nI n)) (C := RX2) (T := TX2) (N := 10) hx hb hts in_X2_records_X2 hown hK hP 0 rfl rfl 4 (by decide) (hts (.fieldLink RX2 35 "ZhegalkinBenchModel" "kept" "I") (List.mem_of_getElem? (i := 1) rfl)) (fun _ h9 => h9) rfl dX2_records_39 ?_
        refine lv_iconst (v := 1) hx hb dX2_records_42 (by decide) ?_
        refine lv_isub hx hb dX2_records_43 ?_
        refine lv_is (nI (n - 1)) (by first | exact pk_sub (a := n) (b := 1) (by omega) | rfl) ?_
        refine va_put (D := D) (ci := 2) (v := .int (nI (n - 1))) (ty := .int) (C := RX2) (T := TX2) (N := 10) hx hb hts in_X2_records_X2 tyX2 tyX2_ok nmX2 hown hK hP hD hS 0 rfl rfl 4 (by decide) (hts (.fieldLink RX2 35 "ZhegalkinBenchModel" "kept" "I") (List.mem_of_getElem? (i := 1) rfl)) (fun _ h9 => h9) rfl (by decide +kernel) rfl rfl (Nat.le_of_ble_eq_true rfl) dX2_records_44 (fun H locs hP hD hS => ?_)
        have hP : va_P D vwCl (wM q cq T F1 S X (nI (n - 1)) h k th a o) H := hP
        have hD : va_D A (wM q cq T F1 S X (nI (n - 1)) h k th a o) := hD
        refine lv_aload_n hx hb dX2_records_47 rfl (lv_at hl 1 rfl) ?_
        refine va_get (D := D) (ci := 2) (v := .ref (q 1)) (C := RX2) (T := TX2) (N := 10) hx hb hts in_X2_records_X2 hown hK hP 0 rfl rfl 0 (by decide) (hts (.fieldLink RX2 7 "ZhegalkinBenchModel" "now" "[I") (List.mem_of_getElem? (i := 3) rfl)) (fun _ h9 => h9) rfl dX2_records_48 ?_
        refine lv_iconst (v := 0) hx hb dX2_records_51 (by decide) ?_
        refine lv_aload_n hx hb dX2_records_52 rfl (lv_at hl 1 rfl) ?_
        refine va_get (D := D) (ci := 2) (v := .ref (q 2)) (C := RX2) (T := TX2) (N := 10) hx hb hts in_X2_records_X2 hown hK hP 0 rfl rfl 1 (by decide) (hts (.fieldLink RX2 13 "ZhegalkinBenchModel" "past" "[I") (List.mem_of_getElem? (i := 2) rfl)) (fun _ h9 => h9) rfl dX2_records_53 ?_
        refine lv_bipush (v := 6) hx hb dX2_records_56 (by decide) ?_
        refine lv_aload_n hx hb dX2_records_58 rfl (lv_at hl 1 rfl) ?_
        refine va_get (D := D) (ci := 2) (v := .int (nI (n - 1))) (C := RX2) (T := TX2) (N := 10) hx hb hts in_X2_records_X2 hown hK hP 0 rfl rfl 4 (by decide) (hts (.fieldLink RX2 35 "ZhegalkinBenchModel" "kept" "I") (List.mem_of_getElem? (i := 1) rfl)) (fun _ h9 => h9) rfl dX2_records_59 ?_
        refine lv_imul hx hb dX2_records_62 ?_
        refine lv_is (nI (6 * (n - 1))) (by first | exact pk_mul _ _ | rfl) ?_
        have hPc := hP.sub (ws' := (wC (q 1) (cq 0) 6 (q 2) (cq 1) 24 T F1)) [1, 2] rfl
        have hKc := hK.sub (tys' := [(cq 0, .int), (cq 1, .int)]) [0, 1] rfl
        have hDc := hD.sub (ws' := (wC (q 1) (cq 0) 6 (q 2) (cq 1) 24 T F1)) [1, 2] (by decide) rfl
        have hFc := va_free (wc := (wC (q 1) (cq 0) 6 (q 2) (cq 1) 24 T F1)) hD hS hA [1, 2] rfl
        refine va_callv (va_runS (As := [.ref (q 1), .int 0, .ref (q 2), .int (nI (6 * (n - 1)))]) (rest := []) ⟨hx, hb, hml, hown, hts⟩ (c_X2_copies l D (q 1) (cq 0) 6 (q 2) (cq 1) 24 H.size T F1 0 (6 * (n - 1)) (by omega) (by omega) (by omega) (by omega)) (va_cwS 4 hts gX2_records_X2_copies rfl rfl rfl (by decide +kernel) ⟨Nat.le_of_ble_eq_true rfl, Nat.le_of_ble_eq_true rfl⟩) ⟨fun a U g mk z => ⟨z.1, z.2.1, z.2.2.1, va_K.moved (u := U) (U := U.calling g mk a) (Vm.Alike.refl U.vm) z.2.2.2.1, z.2.2.2.2.1, z.2.2.2.2.2.blind g mk a⟩, fun U hU hW => ⟨rfl, by rw [hU], by rw [hU]; exact hPc, va_K.moved hW.alike hKc, hDc.weaken (fun _ _ _ _ => trivial), hE.at hS hU hW hFc⟩⟩ rfl rfl hl.1 rfl (lv_room (Nat.le_of_ble_eq_true rfl)) dX2_records_63 ⟨(Nat.zero_le _), (Nat.zero_le _)⟩) hS (fun q _ h => hFc q h) hFc (fun u9 t8 H1 locs ht hvm hw hB hz1 hk1 hS => ?_)
        obtain ⟨hP1, hD1⟩ := hB
        rw [ht] at hP1
        obtain ⟨hP, hD⟩ := va_join (wr := [((q 0), .inr (2, [.ref (q 1), .ref (q 2), .ref (q 3), .int h, .int (nI (n - 1)), .ref (q 4), .int k, .int th, .int a, .int o])), ((q 3), .inl ((cq 2), (6, .inl S))), ((q 4), .inl ((cq 3), (80, .inl X)))]) (w1 := (wC (q 1) (cq 0) 6 (q 2) (cq 1) 24 T (fX2_copies T F1 0 (6 * (n - 1))))) hP hD [1, 2] [0, 3, 4] rfl rfl (by decide) (by decide) hk1 hFc hP1 hD1
        have hP := hP.sub (ws' := (wM q cq T (fX2_copies T F1 0 (6 * (n - 1))) S X (nI (n - 1)) h k th a o)) [0, 3, 4, 1, 2] rfl
        have hD := hD.sub (ws' := (wM q cq T (fX2_copies T F1 0 (6 * (n - 1))) S X (nI (n - 1)) h k th a o)) [0, 3, 4, 1, 2] (by decide) rfl
        generalize H1 = H at hP hS ⊢
        refine lv_aload_n hx hb dX2_records_66 rfl (lv_at hl 1 rfl) ?_
        refine lv_dup hx hb dX2_records_67 rfl ?_
        refine va_get (D := D) (ci := 2) (v := .int (nI (n - 1))) (C := RX2) (T := TX2) (N := 10) hx hb hts in_X2_records_X2 hown hK hP 0 rfl rfl 4 (by decide) (hts (.fieldLink RX2 35 "ZhegalkinBenchModel" "kept" "I") (List.mem_of_getElem? (i := 1) rfl)) (fun _ h9 => h9) rfl dX2_records_68 ?_
        refine lv_iconst (v := 1) hx hb dX2_records_71 (by decide) ?_
        refine lv_iadd hx hb dX2_records_72 ?_
        refine lv_is (nI ((n - 1) + 1)) (by first | exact nI_add _ _ | rfl) ?_
        refine va_put (D := D) (ci := 2) (v := .int (nI ((n - 1) + 1))) (ty := .int) (C := RX2) (T := TX2) (N := 10) hx hb hts in_X2_records_X2 tyX2 tyX2_ok nmX2 hown hK hP hD hS 0 rfl rfl 4 (by decide) (hts (.fieldLink RX2 35 "ZhegalkinBenchModel" "kept" "I") (List.mem_of_getElem? (i := 1) rfl)) (fun _ h9 => h9) rfl (by decide +kernel) rfl rfl (Nat.le_of_ble_eq_true rfl) dX2_records_73 (fun H locs hP hD hS => ?_)
        have hP : va_P D vwCl (wM q cq T (fX2_copies T F1 0 (6 * (n - 1))) S X (nI ((n - 1) + 1)) h k th a o) H := hP
        have hD : va_D A (wM q cq T (fX2_copies T F1 0 (6 * (n - 1))) S X (nI ((n - 1) + 1)) h k th a o) := hD
        have hq : (fX2_records T R n) = ((fX2_copies T F1 0 (6 * (n - 1))), ((n - 1) + 1)) := Eq.symm (by first | ((rw [fX2_records, if_pos c_1]); (try rw [← hF1]); first | done | rfl) | rfl)
        exact W.vret hx hb hr (fun t9 ht hW => ⟨⟨(), rfl, trivial, by rw [hq]; exact ⟨by rw [ht]; exact hP, hD⟩⟩, hS.F ht⟩) hS.2.2 dX2_records_76
      · exact absurd (nI_le (a := 18) (b := 18) (by omega) (by omega)) c_2
    | succ n1 ih1 =>
      intro H locs i1 a1 ls hi1 hf1 hl hP hD hS
      refine lv_iload_n hx hb dX2_records_10 rfl (lv_at hl 0 rfl) ?_
      refine lv_bipush (v := 18) hx hb dX2_records_11 (by decide) ?_
      refine lv_icmp_ge (tgt := 37) hx hb dX2_records_13 (by decide) (fun c_3 => ?_) (fun c_3 => ?_)
      · exact absurd c_3 (nI_ge (a := i1) (b := 18) (by omega) (by omega))
      · refine lv_aload_n hx hb dX2_records_16 rfl (lv_at hl 1 rfl) ?_
        refine va_get (D := D) (ci := 2) (v := .ref (q 2)) (C := RX2) (T := TX2) (N := 10) hx hb hts in_X2_records_X2 hown hK hP 0 rfl rfl 1 (by decide) (hts (.fieldLink RX2 13 "ZhegalkinBenchModel" "past" "[I") (List.mem_of_getElem? (i := 2) rfl)) (fun _ h9 => h9) rfl dX2_records_17 ?_
        refine lv_iload_n hx hb dX2_records_20 rfl (lv_at hl 0 rfl) ?_
        refine lv_aload_n hx hb dX2_records_21 rfl (lv_at hl 1 rfl) ?_
        refine va_get (D := D) (ci := 2) (v := .ref (q 2)) (C := RX2) (T := TX2) (N := 10) hx hb hts in_X2_records_X2 hown hK hP 0 rfl rfl 1 (by decide) (hts (.fieldLink RX2 13 "ZhegalkinBenchModel" "past" "[I") (List.mem_of_getElem? (i := 2) rfl)) (fun _ h9 => h9) rfl dX2_records_22 ?_
        refine lv_iload_n hx hb dX2_records_25 rfl (lv_at hl 0 rfl) ?_
        refine lv_bipush (v := 6) hx hb dX2_records_26 (by decide) ?_
        refine lv_iadd hx hb dX2_records_28 ?_
        refine lv_is (nI (i1 + 6)) (by first | exact nI_add _ _ | rfl) ?_
        refine vz_iald hx hb hK hP 2 1 rfl rfl (i1 + 6) (by omega) (by decide) dX2_records_29 ?_
        refine vz_iast hx hb hK hP hD hS 2 1 rfl rfl i1 (by omega) (by decide) dX2_records_30 (fun H locs hP hD hS => ?_)
        have hP : va_P D vwCl (wM q cq T (upd a1 i1 (a1 (i1 + 6))) S X (nI n) h k th a o) H := hP
        have hD : va_D A (wM q cq T (upd a1 i1 (a1 (i1 + 6))) S X (nI n) h k th a o) := hD
        refine lv_iinc (v := (nI (i1 + 1))) (lv' := [(1, .int (nI (i1 + 1))), (0, .ref (q 0))]) hx hb dX2_records_31 hl (k := 0) rfl (by first | exact nI_add _ _ | rfl) (by decide) rfl (fun ls hl => ?_)
        refine lv_goto (tgt := 10) hx hb dX2_records_34 (by decide) ?_
        exact ih1 H locs (i1 + 1) (upd a1 i1 (a1 (i1 + 6))) ls (by omega) ((congrArg (lp sX2_records_10 n1 (i1 + 1)) (show (upd a1 i1 (a1 (i1 + 6))) = sX2_records_10 i1 a1 from by first | ((rw [sX2_records_10]); first | done | rfl) | rfl)).trans hf1) (lv_sub hl [0, 1] rfl) hP hD hS
theorem in_X2_allProducts_X2 : ∀ w ∈ wsX20, w ∈ wsX2_allProducts := by decide +kernel
def sX2_allProducts_4 (T : Nat → Int32) (i1 : Nat) (a1 : Int32) : Int32 := (a1 + (fX2_bits (fX2_turned (T i1))))
def fX2_allProducts (T : Nat → Int32) : Int32 := (lp (sX2_allProducts_4 T) 6 0 0)
set_option maxHeartbeats 4000000 in
set_option maxRecDepth 100000 in
theorem c_X2_allProducts (l : Launch) (D : va_G) (q : Nat → Nat) (cq : Nat → ClassId) (T : Nat → Int32) (R : Nat → Int32) (S : Nat → Int32) (X : Nat → Int32) (n : Int32) (h : Int32) (k : Int32) (th : Int32) (a : Int32) (o : Int32) : Met l yX2_allProducts wsX2_allProducts ({ frames := 1, cells := 0, slots := 0, locals := 24 }) (va_Pc [.ref (q 0)] (fun U => va_P D vwCl (wM q cq T R S X n h k th a o) U.heap ∧ va_K D vwCl (tyM cq) U ∧ env0 U)) (vp_Si (fun r9 => r9 = (fX2_allProducts T))) 0 0 (fun _ => False) := by
  refine Met.ofW (cc := cX2_allProducts) (maxL := 3) (ret := (some .int)) (by decide) rfl ?_
  intro p e s m args below meth c s₁ B hml hv
  obtain ⟨rfl, hP, hK, hE⟩ := hv
  have hx := B.exec
  have hb := B.bytes
  have hr := B.returns
  have hts := atoms_spec (ws := wsX2_allProducts) B.pre
  have hown : s.vm.findClass RX2 = some m.cls := findClass_of_methodNamed B.named
  have hlocks := B.notSynchronized
  have hS : va_S (fun _ => False) s.heap s.heap [] := va_S.rf
  have hP : va_P D vwCl (wM q cq T R S X n h k th a o) s.heap := hP
  have hl := lv_entry ([.ref (q 0)]) (n := 3) (Nat.le_of_ble_eq_true rfl)
  rw [lg_entry_eq]
  generalize (lg_sl ([.ref (q 0)]) ++ List.replicate (3 - (lg_sl ([.ref (q 0)])).length) Slot.unset).toArray = ls at hl ⊢
  have hl : lv_has ls 3 [(0, .ref (q 0))] := hl
  refine lv_iconst (v := 0) hx hb dX2_allProducts_0 (by decide) ?_
  refine lv_istore_n (lv' := [(1, .int 0), (0, .ref (q 0))]) hx hb dX2_allProducts_1 rfl hl (by decide) rfl (fun ls hl => ?_)
  refine lv_iconst (v := 0) hx hb dX2_allProducts_2 (by decide) ?_
  refine lv_istore_n (lv' := [(2, .int 0), (1, .int 0), (0, .ref (q 0))]) hx hb dX2_allProducts_3 rfl hl (by decide) rfl (fun ls hl => ?_)
  obtain ⟨F1, hF1⟩ : ∃ z9, z9 = (lp (sX2_allProducts_4 T) 6 0 0) := ⟨_, rfl⟩
  refine vz_cut (fun H1 l1 g1 => ∃ (n1 i1 : Nat) (a1 : Int32) (ls : Array Slot), i1 + n1 = 6 ∧ lp (sX2_allProducts_4 T) n1 i1 a1 = F1 ∧ lv_has ls 3 [(2, .int (nI i1)), (1, .int a1), (0, .ref (q 0))] ∧ (s.heap = H1 ∧ [] = l1) ∧ g1 = F0 m 4 ls []) (fun hj => hj _ _ _ ⟨6, 0, 0, ls, (by omega), hF1.symm, lv_sub hl [0, 1, 2] rfl, ⟨rfl, rfl⟩, rfl⟩) ?_
  rintro H1 l1 g1 ⟨n1, i1, a1, ls, hi1, hf1, hl, ⟨rfl, rfl⟩, rfl⟩
  revert i1 a1 ls
  induction n1 with
  | zero =>
    intro i1 a1 ls hi1 hf1 hl
    obtain rfl : 6 = i1 := by omega
    have hf1 : F1 = a1 := hf1.symm
    subst hf1
    refine lv_iload_n hx hb dX2_allProducts_4 rfl (lv_at hl 0 rfl) ?_
    refine lv_bipush (v := 6) hx hb dX2_allProducts_5 (by decide) ?_
    refine lv_icmp_ge (tgt := 31) hx hb dX2_allProducts_7 (by decide) (fun c_1 => ?_) (fun c_1 => ?_)
    · refine lv_iload_n hx hb dX2_allProducts_31 rfl (lv_at hl 1 rfl) ?_
      exact W.iret (v := F1) hx hb hr (fun t9 ht hW => ⟨F1, rfl, (by first | ((rw [fX2_allProducts]); (try rw [← hF1]); first | done | rfl) | rfl), ht⟩) (fun q h => nomatch h) dX2_allProducts_32
    · exact absurd (nI_le (a := 6) (b := 6) (by omega) (by omega)) c_1
  | succ n1 ih1 =>
    intro i1 a1 ls hi1 hf1 hl
    refine lv_iload_n hx hb dX2_allProducts_4 rfl (lv_at hl 0 rfl) ?_
    refine lv_bipush (v := 6) hx hb dX2_allProducts_5 (by decide) ?_
    refine lv_icmp_ge (tgt := 31) hx hb dX2_allProducts_7 (by decide) (fun c_2 => ?_) (fun c_2 => ?_)
    · exact absurd c_2 (nI_ge (a := i1) (b := 6) (by omega) (by omega))
    · refine lv_iload_n hx hb dX2_allProducts_10 rfl (lv_at hl 1 rfl) ?_
      refine lv_aload_n hx hb dX2_allProducts_11 rfl (lv_at hl 2 rfl) ?_
      refine va_get (D := D) (ci := 2) (v := .ref (q 1)) (C := RX2) (T := TX2) (N := 10) hx hb hts in_X2_allProducts_X2 hown hK hP 0 rfl rfl 0 (by decide) (hts (.fieldLink RX2 7 "ZhegalkinBenchModel" "now" "[I") (List.mem_of_getElem? (i := 1) rfl)) (fun _ h9 => h9) rfl dX2_allProducts_12 ?_
      refine lv_iload_n hx hb dX2_allProducts_15 rfl (lv_at hl 0 rfl) ?_
      refine vz_iald hx hb hK hP 1 0 rfl rfl i1 (by omega) (by decide) dX2_allProducts_16 ?_
      refine vp_callSi (va_Run.run (va_runS (As := [.int (T i1)]) (rest := [.int a1]) ⟨hx, hb, hml, hown, hts⟩ (c_X2_turned l (T i1)) (va_cwS 1 hts gX2_allProducts_X2_turned rfl rfl rfl (by decide +kernel) ⟨Nat.le_of_ble_eq_true rfl, Nat.le_of_ble_eq_true rfl⟩) ⟨fun _ _ _ _ z => z, fun _ _ _ => ⟨rfl, trivial⟩⟩ rfl rfl hl.1 rfl (lv_room (Nat.le_of_ble_eq_true rfl)) dX2_allProducts_17 ⟨(Nat.zero_le _), (Nat.zero_le _)⟩)) (fun r9 hr => ?_)
      subst hr
      refine vp_callSi (va_Run.run (va_runS (As := [.int (fX2_turned (T i1))]) (rest := [.int a1]) ⟨hx, hb, hml, hown, hts⟩ (c_X2_bits l (fX2_turned (T i1))) (va_cwS 1 hts gX2_allProducts_X2_bits rfl rfl rfl (by decide +kernel) ⟨Nat.le_of_ble_eq_true rfl, Nat.le_of_ble_eq_true rfl⟩) ⟨fun _ _ _ _ z => z, fun _ _ _ => ⟨rfl, trivial⟩⟩ rfl rfl hl.1 rfl (lv_room (Nat.le_of_ble_eq_true rfl)) dX2_allProducts_20 ⟨(Nat.zero_le _), (Nat.zero_le _)⟩)) (fun r9 hr => ?_)
      subst hr
      refine lv_iadd hx hb dX2_allProducts_23 ?_
      refine lv_istore_n (lv' := [(1, .int (a1 + (fX2_bits (fX2_turned (T i1))))), (2, .int (nI i1)), (0, .ref (q 0))]) hx hb dX2_allProducts_24 rfl hl (by decide) rfl (fun ls hl => ?_)
      refine lv_iinc (v := (nI (i1 + 1))) (lv' := [(2, .int (nI (i1 + 1))), (1, .int (a1 + (fX2_bits (fX2_turned (T i1))))), (0, .ref (q 0))]) hx hb dX2_allProducts_25 hl (k := 1) rfl (by first | exact nI_add _ _ | rfl) (by decide) rfl (fun ls hl => ?_)
      refine lv_goto (tgt := 4) hx hb dX2_allProducts_28 (by decide) ?_
      exact ih1 (i1 + 1) (a1 + (fX2_bits (fX2_turned (T i1)))) ls (by omega) ((congrArg (lp (sX2_allProducts_4 T) n1 (i1 + 1)) (show (a1 + (fX2_bits (fX2_turned (T i1)))) = (sX2_allProducts_4 T) i1 a1 from by first | ((rw [sX2_allProducts_4]); first | done | rfl) | rfl)).trans hf1) (lv_sub hl [0, 1, 2] rfl)
theorem in_X2_sets_X2 : ∀ w ∈ wsX20, w ∈ wsX2_sets := by decide +kernel
def fX2_sets (T : Nat → Int32) (R : Nat → Int32) (n : Nat) (x : Int32) (x2 : Int32) : Int32 × (Nat → Int32) × (Nat → Int32) × Nat := (x2, (upd T x.toNatClampNeg x2), (fX2_records T R n).1, ((fX2_records T R n).2))
set_option maxHeartbeats 4000000 in
set_option maxRecDepth 100000 in
theorem c_X2_sets (l : Launch) (D : va_G) (q : Nat → Nat) (cq : Nat → ClassId) (sz : Nat) (T : Nat → Int32) (R : Nat → Int32) (S : Nat → Int32) (X : Nat → Int32) (n : Nat) (h : Int32) (k : Int32) (th : Int32) (a : Int32) (o : Int32) (x : Int32) (x2 : Int32) (hn : n ≤ 4) (hx6 : vp_in x 6) : Met l yX2_sets wsX2_sets ({ frames := 2, cells := 0, slots := 0, locals := 45 }) (va_Pc [.ref (q 0), .int x, .int x2] (fun U => U.heap.size = sz ∧ va_P D vwCl (wM q cq T R S X (nI n) h k th a o) U.heap ∧ va_K D vwCl (tyM cq) U ∧ va_D (fun _ => True) (wM q cq T R S X (nI n) h k th a o) ∧ envE (va_A (wM q cq T R S X (nI n) h k th a o) sz) U)) (va_Qi (fun r9 (_ : Unit) => r9 = (fX2_sets T R n x x2).1) (fun _ t9 => va_P D vwCl (wM q cq ((fX2_sets T R n x x2).2.1) ((fX2_sets T R n x x2).2.2.1) S X (nI (fX2_sets T R n x x2).2.2.2) h k th a o) t9.heap ∧ va_D (va_A (wM q cq T R S X (nI n) h k th a o) sz) (wM q cq ((fX2_sets T R n x x2).2.1) ((fX2_sets T R n x x2).2.2.1) S X (nI (fX2_sets T R n x x2).2.2.2) h k th a o)) (va_A (wM q cq T R S X (nI n) h k th a o) sz)) 0 0 (va_A (wM q cq T R S X (nI n) h k th a o) sz) := by
  refine Met.ofW (cc := cX2_sets) (maxL := 3) (ret := (some .int)) (by decide) rfl ?_
  intro p e s m args below meth c s₁ B hml hv
  obtain ⟨rfl, hsz, hP, hK, hD0, hE⟩ := hv
  have hx := B.exec
  have hb := B.bytes
  have hr := B.returns
  have hts := atoms_spec (ws := wsX2_sets) B.pre
  have hown : s.vm.findClass RX2 = some m.cls := findClass_of_methodNamed B.named
  have hlocks := B.notSynchronized
  subst hsz
  have hD := hD0.self (sz := s.heap.size)
  generalize hAe : va_A (wM q cq T R S X (nI n) h k th a o) s.heap.size = A at hD hE ⊢
  have hA : ∀ q : Nat, s.heap.size ≤ q → A q := fun q h => by rw [← hAe]; exact Or.inr h
  have hS : va_S A s.heap s.heap [] := va_S.rf
  have hP : va_P D vwCl (wM q cq T R S X (nI n) h k th a o) s.heap := hP
  have hl := lv_entry ([.ref (q 0), .int x, .int x2]) (n := 3) (Nat.le_of_ble_eq_true rfl)
  rw [lg_entry_eq]
  generalize (lg_sl ([.ref (q 0), .int x, .int x2]) ++ List.replicate (3 - (lg_sl ([.ref (q 0), .int x, .int x2])).length) Slot.unset).toArray = ls at hl ⊢
  have hl : lv_has ls 3 [(0, .ref (q 0)), (1, .int x), (2, .int x2)] := hl
  refine lv_aload_n hx hb dX2_sets_0 rfl (lv_at hl 0 rfl) ?_
  have hPc := hP.sub (ws' := (wM q cq T R S X (nI n) h k th a o)) [0, 1, 2, 3, 4] rfl
  have hKc := hK.sub (tys' := (tyM cq)) [0, 1, 2, 3] rfl
  have hDc := hD.sub (ws' := (wM q cq T R S X (nI n) h k th a o)) [0, 1, 2, 3, 4] (by decide) rfl
  have hFc := va_free (wc := (wM q cq T R S X (nI n) h k th a o)) hD hS hA [0, 1, 2, 3, 4] rfl
  refine va_callv (va_runV (As := []) (rest := []) ⟨hx, hb, hml, hown, hts⟩ (c_X2_records l D q cq s.heap.size T R S X n h k th a o (by omega)) (cwV 0 hts gX2_sets_X2_records rfl rfl rfl (by decide +kernel) ⟨Nat.le_of_ble_eq_true rfl, Nat.le_of_ble_eq_true rfl⟩) ⟨fun a U g mk z => ⟨z.1, z.2.1, z.2.2.1, va_K.moved (u := U) (U := U.calling g mk a) (Vm.Alike.refl U.vm) z.2.2.2.1, z.2.2.2.2.1, z.2.2.2.2.2.blind g mk a⟩, va_recv hKc hPc (ci := 2) (q0 := 0) rfl rfl, fun U hU hW => ⟨rfl, by rw [hU], by rw [hU]; exact hPc, va_K.moved hW.alike hKc, hDc.weaken (fun _ _ _ _ => trivial), hE.at hS hU hW hFc⟩⟩ rfl rfl hl.1 rfl (lv_room (Nat.le_of_ble_eq_true rfl)) dX2_sets_1 ⟨(Nat.zero_le _), (Nat.zero_le _)⟩) hS (fun q _ h => hFc q h) hFc (fun u9 t8 H1 locs ht hvm hw hB hz1 hk1 hS => ?_)
  obtain ⟨hP1, hD1⟩ := hB
  rw [ht] at hP1
  obtain ⟨hP, hD⟩ := va_join (wr := []) (w1 := (wM q cq T ((fX2_records T R n).1) S X (nI (fX2_records T R n).2) h k th a o)) hP hD [0, 1, 2, 3, 4] [] rfl rfl (by decide) (by decide) hk1 hFc hP1 hD1
  have hP := hP.sub (ws' := (wM q cq T ((fX2_records T R n).1) S X (nI (fX2_records T R n).2) h k th a o)) [0, 1, 2, 3, 4] rfl
  have hD := hD.sub (ws' := (wM q cq T ((fX2_records T R n).1) S X (nI (fX2_records T R n).2) h k th a o)) [0, 1, 2, 3, 4] (by decide) rfl
  generalize H1 = H at hP hS ⊢
  refine lv_aload_n hx hb dX2_sets_4 rfl (lv_at hl 0 rfl) ?_
  refine va_get (D := D) (ci := 2) (v := .ref (q 1)) (C := RX2) (T := TX2) (N := 10) hx hb hts in_X2_sets_X2 hown hK hP 0 rfl rfl 0 (by decide) (hts (.fieldLink RX2 7 "ZhegalkinBenchModel" "now" "[I") (List.mem_of_getElem? (i := 1) rfl)) (fun _ h9 => h9) rfl dX2_sets_5 ?_
  refine lv_iload_n hx hb dX2_sets_8 rfl (lv_at hl 1 rfl) ?_
  refine lv_iload_n hx hb dX2_sets_9 rfl (lv_at hl 2 rfl) ?_
  refine va_iast hx hb hK hP hD hS 1 0 rfl rfl hx6 dX2_sets_10 (fun H locs hP hD hS => ?_)
  have hP : va_P D vwCl (wM q cq (upd T x.toNatClampNeg x2) ((fX2_records T R n).1) S X (nI (fX2_records T R n).2) h k th a o) H := hP
  have hD : va_D A (wM q cq (upd T x.toNatClampNeg x2) ((fX2_records T R n).1) S X (nI (fX2_records T R n).2) h k th a o) := hD
  refine lv_iload_n hx hb dX2_sets_11 rfl (lv_at hl 2 rfl) ?_
  have hq : (fX2_sets T R n x x2) = (x2, (upd T x.toNatClampNeg x2), (fX2_records T R n).1, ((fX2_records T R n).2)) := Eq.symm (by first | ((rw [fX2_sets]); first | done | rfl) | rfl)
  exact W.iret (v := x2) hx hb hr (fun t9 ht hW => ⟨⟨x2, (), rfl, by rw [hq], by rw [hq]; exact ⟨by rw [ht]; exact hP, hD⟩⟩, hS.F ht⟩) hS.2.2 dX2_sets_12
theorem in_X2_valueWith_X2 : ∀ w ∈ wsX20, w ∈ wsX2_valueWith := by decide +kernel
def fX2_valueWith (T : Nat → Int32) (x : Int32) (pt : Int32) (x3 : Int32) (x4 : Int32) : Int32 := (((T x.toNatClampNeg) >>> ((if x4 = 1 then (pt ||| ((1 : Int32) <<< (x3 &&& 31))) else (pt &&& (((1 : Int32) <<< (x3 &&& 31)) ^^^ (-1))) : Int32) &&& 31)) &&& 1)
set_option maxHeartbeats 4000000 in
set_option maxRecDepth 100000 in
theorem c_X2_valueWith (l : Launch) (D : va_G) (q : Nat → Nat) (cq : Nat → ClassId) (T : Nat → Int32) (R : Nat → Int32) (S : Nat → Int32) (X : Nat → Int32) (n : Int32) (h : Int32) (k : Int32) (th : Int32) (a : Int32) (o : Int32) (x : Int32) (pt : Int32) (x3 : Int32) (x4 : Int32) (hx6 : vp_in x 6) : Met l yX2_valueWith wsX2_valueWith ({ frames := 0, cells := 0, slots := 0, locals := 0 }) (va_Pc [.ref (q 0), .int x, .int pt, .int x3, .int x4] (fun U => va_P D vwCl (wM q cq T R S X n h k th a o) U.heap ∧ va_K D vwCl (tyM cq) U ∧ env0 U)) (vp_Si (fun r9 => r9 = (fX2_valueWith T x pt x3 x4))) 0 0 (fun _ => False) := by
  refine Met.ofW (cc := cX2_valueWith) (maxL := 6) (ret := (some .int)) (by decide) rfl ?_
  intro p e s m args below meth c s₁ B hml hv
  obtain ⟨rfl, hP, hK, hE⟩ := hv
  have hx := B.exec
  have hb := B.bytes
  have hr := B.returns
  have hts := atoms_spec (ws := wsX2_valueWith) B.pre
  have hown : s.vm.findClass RX2 = some m.cls := findClass_of_methodNamed B.named
  have hlocks := B.notSynchronized
  have hS : va_S (fun _ => False) s.heap s.heap [] := va_S.rf
  have hP : va_P D vwCl (wM q cq T R S X n h k th a o) s.heap := hP
  have hl := lv_entry ([.ref (q 0), .int x, .int pt, .int x3, .int x4]) (n := 6) (Nat.le_of_ble_eq_true rfl)
  rw [lg_entry_eq]
  generalize (lg_sl ([.ref (q 0), .int x, .int pt, .int x3, .int x4]) ++ List.replicate (6 - (lg_sl ([.ref (q 0), .int x, .int pt, .int x3, .int x4])).length) Slot.unset).toArray = ls at hl ⊢
  have hl : lv_has ls 6 [(0, .ref (q 0)), (1, .int x), (2, .int pt), (3, .int x3), (4, .int x4)] := hl
  refine lv_iload hx hb dX2_valueWith_0 (lv_at hl 4 rfl) ?_
  refine lv_iconst (v := 1) hx hb dX2_valueWith_2 (by decide) ?_
  refine vz_cut (fun H1 l1 g1 => ∃ (x1_0 : Int32) (ls : Array Slot), x1_0 = (if x4 = 1 then (pt ||| ((1 : Int32) <<< (x3 &&& 31))) else (pt &&& (((1 : Int32) <<< (x3 &&& 31)) ^^^ (-1))) : Int32) ∧ lv_has ls 6 [(0, .ref (q 0)), (1, .int x), (2, .int pt), (3, .int x3), (4, .int x4)] ∧ (s.heap = H1 ∧ [] = l1) ∧ g1 = F0 m 21 ls [.int x1_0]) (fun hj1 => ?_) ?_
  · refine lv_icmp_ne (tgt := 14) hx hb dX2_valueWith_3 (by decide) (fun c_1 => ?_) (fun c_1 => ?_)
    · refine lv_iload_n hx hb dX2_valueWith_14 rfl (lv_at hl 2 rfl) ?_
      refine lv_iconst (v := 1) hx hb dX2_valueWith_15 (by decide) ?_
      refine lv_iload_n hx hb dX2_valueWith_16 rfl (lv_at hl 3 rfl) ?_
      refine lv_ishl hx hb dX2_valueWith_17 ?_
      refine lv_iconst (v := (-1)) hx hb dX2_valueWith_18 (by decide) ?_
      refine lv_ixor hx hb dX2_valueWith_19 ?_
      refine lv_iand hx hb dX2_valueWith_20 ?_
      exact hj1 _ _ _ ⟨(pt &&& (((1 : Int32) <<< (x3 &&& 31)) ^^^ (-1))), ls, (by (rw [if_neg c_1]); first | done | rfl), lv_sub hl [0, 1, 2, 3, 4] rfl, ⟨rfl, rfl⟩, rfl⟩
    · refine lv_iload_n hx hb dX2_valueWith_6 rfl (lv_at hl 2 rfl) ?_
      refine lv_iconst (v := 1) hx hb dX2_valueWith_7 (by decide) ?_
      refine lv_iload_n hx hb dX2_valueWith_8 rfl (lv_at hl 3 rfl) ?_
      refine lv_ishl hx hb dX2_valueWith_9 ?_
      refine lv_ior hx hb dX2_valueWith_10 ?_
      refine lv_goto (tgt := 21) hx hb dX2_valueWith_11 (by decide) ?_
      exact hj1 _ _ _ ⟨(pt ||| ((1 : Int32) <<< (x3 &&& 31))), ls, (by (rw [if_pos c_1]); first | done | rfl), lv_sub hl [0, 1, 2, 3, 4] rfl, ⟨rfl, rfl⟩, rfl⟩
  rintro H1 l1 g1 ⟨x1_0, ls, ex1_0, hl, ⟨rfl, rfl⟩, rfl⟩
  subst ex1_0
  refine lv_istore (lv' := [(5, .int (if x4 = 1 then (pt ||| ((1 : Int32) <<< (x3 &&& 31))) else (pt &&& (((1 : Int32) <<< (x3 &&& 31)) ^^^ (-1))) : Int32)), (0, .ref (q 0)), (1, .int x), (2, .int pt), (3, .int x3), (4, .int x4)]) hx hb dX2_valueWith_21 hl (by decide) rfl (fun ls hl => ?_)
  refine lv_aload_n hx hb dX2_valueWith_23 rfl (lv_at hl 1 rfl) ?_
  refine va_get (D := D) (ci := 2) (v := .ref (q 1)) (C := RX2) (T := TX2) (N := 10) hx hb hts in_X2_valueWith_X2 hown hK hP 0 rfl rfl 0 (by decide) (hts (.fieldLink RX2 7 "ZhegalkinBenchModel" "now" "[I") (List.mem_of_getElem? (i := 1) rfl)) (fun _ h9 => h9) rfl dX2_valueWith_24 ?_
  refine lv_iload_n hx hb dX2_valueWith_27 rfl (lv_at hl 2 rfl) ?_
  refine va_iald hx hb hK hP 1 0 rfl rfl hx6 dX2_valueWith_28 ?_
  refine lv_iload hx hb dX2_valueWith_29 (lv_at hl 0 rfl) ?_
  refine lv_ishr hx hb dX2_valueWith_31 ?_
  refine lv_iconst (v := 1) hx hb dX2_valueWith_32 (by decide) ?_
  refine lv_iand hx hb dX2_valueWith_33 ?_
  exact W.iret (v := (((T x.toNatClampNeg) >>> ((if x4 = 1 then (pt ||| ((1 : Int32) <<< (x3 &&& 31))) else (pt &&& (((1 : Int32) <<< (x3 &&& 31)) ^^^ (-1))) : Int32) &&& 31)) &&& 1)) hx hb hr (fun t9 ht hW => ⟨(((T x.toNatClampNeg) >>> ((if x4 = 1 then (pt ||| ((1 : Int32) <<< (x3 &&& 31))) else (pt &&& (((1 : Int32) <<< (x3 &&& 31)) ^^^ (-1))) : Int32) &&& 31)) &&& 1), rfl, (by first | ((rw [fX2_valueWith]); first | done | rfl) | rfl), ht⟩) (fun q h => nomatch h) dX2_valueWith_34
theorem in_X2_has_X2 : ∀ w ∈ wsX20, w ∈ wsX2_has := by decide +kernel
def fX2_has (o : Int32) (x : Int32) : Int32 := if ((o >>> (x &&& 31)) &&& 1) = 1 then 1 else 0
set_option maxHeartbeats 4000000 in
set_option maxRecDepth 100000 in
theorem c_X2_has (l : Launch) (D : va_G) (q : Nat → Nat) (cq : Nat → ClassId) (T : Nat → Int32) (R : Nat → Int32) (S : Nat → Int32) (X : Nat → Int32) (n : Int32) (h : Int32) (k : Int32) (th : Int32) (a : Int32) (o : Int32) (x : Int32) : Met l yX2_has wsX2_has ({ frames := 0, cells := 0, slots := 0, locals := 0 }) (va_Pc [.ref (q 0), .int x] (fun U => va_P D vwCl (wM q cq T R S X n h k th a o) U.heap ∧ va_K D vwCl (tyM cq) U ∧ env0 U)) (vp_Si (fun r9 => r9 = (fX2_has o x))) 0 0 (fun _ => False) := by
  refine Met.ofW (cc := cX2_has) (maxL := 2) (ret := (some .boolean)) (by decide) rfl ?_
  intro p e s m args below meth c s₁ B hml hv
  obtain ⟨rfl, hP, hK, hE⟩ := hv
  have hx := B.exec
  have hb := B.bytes
  have hr := B.returns
  have hts := atoms_spec (ws := wsX2_has) B.pre
  have hown : s.vm.findClass RX2 = some m.cls := findClass_of_methodNamed B.named
  have hlocks := B.notSynchronized
  have hS : va_S (fun _ => False) s.heap s.heap [] := va_S.rf
  have hP : va_P D vwCl (wM q cq T R S X n h k th a o) s.heap := hP
  have hl := lv_entry ([.ref (q 0), .int x]) (n := 2) (Nat.le_of_ble_eq_true rfl)
  rw [lg_entry_eq]
  generalize (lg_sl ([.ref (q 0), .int x]) ++ List.replicate (2 - (lg_sl ([.ref (q 0), .int x])).length) Slot.unset).toArray = ls at hl ⊢
  have hl : lv_has ls 2 [(0, .ref (q 0)), (1, .int x)] := hl
  refine lv_aload_n hx hb dX2_has_0 rfl (lv_at hl 0 rfl) ?_
  refine va_get (D := D) (ci := 2) (v := .int o) (C := RX2) (T := TX2) (N := 10) hx hb hts in_X2_has_X2 hown hK hP 0 rfl rfl 9 (by decide) (hts (.fieldLink RX2 62 "ZhegalkinBenchModel" "told" "I") (List.mem_of_getElem? (i := 1) rfl)) (fun _ h9 => h9) rfl dX2_has_1 ?_
  refine lv_iload_n hx hb dX2_has_4 rfl (lv_at hl 1 rfl) ?_
  refine lv_ishr hx hb dX2_has_5 ?_
  refine lv_iconst (v := 1) hx hb dX2_has_6 (by decide) ?_
  refine lv_iand hx hb dX2_has_7 ?_
  refine lv_iconst (v := 1) hx hb dX2_has_8 (by decide) ?_
  refine lv_icmp_ne (tgt := 16) hx hb dX2_has_9 (by decide) (fun c_1 => ?_) (fun c_1 => ?_)
  · refine lv_iconst (v := 0) hx hb dX2_has_16 (by decide) ?_
    exact W.zret (v := 0) hx hb hr rfl (fun t9 ht hW => ⟨0, rfl, (by first | ((rw [fX2_has, if_neg c_1]); first | done | rfl) | rfl), ht⟩) (fun q h => nomatch h) dX2_has_17
  · refine lv_iconst (v := 1) hx hb dX2_has_12 (by decide) ?_
    refine lv_goto (tgt := 17) hx hb dX2_has_13 (by decide) ?_
    exact W.zret (v := 1) hx hb hr rfl (fun t9 ht hW => ⟨1, rfl, (by first | ((rw [fX2_has, if_pos c_1]); first | done | rfl) | rfl), ht⟩) (fun q h => nomatch h) dX2_has_17
theorem in_X2_is_X2 : ∀ w ∈ wsX20, w ∈ wsX2_is := by decide +kernel
def fX2_is (x : Int32) : Int32 × Int32 := if (fX2_isOne x) = 0 then (0, 1) else (1, 0)
set_option maxHeartbeats 4000000 in
set_option maxRecDepth 100000 in
theorem c_X2_is (l : Launch) (D : va_G) (q : Nat → Nat) (cq : Nat → ClassId) (sz : Nat) (T : Nat → Int32) (R : Nat → Int32) (S : Nat → Int32) (X : Nat → Int32) (n : Int32) (h : Int32) (k : Int32) (th : Int32) (a : Int32) (o : Int32) (x : Int32) : Met l yX2_is wsX2_is ({ frames := 2, cells := 0, slots := 0, locals := 42 }) (va_Pc [.ref (q 0), .int x] (fun U => U.heap.size = sz ∧ va_P D vwCl (wM q cq T R S X n h k th a o) U.heap ∧ va_K D vwCl (tyM cq) U ∧ va_D (fun _ => True) (wM q cq T R S X n h k th a o) ∧ envE (va_A (wM q cq T R S X n h k th a o) sz) U)) (va_Qi (fun r9 (_ : Unit) => r9 = (fX2_is x).1) (fun _ t9 => va_P D vwCl (wM q cq T R S X n h k ((fX2_is x).2) a o) t9.heap ∧ va_D (va_A (wM q cq T R S X n h k th a o) sz) (wM q cq T R S X n h k ((fX2_is x).2) a o)) (va_A (wM q cq T R S X n h k th a o) sz)) 0 0 (va_A (wM q cq T R S X n h k th a o) sz) := by
  refine Met.ofW (cc := cX2_is) (maxL := 2) (ret := (some .boolean)) (by decide) rfl ?_
  intro p e s m args below meth c s₁ B hml hv
  obtain ⟨rfl, hsz, hP, hK, hD0, hE⟩ := hv
  have hx := B.exec
  have hb := B.bytes
  have hr := B.returns
  have hts := atoms_spec (ws := wsX2_is) B.pre
  have hown : s.vm.findClass RX2 = some m.cls := findClass_of_methodNamed B.named
  have hlocks := B.notSynchronized
  subst hsz
  have hD := hD0.self (sz := s.heap.size)
  generalize hAe : va_A (wM q cq T R S X n h k th a o) s.heap.size = A at hD hE ⊢
  have hA : ∀ q : Nat, s.heap.size ≤ q → A q := fun q h => by rw [← hAe]; exact Or.inr h
  have hS : va_S A s.heap s.heap [] := va_S.rf
  have hP : va_P D vwCl (wM q cq T R S X n h k th a o) s.heap := hP
  have hl := lv_entry ([.ref (q 0), .int x]) (n := 2) (Nat.le_of_ble_eq_true rfl)
  rw [lg_entry_eq]
  generalize (lg_sl ([.ref (q 0), .int x]) ++ List.replicate (2 - (lg_sl ([.ref (q 0), .int x])).length) Slot.unset).toArray = ls at hl ⊢
  have hl : lv_has ls 2 [(0, .ref (q 0)), (1, .int x)] := hl
  refine lv_aload_n hx hb dX2_is_0 rfl (lv_at hl 0 rfl) ?_
  refine lv_iload_n hx hb dX2_is_1 rfl (lv_at hl 1 rfl) ?_
  refine vp_callSi (va_Run.run (va_runS (As := [.int x]) (rest := [.ref (q 0)]) ⟨hx, hb, hml, hown, hts⟩ (c_X2_isOne l x) (va_cwS 1 hts gX2_is_X2_isOne rfl rfl rfl (by decide +kernel) ⟨Nat.le_of_ble_eq_true rfl, Nat.le_of_ble_eq_true rfl⟩) ⟨fun _ _ _ _ z => z, fun _ _ _ => ⟨rfl, trivial⟩⟩ rfl rfl hl.1 rfl (lv_room (Nat.le_of_ble_eq_true rfl)) dX2_is_2 ⟨(Nat.zero_le _), (Nat.zero_le _)⟩)) (fun r9 hr => ?_)
  subst hr
  refine lv_if_eq (tgt := 12) hx hb dX2_is_5 (by decide) (fun c_1 => ?_) (fun c_1 => ?_)
  · refine lv_iconst (v := 1) hx hb dX2_is_12 (by decide) ?_
    refine va_put (D := D) (ci := 2) (v := .int 1) (ty := .int) (C := RX2) (T := TX2) (N := 10) hx hb hts in_X2_is_X2 tyX2 tyX2_ok nmX2 hown hK hP hD hS 0 rfl rfl 7 (by decide) (hts (.fieldLink RX2 27 "ZhegalkinBenchModel" "thrown" "I") (List.mem_of_getElem? (i := 1) rfl)) (fun _ h9 => h9) rfl (by decide +kernel) rfl rfl (Nat.le_of_ble_eq_true rfl) dX2_is_13 (fun H locs hP hD hS => ?_)
    have hP : va_P D vwCl (wM q cq T R S X n h k 1 a o) H := hP
    have hD : va_D A (wM q cq T R S X n h k 1 a o) := hD
    refine lv_aload_n hx hb dX2_is_16 rfl (lv_at hl 0 rfl) ?_
    refine va_get (D := D) (ci := 2) (v := .int 1) (C := RX2) (T := TX2) (N := 10) hx hb hts in_X2_is_X2 hown hK hP 0 rfl rfl 7 (by decide) (hts (.fieldLink RX2 27 "ZhegalkinBenchModel" "thrown" "I") (List.mem_of_getElem? (i := 1) rfl)) (fun _ h9 => h9) rfl dX2_is_17 ?_
    refine lv_if_ne (tgt := 27) hx hb dX2_is_20 (by decide) (fun c_2 => ?_) (fun c_2 => ?_)
    · refine lv_iconst (v := 0) hx hb dX2_is_27 (by decide) ?_
      have hq : (fX2_is x) = (0, 1) := Eq.symm (by first | ((rw [fX2_is, if_pos c_1]); first | done | rfl) | rfl)
      exact W.zret (v := 0) hx hb hr rfl (fun t9 ht hW => ⟨⟨0, (), rfl, by rw [hq], by rw [hq]; exact ⟨by rw [ht]; exact hP, hD⟩⟩, hS.F ht⟩) hS.2.2 dX2_is_28
    · exact absurd c_2 (by decide)
  · refine lv_iconst (v := 0) hx hb dX2_is_8 (by decide) ?_
    refine lv_goto (tgt := 13) hx hb dX2_is_9 (by decide) ?_
    refine va_put (D := D) (ci := 2) (v := .int 0) (ty := .int) (C := RX2) (T := TX2) (N := 10) hx hb hts in_X2_is_X2 tyX2 tyX2_ok nmX2 hown hK hP hD hS 0 rfl rfl 7 (by decide) (hts (.fieldLink RX2 27 "ZhegalkinBenchModel" "thrown" "I") (List.mem_of_getElem? (i := 1) rfl)) (fun _ h9 => h9) rfl (by decide +kernel) rfl rfl (Nat.le_of_ble_eq_true rfl) dX2_is_13 (fun H locs hP hD hS => ?_)
    have hP : va_P D vwCl (wM q cq T R S X n h k 0 a o) H := hP
    have hD : va_D A (wM q cq T R S X n h k 0 a o) := hD
    refine lv_aload_n hx hb dX2_is_16 rfl (lv_at hl 0 rfl) ?_
    refine va_get (D := D) (ci := 2) (v := .int 0) (C := RX2) (T := TX2) (N := 10) hx hb hts in_X2_is_X2 hown hK hP 0 rfl rfl 7 (by decide) (hts (.fieldLink RX2 27 "ZhegalkinBenchModel" "thrown" "I") (List.mem_of_getElem? (i := 1) rfl)) (fun _ h9 => h9) rfl dX2_is_17 ?_
    refine lv_if_ne (tgt := 27) hx hb dX2_is_20 (by decide) (fun c_3 => ?_) (fun c_3 => ?_)
    · exact absurd (by decide) c_3
    · refine lv_iconst (v := 1) hx hb dX2_is_23 (by decide) ?_
      refine lv_goto (tgt := 28) hx hb dX2_is_24 (by decide) ?_
      have hq : (fX2_is x) = (1, 0) := Eq.symm (by first | ((rw [fX2_is, if_neg c_1]); first | done | rfl) | rfl)
      exact W.zret (v := 1) hx hb hr rfl (fun t9 ht hW => ⟨⟨1, (), rfl, by rw [hq], by rw [hq]; exact ⟨by rw [ht]; exact hP, hD⟩⟩, hS.F ht⟩) hS.2.2 dX2_is_28
theorem kis {x : Int32} (h : ¬ (fX2_is x).1 = 0) : vp_in x 6 := by
  unfold fX2_is at h
  split at h
  · exact absurd rfl h
  · rename_i h1
    exact kisOne h1
