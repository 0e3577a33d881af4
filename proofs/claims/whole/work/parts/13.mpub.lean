theorem kdep {x : Int32} {c : Prop} [Decidable c] (h : (if fX2_isOne x = 0 then 1 else (if c then 1 else 0) : Int32) = 0) : vp_in x 6 := by
  by_cases h1 : fX2_isOne x = 0
  · rw [if_pos h1] at h; exact absurd h (by decide)
  · exact kisOne h1
theorem tX2_letter_nar (x : Int32) : ∀ (n i : Nat) (a : Int32), narrow .char (.int (tX2_letter_4 x n i a)) = .int (tX2_letter_4 x n i a)
  | 0, i, a => by rw [tX2_letter_4]; rfl
  | n + 1, i, a => by
    rw [tX2_letter_4]
    split
    · first | exact pk_nc _ | exact tX2_letter_nar x n _ _
    · first | exact pk_nc _ | exact tX2_letter_nar x n _ _
theorem fX2_letter_nar (x y : Int32) : narrow .char (.int (fX2_letter x y)) = .int (fX2_letter x y) := tX2_letter_nar x 4 0 y
theorem in_X2_define_X2 : ∀ w ∈ wsX20, w ∈ wsX2_define := by decide +kernel
def fX2_define (T : Nat → Int32) (R : Nat → Int32) (X : Nat → Int32) (n : Nat) (k : Nat) (a : Nat) (o : Int32) (x : Int32) : Int32 × (Nat → Int32) × (Nat → Int32) × Nat × Int32 × Nat × Int32 := if (fX2_isOne x) = 0 then ((fX2_fails 1).1, T, R, n, (fX2_fails 1).2, a, o) else (if (fX2_reads X k).1 = 0 then ((fX2_fails 2).1, T, R, n, (fX2_fails 2).2, ((fX2_reads X k).2.1), (fX2_reads X k).2.2) else ((fX2_bits ((fX2_reads X k).2.2)), (fX2_sets T R n x (fX2_turned ((fX2_reads X k).2.2))).2.1, (fX2_sets T R n x (fX2_turned ((fX2_reads X k).2.2))).2.2.1, ((fX2_sets T R n x (fX2_turned ((fX2_reads X k).2.2))).2.2.2), 0, ((fX2_reads X k).2.1), (fX2_reads X k).2.2))
set_option maxHeartbeats 4000000 in
set_option maxRecDepth 100000 in
theorem c_X2_define (l : Launch) (D : va_G) (q : Nat → Nat) (cq : Nat → ClassId) (sz : Nat) (T : Nat → Int32) (R : Nat → Int32) (S : Nat → Int32) (X : Nat → Int32) (n : Nat) (h : Int32) (k : Nat) (th : Int32) (a : Nat) (o : Int32) (x : Int32) (hn : n ≤ 4) (hk9 : k ≤ 80) : Met l yX2_define wsX2_define ({ frames := 4, cells := 0, slots := 0, locals := 93 }) (va_Pc [.ref (q 0), .int x] (fun U => U.heap.size = sz ∧ va_P D vwCl (wM q cq T R S X (nI n) h (nI k) th (nI a) o) U.heap ∧ va_K D vwCl (tyM cq) U ∧ va_D (fun _ => True) (wM q cq T R S X (nI n) h (nI k) th (nI a) o) ∧ envE (va_A (wM q cq T R S X (nI n) h (nI k) th (nI a) o) sz) U)) (va_Qi (fun r9 (_ : Unit) => r9 = (fX2_define T R X n k a o x).1) (fun _ t9 => va_P D vwCl (wM q cq ((fX2_define T R X n k a o x).2.1) ((fX2_define T R X n k a o x).2.2.1) S X (nI (fX2_define T R X n k a o x).2.2.2.1) h (nI k) ((fX2_define T R X n k a o x).2.2.2.2.1) (nI (fX2_define T R X n k a o x).2.2.2.2.2.1) ((fX2_define T R X n k a o x).2.2.2.2.2.2)) t9.heap ∧ va_D (va_A (wM q cq T R S X (nI n) h (nI k) th (nI a) o) sz) (wM q cq ((fX2_define T R X n k a o x).2.1) ((fX2_define T R X n k a o x).2.2.1) S X (nI (fX2_define T R X n k a o x).2.2.2.1) h (nI k) ((fX2_define T R X n k a o x).2.2.2.2.1) (nI (fX2_define T R X n k a o x).2.2.2.2.2.1) ((fX2_define T R X n k a o x).2.2.2.2.2.2))) (va_A (wM q cq T R S X (nI n) h (nI k) th (nI a) o) sz)) 0 0 (va_A (wM q cq T R S X (nI n) h (nI k) th (nI a) o) sz) := by
  refine Met.ofW (cc := cX2_define) (maxL := 2) (ret := (some .int)) (by decide) rfl ?_
  intro p e s m args below meth c s₁ B hml hv
  obtain ⟨rfl, hsz, hP, hK, hD0, hE⟩ := hv
  have hx := B.exec
  have hb := B.bytes
  have hr := B.returns
  have hts := atoms_spec (ws := wsX2_define) B.pre
  have hown : s.vm.findClass RX2 = some m.cls := findClass_of_methodNamed B.named
  have hlocks := B.notSynchronized
  subst hsz
  have hD := hD0.self (sz := s.heap.size)
  generalize hAe : va_A (wM q cq T R S X (nI n) h (nI k) th (nI a) o) s.heap.size = A at hD hE ⊢
  have hA : ∀ q : Nat, s.heap.size ≤ q → A q := fun q h => by rw [← hAe]; exact Or.inr h
  have hS : va_S A s.heap s.heap [] := va_S.rf
  have hP : va_P D vwCl (wM q cq T R S X (nI n) h (nI k) th (nI a) o) s.heap := hP
  have hl := lv_entry ([.ref (q 0), .int x]) (n := 2) (Nat.le_of_ble_eq_true rfl)
  rw [lg_entry_eq]
  generalize (lg_sl ([.ref (q 0), .int x]) ++ List.replicate (2 - (lg_sl ([.ref (q 0), .int x])).length) Slot.unset).toArray = ls at hl ⊢
  have hl : lv_has ls 2 [(0, .ref (q 0)), (1, .int x)] := hl
  refine lv_aload_n hx hb dX2_define_0 rfl (lv_at hl 0 rfl) ?_
  refine lv_iconst (v := 0) hx hb dX2_define_1 (by decide) ?_
  refine va_put (D := D) (ci := 2) (v := .int 0) (ty := .int) (C := RX2) (T := TX2) (N := 10) hx hb hts in_X2_define_X2 tyX2 tyX2_ok nmX2 hown hK hP hD hS 0 rfl rfl 7 (by decide) (hts (.fieldLink RX2 27 "ZhegalkinBenchModel" "thrown" "I") (List.mem_of_getElem? (i := 1) rfl)) (fun _ h9 => h9) rfl (by decide +kernel) rfl rfl (Nat.le_of_ble_eq_true rfl) dX2_define_2 (fun H locs hP hD hS => ?_)
  have hP : va_P D vwCl (wM q cq T R S X (nI n) h (nI k) 0 (nI a) o) H := hP
  have hD : va_D A (wM q cq T R S X (nI n) h (nI k) 0 (nI a) o) := hD
  refine lv_iload_n hx hb dX2_define_5 rfl (lv_at hl 1 rfl) ?_
  refine vp_callSi (va_Run.run (va_runS (As := [.int x]) (rest := []) ⟨hx, hb, hml, hown, hts⟩ (c_X2_isOne l x) (va_cwS 1 hts gX2_define_X2_isOne rfl rfl rfl (by decide +kernel) ⟨Nat.le_of_ble_eq_true rfl, Nat.le_of_ble_eq_true rfl⟩) ⟨fun _ _ _ _ z => z, fun _ _ _ => ⟨rfl, trivial⟩⟩ rfl rfl hl.1 rfl (lv_room (Nat.le_of_ble_eq_true rfl)) dX2_define_6 ⟨(Nat.zero_le _), (Nat.zero_le _)⟩)) (fun r9 hr => ?_)
  subst hr
  refine lv_if_ne (tgt := 18) hx hb dX2_define_9 (by decide) (fun c_1 => ?_) (fun c_1 => ?_)
  · have hin_x_6 : vp_in x 6 := kisOne c_1
    refine lv_aload_n hx hb dX2_define_18 rfl (lv_at hl 0 rfl) ?_
    have hPc := hP.sub (ws' := (wM q cq T R S X (nI n) h (nI k) 0 (nI a) o)) [0, 1, 2, 3, 4] rfl
    have hKc := hK.sub (tys' := (tyM cq)) [0, 1, 2, 3] rfl
    have hDc := hD.sub (ws' := (wM q cq T R S X (nI n) h (nI k) 0 (nI a) o)) [0, 1, 2, 3, 4] (by decide) rfl
    have hFc := va_free (wc := (wM q cq T R S X (nI n) h (nI k) 0 (nI a) o)) hD hS hA [0, 1, 2, 3, 4] rfl
    refine va_calli (va_runV (As := []) (rest := []) ⟨hx, hb, hml, hown, hts⟩ (c_X2_reads l D q cq H.size T R S X (nI n) h k 0 a o (by omega)) (cwV 0 hts gX2_define_X2_reads rfl rfl rfl (by decide +kernel) ⟨Nat.le_of_ble_eq_true rfl, Nat.le_of_ble_eq_true rfl⟩) ⟨fun a U g mk z => ⟨z.1, z.2.1, z.2.2.1, va_K.moved (u := U) (U := U.calling g mk a) (Vm.Alike.refl U.vm) z.2.2.2.1, z.2.2.2.2.1, z.2.2.2.2.2.blind g mk a⟩, va_recv hKc hPc (ci := 2) (q0 := 0) rfl rfl, fun U hU hW => ⟨rfl, by rw [hU], by rw [hU]; exact hPc, va_K.moved hW.alike hKc, hDc.weaken (fun _ _ _ _ => trivial), hE.at hS hU hW hFc⟩⟩ rfl rfl hl.1 rfl (lv_room (Nat.le_of_ble_eq_true rfl)) dX2_define_19 ⟨(Nat.zero_le _), (Nat.zero_le _)⟩) hS (fun q _ h => hFc q h) hFc (fun r9 u9 t8 H1 locs ht hvm hw hB hz1 hk1 hS => ?_)
    obtain ⟨hP1, hD1⟩ := hB
    rw [ht] at hP1
    obtain ⟨hP, hD⟩ := va_join (wr := []) (w1 := (wM q cq T R S X (nI n) h (nI k) 0 (nI (fX2_reads X k).2.1) ((fX2_reads X k).2.2))) hP hD [0, 1, 2, 3, 4] [] rfl rfl (by decide) (by decide) hk1 hFc hP1 hD1
    have hP := hP.sub (ws' := (wM q cq T R S X (nI n) h (nI k) 0 (nI (fX2_reads X k).2.1) ((fX2_reads X k).2.2))) [0, 1, 2, 3, 4] rfl
    have hD := hD.sub (ws' := (wM q cq T R S X (nI n) h (nI k) 0 (nI (fX2_reads X k).2.1) ((fX2_reads X k).2.2))) [0, 1, 2, 3, 4] (by decide) rfl
    generalize H1 = H at hP hS ⊢
    subst r9
    refine lv_if_ne (tgt := 31) hx hb dX2_define_22 (by decide) (fun c_2 => ?_) (fun c_2 => ?_)
    · refine lv_aload_n hx hb dX2_define_31 rfl (lv_at hl 0 rfl) ?_
      refine lv_iload_n hx hb dX2_define_32 rfl (lv_at hl 1 rfl) ?_
      refine lv_aload_n hx hb dX2_define_33 rfl (lv_at hl 0 rfl) ?_
      refine va_get (D := D) (ci := 2) (v := .int (fX2_reads X k).2.2) (C := RX2) (T := TX2) (N := 10) hx hb hts in_X2_define_X2 hown hK hP 0 rfl rfl 9 (by decide) (hts (.fieldLink RX2 62 "ZhegalkinBenchModel" "told" "I") (List.mem_of_getElem? (i := 2) rfl)) (fun _ h9 => h9) rfl dX2_define_34 ?_
      refine vp_callSi (va_Run.run (va_runS (As := [.int (fX2_reads X k).2.2]) (rest := [.int x, .ref (q 0)]) ⟨hx, hb, hml, hown, hts⟩ (c_X2_turned l ((fX2_reads X k).2.2)) (va_cwS 1 hts gX2_define_X2_turned rfl rfl rfl (by decide +kernel) ⟨Nat.le_of_ble_eq_true rfl, Nat.le_of_ble_eq_true rfl⟩) ⟨fun _ _ _ _ z => z, fun _ _ _ => ⟨rfl, trivial⟩⟩ rfl rfl hl.1 rfl (lv_room (Nat.le_of_ble_eq_true rfl)) dX2_define_37 ⟨(Nat.zero_le _), (Nat.zero_le _)⟩)) (fun r9 hr => ?_)
      subst hr
      have hPc := hP.sub (ws' := (wM q cq T R S X (nI n) h (nI k) 0 (nI (fX2_reads X k).2.1) ((fX2_reads X k).2.2))) [0, 1, 2, 3, 4] rfl
      have hKc := hK.sub (tys' := (tyM cq)) [0, 1, 2, 3] rfl
      have hDc := hD.sub (ws' := (wM q cq T R S X (nI n) h (nI k) 0 (nI (fX2_reads X k).2.1) ((fX2_reads X k).2.2))) [0, 1, 2, 3, 4] (by decide) rfl
      have hFc := va_free (wc := (wM q cq T R S X (nI n) h (nI k) 0 (nI (fX2_reads X k).2.1) ((fX2_reads X k).2.2))) hD hS hA [0, 1, 2, 3, 4] rfl
      refine va_calli (va_runV (As := [.int x, .int (fX2_turned ((fX2_reads X k).2.2))]) (rest := []) ⟨hx, hb, hml, hown, hts⟩ (c_X2_sets l D q cq H.size T R S X n h (nI k) 0 (nI (fX2_reads X k).2.1) ((fX2_reads X k).2.2) x (fX2_turned ((fX2_reads X k).2.2)) (by omega) hin_x_6) (cwV 2 hts gX2_define_X2_sets rfl rfl rfl (by decide +kernel) ⟨Nat.le_of_ble_eq_true rfl, Nat.le_of_ble_eq_true rfl⟩) ⟨fun a U g mk z => ⟨z.1, z.2.1, z.2.2.1, va_K.moved (u := U) (U := U.calling g mk a) (Vm.Alike.refl U.vm) z.2.2.2.1, z.2.2.2.2.1, z.2.2.2.2.2.blind g mk a⟩, va_recv hKc hPc (ci := 2) (q0 := 0) rfl rfl, fun U hU hW => ⟨rfl, by rw [hU], by rw [hU]; exact hPc, va_K.moved hW.alike hKc, hDc.weaken (fun _ _ _ _ => trivial), hE.at hS hU hW hFc⟩⟩ rfl rfl hl.1 rfl (lv_room (Nat.le_of_ble_eq_true rfl)) dX2_define_40 ⟨(Nat.zero_le _), (Nat.zero_le _)⟩) hS (fun q _ h => hFc q h) hFc (fun r9 u9 t8 H1 locs ht hvm hw hB hz1 hk1 hS => ?_)
      obtain ⟨hP1, hD1⟩ := hB
      rw [ht] at hP1
      obtain ⟨hP, hD⟩ := va_join (wr := []) (w1 := (wM q cq ((fX2_sets T R n x (fX2_turned ((fX2_reads X k).2.2))).2.1) ((fX2_sets T R n x (fX2_turned ((fX2_reads X k).2.2))).2.2.1) S X (nI (fX2_sets T R n x (fX2_turned ((fX2_reads X k).2.2))).2.2.2) h (nI k) 0 (nI (fX2_reads X k).2.1) ((fX2_reads X k).2.2))) hP hD [0, 1, 2, 3, 4] [] rfl rfl (by decide) (by decide) hk1 hFc hP1 hD1
      have hP := hP.sub (ws' := (wM q cq ((fX2_sets T R n x (fX2_turned ((fX2_reads X k).2.2))).2.1) ((fX2_sets T R n x (fX2_turned ((fX2_reads X k).2.2))).2.2.1) S X (nI (fX2_sets T R n x (fX2_turned ((fX2_reads X k).2.2))).2.2.2) h (nI k) 0 (nI (fX2_reads X k).2.1) ((fX2_reads X k).2.2))) [0, 1, 2, 3, 4] rfl
      have hD := hD.sub (ws' := (wM q cq ((fX2_sets T R n x (fX2_turned ((fX2_reads X k).2.2))).2.1) ((fX2_sets T R n x (fX2_turned ((fX2_reads X k).2.2))).2.2.1) S X (nI (fX2_sets T R n x (fX2_turned ((fX2_reads X k).2.2))).2.2.2) h (nI k) 0 (nI (fX2_reads X k).2.1) ((fX2_reads X k).2.2))) [0, 1, 2, 3, 4] (by decide) rfl
      generalize H1 = H at hP hS ⊢
      subst r9
      refine lv_pop hx hb dX2_define_43 rfl ?_
      refine lv_aload_n hx hb dX2_define_44 rfl (lv_at hl 0 rfl) ?_
      refine va_get (D := D) (ci := 2) (v := .int (fX2_reads X k).2.2) (C := RX2) (T := TX2) (N := 10) hx hb hts in_X2_define_X2 hown hK hP 0 rfl rfl 9 (by decide) (hts (.fieldLink RX2 62 "ZhegalkinBenchModel" "told" "I") (List.mem_of_getElem? (i := 2) rfl)) (fun _ h9 => h9) rfl dX2_define_45 ?_
      refine vp_callSi (va_Run.run (va_runS (As := [.int (fX2_reads X k).2.2]) (rest := []) ⟨hx, hb, hml, hown, hts⟩ (c_X2_bits l ((fX2_reads X k).2.2)) (va_cwS 1 hts gX2_define_X2_bits rfl rfl rfl (by decide +kernel) ⟨Nat.le_of_ble_eq_true rfl, Nat.le_of_ble_eq_true rfl⟩) ⟨fun _ _ _ _ z => z, fun _ _ _ => ⟨rfl, trivial⟩⟩ rfl rfl hl.1 rfl (lv_room (Nat.le_of_ble_eq_true rfl)) dX2_define_48 ⟨(Nat.zero_le _), (Nat.zero_le _)⟩)) (fun r9 hr => ?_)
      subst hr
      have hq : (fX2_define T R X n k a o x) = ((fX2_bits ((fX2_reads X k).2.2)), (fX2_sets T R n x (fX2_turned ((fX2_reads X k).2.2))).2.1, (fX2_sets T R n x (fX2_turned ((fX2_reads X k).2.2))).2.2.1, ((fX2_sets T R n x (fX2_turned ((fX2_reads X k).2.2))).2.2.2), 0, ((fX2_reads X k).2.1), (fX2_reads X k).2.2) := Eq.symm (by first | ((rw [fX2_define, if_neg c_1, if_neg c_2]); first | done | rfl) | rfl)
      exact W.iret (v := (fX2_bits ((fX2_reads X k).2.2))) hx hb hr (fun t9 ht hW => ⟨⟨(fX2_bits ((fX2_reads X k).2.2)), (), rfl, by rw [hq], by rw [hq]; exact ⟨by rw [ht]; exact hP, hD⟩⟩, hS.F ht⟩) hS.2.2 dX2_define_51
    · refine lv_aload_n hx hb dX2_define_25 rfl (lv_at hl 0 rfl) ?_
      refine lv_iconst (v := 2) hx hb dX2_define_26 (by decide) ?_
      have hPc := hP.sub (ws' := (wM q cq T R S X (nI n) h (nI k) 0 (nI (fX2_reads X k).2.1) ((fX2_reads X k).2.2))) [0, 1, 2, 3, 4] rfl
      have hKc := hK.sub (tys' := (tyM cq)) [0, 1, 2, 3] rfl
      have hDc := hD.sub (ws' := (wM q cq T R S X (nI n) h (nI k) 0 (nI (fX2_reads X k).2.1) ((fX2_reads X k).2.2))) [0, 1, 2, 3, 4] (by decide) rfl
      have hFc := va_free (wc := (wM q cq T R S X (nI n) h (nI k) 0 (nI (fX2_reads X k).2.1) ((fX2_reads X k).2.2))) hD hS hA [0, 1, 2, 3, 4] rfl
      refine va_calli (va_runV (As := [.int 2]) (rest := []) ⟨hx, hb, hml, hown, hts⟩ (c_X2_fails l D q cq H.size T R S X (nI n) h (nI k) 0 (nI (fX2_reads X k).2.1) ((fX2_reads X k).2.2) 2) (cwV 1 hts gX2_define_X2_fails rfl rfl rfl (by decide +kernel) ⟨Nat.le_of_ble_eq_true rfl, Nat.le_of_ble_eq_true rfl⟩) ⟨fun a U g mk z => ⟨z.1, z.2.1, z.2.2.1, va_K.moved (u := U) (U := U.calling g mk a) (Vm.Alike.refl U.vm) z.2.2.2.1, z.2.2.2.2.1, z.2.2.2.2.2.blind g mk a⟩, va_recv hKc hPc (ci := 2) (q0 := 0) rfl rfl, fun U hU hW => ⟨rfl, by rw [hU], by rw [hU]; exact hPc, va_K.moved hW.alike hKc, hDc.weaken (fun _ _ _ _ => trivial), hE.at hS hU hW hFc⟩⟩ rfl rfl hl.1 rfl (lv_room (Nat.le_of_ble_eq_true rfl)) dX2_define_27 ⟨(Nat.zero_le _), (Nat.zero_le _)⟩) hS (fun q _ h => hFc q h) hFc (fun r9 u9 t8 H1 locs ht hvm hw hB hz1 hk1 hS => ?_)
      obtain ⟨hP1, hD1⟩ := hB
      rw [ht] at hP1
      obtain ⟨hP, hD⟩ := va_join (wr := []) (w1 := (wM q cq T R S X (nI n) h (nI k) ((fX2_fails 2).2) (nI (fX2_reads X k).2.1) ((fX2_reads X k).2.2))) hP hD [0, 1, 2, 3, 4] [] rfl rfl (by decide) (by decide) hk1 hFc hP1 hD1
      have hP := hP.sub (ws' := (wM q cq T R S X (nI n) h (nI k) ((fX2_fails 2).2) (nI (fX2_reads X k).2.1) ((fX2_reads X k).2.2))) [0, 1, 2, 3, 4] rfl
      have hD := hD.sub (ws' := (wM q cq T R S X (nI n) h (nI k) ((fX2_fails 2).2) (nI (fX2_reads X k).2.1) ((fX2_reads X k).2.2))) [0, 1, 2, 3, 4] (by decide) rfl
      generalize H1 = H at hP hS ⊢
      subst r9
      have hq : (fX2_define T R X n k a o x) = ((fX2_fails 2).1, T, R, n, (fX2_fails 2).2, ((fX2_reads X k).2.1), (fX2_reads X k).2.2) := Eq.symm (by first | ((rw [fX2_define, if_neg c_1, if_pos c_2]); first | done | rfl) | rfl)
      exact W.iret (v := (fX2_fails 2).1) hx hb hr (fun t9 ht hW => ⟨⟨(fX2_fails 2).1, (), rfl, by rw [hq], by rw [hq]; exact ⟨by rw [ht]; exact hP, hD⟩⟩, hS.F ht⟩) hS.2.2 dX2_define_30
  · refine lv_aload_n hx hb dX2_define_12 rfl (lv_at hl 0 rfl) ?_
    refine lv_iconst (v := 1) hx hb dX2_define_13 (by decide) ?_
    have hPc := hP.sub (ws' := (wM q cq T R S X (nI n) h (nI k) 0 (nI a) o)) [0, 1, 2, 3, 4] rfl
    have hKc := hK.sub (tys' := (tyM cq)) [0, 1, 2, 3] rfl
    have hDc := hD.sub (ws' := (wM q cq T R S X (nI n) h (nI k) 0 (nI a) o)) [0, 1, 2, 3, 4] (by decide) rfl
    have hFc := va_free (wc := (wM q cq T R S X (nI n) h (nI k) 0 (nI a) o)) hD hS hA [0, 1, 2, 3, 4] rfl
    refine va_calli (va_runV (As := [.int 1]) (rest := []) ⟨hx, hb, hml, hown, hts⟩ (c_X2_fails l D q cq H.size T R S X (nI n) h (nI k) 0 (nI a) o 1) (cwV 1 hts gX2_define_X2_fails rfl rfl rfl (by decide +kernel) ⟨Nat.le_of_ble_eq_true rfl, Nat.le_of_ble_eq_true rfl⟩) ⟨fun a U g mk z => ⟨z.1, z.2.1, z.2.2.1, va_K.moved (u := U) (U := U.calling g mk a) (Vm.Alike.refl U.vm) z.2.2.2.1, z.2.2.2.2.1, z.2.2.2.2.2.blind g mk a⟩, va_recv hKc hPc (ci := 2) (q0 := 0) rfl rfl, fun U hU hW => ⟨rfl, by rw [hU], by rw [hU]; exact hPc, va_K.moved hW.alike hKc, hDc.weaken (fun _ _ _ _ => trivial), hE.at hS hU hW hFc⟩⟩ rfl rfl hl.1 rfl (lv_room (Nat.le_of_ble_eq_true rfl)) dX2_define_14 ⟨(Nat.zero_le _), (Nat.zero_le _)⟩) hS (fun q _ h => hFc q h) hFc (fun r9 u9 t8 H1 locs ht hvm hw hB hz1 hk1 hS => ?_)
    obtain ⟨hP1, hD1⟩ := hB
    rw [ht] at hP1
    obtain ⟨hP, hD⟩ := va_join (wr := []) (w1 := (wM q cq T R S X (nI n) h (nI k) ((fX2_fails 1).2) (nI a) o)) hP hD [0, 1, 2, 3, 4] [] rfl rfl (by decide) (by decide) hk1 hFc hP1 hD1
    have hP := hP.sub (ws' := (wM q cq T R S X (nI n) h (nI k) ((fX2_fails 1).2) (nI a) o)) [0, 1, 2, 3, 4] rfl
    have hD := hD.sub (ws' := (wM q cq T R S X (nI n) h (nI k) ((fX2_fails 1).2) (nI a) o)) [0, 1, 2, 3, 4] (by decide) rfl
    generalize H1 = H at hP hS ⊢
    subst r9
    have hq : (fX2_define T R X n k a o x) = ((fX2_fails 1).1, T, R, n, (fX2_fails 1).2, a, o) := Eq.symm (by first | ((rw [fX2_define, if_pos c_1]); first | done | rfl) | rfl)
    exact W.iret (v := (fX2_fails 1).1) hx hb hr (fun t9 ht hW => ⟨⟨(fX2_fails 1).1, (), rfl, by rw [hq], by rw [hq]; exact ⟨by rw [ht]; exact hP, hD⟩⟩, hS.F ht⟩) hS.2.2 dX2_define_17
