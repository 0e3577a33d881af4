theorem kdep {x : Int32} {c : Prop} [Decidable c] (h : (if fX2_isOne x = 0 then 1 else (if c then 1 else 0) : Int32) = 0) : vp_in x 6 := by
  by_cases h1 : fX2_isOne x = 0
  · rw [if_pos h1] at h; exact absurd h (by decide)
  · exact kisOne h1
theorem tX2_letter_nar (x : Int32) : ∀ (n i : Nat) (a : Int32), narrow .char (.int (tX2_letter_4 x n i a)) = .int (tX2_letter_4 x n i a)
  | 0, i, a => by rw [tX2_letter_4]; rfl
  | n + 1, i, a => by
    rw [tX2_letter_4]
    split
    · first | exact pk_nc _ | exact tX2_letter_nar x n _ _
    · first | exact pk_nc _ | exact tX2_letter_nar x n _ _
theorem fX2_letter_nar (x y : Int32) : narrow .char (.int (fX2_letter x y)) = .int (fX2_letter x y) := tX2_letter_nar x 4 0 y
theorem in_X2_define_X2 : ∀ w ∈ wsX20, w ∈ wsX2_define := by decide +kernel
def fX2_define (T : Nat → Int32) (R : Nat → Int32) (X : Nat → Int32) (n : Nat) (k : Nat) (a : Nat) (o : Int32) (x : Int32) : Int32 × (Nat → Int32) × (Nat → Int32) × Nat × Int32 × Nat × Int32 := if (fX2_isOne x) = 0 then ((fX2_fails 1).1, T, R, n, (fX2_fails 1).2, a, o) else (if (fX2_reads X k).1 = 0 then ((fX2_fails 2).1, T, R, n, (fX2_fails 2).2, ((fX2_reads X k).2.1), (fX2_reads X k).2.2) else ((fX2_bits ((fX2_reads X k).2.2)), (fX2_sets T R n x (fX2_turned ((fX2_reads X k).2.2))).2.1, (fX2_sets T R n x (fX2_turned ((fX2_reads X k).2.2))).2.2.1, ((fX2_sets T R n x (fX2_turned ((fX2_reads X k).2.2))).2.2.2), 0, ((fX2_reads X k).2.1), (fX2_reads X k).2.2))
set_option maxHeartbeats 4000000 in
set_option maxRecDepth 100000 in
theorem c_X2_define (l : Launch) (D : va_G) (q : Nat → Nat) (cq : Nat → ClassId) (sz : Nat) (T : Nat → Int32) (R : Nat → Int32) (S : Nat → Int32) (X : Nat → Int32) (n : Nat) (h : Int32) (k : Nat) (th : Int32) (a : Nat) (o : Int32) (x : Int32) (hn : n ≤ 4) (hk9 : k ≤ 80) : Met l yX2_define wsX2_define ({ frames := 4, cells := 0, slots := 0, locals := 93 }) (va_Pc [.ref (q 0), .int x] (fun U => U.heap.size = sz ∧ va_P D vwCl (wM q cq T R S X (nI n) h (nI k) th (nI a) o) U.heap ∧ va_K D vwCl (tyM cq) U ∧ va_D (fun _ => True) (wM q cq T R S X (nI n) h (nI k) th (nI a) o) ∧ envE (va_A (wM q cq T R S X (nI n) h (nI k) th (nI a) o) sz) U)) (va_Qi (fun r9 (_ : Unit) => r9 = (fX2_define T R X n k a o x).1) (fun _ t9 => va_P D vwCl (wM q cq ((fX2_define T R X n k a o x).2.1) ((fX2_define T R X n k a o x).2.2.1) S X (nI (fX2_define T R X n k a o x).2.2.2.1) h (nI k) ((fX2_define T R X n k a o x).2.2.2.2.1) (nI (fX2_define T R X n k a o x).2.2.2.2.2.1) ((fX2_define T R X n k a o x).2.2.2.2.2.2)) t9.heap ∧ va_D (va_A (wM q cq T R S X (nI n) h (nI k) th (nI a) o) sz) (wM q cq ((fX2_define T R X n k a o x).2.1) ((fX2_define T R X n k a o x).2.2.1) S X (nI (fX2_define T R X n k a o x).2.2.2.1) h (nI k) ((fX2_define T R X n k a o x).2.2.2.2.1) (nI (fX2_define T R X n k a o x).2.2.2.2.2.1) ((fX2_define T R X n k a o x).2.2.2.2.2.2))) (va_A (wM q cq T R S X (nI n) h (nI k) th (nI a) o) sz)) 0 0 (va_A (wM q cq T R S X (nI n) h (nI k) th (nI a) o) sz) := by
  refine Met.ofW (cc := cX2_define) (maxL := 2) (ret := (some .int)) (by decide) rfl ?_
  intro p e s m args below meth c s₁ B hml hv
  obtain ⟨rfl, hsz, hP, hK, hD0, hE⟩ := hv
  have hx := B.exec
  have hb := B.bytes
  have hr := B.returns
  have hts := atoms_spec (ws := wsX2_define) B.pre
  have hown : s.vm.findClass RX2 = some m.cls := findClass_of_methodNamed B.named
  have hlocks := B.notSynchronized
  subst hsz
  have hD := hD0.self (sz := s.heap.size)
  generalize hAe : va_A (wM q cq T R S X (nI n) h (nI k) th (nI a) o) s.heap.size = A at hD hE ⊢
  have hA : ∀ q : Nat, s.heap.size ≤ q → A q := fun q h => by rw [← hAe]; exact Or.inr h
  have hS : va_S A s.heap s.heap [] := va_S.rf
  have hP : va_P D vwCl (wM q cq T R S X (nI n) h (nI k) th (nI a) o) s.heap := hP
  have hl := lv_entry ([.ref (q 0), .int x]) (n := 2) (Nat.le_of_ble_eq_true rfl)
  rw [lg_entry_eq]
  generalize (lg_sl ([.ref (q 0), .int x]) ++ List.replicate (2 - (lg_sl ([.ref (q 0), .int x])).length) Slot.unset).toArray = ls at hl ⊢
  have hl : lv_has ls 2 [(0, .ref (q 0)), (1, .int x)] := hl
  refine lv_aload_n hx hb dX2_define_0 rfl (lv_at hl 0 rfl) ?_
  refine lv_iconst (v := 0) hx hb dX2_define_1 (by decide) ?_
  refine va_put (D := D) (ci := 2) (v := .int 0) (ty := .int) (C := RX2) (T := TX2) (N := 10) hx hb hts in_X2_define_X2 tyX2 tyX2_ok nmX2 hown hK hP hD hS 0 rfl rfl 7 (by decide) (hts (.fieldLink RX2 27 "ZhegalkinBenchModel" "thrown" "I") (List.mem_of_getElem? (i := 1) rfl)) (fun _ h9 => h9) rfl (by decide +kernel) rfl rfl (Nat.le_of_ble_eq_true rfl) dX2_define_2 (fun H locs hP hD hS => ?_)
  have hP : va_P D vwCl (wM q cq T R S X (nI n) h (nI k) 0 (nI a) o) H := hP
  have hD : va_D A (wM q cq T R S X (nI n) h (nI k) 0 (nI a) o) := hD
  refine lv_iload_n hx hb dX2_define_5 rfl (lv_at hl 1 rfl) ?_
  refine vp_callSi (va_Run.run (va_runS (As := [.int x]) (rest := []) ⟨hx, hb, hml, hown, hts⟩ (c_X2_isOne l x) (va_cwS 1 hts gX2_define_X2_isOne rfl rfl rfl (by decide +kernel) ⟨Nat.le_of_ble_eq_true rfl, Nat.le_of_ble_eq_true rfl⟩) ⟨fun _ _ _ _ z => z, fun _ _ _ => ⟨rfl, trivial⟩⟩ rfl rfl hl.1 rfl (lv_room (Nat.le_of_ble_eq_true rfl)) dX2_define_6 ⟨(Nat.zero_le _), (Nat.zero_le _)⟩)) (fun r9 hr => ?_)
  subst r9
  refine lv_if_ne (tgt := 18) hx hb dX2_define_9 (by decide) (fun c_1 => ?_) (fun c_1 => ?_)
  · have hin_x_6 : vp_in x 6 := kisOne c_1
    refine lv_aload_n hx hb dX2_define_18 rfl (lv_at hl 0 rfl) ?_
    have hPc := hP.sub (ws' := (wM q cq T R S X (nI n) h (nI k) 0 (nI a) o)) [0, 1, 2, 3, 4] rfl
    have hKc := hK.sub (tys' := (tyM cq)) [0, 1, 2, 3] rfl
    have hDc := hD.sub (ws' := (wM q cq T R S X (nI n) h (nI k) 0 (nI a) o)) [0, 1, 2, 3, 4] (by decide) rfl
    have hFc := va_free (wc := (wM q cq T R S X (nI n) h (nI k) 0 (nI a) o)) hD hS hA [0, 1, 2, 3, 4] rfl
    refine va_calli (va_runV (As := []) (rest := []) ⟨hx, hb, hml, hown, hts⟩ (c_X2_reads l D q cq H.size T R S X (nI n) h k 0 a o (by omega)) (cwV 0 hts gX2_define_X2_reads rfl rfl rfl (by decide +kernel) ⟨Nat.le_of_ble_eq_true rfl, Nat.le_of_ble_eq_true rfl⟩) ⟨fun a U g mk z => ⟨z.1, z.2.1, z.2.2.1, va_K.moved (u := U) (U := U.calling g mk a) (Vm.Alike.refl U.vm) z.2.2.2.1, z.2.2.2.2.1, z.2.2.2.2.2.blind g mk a⟩, va_recv hKc hPc (ci := 2) (q0 := 0) rfl rfl, fun U hU hW => ⟨rfl, by rw [hU], by rw [hU]; exact hPc, va_K.moved hW.alike hKc, hDc.weaken (fun _ _ _ _ => trivial), hE.at hS hU hW hFc⟩⟩ rfl rfl hl.1 rfl (lv_room (Nat.le_of_ble_eq_true rfl)) dX2_define_19 ⟨(Nat.zero_le _), (Nat.zero_le _)⟩) hS (fun q _ h => hFc q h) hFc (fun r9 u9 t8 H1 locs ht hvm hw hB hz1 hk1 hS => ?_)
    obtain ⟨hP1, hD1⟩ := hB
    rw [ht] at hP1
    obtain ⟨hP, hD⟩ := va_join (wr := []) (w1 := (wM q cq T R S X (nI n) h (nI k) 0 (nI (fX2_reads X k).2.1) ((fX2_reads X k).2.2))) hP hD [0, 1, 2, 3, 4] [] rfl rfl (by decide) (by decide) hk1 hFc hP1 hD1
    have hP := hP.sub (ws' := (wM q cq T R S X (nI n) h (nI k) 0 (nI (fX2_reads X k).2.1) ((fX2_reads X k).2.2))) [0, 1, 2, 3, 4] rfl
    have hD := hD.sub (ws' := (wM q cq T R S X (nI n) h (nI k) 0 (nI (fX2_reads X k).2.1) ((fX2_reads X k).2.2))) [0, 1, 2, 3, 4] (by decide) rfl
    generalize H1 = H at hP hS ⊢
    subst r9
    refine lv_if_ne (tgt := 31) hx hb dX2_define_22 (by decide) (fun c_2 => ?_) (fun c_2 => ?_)
    · refine lv_aload_n hx hb dX2_define_31 rfl (lv_at hl 0 rfl) ?_
      refine lv_iload_n hx hb dX2_define_32 rfl (lv_at hl 1 rfl) ?_
      refine lv_aload_n hx hb dX2_define_33 rfl (lv_at hl 0 rfl) ?_
      refine va_get (D := D) (ci := 2) (v := .int (fX2_reads X k).2.2) (C := RX2) (T := TX2) (N := 10) hx hb hts in_X2_define_X2 hown hK hP 0 rfl rfl 9 (by decide) (hts (.fieldLink RX2 62 "ZhegalkinBenchModel" "told" "I") (List.mem_of_getElem? (i := 2) rfl)) (fun _ h9 => h9) rfl dX2_define_34 ?_
      refine vp_callSi (va_Run.run (va_runS (As := [.int (fX2_reads X k).2.2]) (rest := [.int x, .ref (q 0)]) ⟨hx, hb, hml, hown, hts⟩ (c_X2_turned l ((fX2_reads X k).2.2)) (va_cwS 1 hts gX2_define_X2_turned rfl rfl rfl (by decide +kernel) ⟨Nat.le_of_ble_eq_true rfl, Nat.le_of_ble_eq_true rfl⟩) ⟨fun _ _ _ _ z => z, fun _ _ _ => ⟨rfl, trivial⟩⟩ rfl rfl hl.1 rfl (lv_room (Nat.le_of_ble_eq_true rfl)) dX2_define_37 ⟨(Nat.zero_le _), (Nat.zero_le _)⟩)) (fun r9 hr => ?_)
      subst r9
      have hPc := hP.sub (ws' := (wM q cq T R S X (nI n) h (nI k) 0 (nI (fX2_reads X k).2.1) ((fX2_reads X k).2.2))) [0, 1, 2, 3, 4] rfl
      have hKc := hK.sub (tys' := (tyM cq)) [0, 1, 2, 3] rfl
      have hDc := hD.sub (ws' := (wM q cq T R S X (nI n) h (nI k) 0 (nI (fX2_reads X k).2.1) ((fX2_reads X k).2.2))) [0, 1, 2, 3, 4] (by decide) rfl
      have hFc := va_free (wc := (wM q cq T R S X (nI n) h (nI k) 0 (nI (fX2_reads X k).2.1) ((fX2_reads X k).2.2))) hD hS hA [0, 1, 2, 3, 4] rfl
      refine va_calli (va_runV (As := [.int x, .int (fX2_turned ((fX2_reads X k).2.2))]) (rest := []) ⟨hx, hb, hml, hown, hts⟩ (c_X2_sets l D q cq H.size T R S X n h (nI k) 0 (nI (fX2_reads X k).2.1) ((fX2_reads X k).2.2) x (fX2_turned ((fX2_reads X k).2.2)) (by omega) hin_x_6) (cwV 2 hts gX2_define_X2_sets rfl rfl rfl (by decide +kernel) ⟨Nat.le_of_ble_eq_true rfl, Nat.le_of_ble_eq_true rfl⟩) ⟨fun a U g mk z => ⟨z.1, z.2.1, z.2.2.1, va_K.moved (u := U) (U := U.calling g mk a) (Vm.Alike.refl U.vm) z.2.2.2.1, z.2.2.2.2.1, z.2.2.2.2.2.blind g mk a⟩, va_recv hKc hPc (ci := 2) (q0 := 0) rfl rfl, fun U hU hW => ⟨rfl, by rw [hU], by rw [hU]; exact hPc, va_K.moved hW.alike hKc, hDc.weaken (fun _ _ _ _ => trivial), hE.at hS hU hW hFc⟩⟩ rfl rfl hl.1 rfl (lv_room (Nat.le_of_ble_eq_true rfl)) dX2_define_40 ⟨(Nat.zero_le _), (Nat.zero_le _)⟩) hS (fun q _ h => hFc q h) hFc (fun r9 u9 t8 H1 locs ht hvm hw hB hz1 hk1 hS => ?_)
      obtain ⟨hP1, hD1⟩ := hB
      rw [ht] at hP1
      obtain ⟨hP, hD⟩ := va_join (wr := []) (w1 := (wM q cq ((fX2_sets T R n x (fX2_turned ((fX2_reads X k).2.2))).2.1) ((fX2_sets T R n x (fX2_turned ((fX2_reads X k).2.2))).2.2.1) S X (nI (fX2_sets T R n x (fX2_turned ((fX2_reads X k).2.2))).2.2.2) h (nI k) 0 (nI (fX2_reads X k).2.1) ((fX2_reads X k).2.2))) hP hD [0, 1, 2, 3, 4] [] rfl rfl (by decide) (by decide) hk1 hFc hP1 hD1
      have hP := hP.sub (ws' := (wM q cq ((fX2_sets T R n x (fX2_turned ((fX2_reads X k).2.2))).2.1) ((fX2_sets T R n x (fX2_turned ((fX2_reads X k).2.2))).2.2.1) S X (nI (fX2_sets T R n x (fX2_turned ((fX2_reads X k).2.2))).2.2.2) h (nI k) 0 (nI (fX2_reads X k).2.1) ((fX2_reads X k).2.2))) [0, 1, 2, 3, 4] rfl
      have hD := hD.sub (ws' := (wM q cq ((fX2_sets T R n x (fX2_turned ((fX2_reads X k).2.2))).2.1) ((fX2_sets T R n x (fX2_turned ((fX2_reads X k).2.2))).2.2.1) S X (nI (fX2_sets T R n x (fX2_turned ((fX2_reads X k).2.2))).2.2.2) h (nI k) 0 (nI (fX2_reads X k).2.1) ((fX2_reads X k).2.2))) [0, 1, 2, 3, 4] (by decide) rfl
      generalize H1 = H at hP hS ⊢
      subst r9
      refine lv_pop hx hb dX2_define_43 rfl ?_
      refine lv_aload_n hx hb dX2_define_44 rfl (lv_at hl 0 rfl) ?_
      refine va_get (D := D) (ci := 2) (v := .int (fX2_reads X k).2.2) (C := RX2) (T := TX2) (N := 10) hx hb hts in_X2_define_X2 hown hK hP 0 rfl rfl 9 (by decide) (hts (.fieldLink RX2 62 "ZhegalkinBenchModel" "told" "I") (List.mem_of_getElem? (i := 2) rfl)) (fun _ h9 => h9) rfl dX2_define_45 ?_
      refine vp_callSi (va_Run.run (va_runS (As := [.int (fX2_reads X k).2.2]) (rest := []) ⟨hx, hb, hml, hown, hts⟩ (c_X2_bits l ((fX2_reads X k).2.2)) (va_cwS 1 hts gX2_define_X2_bits rfl rfl rfl (by decide +kernel) ⟨Nat.le_of_ble_eq_true rfl, Nat.le_of_ble_eq_true rfl⟩) ⟨fun _ _ _ _ z => z, fun _ _ _ => ⟨rfl, trivial⟩⟩ rfl rfl hl.1 rfl (lv_room (Nat.le_of_ble_eq_true rfl)) dX2_define_48 ⟨(Nat.zero_le _), (Nat.zero_le _)⟩)) (fun r9 hr => ?_)
      subst r9
      have hq : (fX2_define T R X n k a o x) = ((fX2_bits ((fX2_reads X k).2.2)), (fX2_sets T R n x (fX2_turned ((fX2_reads X k).2.2))).2.1, (fX2_sets T R n x (fX2_turned ((fX2_reads X k).2.2))).2.2.1, ((fX2_sets T R n x (fX2_turned ((fX2_reads X k).2.2))).2.2.2), 0, ((fX2_reads X k).2.1), (fX2_reads X k).2.2) := Eq.symm (by first | ((rw [fX2_define, if_neg c_1, if_neg c_2]); first | done | rfl) | rfl)
      exact W.iret (v := (fX2_bits ((fX2_reads X k).2.2))) hx hb hr (fun t9 ht hW => ⟨⟨(fX2_bits ((fX2_reads X k).2.2)), (), rfl, by rw [hq], by rw [hq]; exact ⟨by rw [ht]; exact hP, hD⟩⟩, hS.F ht⟩) hS.2.2 dX2_define_51
    · refine lv_aload_n hx hb dX2_define_25 rfl (lv_at hl 0 rfl) ?_
      refine lv_iconst (v := 2) hx hb dX2_define_26 (by decide) ?_
      have hPc := hP.sub (ws' := (wM q cq T R S X (nI n) h (nI k) 0 (nI (fX2_reads X k).2.1) ((fX2_reads X k).2.2))) [0, 1, 2, 3, 4] rfl
      have hKc := hK.sub (tys' := (tyM cq)) [0, 1, 2, 3] rfl
      have hDc := hD.sub (ws' := (wM q cq T R S X (nI n) h (nI k) 0 (nI (fX2_reads X k).2.1) ((fX2_reads X k).2.2))) [0, 1, 2, 3, 4] (by decide) rfl
      have hFc := va_free (wc := (wM q cq T R S X (nI n) h (nI k) 0 (nI (fX2_reads X k).2.1) ((fX2_reads X k).2.2))) hD hS hA [0, 1, 2, 3, 4] rfl
      refine va_calli (va_runV (As := [.int 2]) (rest := []) ⟨hx, hb, hml, hown, hts⟩ (c_X2_fails l D q cq H.size T R S X (nI n) h (nI k) 0 (nI (fX2_reads X k).2.1) ((fX2_reads X k).2.2) 2) (cwV 1 hts gX2_define_X2_fails rfl rfl rfl (by decide +kernel) ⟨Nat.le_of_ble_eq_true rfl, Nat.le_of_ble_eq_true rfl⟩) ⟨fun a U g mk z => ⟨z.1, z.2.1, z.2.2.1, va_K.moved (u := U) (U := U.calling g mk a) (Vm.Alike.refl U.vm) z.2.2.2.1, z.2.2.2.2.1, z.2.2.2.2.2.blind g mk a⟩, va_recv hKc hPc (ci := 2) (q0 := 0) rfl rfl, fun U hU hW => ⟨rfl, by rw [hU], by rw [hU]; exact hPc, va_K.moved hW.alike hKc, hDc.weaken (fun _ _ _ _ => trivial), hE.at hS hU hW hFc⟩⟩ rfl rfl hl.1 rfl (lv_room (Nat.le_of_ble_eq_true rfl)) dX2_define_27 ⟨(Nat.zero_le _), (Nat.zero_le _)⟩) hS (fun q _ h => hFc q h) hFc (fun r9 u9 t8 H1 locs ht hvm hw hB hz1 hk1 hS => ?_)
      obtain ⟨hP1, hD1⟩ := hB
      rw [ht] at hP1
      obtain ⟨hP, hD⟩ := va_join (wr := []) (w1 := (wM q cq T R S X (nI n) h (nI k) ((fX2_fails 2).2) (nI (fX2_reads X k).2.1) ((fX2_reads X k).2.2))) hP hD [0, 1, 2, 3, 4] [] rfl rfl (by decide) (by decide) hk1 hFc hP1 hD1
      have hP := hP.sub (ws' := (wM q cq T R S X (nI n) h (nI k) ((fX2_fails 2).2) (nI (fX2_reads X k).2.1) ((fX2_reads X k).2.2))) [0, 1, 2, 3, 4] rfl
      have hD := hD.sub (ws' := (wM q cq T R S X (nI n) h (nI k) ((fX2_fails 2).2) (nI (fX2_reads X k).2.1) ((fX2_reads X k).2.2))) [0, 1, 2, 3, 4] (by decide) rfl
      generalize H1 = H at hP hS ⊢
      subst r9
      have hq : (fX2_define T R X n k a o x) = ((fX2_fails 2).1, T, R, n, (fX2_fails 2).2, ((fX2_reads X k).2.1), (fX2_reads X k).2.2) := Eq.symm (by first | ((rw [fX2_define, if_neg c_1, if_pos c_2]); first | done | rfl) | rfl)
      exact W.iret (v := (fX2_fails 2).1) hx hb hr (fun t9 ht hW => ⟨⟨(fX2_fails 2).1, (), rfl, by rw [hq], by rw [hq]; exact ⟨by rw [ht]; exact hP, hD⟩⟩, hS.F ht⟩) hS.2.2 dX2_define_30
  · refine lv_aload_n hx hb dX2_define_12 rfl (lv_at hl 0 rfl) ?_
    refine lv_iconst (v := 1) hx hb dX2_define_13 (by decide) ?_
    have hPc := hP.sub (ws' := (wM q cq T R S X (nI n) h (nI k) 0 (nI a) o)) [0, 1, 2, 3, 4] rfl
    have hKc := hK.sub (tys' := (tyM cq)) [0, 1, 2, 3] rfl
    have hDc := hD.sub (ws' := (wM q cq T R S X (nI n) h (nI k) 0 (nI a) o)) [0, 1, 2, 3, 4] (by decide) rfl
    have hFc := va_free (wc := (wM q cq T R S X (nI n) h (nI k) 0 (nI a) o)) hD hS hA [0, 1, 2, 3, 4] rfl
    refine va_calli (va_runV (As := [.int 1]) (rest := []) ⟨hx, hb, hml, hown, hts⟩ (c_X2_fails l D q cq H.size T R S X (nI n) h (nI k) 0 (nI a) o 1) (cwV 1 hts gX2_define_X2_fails rfl rfl rfl (by decide +kernel) ⟨Nat.le_of_ble_eq_true rfl, Nat.le_of_ble_eq_true rfl⟩) ⟨fun a U g mk z => ⟨z.1, z.2.1, z.2.2.1, va_K.moved (u := U) (U := U.calling g mk a) (Vm.Alike.refl U.vm) z.2.2.2.1, z.2.2.2.2.1, z.2.2.2.2.2.blind g mk a⟩, va_recv hKc hPc (ci := 2) (q0 := 0) rfl rfl, fun U hU hW => ⟨rfl, by rw [hU], by rw [hU]; exact hPc, va_K.moved hW.alike hKc, hDc.weaken (fun _ _ _ _ => trivial), hE.at hS hU hW hFc⟩⟩ rfl rfl hl.1 rfl (lv_room (Nat.le_of_ble_eq_true rfl)) dX2_define_14 ⟨(Nat.zero_le _), (Nat.zero_le _)⟩) hS (fun q _ h => hFc q h) hFc (fun r9 u9 t8 H1 locs ht hvm hw hB hz1 hk1 hS => ?_)
    obtain ⟨hP1, hD1⟩ := hB
    rw [ht] at hP1
    obtain ⟨hP, hD⟩ := va_join (wr := []) (w1 := (wM q cq T R S X (nI n) h (nI k) ((fX2_fails 1).2) (nI a) o)) hP hD [0, 1, 2, 3, 4] [] rfl rfl (by decide) (by decide) hk1 hFc hP1 hD1
    have hP := hP.sub (ws' := (wM q cq T R S X (nI n) h (nI k) ((fX2_fails 1).2) (nI a) o)) [0, 1, 2, 3, 4] rfl
    have hD := hD.sub (ws' := (wM q cq T R S X (nI n) h (nI k) ((fX2_fails 1).2) (nI a) o)) [0, 1, 2, 3, 4] (by decide) rfl
    generalize H1 = H at hP hS ⊢
    subst r9
    have hq : (fX2_define T R X n k a o x) = ((fX2_fails 1).1, T, R, n, (fX2_fails 1).2, a, o) := Eq.symm (by first | ((rw [fX2_define, if_pos c_1]); first | done | rfl) | rfl)
    exact W.iret (v := (fX2_fails 1).1) hx hb hr (fun t9 ht hW => ⟨⟨(fX2_fails 1).1, (), rfl, by rw [hq], by rw [hq]; exact ⟨by rw [ht]; exact hP, hD⟩⟩, hS.F ht⟩) hS.2.2 dX2_define_17
theorem in_X2_setTable_X2 : ∀ w ∈ wsX20, w ∈ wsX2_setTable := by decide +kernel
def fX2_setTable (T : Nat → Int32) (R : Nat → Int32) (n : Nat) (x : Int32) (x2 : Int32) : Int32 × (Nat → Int32) × (Nat → Int32) × Nat × Int32 := if (fX2_isOne x) = 0 then ((fX2_fails 1).1, T, R, n, (fX2_fails 1).2) else (if (fX2_in x2 0 65535) = 0 then ((fX2_fails 2).1, T, R, n, (fX2_fails 2).2) else ((T x.toNatClampNeg), (fX2_sets T R n x x2).2.1, (fX2_sets T R n x x2).2.2.1, ((fX2_sets T R n x x2).2.2.2), 0))
set_option maxHeartbeats 4000000 in
set_option maxRecDepth 100000 in
theorem c_X2_setTable (l : Launch) (D : va_G) (q : Nat → Nat) (cq : Nat → ClassId) (sz : Nat) (T : Nat → Int32) (R : Nat → Int32) (S : Nat → Int32) (X : Nat → Int32) (n : Nat) (h : Int32) (k : Int32) (th : Int32) (a : Int32) (o : Int32) (x : Int32) (x2 : Int32) (hn : n ≤ 4) : Met l yX2_setTable wsX2_setTable ({ frames := 3, cells := 0, slots := 0, locals := 67 }) (va_Pc [.ref (q 0), .int x, .int x2] (fun U => U.heap.size = sz ∧ va_P D vwCl (wM q cq T R S X (nI n) h k th a o) U.heap ∧ va_K D vwCl (tyM cq) U ∧ va_D (fun _ => True) (wM q cq T R S X (nI n) h k th a o) ∧ envE (va_A (wM q cq T R S X (nI n) h k th a o) sz) U)) (va_Qi (fun r9 (_ : Unit) => r9 = (fX2_setTable T R n x x2).1) (fun _ t9 => va_P D vwCl (wM q cq ((fX2_setTable T R n x x2).2.1) ((fX2_setTable T R n x x2).2.2.1) S X (nI (fX2_setTable T R n x x2).2.2.2.1) h k ((fX2_setTable T R n x x2).2.2.2.2) a o) t9.heap ∧ va_D (va_A (wM q cq T R S X (nI n) h k th a o) sz) (wM q cq ((fX2_setTable T R n x x2).2.1) ((fX2_setTable T R n x x2).2.2.1) S X (nI (fX2_setTable T R n x x2).2.2.2.1) h k ((fX2_setTable T R n x x2).2.2.2.2) a o)) (va_A (wM q cq T R S X (nI n) h k th a o) sz)) 0 0 (va_A (wM q cq T R S X (nI n) h k th a o) sz) := by
  refine Met.ofW (cc := cX2_setTable) (maxL := 4) (ret := (some .int)) (by decide) rfl ?_
  intro p e s m args below meth c s₁ B hml hv
  obtain ⟨rfl, hsz, hP, hK, hD0, hE⟩ := hv
  have hx := B.exec
  have hb := B.bytes
  have hr := B.returns
  have hts := atoms_spec (ws := wsX2_setTable) B.pre
  have hown : s.vm.findClass RX2 = some m.cls := findClass_of_methodNamed B.named
  have hlocks := B.notSynchronized
  subst hsz
  have hD := hD0.self (sz := s.heap.size)
  generalize hAe : va_A (wM q cq T R S X (nI n) h k th a o) s.heap.size = A at hD hE ⊢
  have hA : ∀ q : Nat, s.heap.size ≤ q → A q := fun q h => by rw [← hAe]; exact Or.inr h
  have hS : va_S A s.heap s.heap [] := va_S.rf
  have hP : va_P D vwCl (wM q cq T R S X (nI n) h k th a o) s.heap := hP
  have hl := lv_entry ([.ref (q 0), .int x, .int x2]) (n := 4) (Nat.le_of_ble_eq_true rfl)
  rw [lg_entry_eq]
  generalize (lg_sl ([.ref (q 0), .int x, .int x2]) ++ List.replicate (4 - (lg_sl ([.ref (q 0), .int x, .int x2])).length) Slot.unset).toArray = ls at hl ⊢
  have hl : lv_has ls 4 [(0, .ref (q 0)), (1, .int x), (2, .int x2)] := hl
  refine lv_aload_n hx hb dX2_setTable_0 rfl (lv_at hl 0 rfl) ?_
  refine lv_iconst (v := 0) hx hb dX2_setTable_1 (by decide) ?_
  refine va_put (D := D) (ci := 2) (v := .int 0) (ty := .int) (C := RX2) (T := TX2) (N := 10) hx hb hts in_X2_setTable_X2 tyX2 tyX2_ok nmX2 hown hK hP hD hS 0 rfl rfl 7 (by decide) (hts (.fieldLink RX2 27 "ZhegalkinBenchModel" "thrown" "I") (List.mem_of_getElem? (i := 1) rfl)) (fun _ h9 => h9) rfl (by decide +kernel) rfl rfl (Nat.le_of_ble_eq_true rfl) dX2_setTable_2 (fun H locs hP hD hS => ?_)
  have hP : va_P D vwCl (wM q cq T R S X (nI n) h k 0 a o) H := hP
  have hD : va_D A (wM q cq T R S X (nI n) h k 0 a o) := hD
  refine lv_iload_n hx hb dX2_setTable_5 rfl (lv_at hl 1 rfl) ?_
  refine vp_callSi (va_Run.run (va_runS (As := [.int x]) (rest := []) ⟨hx, hb, hml, hown, hts⟩ (c_X2_isOne l x) (va_cwS 1 hts gX2_setTable_X2_isOne rfl rfl rfl (by decide +kernel) ⟨Nat.le_of_ble_eq_true rfl, Nat.le_of_ble_eq_true rfl⟩) ⟨fun _ _ _ _ z => z, fun _ _ _ => ⟨rfl, trivial⟩⟩ rfl rfl hl.1 rfl (lv_room (Nat.le_of_ble_eq_true rfl)) dX2_setTable_6 ⟨(Nat.zero_le _), (Nat.zero_le _)⟩)) (fun r9 hr => ?_)
  subst r9
  refine lv_if_ne (tgt := 18) hx hb dX2_setTable_9 (by decide) (fun c_1 => ?_) (fun c_1 => ?_)
  · have hin_x_6 : vp_in x 6 := kisOne c_1
    refine lv_iload_n hx hb dX2_setTable_18 rfl (lv_at hl 2 rfl) ?_
    refine lv_iconst (v := 0) hx hb dX2_setTable_19 (by decide) ?_
    refine lv_ldc (v := 65535) hx hb hown (hts (.constant RX2 26 (65535)) (List.mem_of_getElem? (i := 2) rfl)) dX2_setTable_20 ?_
    refine vp_callSi (va_Run.run (va_runS (As := [.int x2, .int 0, .int 65535]) (rest := []) ⟨hx, hb, hml, hown, hts⟩ (c_X2_in l x2 0 65535) (va_cwS 3 hts gX2_setTable_X2_in rfl rfl rfl (by decide +kernel) ⟨Nat.le_of_ble_eq_true rfl, Nat.le_of_ble_eq_true rfl⟩) ⟨fun _ _ _ _ z => z, fun _ _ _ => ⟨rfl, trivial⟩⟩ rfl rfl hl.1 rfl (lv_room (Nat.le_of_ble_eq_true rfl)) dX2_setTable_22 ⟨(Nat.zero_le _), (Nat.zero_le _)⟩)) (fun r9 hr => ?_)
    subst r9
    refine lv_if_ne (tgt := 34) hx hb dX2_setTable_25 (by decide) (fun c_2 => ?_) (fun c_2 => ?_)
    · refine lv_aload_n hx hb dX2_setTable_34 rfl (lv_at hl 0 rfl) ?_
      refine va_get (D := D) (ci := 2) (v := .ref (q 1)) (C := RX2) (T := TX2) (N := 10) hx hb hts in_X2_setTable_X2 hown hK hP 0 rfl rfl 0 (by decide) (hts (.fieldLink RX2 7 "ZhegalkinBenchModel" "now" "[I") (List.mem_of_getElem? (i := 3) rfl)) (fun _ h9 => h9) rfl dX2_setTable_35 ?_
      refine lv_iload_n hx hb dX2_setTable_38 rfl (lv_at hl 1 rfl) ?_
      refine va_iald hx hb hK hP 1 0 rfl rfl hin_x_6 dX2_setTable_39 ?_
      refine lv_istore_n (lv' := [(3, .int (T x.toNatClampNeg)), (0, .ref (q 0)), (1, .int x), (2, .int x2)]) hx hb dX2_setTable_40 rfl hl (by decide) rfl (fun ls hl => ?_)
      refine lv_aload_n hx hb dX2_setTable_41 rfl (lv_at hl 1 rfl) ?_
      refine lv_iload_n hx hb dX2_setTable_42 rfl (lv_at hl 2 rfl) ?_
      refine lv_iload_n hx hb dX2_setTable_43 rfl (lv_at hl 3 rfl) ?_
      have hPc := hP.sub (ws' := (wM q cq T R S X (nI n) h k 0 a o)) [0, 1, 2, 3, 4] rfl
      have hKc := hK.sub (tys' := (tyM cq)) [0, 1, 2, 3] rfl
      have hDc := hD.sub (ws' := (wM q cq T R S X (nI n) h k 0 a o)) [0, 1, 2, 3, 4] (by decide) rfl
      have hFc := va_free (wc := (wM q cq T R S X (nI n) h k 0 a o)) hD hS hA [0, 1, 2, 3, 4] rfl
      refine va_calli (va_runV (As := [.int x, .int x2]) (rest := []) ⟨hx, hb, hml, hown, hts⟩ (c_X2_sets l D q cq H.size T R S X n h k 0 a o x x2 (by omega) hin_x_6) (cwV 2 hts gX2_setTable_X2_sets rfl rfl rfl (by decide +kernel) ⟨Nat.le_of_ble_eq_true rfl, Nat.le_of_ble_eq_true rfl⟩) ⟨fun a U g mk z => ⟨z.1, z.2.1, z.2.2.1, va_K.moved (u := U) (U := U.calling g mk a) (Vm.Alike.refl U.vm) z.2.2.2.1, z.2.2.2.2.1, z.2.2.2.2.2.blind g mk a⟩, va_recv hKc hPc (ci := 2) (q0 := 0) rfl rfl, fun U hU hW => ⟨rfl, by rw [hU], by rw [hU]; exact hPc, va_K.moved hW.alike hKc, hDc.weaken (fun _ _ _ _ => trivial), hE.at hS hU hW hFc⟩⟩ rfl rfl hl.1 rfl (lv_room (Nat.le_of_ble_eq_true rfl)) dX2_setTable_44 ⟨(Nat.zero_le _), (Nat.zero_le _)⟩) hS (fun q _ h => hFc q h) hFc (fun r9 u9 t8 H1 locs ht hvm hw hB hz1 hk1 hS => ?_)
      obtain ⟨hP1, hD1⟩ := hB
      rw [ht] at hP1
      obtain ⟨hP, hD⟩ := va_join (wr := []) (w1 := (wM q cq ((fX2_sets T R n x x2).2.1) ((fX2_sets T R n x x2).2.2.1) S X (nI (fX2_sets T R n x x2).2.2.2) h k 0 a o)) hP hD [0, 1, 2, 3, 4] [] rfl rfl (by decide) (by decide) hk1 hFc hP1 hD1
      have hP := hP.sub (ws' := (wM q cq ((fX2_sets T R n x x2).2.1) ((fX2_sets T R n x x2).2.2.1) S X (nI (fX2_sets T R n x x2).2.2.2) h k 0 a o)) [0, 1, 2, 3, 4] rfl
      have hD := hD.sub (ws' := (wM q cq ((fX2_sets T R n x x2).2.1) ((fX2_sets T R n x x2).2.2.1) S X (nI (fX2_sets T R n x x2).2.2.2) h k 0 a o)) [0, 1, 2, 3, 4] (by decide) rfl
      generalize H1 = H at hP hS ⊢
      subst r9
      refine lv_pop hx hb dX2_setTable_47 rfl ?_
      refine lv_iload_n hx hb dX2_setTable_48 rfl (lv_at hl 0 rfl) ?_
      have hq : (fX2_setTable T R n x x2) = ((T x.toNatClampNeg), (fX2_sets T R n x x2).2.1, (fX2_sets T R n x x2).2.2.1, ((fX2_sets T R n x x2).2.2.2), 0) := Eq.symm (by first | ((rw [fX2_setTable, if_neg c_1, if_neg c_2]); first | done | rfl) | rfl)
      exact W.iret (v := (T x.toNatClampNeg)) hx hb hr (fun t9 ht hW => ⟨⟨(T x.toNatClampNeg), (), rfl, by rw [hq], by rw [hq]; exact ⟨by rw [ht]; exact hP, hD⟩⟩, hS.F ht⟩) hS.2.2 dX2_setTable_49
    · refine lv_aload_n hx hb dX2_setTable_28 rfl (lv_at hl 0 rfl) ?_
      refine lv_iconst (v := 2) hx hb dX2_setTable_29 (by decide) ?_
      have hPc := hP.sub (ws' := (wM q cq T R S X (nI n) h k 0 a o)) [0, 1, 2, 3, 4] rfl
      have hKc := hK.sub (tys' := (tyM cq)) [0, 1, 2, 3] rfl
      have hDc := hD.sub (ws' := (wM q cq T R S X (nI n) h k 0 a o)) [0, 1, 2, 3, 4] (by decide) rfl
      have hFc := va_free (wc := (wM q cq T R S X (nI n) h k 0 a o)) hD hS hA [0, 1, 2, 3, 4] rfl
      refine va_calli (va_runV (As := [.int 2]) (rest := []) ⟨hx, hb, hml, hown, hts⟩ (c_X2_fails l D q cq H.size T R S X (nI n) h k 0 a o 2) (cwV 1 hts gX2_setTable_X2_fails rfl rfl rfl (by decide +kernel) ⟨Nat.le_of_ble_eq_true rfl, Nat.le_of_ble_eq_true rfl⟩) ⟨fun a U g mk z => ⟨z.1, z.2.1, z.2.2.1, va_K.moved (u := U) (U := U.calling g mk a) (Vm.Alike.refl U.vm) z.2.2.2.1, z.2.2.2.2.1, z.2.2.2.2.2.blind g mk a⟩, va_recv hKc hPc (ci := 2) (q0 := 0) rfl rfl, fun U hU hW => ⟨rfl, by rw [hU], by rw [hU]; exact hPc, va_K.moved hW.alike hKc, hDc.weaken (fun _ _ _ _ => trivial), hE.at hS hU hW hFc⟩⟩ rfl rfl hl.1 rfl (lv_room (Nat.le_of_ble_eq_true rfl)) dX2_setTable_30 ⟨(Nat.zero_le _), (Nat.zero_le _)⟩) hS (fun q _ h => hFc q h) hFc (fun r9 u9 t8 H1 locs ht hvm hw hB hz1 hk1 hS => ?_)
      obtain ⟨hP1, hD1⟩ := hB
      rw [ht] at hP1
      obtain ⟨hP, hD⟩ := va_join (wr := []) (w1 := (wM q cq T R S X (nI n) h k ((fX2_fails 2).2) a o)) hP hD [0, 1, 2, 3, 4] [] rfl rfl (by decide) (by decide) hk1 hFc hP1 hD1
      have hP := hP.sub (ws' := (wM q cq T R S X (nI n) h k ((fX2_fails 2).2) a o)) [0, 1, 2, 3, 4] rfl
      have hD := hD.sub (ws' := (wM q cq T R S X (nI n) h k ((fX2_fails 2).2) a o)) [0, 1, 2, 3, 4] (by decide) rfl
      generalize H1 = H at hP hS ⊢
      subst r9
      have hq : (fX2_setTable T R n x x2) = ((fX2_fails 2).1, T, R, n, (fX2_fails 2).2) := Eq.symm (by first | ((rw [fX2_setTable, if_neg c_1, if_pos c_2]); first | done | rfl) | rfl)
      exact W.iret (v := (fX2_fails 2).1) hx hb hr (fun t9 ht hW => ⟨⟨(fX2_fails 2).1, (), rfl, by rw [hq], by rw [hq]; exact ⟨by rw [ht]; exact hP, hD⟩⟩, hS.F ht⟩) hS.2.2 dX2_setTable_33
  · refine lv_aload_n hx hb dX2_setTable_12 rfl (lv_at hl 0 rfl) ?_
    refine lv_iconst (v := 1) hx hb dX2_setTable_13 (by decide) ?_
    have hPc := hP.sub (ws' := (wM q cq T R S X (nI n) h k 0 a o)) [0, 1, 2, 3, 4] rfl
    have hKc := hK.sub (tys' := (tyM cq)) [0, 1, 2, 3] rfl
    have hDc := hD.sub (ws' := (wM q cq T R S X (nI n) h k 0 a o)) [0, 1, 2, 3, 4] (by decide) rfl
    have hFc := va_free (wc := (wM q cq T R S X (nI n) h k 0 a o)) hD hS hA [0, 1, 2, 3, 4] rfl
    refine va_calli (va_runV (As := [.int 1]) (rest := []) ⟨hx, hb, hml, hown, hts⟩ (c_X2_fails l D q cq H.size T R S X (nI n) h k 0 a o 1) (cwV 1 hts gX2_setTable_X2_fails rfl rfl rfl (by decide +kernel) ⟨Nat.le_of_ble_eq_true rfl, Nat.le_of_ble_eq_true rfl⟩) ⟨fun a U g mk z => ⟨z.1, z.2.1, z.2.2.1, va_K.moved (u := U) (U := U.calling g mk a) (Vm.Alike.refl U.vm) z.2.2.2.1, z.2.2.2.2.1, z.2.2.2.2.2.blind g mk a⟩, va_recv hKc hPc (ci := 2) (q0 := 0) rfl rfl, fun U hU hW => ⟨rfl, by rw [hU], by rw [hU]; exact hPc, va_K.moved hW.alike hKc, hDc.weaken (fun _ _ _ _ => trivial), hE.at hS hU hW hFc⟩⟩ rfl rfl hl.1 rfl (lv_room (Nat.le_of_ble_eq_true rfl)) dX2_setTable_14 ⟨(Nat.zero_le _), (Nat.zero_le _)⟩) hS (fun q _ h => hFc q h) hFc (fun r9 u9 t8 H1 locs ht hvm hw hB hz1 hk1 hS => ?_)
    obtain ⟨hP1, hD1⟩ := hB
    rw [ht] at hP1
    obtain ⟨hP, hD⟩ := va_join (wr := []) (w1 := (wM q cq T R S X (nI n) h k ((fX2_fails 1).2) a o)) hP hD [0, 1, 2, 3, 4] [] rfl rfl (by decide) (by decide) hk1 hFc hP1 hD1
    have hP := hP.sub (ws' := (wM q cq T R S X (nI n) h k ((fX2_fails 1).2) a o)) [0, 1, 2, 3, 4] rfl
    have hD := hD.sub (ws' := (wM q cq T R S X (nI n) h k ((fX2_fails 1).2) a o)) [0, 1, 2, 3, 4] (by decide) rfl
    generalize H1 = H at hP hS ⊢
    subst r9
    have hq : (fX2_setTable T R n x x2) = ((fX2_fails 1).1, T, R, n, (fX2_fails 1).2) := Eq.symm (by first | ((rw [fX2_setTable, if_pos c_1]); first | done | rfl) | rfl)
    exact W.iret (v := (fX2_fails 1).1) hx hb hr (fun t9 ht hW => ⟨⟨(fX2_fails 1).1, (), rfl, by rw [hq], by rw [hq]; exact ⟨by rw [ht]; exact hP, hD⟩⟩, hS.F ht⟩) hS.2.2 dX2_setTable_17
theorem in_X2_join_X2 : ∀ w ∈ wsX20, w ∈ wsX2_join := by decide +kernel
def fX2_join (T : Nat → Int32) (R : Nat → Int32) (n : Nat) (x : Int32) (x2 : Int32) (x3 : Int32) (x4 : Int32) : Int32 × (Nat → Int32) × (Nat → Int32) × Nat × Int32 := if (fX2_isOne x) = 0 then ((fX2_fails 1).1, T, R, n, (fX2_fails 1).2) else (if (fX2_isOne x2) = 0 then ((fX2_fails 1).1, T, R, n, (fX2_fails 1).2) else (if (fX2_isOne x3) = 0 then ((fX2_fails 1).1, T, R, n, (fX2_fails 1).2) else (if (fX2_in x4 0 3) = 0 then ((fX2_fails 2).1, T, R, n, (fX2_fails 2).2) else ((fX2_sets T R n x (if x4 = 0 then ((T x2.toNatClampNeg) ^^^ (T x3.toNatClampNeg)) else (if x4 = 1 then ((T x2.toNatClampNeg) &&& (T x3.toNatClampNeg)) else (if x4 = 2 then ((T x2.toNatClampNeg) ||| (T x3.toNatClampNeg)) else ((((T x2.toNatClampNeg) ^^^ (-1)) &&& 65535) ||| (T x3.toNatClampNeg)))) : Int32)).1, (fX2_sets T R n x (if x4 = 0 then ((T x2.toNatClampNeg) ^^^ (T x3.toNatClampNeg)) else (if x4 = 1 then ((T x2.toNatClampNeg) &&& (T x3.toNatClampNeg)) else (if x4 = 2 then ((T x2.toNatClampNeg) ||| (T x3.toNatClampNeg)) else ((((T x2.toNatClampNeg) ^^^ (-1)) &&& 65535) ||| (T x3.toNatClampNeg)))) : Int32)).2.1, (fX2_sets T R n x (if x4 = 0 then ((T x2.toNatClampNeg) ^^^ (T x3.toNatClampNeg)) else (if x4 = 1 then ((T x2.toNatClampNeg) &&& (T x3.toNatClampNeg)) else (if x4 = 2 then ((T x2.toNatClampNeg) ||| (T x3.toNatClampNeg)) else ((((T x2.toNatClampNeg) ^^^ (-1)) &&& 65535) ||| (T x3.toNatClampNeg)))) : Int32)).2.2.1, ((fX2_sets T R n x (if x4 = 0 then ((T x2.toNatClampNeg) ^^^ (T x3.toNatClampNeg)) else (if x4 = 1 then ((T x2.toNatClampNeg) &&& (T x3.toNatClampNeg)) else (if x4 = 2 then ((T x2.toNatClampNeg) ||| (T x3.toNatClampNeg)) else ((((T x2.toNatClampNeg) ^^^ (-1)) &&& 65535) ||| (T x3.toNatClampNeg)))) : Int32)).2.2.2), 0))))
set_option maxHeartbeats 4000000 in
set_option maxRecDepth 100000 in
theorem c_X2_join (l : Launch) (D : va_G) (q : Nat → Nat) (cq : Nat → ClassId) (sz : Nat) (T : Nat → Int32) (R : Nat → Int32) (S : Nat → Int32) (X : Nat → Int32) (n : Nat) (h : Int32) (k : Int32) (th : Int32) (a : Int32) (o : Int32) (x : Int32) (x2 : Int32) (x3 : Int32) (x4 : Int32) (hn : n ≤ 4) : Met l yX2_join wsX2_join ({ frames := 3, cells := 0, slots := 0, locals := 67 }) (va_Pc [.ref (q 0), .int x, .int x2, .int x3, .int x4] (fun U => U.heap.size = sz ∧ va_P D vwCl (wM q cq T R S X (nI n) h k th a o) U.heap ∧ va_K D vwCl (tyM cq) U ∧ va_D (fun _ => True) (wM q cq T R S X (nI n) h k th a o) ∧ envE (va_A (wM q cq T R S X (nI n) h k th a o) sz) U)) (va_Qi (fun r9 (_ : Unit) => r9 = (fX2_join T R n x x2 x3 x4).1) (fun _ t9 => va_P D vwCl (wM q cq ((fX2_join T R n x x2 x3 x4).2.1) ((fX2_join T R n x x2 x3 x4).2.2.1) S X (nI (fX2_join T R n x x2 x3 x4).2.2.2.1) h k ((fX2_join T R n x x2 x3 x4).2.2.2.2) a o) t9.heap ∧ va_D (va_A (wM q cq T R S X (nI n) h k th a o) sz) (wM q cq ((fX2_join T R n x x2 x3 x4).2.1) ((fX2_join T R n x x2 x3 x4).2.2.1) S X (nI (fX2_join T R n x x2 x3 x4).2.2.2.1) h k ((fX2_join T R n x x2 x3 x4).2.2.2.2) a o)) (va_A (wM q cq T R S X (nI n) h k th a o) sz)) 0 0 (va_A (wM q cq T R S X (nI n) h k th a o) sz) := by
  refine Met.ofW (cc := cX2_join) (maxL := 7) (ret := (some .int)) (by decide) rfl ?_
  intro p e s m args below meth c s₁ B hml hv
  obtain ⟨rfl, hsz, hP, hK, hD0, hE⟩ := hv
  have hx := B.exec
  have hb := B.bytes
  have hr := B.returns
  have hts := atoms_spec (ws := wsX2_join) B.pre
  have hown : s.vm.findClass RX2 = some m.cls := findClass_of_methodNamed B.named
  have hlocks := B.notSynchronized
  subst hsz
  have hD := hD0.self (sz := s.heap.size)
  generalize hAe : va_A (wM q cq T R S X (nI n) h k th a o) s.heap.size = A at hD hE ⊢
  have hA : ∀ q : Nat, s.heap.size ≤ q → A q := fun q h => by rw [← hAe]; exact Or.inr h
  have hS : va_S A s.heap s.heap [] := va_S.rf
  have hP : va_P D vwCl (wM q cq T R S X (nI n) h k th a o) s.heap := hP
  have hl := lv_entry ([.ref (q 0), .int x, .int x2, .int x3, .int x4]) (n := 7) (Nat.le_of_ble_eq_true rfl)
  rw [lg_entry_eq]
  generalize (lg_sl ([.ref (q 0), .int x, .int x2, .int x3, .int x4]) ++ List.replicate (7 - (lg_sl ([.ref (q 0), .int x, .int x2, .int x3, .int x4])).length) Slot.unset).toArray = ls at hl ⊢
  have hl : lv_has ls 7 [(0, .ref (q 0)), (1, .int x), (2, .int x2), (3, .int x3), (4, .int x4)] := hl
  refine lv_aload_n hx hb dX2_join_0 rfl (lv_at hl 0 rfl) ?_
  refine lv_iconst (v := 0) hx hb dX2_join_1 (by decide) ?_
  refine va_put (D := D) (ci := 2) (v := .int 0) (ty := .int) (C := RX2) (T := TX2) (N := 10) hx hb hts in_X2_join_X2 tyX2 tyX2_ok nmX2 hown hK hP hD hS 0 rfl rfl 7 (by decide) (hts (.fieldLink RX2 27 "ZhegalkinBenchModel" "thrown" "I") (List.mem_of_getElem? (i := 1) rfl)) (fun _ h9 => h9) rfl (by decide +kernel) rfl rfl (Nat.le_of_ble_eq_true rfl) dX2_join_2 (fun H locs hP hD hS => ?_)
  have hP : va_P D vwCl (wM q cq T R S X (nI n) h k 0 a o) H := hP
  have hD : va_D A (wM q cq T R S X (nI n) h k 0 a o) := hD
  refine lv_iload_n hx hb dX2_join_5 rfl (lv_at hl 1 rfl) ?_
  refine vp_callSi (va_Run.run (va_runS (As := [.int x]) (rest := []) ⟨hx, hb, hml, hown, hts⟩ (c_X2_isOne l x) (va_cwS 1 hts gX2_join_X2_isOne rfl rfl rfl (by decide +kernel) ⟨Nat.le_of_ble_eq_true rfl, Nat.le_of_ble_eq_true rfl⟩) ⟨fun _ _ _ _ z => z, fun _ _ _ => ⟨rfl, trivial⟩⟩ rfl rfl hl.1 rfl (lv_room (Nat.le_of_ble_eq_true rfl)) dX2_join_6 ⟨(Nat.zero_le _), (Nat.zero_le _)⟩)) (fun r9 hr => ?_)
  subst r9
  refine lv_if_eq (tgt := 26) hx hb dX2_join_9 (by decide) (fun c_1 => ?_) (fun c_1 => ?_)
  · refine lv_aload_n hx hb dX2_join_26 rfl (lv_at hl 0 rfl) ?_
    refine lv_iconst (v := 1) hx hb dX2_join_27 (by decide) ?_
    have hPc := hP.sub (ws' := (wM q cq T R S X (nI n) h k 0 a o)) [0, 1, 2, 3, 4] rfl
    have hKc := hK.sub (tys' := (tyM cq)) [0, 1, 2, 3] rfl
    have hDc := hD.sub (ws' := (wM q cq T R S X (nI n) h k 0 a o)) [0, 1, 2, 3, 4] (by decide) rfl
    have hFc := va_free (wc := (wM q cq T R S X (nI n) h k 0 a o)) hD hS hA [0, 1, 2, 3, 4] rfl
    refine va_calli (va_runV (As := [.int 1]) (rest := []) ⟨hx, hb, hml, hown, hts⟩ (c_X2_fails l D q cq H.size T R S X (nI n) h k 0 a o 1) (cwV 1 hts gX2_join_X2_fails rfl rfl rfl (by decide +kernel) ⟨Nat.le_of_ble_eq_true rfl, Nat.le_of_ble_eq_true rfl⟩) ⟨fun a U g mk z => ⟨z.1, z.2.1, z.2.2.1, va_K.moved (u := U) (U := U.calling g mk a) (Vm.Alike.refl U.vm) z.2.2.2.1, z.2.2.2.2.1, z.2.2.2.2.2.blind g mk a⟩, va_recv hKc hPc (ci := 2) (q0 := 0) rfl rfl, fun U hU hW => ⟨rfl, by rw [hU], by rw [hU]; exact hPc, va_K.moved hW.alike hKc, hDc.weaken (fun _ _ _ _ => trivial), hE.at hS hU hW hFc⟩⟩ rfl rfl hl.1 rfl (lv_room (Nat.le_of_ble_eq_true rfl)) dX2_join_28 ⟨(Nat.zero_le _), (Nat.zero_le _)⟩) hS (fun q _ h => hFc q h) hFc (fun r9 u9 t8 H1 locs ht hvm hw hB hz1 hk1 hS => ?_)
    obtain ⟨hP1, hD1⟩ := hB
    rw [ht] at hP1
    obtain ⟨hP, hD⟩ := va_join (wr := []) (w1 := (wM q cq T R S X (nI n) h k ((fX2_fails 1).2) a o)) hP hD [0, 1, 2, 3, 4] [] rfl rfl (by decide) (by decide) hk1 hFc hP1 hD1
    have hP := hP.sub (ws' := (wM q cq T R S X (nI n) h k ((fX2_fails 1).2) a o)) [0, 1, 2, 3, 4] rfl
    have hD := hD.sub (ws' := (wM q cq T R S X (nI n) h k ((fX2_fails 1).2) a o)) [0, 1, 2, 3, 4] (by decide) rfl
    generalize H1 = H at hP hS ⊢
    subst r9
    have hq : (fX2_join T R n x x2 x3 x4) = ((fX2_fails 1).1, T, R, n, (fX2_fails 1).2) := Eq.symm (by first | ((rw [fX2_join, if_pos c_1]); first | done | rfl) | rfl)
    exact W.iret (v := (fX2_fails 1).1) hx hb hr (fun t9 ht hW => ⟨⟨(fX2_fails 1).1, (), rfl, by rw [hq], by rw [hq]; exact ⟨by rw [ht]; exact hP, hD⟩⟩, hS.F ht⟩) hS.2.2 dX2_join_31
  · refine lv_iload_n hx hb dX2_join_12 rfl (lv_at hl 2 rfl) ?_
    refine vp_callSi (va_Run.run (va_runS (As := [.int x2]) (rest := []) ⟨hx, hb, hml, hown, hts⟩ (c_X2_isOne l x2) (va_cwS 1 hts gX2_join_X2_isOne rfl rfl rfl (by decide +kernel) ⟨Nat.le_of_ble_eq_true rfl, Nat.le_of_ble_eq_true rfl⟩) ⟨fun _ _ _ _ z => z, fun _ _ _ => ⟨rfl, trivial⟩⟩ rfl rfl hl.1 rfl (lv_room (Nat.le_of_ble_eq_true rfl)) dX2_join_13 ⟨(Nat.zero_le _), (Nat.zero_le _)⟩)) (fun r9 hr => ?_)
    subst r9
    refine lv_if_eq (tgt := 26) hx hb dX2_join_16 (by decide) (fun c_2 => ?_) (fun c_2 => ?_)
    · refine lv_aload_n hx hb dX2_join_26 rfl (lv_at hl 0 rfl) ?_
      refine lv_iconst (v := 1) hx hb dX2_join_27 (by decide) ?_
      have hPc := hP.sub (ws' := (wM q cq T R S X (nI n) h k 0 a o)) [0, 1, 2, 3, 4] rfl
      have hKc := hK.sub (tys' := (tyM cq)) [0, 1, 2, 3] rfl
      have hDc := hD.sub (ws' := (wM q cq T R S X (nI n) h k 0 a o)) [0, 1, 2, 3, 4] (by decide) rfl
      have hFc := va_free (wc := (wM q cq T R S X (nI n) h k 0 a o)) hD hS hA [0, 1, 2, 3, 4] rfl
      refine va_calli (va_runV (As := [.int 1]) (rest := []) ⟨hx, hb, hml, hown, hts⟩ (c_X2_fails l D q cq H.size T R S X (nI n) h k 0 a o 1) (cwV 1 hts gX2_join_X2_fails rfl rfl rfl (by decide +kernel) ⟨Nat.le_of_ble_eq_true rfl, Nat.le_of_ble_eq_true rfl⟩) ⟨fun a U g mk z => ⟨z.1, z.2.1, z.2.2.1, va_K.moved (u := U) (U := U.calling g mk a) (Vm.Alike.refl U.vm) z.2.2.2.1, z.2.2.2.2.1, z.2.2.2.2.2.blind g mk a⟩, va_recv hKc hPc (ci := 2) (q0 := 0) rfl rfl, fun U hU hW => ⟨rfl, by rw [hU], by rw [hU]; exact hPc, va_K.moved hW.alike hKc, hDc.weaken (fun _ _ _ _ => trivial), hE.at hS hU hW hFc⟩⟩ rfl rfl hl.1 rfl (lv_room (Nat.le_of_ble_eq_true rfl)) dX2_join_28 ⟨(Nat.zero_le _), (Nat.zero_le _)⟩) hS (fun q _ h => hFc q h) hFc (fun r9 u9 t8 H1 locs ht hvm hw hB hz1 hk1 hS => ?_)
      obtain ⟨hP1, hD1⟩ := hB
      rw [ht] at hP1
      obtain ⟨hP, hD⟩ := va_join (wr := []) (w1 := (wM q cq T R S X (nI n) h k ((fX2_fails 1).2) a o)) hP hD [0, 1, 2, 3, 4] [] rfl rfl (by decide) (by decide) hk1 hFc hP1 hD1
      have hP := hP.sub (ws' := (wM q cq T R S X (nI n) h k ((fX2_fails 1).2) a o)) [0, 1, 2, 3, 4] rfl
      have hD := hD.sub (ws' := (wM q cq T R S X (nI n) h k ((fX2_fails 1).2) a o)) [0, 1, 2, 3, 4] (by decide) rfl
      generalize H1 = H at hP hS ⊢
      subst r9
      have hq : (fX2_join T R n x x2 x3 x4) = ((fX2_fails 1).1, T, R, n, (fX2_fails 1).2) := Eq.symm (by first | ((rw [fX2_join, if_neg c_1, if_pos c_2]); first | done | rfl) | rfl)
      exact W.iret (v := (fX2_fails 1).1) hx hb hr (fun t9 ht hW => ⟨⟨(fX2_fails 1).1, (), rfl, by rw [hq], by rw [hq]; exact ⟨by rw [ht]; exact hP, hD⟩⟩, hS.F ht⟩) hS.2.2 dX2_join_31
    · refine lv_iload_n hx hb dX2_join_19 rfl (lv_at hl 3 rfl) ?_
      refine vp_callSi (va_Run.run (va_runS (As := [.int x3]) (rest := []) ⟨hx, hb, hml, hown, hts⟩ (c_X2_isOne l x3) (va_cwS 1 hts gX2_join_X2_isOne rfl rfl rfl (by decide +kernel) ⟨Nat.le_of_ble_eq_true rfl, Nat.le_of_ble_eq_true rfl⟩) ⟨fun _ _ _ _ z => z, fun _ _ _ => ⟨rfl, trivial⟩⟩ rfl rfl hl.1 rfl (lv_room (Nat.le_of_ble_eq_true rfl)) dX2_join_20 ⟨(Nat.zero_le _), (Nat.zero_le _)⟩)) (fun r9 hr => ?_)
      subst r9
      refine lv_if_ne (tgt := 32) hx hb dX2_join_23 (by decide) (fun c_3 => ?_) (fun c_3 => ?_)
      · have hin_x_6 : vp_in x 6 := kisOne c_1
        have hin_x2_6 : vp_in x2 6 := kisOne c_2
        have hin_x3_6 : vp_in x3 6 := kisOne c_3
        refine lv_iload hx hb dX2_join_32 (lv_at hl 4 rfl) ?_
        refine lv_iconst (v := 0) hx hb dX2_join_34 (by decide) ?_
        refine lv_iconst (v := 3) hx hb dX2_join_35 (by decide) ?_
        refine vp_callSi (va_Run.run (va_runS (As := [.int x4, .int 0, .int 3]) (rest := []) ⟨hx, hb, hml, hown, hts⟩ (c_X2_in l x4 0 3) (va_cwS 3 hts gX2_join_X2_in rfl rfl rfl (by decide +kernel) ⟨Nat.le_of_ble_eq_true rfl, Nat.le_of_ble_eq_true rfl⟩) ⟨fun _ _ _ _ z => z, fun _ _ _ => ⟨rfl, trivial⟩⟩ rfl rfl hl.1 rfl (lv_room (Nat.le_of_ble_eq_true rfl)) dX2_join_36 ⟨(Nat.zero_le _), (Nat.zero_le _)⟩)) (fun r9 hr => ?_)
        subst r9
        refine lv_if_ne (tgt := 48) hx hb dX2_join_39 (by decide) (fun c_4 => ?_) (fun c_4 => ?_)
        · refine lv_aload_n hx hb dX2_join_48 rfl (lv_at hl 0 rfl) ?_
          refine va_get (D := D) (ci := 2) (v := .ref (q 1)) (C := RX2) (T := TX2) (N := 10) hx hb hts in_X2_join_X2 hown hK hP 0 rfl rfl 0 (by decide) (hts (.fieldLink RX2 7 "ZhegalkinBenchModel" "now" "[I") (List.mem_of_getElem? (i := 2) rfl)) (fun _ h9 => h9) rfl dX2_join_49 ?_
          refine lv_iload_n hx hb dX2_join_52 rfl (lv_at hl 2 rfl) ?_
          refine va_iald hx hb hK hP 1 0 rfl rfl hin_x2_6 dX2_join_53 ?_
          refine lv_istore (lv' := [(5, .int (T x2.toNatClampNeg)), (0, .ref (q 0)), (1, .int x), (2, .int x2), (3, .int x3), (4, .int x4)]) hx hb dX2_join_54 hl (by decide) rfl (fun ls hl => ?_)
          refine lv_aload_n hx hb dX2_join_56 rfl (lv_at hl 1 rfl) ?_
          refine va_get (D := D) (ci := 2) (v := .ref (q 1)) (C := RX2) (T := TX2) (N := 10) hx hb hts in_X2_join_X2 hown hK hP 0 rfl rfl 0 (by decide) (hts (.fieldLink RX2 7 "ZhegalkinBenchModel" "now" "[I") (List.mem_of_getElem? (i := 2) rfl)) (fun _ h9 => h9) rfl dX2_join_57 ?_
          refine lv_iload_n hx hb dX2_join_60 rfl (lv_at hl 4 rfl) ?_
          refine va_iald hx hb hK hP 1 0 rfl rfl hin_x3_6 dX2_join_61 ?_
          refine lv_istore (lv' := [(6, .int (T x3.toNatClampNeg)), (5, .int (T x2.toNatClampNeg)), (0, .ref (q 0)), (1, .int x), (2, .int x2), (3, .int x3), (4, .int x4)]) hx hb dX2_join_62 hl (by decide) rfl (fun ls hl => ?_)
          refine lv_aload_n hx hb dX2_join_64 rfl (lv_at hl 2 rfl) ?_
          refine lv_iload_n hx hb dX2_join_65 rfl (lv_at hl 3 rfl) ?_
          refine lv_iload hx hb dX2_join_66 (lv_at hl 6 rfl) ?_
          refine vz_cut (fun H1 l1 g1 => ∃ (x1_0 : Int32) (ls : Array Slot), x1_0 = (if x4 = 0 then ((T x2.toNatClampNeg) ^^^ (T x3.toNatClampNeg)) else (if x4 = 1 then ((T x2.toNatClampNeg) &&& (T x3.toNatClampNeg)) else (if x4 = 2 then ((T x2.toNatClampNeg) ||| (T x3.toNatClampNeg)) else ((((T x2.toNatClampNeg) ^^^ (-1)) &&& 65535) ||| (T x3.toNatClampNeg)))) : Int32) ∧ lv_has ls 7 [(6, .int (T x3.toNatClampNeg)), (5, .int (T x2.toNatClampNeg)), (0, .ref (q 0)), (1, .int x), (2, .int x2), (3, .int x3), (4, .int x4)] ∧ (H = H1 ∧ locs = l1) ∧ g1 = F0 m 117 ls [.int x1_0, .int x, .ref (q 0)]) (fun hj1 => ?_) ?_
          · refine lv_if_ne (tgt := 79) hx hb dX2_join_68 (by decide) (fun c_5 => ?_) (fun c_5 => ?_)
            · refine lv_iload hx hb dX2_join_79 (lv_at hl 6 rfl) ?_
              refine lv_iconst (v := 1) hx hb dX2_join_81 (by decide) ?_
              refine lv_icmp_ne (tgt := 93) hx hb dX2_join_82 (by decide) (fun c_6 => ?_) (fun c_6 => ?_)
              · refine lv_iload hx hb dX2_join_93 (lv_at hl 6 rfl) ?_
                refine lv_iconst (v := 2) hx hb dX2_join_95 (by decide) ?_
                refine lv_icmp_ne (tgt := 107) hx hb dX2_join_96 (by decide) (fun c_7 => ?_) (fun c_7 => ?_)
                · refine lv_iload hx hb dX2_join_107 (lv_at hl 1 rfl) ?_
                  refine lv_iconst (v := (-1)) hx hb dX2_join_109 (by decide) ?_
                  refine lv_ixor hx hb dX2_join_110 ?_
                  refine lv_ldc (v := 65535) hx hb hown (hts (.constant RX2 26 (65535)) (List.mem_of_getElem? (i := 3) rfl)) dX2_join_111 ?_
                  refine lv_iand hx hb dX2_join_113 ?_
                  refine lv_iload hx hb dX2_join_114 (lv_at hl 0 rfl) ?_
                  refine lv_ior hx hb dX2_join_116 ?_
                  exact hj1 _ _ _ ⟨((((T x2.toNatClampNeg) ^^^ (-1)) &&& 65535) ||| (T x3.toNatClampNeg)), ls, (by (rw [if_neg c_5, if_neg c_6, if_neg c_7]); first | done | rfl), lv_sub hl [0, 1, 2, 3, 4, 5, 6] rfl, ⟨rfl, rfl⟩, rfl⟩
                · refine lv_iload hx hb dX2_join_99 (lv_at hl 1 rfl) ?_
                  refine lv_iload hx hb dX2_join_101 (lv_at hl 0 rfl) ?_
                  refine lv_ior hx hb dX2_join_103 ?_
                  refine lv_goto (tgt := 117) hx hb dX2_join_104 (by decide) ?_
                  exact hj1 _ _ _ ⟨((T x2.toNatClampNeg) ||| (T x3.toNatClampNeg)), ls, (by (rw [if_neg c_5, if_neg c_6, if_pos c_7]); first | done | rfl), lv_sub hl [0, 1, 2, 3, 4, 5, 6] rfl, ⟨rfl, rfl⟩, rfl⟩
              · refine lv_iload hx hb dX2_join_85 (lv_at hl 1 rfl) ?_
                refine lv_iload hx hb dX2_join_87 (lv_at hl 0 rfl) ?_
                refine lv_iand hx hb dX2_join_89 ?_
                refine lv_goto (tgt := 117) hx hb dX2_join_90 (by decide) ?_
                exact hj1 _ _ _ ⟨((T x2.toNatClampNeg) &&& (T x3.toNatClampNeg)), ls, (by (rw [if_neg c_5, if_pos c_6]); first | done | rfl), lv_sub hl [0, 1, 2, 3, 4, 5, 6] rfl, ⟨rfl, rfl⟩, rfl⟩
            · refine lv_iload hx hb dX2_join_71 (lv_at hl 1 rfl) ?_
              refine lv_iload hx hb dX2_join_73 (lv_at hl 0 rfl) ?_
              refine lv_ixor hx hb dX2_join_75 ?_
              refine lv_goto (tgt := 117) hx hb dX2_join_76 (by decide) ?_
              exact hj1 _ _ _ ⟨((T x2.toNatClampNeg) ^^^ (T x3.toNatClampNeg)), ls, (by (rw [if_pos c_5]); first | done | rfl), lv_sub hl [0, 1, 2, 3, 4, 5, 6] rfl, ⟨rfl, rfl⟩, rfl⟩
          rintro H1 l1 g1 ⟨x1_0, ls, ex1_0, hl, ⟨rfl, rfl⟩, rfl⟩
          subst x1_0
          have hPc := hP.sub (ws' := (wM q cq T R S X (nI n) h k 0 a o)) [0, 1, 2, 3, 4] rfl
          have hKc := hK.sub (tys' := (tyM cq)) [0, 1, 2, 3] rfl
          have hDc := hD.sub (ws' := (wM q cq T R S X (nI n) h k 0 a o)) [0, 1, 2, 3, 4] (by decide) rfl
          have hFc := va_free (wc := (wM q cq T R S X (nI n) h k 0 a o)) hD hS hA [0, 1, 2, 3, 4] rfl
          refine va_calli (va_runV (As := [.int x, .int (if x4 = 0 then ((T x2.toNatClampNeg) ^^^ (T x3.toNatClampNeg)) else (if x4 = 1 then ((T x2.toNatClampNeg) &&& (T x3.toNatClampNeg)) else (if x4 = 2 then ((T x2.toNatClampNeg) ||| (T x3.toNatClampNeg)) else ((((T x2.toNatClampNeg) ^^^ (-1)) &&& 65535) ||| (T x3.toNatClampNeg)))) : Int32)]) (rest := []) ⟨hx, hb, hml, hown, hts⟩ (c_X2_sets l D q cq H.size T R S X n h k 0 a o x (if x4 = 0 then ((T x2.toNatClampNeg) ^^^ (T x3.toNatClampNeg)) else (if x4 = 1 then ((T x2.toNatClampNeg) &&& (T x3.toNatClampNeg)) else (if x4 = 2 then ((T x2.toNatClampNeg) ||| (T x3.toNatClampNeg)) else ((((T x2.toNatClampNeg) ^^^ (-1)) &&& 65535) ||| (T x3.toNatClampNeg)))) : Int32) (by omega) hin_x_6) (cwV 2 hts gX2_join_X2_sets rfl rfl rfl (by decide +kernel) ⟨Nat.le_of_ble_eq_true rfl, Nat.le_of_ble_eq_true rfl⟩) ⟨fun a U g mk z => ⟨z.1, z.2.1, z.2.2.1, va_K.moved (u := U) (U := U.calling g mk a) (Vm.Alike.refl U.vm) z.2.2.2.1, z.2.2.2.2.1, z.2.2.2.2.2.blind g mk a⟩, va_recv hKc hPc (ci := 2) (q0 := 0) rfl rfl, fun U hU hW => ⟨rfl, by rw [hU], by rw [hU]; exact hPc, va_K.moved hW.alike hKc, hDc.weaken (fun _ _ _ _ => trivial), hE.at hS hU hW hFc⟩⟩ rfl rfl hl.1 rfl (lv_room (Nat.le_of_ble_eq_true rfl)) dX2_join_117 ⟨(Nat.zero_le _), (Nat.zero_le _)⟩) hS (fun q _ h => hFc q h) hFc (fun r9 u9 t8 H1 locs ht hvm hw hB hz1 hk1 hS => ?_)
          obtain ⟨hP1, hD1⟩ := hB
          rw [ht] at hP1
          obtain ⟨hP, hD⟩ := va_join (wr := []) (w1 := (wM q cq ((fX2_sets T R n x (if x4 = 0 then ((T x2.toNatClampNeg) ^^^ (T x3.toNatClampNeg)) else (if x4 = 1 then ((T x2.toNatClampNeg) &&& (T x3.toNatClampNeg)) else (if x4 = 2 then ((T x2.toNatClampNeg) ||| (T x3.toNatClampNeg)) else ((((T x2.toNatClampNeg) ^^^ (-1)) &&& 65535) ||| (T x3.toNatClampNeg)))) : Int32)).2.1) ((fX2_sets T R n x (if x4 = 0 then ((T x2.toNatClampNeg) ^^^ (T x3.toNatClampNeg)) else (if x4 = 1 then ((T x2.toNatClampNeg) &&& (T x3.toNatClampNeg)) else (if x4 = 2 then ((T x2.toNatClampNeg) ||| (T x3.toNatClampNeg)) else ((((T x2.toNatClampNeg) ^^^ (-1)) &&& 65535) ||| (T x3.toNatClampNeg)))) : Int32)).2.2.1) S X (nI (fX2_sets T R n x (if x4 = 0 then ((T x2.toNatClampNeg) ^^^ (T x3.toNatClampNeg)) else (if x4 = 1 then ((T x2.toNatClampNeg) &&& (T x3.toNatClampNeg)) else (if x4 = 2 then ((T x2.toNatClampNeg) ||| (T x3.toNatClampNeg)) else ((((T x2.toNatClampNeg) ^^^ (-1)) &&& 65535) ||| (T x3.toNatClampNeg)))) : Int32)).2.2.2) h k 0 a o)) hP hD [0, 1, 2, 3, 4] [] rfl rfl (by decide) (by decide) hk1 hFc hP1 hD1
          have hP := hP.sub (ws' := (wM q cq ((fX2_sets T R n x (if x4 = 0 then ((T x2.toNatClampNeg) ^^^ (T x3.toNatClampNeg)) else (if x4 = 1 then ((T x2.toNatClampNeg) &&& (T x3.toNatClampNeg)) else (if x4 = 2 then ((T x2.toNatClampNeg) ||| (T x3.toNatClampNeg)) else ((((T x2.toNatClampNeg) ^^^ (-1)) &&& 65535) ||| (T x3.toNatClampNeg)))) : Int32)).2.1) ((fX2_sets T R n x (if x4 = 0 then ((T x2.toNatClampNeg) ^^^ (T x3.toNatClampNeg)) else (if x4 = 1 then ((T x2.toNatClampNeg) &&& (T x3.toNatClampNeg)) else (if x4 = 2 then ((T x2.toNatClampNeg) ||| (T x3.toNatClampNeg)) else ((((T x2.toNatClampNeg) ^^^ (-1)) &&& 65535) ||| (T x3.toNatClampNeg)))) : Int32)).2.2.1) S X (nI (fX2_sets T R n x (if x4 = 0 then ((T x2.toNatClampNeg) ^^^ (T x3.toNatClampNeg)) else (if x4 = 1 then ((T x2.toNatClampNeg) &&& (T x3.toNatClampNeg)) else (if x4 = 2 then ((T x2.toNatClampNeg) ||| (T x3.toNatClampNeg)) else ((((T x2.toNatClampNeg) ^^^ (-1)) &&& 65535) ||| (T x3.toNatClampNeg)))) : Int32)).2.2.2) h k 0 a o)) [0, 1, 2, 3, 4] rfl
          have hD := hD.sub (ws' := (wM q cq ((fX2_sets T R n x (if x4 = 0 then ((T x2.toNatClampNeg) ^^^ (T x3.toNatClampNeg)) else (if x4 = 1 then ((T x2.toNatClampNeg) &&& (T x3.toNatClampNeg)) else (if x4 = 2 then ((T x2.toNatClampNeg) ||| (T x3.toNatClampNeg)) else ((((T x2.toNatClampNeg) ^^^ (-1)) &&& 65535) ||| (T x3.toNatClampNeg)))) : Int32)).2.1) ((fX2_sets T R n x (if x4 = 0 then ((T x2.toNatClampNeg) ^^^ (T x3.toNatClampNeg)) else (if x4 = 1 then ((T x2.toNatClampNeg) &&& (T x3.toNatClampNeg)) else (if x4 = 2 then ((T x2.toNatClampNeg) ||| (T x3.toNatClampNeg)) else ((((T x2.toNatClampNeg) ^^^ (-1)) &&& 65535) ||| (T x3.toNatClampNeg)))) : Int32)).2.2.1) S X (nI (fX2_sets T R n x (if x4 = 0 then ((T x2.toNatClampNeg) ^^^ (T x3.toNatClampNeg)) else (if x4 = 1 then ((T x2.toNatClampNeg) &&& (T x3.toNatClampNeg)) else (if x4 = 2 then ((T x2.toNatClampNeg) ||| (T x3.toNatClampNeg)) else ((((T x2.toNatClampNeg) ^^^ (-1)) &&& 65535) ||| (T x3.toNatClampNeg)))) : Int32)).2.2.2) h k 0 a o)) [0, 1, 2, 3, 4] (by decide) rfl
          generalize H1 = H at hP hS ⊢
          subst r9
          have hq : (fX2_join T R n x x2 x3 x4) = ((fX2_sets T R n x (if x4 = 0 then ((T x2.toNatClampNeg) ^^^ (T x3.toNatClampNeg)) else (if x4 = 1 then ((T x2.toNatClampNeg) &&& (T x3.toNatClampNeg)) else (if x4 = 2 then ((T x2.toNatClampNeg) ||| (T x3.toNatClampNeg)) else ((((T x2.toNatClampNeg) ^^^ (-1)) &&& 65535) ||| (T x3.toNatClampNeg)))) : Int32)).1, (fX2_sets T R n x (if x4 = 0 then ((T x2.toNatClampNeg) ^^^ (T x3.toNatClampNeg)) else (if x4 = 1 then ((T x2.toNatClampNeg) &&& (T x3.toNatClampNeg)) else (if x4 = 2 then ((T x2.toNatClampNeg) ||| (T x3.toNatClampNeg)) else ((((T x2.toNatClampNeg) ^^^ (-1)) &&& 65535) ||| (T x3.toNatClampNeg)))) : Int32)).2.1, (fX2_sets T R n x (if x4 = 0 then ((T x2.toNatClampNeg) ^^^ (T x3.toNatClampNeg)) else (if x4 = 1 then ((T x2.toNatClampNeg) &&& (T x3.toNatClampNeg)) else (if x4 = 2 then ((T x2.toNatClampNeg) ||| (T x3.toNatClampNeg)) else ((((T x2.toNatClampNeg) ^^^ (-1)) &&& 65535) ||| (T x3.toNatClampNeg)))) : Int32)).2.2.1, ((fX2_sets T R n x (if x4 = 0 then ((T x2.toNatClampNeg) ^^^ (T x3.toNatClampNeg)) else (if x4 = 1 then ((T x2.toNatClampNeg) &&& (T x3.toNatClampNeg)) else (if x4 = 2 then ((T x2.toNatClampNeg) ||| (T x3.toNatClampNeg)) else ((((T x2.toNatClampNeg) ^^^ (-1)) &&& 65535) ||| (T x3.toNatClampNeg)))) : Int32)).2.2.2), 0) := Eq.symm (by first | ((rw [fX2_join, if_neg c_1, if_neg c_2, if_neg c_3, if_neg c_4]); first | done | rfl) | rfl)
          exact W.iret (v := (fX2_sets T R n x (if x4 = 0 then ((T x2.toNatClampNeg) ^^^ (T x3.toNatClampNeg)) else (if x4 = 1 then ((T x2.toNatClampNeg) &&& (T x3.toNatClampNeg)) else (if x4 = 2 then ((T x2.toNatClampNeg) ||| (T x3.toNatClampNeg)) else ((((T x2.toNatClampNeg) ^^^ (-1)) &&& 65535) ||| (T x3.toNatClampNeg)))) : Int32)).1) hx hb hr (fun t9 ht hW => ⟨⟨(fX2_sets T R n x (if x4 = 0 then ((T x2.toNatClampNeg) ^^^ (T x3.toNatClampNeg)) else (if x4 = 1 then ((T x2.toNatClampNeg) &&& (T x3.toNatClampNeg)) else (if x4 = 2 then ((T x2.toNatClampNeg) ||| (T x3.toNatClampNeg)) else ((((T x2.toNatClampNeg) ^^^ (-1)) &&& 65535) ||| (T x3.toNatClampNeg)))) : Int32)).1, (), rfl, by rw [hq], by rw [hq]; exact ⟨by rw [ht]; exact hP, hD⟩⟩, hS.F ht⟩) hS.2.2 dX2_join_120
        · refine lv_aload_n hx hb dX2_join_42 rfl (lv_at hl 0 rfl) ?_
          refine lv_iconst (v := 2) hx hb dX2_join_43 (by decide) ?_
          have hPc := hP.sub (ws' := (wM q cq T R S X (nI n) h k 0 a o)) [0, 1, 2, 3, 4] rfl
          have hKc := hK.sub (tys' := (tyM cq)) [0, 1, 2, 3] rfl
          have hDc := hD.sub (ws' := (wM q cq T R S X (nI n) h k 0 a o)) [0, 1, 2, 3, 4] (by decide) rfl
          have hFc := va_free (wc := (wM q cq T R S X (nI n) h k 0 a o)) hD hS hA [0, 1, 2, 3, 4] rfl
          refine va_calli (va_runV (As := [.int 2]) (rest := []) ⟨hx, hb, hml, hown, hts⟩ (c_X2_fails l D q cq H.size T R S X (nI n) h k 0 a o 2) (cwV 1 hts gX2_join_X2_fails rfl rfl rfl (by decide +kernel) ⟨Nat.le_of_ble_eq_true rfl, Nat.le_of_ble_eq_true rfl⟩) ⟨fun a U g mk z => ⟨z.1, z.2.1, z.2.2.1, va_K.moved (u := U) (U := U.calling g mk a) (Vm.Alike.refl U.vm) z.2.2.2.1, z.2.2.2.2.1, z.2.2.2.2.2.blind g mk a⟩, va_recv hKc hPc (ci := 2) (q0 := 0) rfl rfl, fun U hU hW => ⟨rfl, by rw [hU], by rw [hU]; exact hPc, va_K.moved hW.alike hKc, hDc.weaken (fun _ _ _ _ => trivial), hE.at hS hU hW hFc⟩⟩ rfl rfl hl.1 rfl (lv_room (Nat.le_of_ble_eq_true rfl)) dX2_join_44 ⟨(Nat.zero_le _), (Nat.zero_le _)⟩) hS (fun q _ h => hFc q h) hFc (fun r9 u9 t8 H1 locs ht hvm hw hB hz1 hk1 hS => ?_)
          obtain ⟨hP1, hD1⟩ := hB
          rw [ht] at hP1
          obtain ⟨hP, hD⟩ := va_join (wr := []) (w1 := (wM q cq T R S X (nI n) h k ((fX2_fails 2).2) a o)) hP hD [0, 1, 2, 3, 4] [] rfl rfl (by decide) (by decide) hk1 hFc hP1 hD1
          have hP := hP.sub (ws' := (wM q cq T R S X (nI n) h k ((fX2_fails 2).2) a o)) [0, 1, 2, 3, 4] rfl
          have hD := hD.sub (ws' := (wM q cq T R S X (nI n) h k ((fX2_fails 2).2) a o)) [0, 1, 2, 3, 4] (by decide) rfl
          generalize H1 = H at hP hS ⊢
          subst r9
          have hq : (fX2_join T R n x x2 x3 x4) = ((fX2_fails 2).1, T, R, n, (fX2_fails 2).2) := Eq.symm (by first | ((rw [fX2_join, if_neg c_1, if_neg c_2, if_neg c_3, if_pos c_4]); first | done | rfl) | rfl)
          exact W.iret (v := (fX2_fails 2).1) hx hb hr (fun t9 ht hW => ⟨⟨(fX2_fails 2).1, (), rfl, by rw [hq], by rw [hq]; exact ⟨by rw [ht]; exact hP, hD⟩⟩, hS.F ht⟩) hS.2.2 dX2_join_47
      · refine lv_aload_n hx hb dX2_join_26 rfl (lv_at hl 0 rfl) ?_
        refine lv_iconst (v := 1) hx hb dX2_join_27 (by decide) ?_
        have hPc := hP.sub (ws' := (wM q cq T R S X (nI n) h k 0 a o)) [0, 1, 2, 3, 4] rfl
        have hKc := hK.sub (tys' := (tyM cq)) [0, 1, 2, 3] rfl
        have hDc := hD.sub (ws' := (wM q cq T R S X (nI n) h k 0 a o)) [0, 1, 2, 3, 4] (by decide) rfl
        have hFc := va_free (wc := (wM q cq T R S X (nI n) h k 0 a o)) hD hS hA [0, 1, 2, 3, 4] rfl
        refine va_calli (va_runV (As := [.int 1]) (rest := []) ⟨hx, hb, hml, hown, hts⟩ (c_X2_fails l D q cq H.size T R S X (nI n) h k 0 a o 1) (cwV 1 hts gX2_join_X2_fails rfl rfl rfl (by decide +kernel) ⟨Nat.le_of_ble_eq_true rfl, Nat.le_of_ble_eq_true rfl⟩) ⟨fun a U g mk z => ⟨z.1, z.2.1, z.2.2.1, va_K.moved (u := U) (U := U.calling g mk a) (Vm.Alike.refl U.vm) z.2.2.2.1, z.2.2.2.2.1, z.2.2.2.2.2.blind g mk a⟩, va_recv hKc hPc (ci := 2) (q0 := 0) rfl rfl, fun U hU hW => ⟨rfl, by rw [hU], by rw [hU]; exact hPc, va_K.moved hW.alike hKc, hDc.weaken (fun _ _ _ _ => trivial), hE.at hS hU hW hFc⟩⟩ rfl rfl hl.1 rfl (lv_room (Nat.le_of_ble_eq_true rfl)) dX2_join_28 ⟨(Nat.zero_le _), (Nat.zero_le _)⟩) hS (fun q _ h => hFc q h) hFc (fun r9 u9 t8 H1 locs ht hvm hw hB hz1 hk1 hS => ?_)
        obtain ⟨hP1, hD1⟩ := hB
        rw [ht] at hP1
        obtain ⟨hP, hD⟩ := va_join (wr := []) (w1 := (wM q cq T R S X (nI n) h k ((fX2_fails 1).2) a o)) hP hD [0, 1, 2, 3, 4] [] rfl rfl (by decide) (by decide) hk1 hFc hP1 hD1
        have hP := hP.sub (ws' := (wM q cq T R S X (nI n) h k ((fX2_fails 1).2) a o)) [0, 1, 2, 3, 4] rfl
        have hD := hD.sub (ws' := (wM q cq T R S X (nI n) h k ((fX2_fails 1).2) a o)) [0, 1, 2, 3, 4] (by decide) rfl
        generalize H1 = H at hP hS ⊢
        subst r9
        have hq : (fX2_join T R n x x2 x3 x4) = ((fX2_fails 1).1, T, R, n, (fX2_fails 1).2) := Eq.symm (by first | ((rw [fX2_join, if_neg c_1, if_neg c_2, if_pos c_3]); first | done | rfl) | rfl)
        exact W.iret (v := (fX2_fails 1).1) hx hb hr (fun t9 ht hW => ⟨⟨(fX2_fails 1).1, (), rfl, by rw [hq], by rw [hq]; exact ⟨by rw [ht]; exact hP, hD⟩⟩, hS.F ht⟩) hS.2.2 dX2_join_31
theorem in_X2_fix_X2 : ∀ w ∈ wsX20, w ∈ wsX2_fix := by decide +kernel
def sX2_fix_33 (T : Nat → Int32) (x : Int32) (x2 : Int32) (x3 : Int32) (i1 : Nat) (a1 : Int32) : Int32 := (a1 ||| ((fX2_valueWith T x (nI i1) x2 (if x3 = 0 then 0 else 1 : Int32)) <<< ((nI i1) &&& 31)))
def fX2_fix (T : Nat → Int32) (R : Nat → Int32) (n : Nat) (x : Int32) (x2 : Int32) (x3 : Int32) : Int32 × (Nat → Int32) × (Nat → Int32) × Nat × Int32 := if (fX2_isOne x) = 0 then ((fX2_fails 1).1, T, R, n, (fX2_fails 1).2) else (if (fX2_in x2 0 3) = 0 then ((fX2_fails 1).1, T, R, n, (fX2_fails 1).2) else ((fX2_sets T R n x (lp (sX2_fix_33 T x x2 x3) 16 0 0)).1, (fX2_sets T R n x (lp (sX2_fix_33 T x x2 x3) 16 0 0)).2.1, (fX2_sets T R n x (lp (sX2_fix_33 T x x2 x3) 16 0 0)).2.2.1, ((fX2_sets T R n x (lp (sX2_fix_33 T x x2 x3) 16 0 0)).2.2.2), 0))
set_option maxHeartbeats 4000000 in
set_option maxRecDepth 100000 in
theorem c_X2_fix (l : Launch) (D : va_G) (q : Nat → Nat) (cq : Nat → ClassId) (sz : Nat) (T : Nat → Int32) (R : Nat → Int32) (S : Nat → Int32) (X : Nat → Int32) (n : Nat) (h : Int32) (k : Int32) (th : Int32) (a : Int32) (o : Int32) (x : Int32) (x2 : Int32) (x3 : Int32) (hn : n ≤ 4) : Met l yX2_fix wsX2_fix ({ frames := 3, cells := 0, slots := 0, locals := 67 }) (va_Pc [.ref (q 0), .int x, .int x2, .int x3] (fun U => U.heap.size = sz ∧ va_P D vwCl (wM q cq T R S X (nI n) h k th a o) U.heap ∧ va_K D vwCl (tyM cq) U ∧ va_D (fun _ => True) (wM q cq T R S X (nI n) h k th a o) ∧ envE (va_A (wM q cq T R S X (nI n) h k th a o) sz) U)) (va_Qi (fun r9 (_ : Unit) => r9 = (fX2_fix T R n x x2 x3).1) (fun _ t9 => va_P D vwCl (wM q cq ((fX2_fix T R n x x2 x3).2.1) ((fX2_fix T R n x x2 x3).2.2.1) S X (nI (fX2_fix T R n x x2 x3).2.2.2.1) h k ((fX2_fix T R n x x2 x3).2.2.2.2) a o) t9.heap ∧ va_D (va_A (wM q cq T R S X (nI n) h k th a o) sz) (wM q cq ((fX2_fix T R n x x2 x3).2.1) ((fX2_fix T R n x x2 x3).2.2.1) S X (nI (fX2_fix T R n x x2 x3).2.2.2.1) h k ((fX2_fix T R n x x2 x3).2.2.2.2) a o)) (va_A (wM q cq T R S X (nI n) h k th a o) sz)) 0 0 (va_A (wM q cq T R S X (nI n) h k th a o) sz) := by
  refine Met.ofW (cc := cX2_fix) (maxL := 6) (ret := (some .int)) (by decide) rfl ?_
  intro p e s m args below meth c s₁ B hml hv
  obtain ⟨rfl, hsz, hP, hK, hD0, hE⟩ := hv
  have hx := B.exec
  have hb := B.bytes
  have hr := B.returns
  have hts := atoms_spec (ws := wsX2_fix) B.pre
  have hown : s.vm.findClass RX2 = some m.cls := findClass_of_methodNamed B.named
  have hlocks := B.notSynchronized
  subst hsz
  have hD := hD0.self (sz := s.heap.size)
  generalize hAe : va_A (wM q cq T R S X (nI n) h k th a o) s.heap.size = A at hD hE ⊢
  have hA : ∀ q : Nat, s.heap.size ≤ q → A q := fun q h => by rw [← hAe]; exact Or.inr h
  have hS : va_S A s.heap s.heap [] := va_S.rf
  have hP : va_P D vwCl (wM q cq T R S X (nI n) h k th a o) s.heap := hP
  have hl := lv_entry ([.ref (q 0), .int x, .int x2, .int x3]) (n := 6) (Nat.le_of_ble_eq_true rfl)
  rw [lg_entry_eq]
  generalize (lg_sl ([.ref (q 0), .int x, .int x2, .int x3]) ++ List.replicate (6 - (lg_sl ([.ref (q 0), .int x, .int x2, .int x3])).length) Slot.unset).toArray = ls at hl ⊢
  have hl : lv_has ls 6 [(0, .ref (q 0)), (1, .int x), (2, .int x2), (3, .int x3)] := hl
  refine lv_aload_n hx hb dX2_fix_0 rfl (lv_at hl 0 rfl) ?_
  refine lv_iconst (v := 0) hx hb dX2_fix_1 (by decide) ?_
  refine va_put (D := D) (ci := 2) (v := .int 0) (ty := .int) (C := RX2) (T := TX2) (N := 10) hx hb hts in_X2_fix_X2 tyX2 tyX2_ok nmX2 hown hK hP hD hS 0 rfl rfl 7 (by decide) (hts (.fieldLink RX2 27 "ZhegalkinBenchModel" "thrown" "I") (List.mem_of_getElem? (i := 1) rfl)) (fun _ h9 => h9) rfl (by decide +kernel) rfl rfl (Nat.le_of_ble_eq_true rfl) dX2_fix_2 (fun H locs hP hD hS => ?_)
  have hP : va_P D vwCl (wM q cq T R S X (nI n) h k 0 a o) H := hP
  have hD : va_D A (wM q cq T R S X (nI n) h k 0 a o) := hD
  refine lv_iload_n hx hb dX2_fix_5 rfl (lv_at hl 1 rfl) ?_
  refine vp_callSi (va_Run.run (va_runS (As := [.int x]) (rest := []) ⟨hx, hb, hml, hown, hts⟩ (c_X2_isOne l x) (va_cwS 1 hts gX2_fix_X2_isOne rfl rfl rfl (by decide +kernel) ⟨Nat.le_of_ble_eq_true rfl, Nat.le_of_ble_eq_true rfl⟩) ⟨fun _ _ _ _ z => z, fun _ _ _ => ⟨rfl, trivial⟩⟩ rfl rfl hl.1 rfl (lv_room (Nat.le_of_ble_eq_true rfl)) dX2_fix_6 ⟨(Nat.zero_le _), (Nat.zero_le _)⟩)) (fun r9 hr => ?_)
  subst r9
  refine lv_if_eq (tgt := 21) hx hb dX2_fix_9 (by decide) (fun c_1 => ?_) (fun c_1 => ?_)
  · refine lv_aload_n hx hb dX2_fix_21 rfl (lv_at hl 0 rfl) ?_
    refine lv_iconst (v := 1) hx hb dX2_fix_22 (by decide) ?_
    have hPc := hP.sub (ws' := (wM q cq T R S X (nI n) h k 0 a o)) [0, 1, 2, 3, 4] rfl
    have hKc := hK.sub (tys' := (tyM cq)) [0, 1, 2, 3] rfl
    have hDc := hD.sub (ws' := (wM q cq T R S X (nI n) h k 0 a o)) [0, 1, 2, 3, 4] (by decide) rfl
    have hFc := va_free (wc := (wM q cq T R S X (nI n) h k 0 a o)) hD hS hA [0, 1, 2, 3, 4] rfl
    refine va_calli (va_runV (As := [.int 1]) (rest := []) ⟨hx, hb, hml, hown, hts⟩ (c_X2_fails l D q cq H.size T R S X (nI n) h k 0 a o 1) (cwV 1 hts gX2_fix_X2_fails rfl rfl rfl (by decide +kernel) ⟨Nat.le_of_ble_eq_true rfl, Nat.le_of_ble_eq_true rfl⟩) ⟨fun a U g mk z => ⟨z.1, z.2.1, z.2.2.1, va_K.moved (u := U) (U := U.calling g mk a) (Vm.Alike.refl U.vm) z.2.2.2.1, z.2.2.2.2.1, z.2.2.2.2.2.blind g mk a⟩, va_recv hKc hPc (ci := 2) (q0 := 0) rfl rfl, fun U hU hW => ⟨rfl, by rw [hU], by rw [hU]; exact hPc, va_K.moved hW.alike hKc, hDc.weaken (fun _ _ _ _ => trivial), hE.at hS hU hW hFc⟩⟩ rfl rfl hl.1 rfl (lv_room (Nat.le_of_ble_eq_true rfl)) dX2_fix_23 ⟨(Nat.zero_le _), (Nat.zero_le _)⟩) hS (fun q _ h => hFc q h) hFc (fun r9 u9 t8 H1 locs ht hvm hw hB hz1 hk1 hS => ?_)
    obtain ⟨hP1, hD1⟩ := hB
    rw [ht] at hP1
    obtain ⟨hP, hD⟩ := va_join (wr := []) (w1 := (wM q cq T R S X (nI n) h k ((fX2_fails 1).2) a o)) hP hD [0, 1, 2, 3, 4] [] rfl rfl (by decide) (by decide) hk1 hFc hP1 hD1
    have hP := hP.sub (ws' := (wM q cq T R S X (nI n) h k ((fX2_fails 1).2) a o)) [0, 1, 2, 3, 4] rfl
    have hD := hD.sub (ws' := (wM q cq T R S X (nI n) h k ((fX2_fails 1).2) a o)) [0, 1, 2, 3, 4] (by decide) rfl
    generalize H1 = H at hP hS ⊢
    subst r9
    have hq : (fX2_fix T R n x x2 x3) = ((fX2_fails 1).1, T, R, n, (fX2_fails 1).2) := Eq.symm (by first | ((rw [fX2_fix, if_pos c_1]); first | done | rfl) | rfl)
    exact W.iret (v := (fX2_fails 1).1) hx hb hr (fun t9 ht hW => ⟨⟨(fX2_fails 1).1, (), rfl, by rw [hq], by rw [hq]; exact ⟨by rw [ht]; exact hP, hD⟩⟩, hS.F ht⟩) hS.2.2 dX2_fix_26
  · refine lv_iload_n hx hb dX2_fix_12 rfl (lv_at hl 2 rfl) ?_
    refine lv_iconst (v := 0) hx hb dX2_fix_13 (by decide) ?_
    refine lv_iconst (v := 3) hx hb dX2_fix_14 (by decide) ?_
    refine vp_callSi (va_Run.run (va_runS (As := [.int x2, .int 0, .int 3]) (rest := []) ⟨hx, hb, hml, hown, hts⟩ (c_X2_in l x2 0 3) (va_cwS 3 hts gX2_fix_X2_in rfl rfl rfl (by decide +kernel) ⟨Nat.le_of_ble_eq_true rfl, Nat.le_of_ble_eq_true rfl⟩) ⟨fun _ _ _ _ z => z, fun _ _ _ => ⟨rfl, trivial⟩⟩ rfl rfl hl.1 rfl (lv_room (Nat.le_of_ble_eq_true rfl)) dX2_fix_15 ⟨(Nat.zero_le _), (Nat.zero_le _)⟩)) (fun r9 hr => ?_)
    subst r9
    refine lv_if_ne (tgt := 27) hx hb dX2_fix_18 (by decide) (fun c_2 => ?_) (fun c_2 => ?_)
    · have hin_x_6 : vp_in x 6 := kisOne c_1
      refine lv_iconst (v := 0) hx hb dX2_fix_27 (by decide) ?_
      refine lv_istore (lv' := [(4, .int 0), (0, .ref (q 0)), (1, .int x), (2, .int x2), (3, .int x3)]) hx hb dX2_fix_28 hl (by decide) rfl (fun ls hl => ?_)
      refine lv_iconst (v := 0) hx hb dX2_fix_30 (by decide) ?_
      refine lv_istore (lv' := [(5, .int 0), (4, .int 0), (0, .ref (q 0)), (1, .int x), (2, .int x2), (3, .int x3)]) hx hb dX2_fix_31 hl (by decide) rfl (fun ls hl => ?_)
      obtain ⟨F1, hF1⟩ : ∃ z9, z9 = (lp (sX2_fix_33 T x x2 x3) 16 0 0) := ⟨_, rfl⟩
      refine vz_cut (fun H1 l1 g1 => ∃ (n1 i1 : Nat) (a1 : Int32) (ls : Array Slot), i1 + n1 = 16 ∧ lp (sX2_fix_33 T x x2 x3) n1 i1 a1 = F1 ∧ lv_has ls 6 [(5, .int (nI i1)), (4, .int a1), (0, .ref (q 0)), (1, .int x), (2, .int x2), (3, .int x3)] ∧ (H = H1 ∧ locs = l1) ∧ g1 = F0 m 33 ls []) (fun hj => hj _ _ _ ⟨16, 0, 0, ls, (by omega), hF1.symm, lv_sub hl [0, 1, 2, 3, 4, 5] rfl, ⟨rfl, rfl⟩, rfl⟩) ?_
      rintro H1 l1 g1 ⟨n1, i1, a1, ls, hi1, hf1, hl, ⟨rfl, rfl⟩, rfl⟩
      revert i1 a1 ls
      induction n1 with
      | zero =>
        intro i1 a1 ls hi1 hf1 hl
        obtain rfl : 16 = i1 := by omega
        have hf1 : F1 = a1 := hf1.symm
        subst hf1
        refine lv_iload hx hb dX2_fix_33 (lv_at hl 0 rfl) ?_
        refine lv_bipush (v := 16) hx hb dX2_fix_35 (by decide) ?_
        refine lv_icmp_ge (tgt := 71) hx hb dX2_fix_37 (by decide) (fun c_3 => ?_) (fun c_3 => ?_)
        · refine lv_aload_n hx hb dX2_fix_71 rfl (lv_at hl 2 rfl) ?_
          refine lv_iload_n hx hb dX2_fix_72 rfl (lv_at hl 3 rfl) ?_
          refine lv_iload hx hb dX2_fix_73 (lv_at hl 1 rfl) ?_
          have hPc := hP.sub (ws' := (wM q cq T R S X (nI n) h k 0 a o)) [0, 1, 2, 3, 4] rfl
          have hKc := hK.sub (tys' := (tyM cq)) [0, 1, 2, 3] rfl
          have hDc := hD.sub (ws' := (wM q cq T R S X (nI n) h k 0 a o)) [0, 1, 2, 3, 4] (by decide) rfl
          have hFc := va_free (wc := (wM q cq T R S X (nI n) h k 0 a o)) hD hS hA [0, 1, 2, 3, 4] rfl
          refine va_calli (va_runV (As := [.int x, .int F1]) (rest := []) ⟨hx, hb, hml, hown, hts⟩ (c_X2_sets l D q cq H.size T R S X n h k 0 a o x F1 (by omega) hin_x_6) (cwV 2 hts gX2_fix_X2_sets rfl rfl rfl (by decide +kernel) ⟨Nat.le_of_ble_eq_true rfl, Nat.le_of_ble_eq_true rfl⟩) ⟨fun a U g mk z => ⟨z.1, z.2.1, z.2.2.1, va_K.moved (u := U) (U := U.calling g mk a) (Vm.Alike.refl U.vm) z.2.2.2.1, z.2.2.2.2.1, z.2.2.2.2.2.blind g mk a⟩, va_recv hKc hPc (ci := 2) (q0 := 0) rfl rfl, fun U hU hW => ⟨rfl, by rw [hU], by rw [hU]; exact hPc, va_K.moved hW.alike hKc, hDc.weaken (fun _ _ _ _ => trivial), hE.at hS hU hW hFc⟩⟩ rfl rfl hl.1 rfl (lv_room (Nat.le_of_ble_eq_true rfl)) dX2_fix_75 ⟨(Nat.zero_le _), (Nat.zero_le _)⟩) hS (fun q _ h => hFc q h) hFc (fun r9 u9 t8 H1 locs ht hvm hw hB hz1 hk1 hS => ?_)
          obtain ⟨hP1, hD1⟩ := hB
          rw [ht] at hP1
          obtain ⟨hP, hD⟩ := va_join (wr := []) (w1 := (wM q cq ((fX2_sets T R n x F1).2.1) ((fX2_sets T R n x F1).2.2.1) S X (nI (fX2_sets T R n x F1).2.2.2) h k 0 a o)) hP hD [0, 1, 2, 3, 4] [] rfl rfl (by decide) (by decide) hk1 hFc hP1 hD1
          have hP := hP.sub (ws' := (wM q cq ((fX2_sets T R n x F1).2.1) ((fX2_sets T R n x F1).2.2.1) S X (nI (fX2_sets T R n x F1).2.2.2) h k 0 a o)) [0, 1, 2, 3, 4] rfl
          have hD := hD.sub (ws' := (wM q cq ((fX2_sets T R n x F1).2.1) ((fX2_sets T R n x F1).2.2.1) S X (nI (fX2_sets T R n x F1).2.2.2) h k 0 a o)) [0, 1, 2, 3, 4] (by decide) rfl
          generalize H1 = H at hP hS ⊢
          subst r9
          have hq : (fX2_fix T R n x x2 x3) = ((fX2_sets T R n x F1).1, (fX2_sets T R n x F1).2.1, (fX2_sets T R n x F1).2.2.1, ((fX2_sets T R n x F1).2.2.2), 0) := Eq.symm (by first | ((rw [fX2_fix, if_neg c_1, if_neg c_2]); (try rw [← hF1]); first | done | rfl) | rfl)
          exact W.iret (v := (fX2_sets T R n x F1).1) hx hb hr (fun t9 ht hW => ⟨⟨(fX2_sets T R n x F1).1, (), rfl, by rw [hq], by rw [hq]; exact ⟨by rw [ht]; exact hP, hD⟩⟩, hS.F ht⟩) hS.2.2 dX2_fix_78
        · exact absurd (nI_le (a := 16) (b := 16) (by omega) (by omega)) c_3
      | succ n1 ih1 =>
        intro i1 a1 ls hi1 hf1 hl
        refine lv_iload hx hb dX2_fix_33 (lv_at hl 0 rfl) ?_
        refine lv_bipush (v := 16) hx hb dX2_fix_35 (by decide) ?_
        refine lv_icmp_ge (tgt := 71) hx hb dX2_fix_37 (by decide) (fun c_4 => ?_) (fun c_4 => ?_)
        · exact absurd c_4 (nI_ge (a := i1) (b := 16) (by omega) (by omega))
        · refine lv_iload hx hb dX2_fix_40 (lv_at hl 1 rfl) ?_
          refine lv_aload_n hx hb dX2_fix_42 rfl (lv_at hl 2 rfl) ?_
          refine lv_iload_n hx hb dX2_fix_43 rfl (lv_at hl 3 rfl) ?_
          refine lv_iload hx hb dX2_fix_44 (lv_at hl 0 rfl) ?_
          refine lv_iload_n hx hb dX2_fix_46 rfl (lv_at hl 4 rfl) ?_
          refine lv_iload_n hx hb dX2_fix_47 rfl (lv_at hl 5 rfl) ?_
          refine vz_cut (fun H1 l1 g1 => ∃ (x1_0 : Int32) (ls : Array Slot), x1_0 = (if x3 = 0 then 0 else 1 : Int32) ∧ lv_has ls 6 [(5, .int (nI i1)), (4, .int a1), (0, .ref (q 0)), (1, .int x), (2, .int x2), (3, .int x3)] ∧ (H = H1 ∧ locs = l1) ∧ g1 = F0 m 56 ls [.int x1_0, .int x2, .int (nI i1), .int x, .ref (q 0), .int a1]) (fun hj1 => ?_) ?_
          · refine lv_if_eq (tgt := 55) hx hb dX2_fix_48 (by decide) (fun c_5 => ?_) (fun c_5 => ?_)
            · refine lv_iconst (v := 0) hx hb dX2_fix_55 (by decide) ?_
              exact hj1 _ _ _ ⟨0, ls, (by (rw [if_pos c_5]); first | done | rfl), lv_sub hl [0, 1, 2, 3, 4, 5] rfl, ⟨rfl, rfl⟩, rfl⟩
            · refine lv_iconst (v := 1) hx hb dX2_fix_51 (by decide) ?_
              refine lv_goto (tgt := 56) hx hb dX2_fix_52 (by decide) ?_
              exact hj1 _ _ _ ⟨1, ls, (by (rw [if_neg c_5]); first | done | rfl), lv_sub hl [0, 1, 2, 3, 4, 5] rfl, ⟨rfl, rfl⟩, rfl⟩
          rintro H1 l1 g1 ⟨x1_0, ls, ex1_0, hl, ⟨rfl, rfl⟩, rfl⟩
          subst x1_0
          have hPc := hP.sub (ws' := (wM q cq T R S X (nI n) h k 0 a o)) [0, 1, 2, 3, 4] rfl
          have hKc := hK.sub (tys' := (tyM cq)) [0, 1, 2, 3] rfl
          refine vp_callSi (va_Run.run (va_runV (As := [.int x, .int (nI i1), .int x2, .int (if x3 = 0 then 0 else 1 : Int32)]) (rest := [.int a1]) ⟨hx, hb, hml, hown, hts⟩ (c_X2_valueWith l D q cq T R S X (nI n) h k 0 a o x (nI i1) x2 (if x3 = 0 then 0 else 1 : Int32) hin_x_6) (cwV 4 hts gX2_fix_X2_valueWith rfl rfl rfl (by decide +kernel) ⟨Nat.le_of_ble_eq_true rfl, Nat.le_of_ble_eq_true rfl⟩) ⟨fun a U g mk z => ⟨z.1, z.2.1, va_K.moved (u := U) (U := U.calling g mk a) (Vm.Alike.refl U.vm) z.2.2.1, z.2.2.2.blind g mk a⟩, va_recv hKc hPc (ci := 2) (q0 := 0) rfl rfl, fun U hU hW => ⟨rfl, by rw [hU]; exact hPc, va_K.moved hW.alike hKc, hE.at0 hS hU hW⟩⟩ rfl rfl hl.1 rfl (lv_room (Nat.le_of_ble_eq_true rfl)) dX2_fix_56 ⟨(Nat.zero_le _), (Nat.zero_le _)⟩)) (fun r9 hr => ?_)
          subst r9
          refine lv_iload hx hb dX2_fix_59 (lv_at hl 0 rfl) ?_
          refine lv_ishl hx hb dX2_fix_61 ?_
          refine lv_ior hx hb dX2_fix_62 ?_
          refine lv_istore (lv' := [(4, .int (a1 ||| ((fX2_valueWith T x (nI i1) x2 (if x3 = 0 then 0 else 1 : Int32)) <<< ((nI i1) &&& 31)))), (5, .int (nI i1)), (0, .ref (q 0)), (1, .int x), (2, .int x2), (3, .int x3)]) hx hb dX2_fix_63 hl (by decide) rfl (fun ls hl => ?_)
          refine lv_iinc (v := (nI (i1 + 1))) (lv' := [(5, .int (nI (i1 + 1))), (4, .int (a1 ||| ((fX2_valueWith T x (nI i1) x2 (if x3 = 0 then 0 else 1 : Int32)) <<< ((nI i1) &&& 31)))), (0, .ref (q 0)), (1, .int x), (2, .int x2), (3, .int x3)]) hx hb dX2_fix_65 hl (k := 1) rfl (by first | exact nI_add _ _ | rfl) (by decide) rfl (fun ls hl => ?_)
          refine lv_goto (tgt := 33) hx hb dX2_fix_68 (by decide) ?_
          exact ih1 (i1 + 1) (a1 ||| ((fX2_valueWith T x (nI i1) x2 (if x3 = 0 then 0 else 1 : Int32)) <<< ((nI i1) &&& 31))) ls (by omega) ((congrArg (lp (sX2_fix_33 T x x2 x3) n1 (i1 + 1)) (show (a1 ||| ((fX2_valueWith T x (nI i1) x2 (if x3 = 0 then 0 else 1 : Int32)) <<< ((nI i1) &&& 31))) = (sX2_fix_33 T x x2 x3) i1 a1 from by first | ((rw [sX2_fix_33]); first | done | rfl) | rfl)).trans hf1) (lv_sub hl [0, 1, 2, 3, 4, 5] rfl)
    · refine lv_aload_n hx hb dX2_fix_21 rfl (lv_at hl 0 rfl) ?_
      refine lv_iconst (v := 1) hx hb dX2_fix_22 (by decide) ?_
      have hPc := hP.sub (ws' := (wM q cq T R S X (nI n) h k 0 a o)) [0, 1, 2, 3, 4] rfl
      have hKc := hK.sub (tys' := (tyM cq)) [0, 1, 2, 3] rfl
      have hDc := hD.sub (ws' := (wM q cq T R S X (nI n) h k 0 a o)) [0, 1, 2, 3, 4] (by decide) rfl
      have hFc := va_free (wc := (wM q cq T R S X (nI n) h k 0 a o)) hD hS hA [0, 1, 2, 3, 4] rfl
      refine va_calli (va_runV (As := [.int 1]) (rest := []) ⟨hx, hb, hml, hown, hts⟩ (c_X2_fails l D q cq H.size T R S X (nI n) h k 0 a o 1) (cwV 1 hts gX2_fix_X2_fails rfl rfl rfl (by decide +kernel) ⟨Nat.le_of_ble_eq_true rfl, Nat.le_of_ble_eq_true rfl⟩) ⟨fun a U g mk z => ⟨z.1, z.2.1, z.2.2.1, va_K.moved (u := U) (U := U.calling g mk a) (Vm.Alike.refl U.vm) z.2.2.2.1, z.2.2.2.2.1, z.2.2.2.2.2.blind g mk a⟩, va_recv hKc hPc (ci := 2) (q0 := 0) rfl rfl, fun U hU hW => ⟨rfl, by rw [hU], by rw [hU]; exact hPc, va_K.moved hW.alike hKc, hDc.weaken (fun _ _ _ _ => trivial), hE.at hS hU hW hFc⟩⟩ rfl rfl hl.1 rfl (lv_room (Nat.le_of_ble_eq_true rfl)) dX2_fix_23 ⟨(Nat.zero_le _), (Nat.zero_le _)⟩) hS (fun q _ h => hFc q h) hFc (fun r9 u9 t8 H1 locs ht hvm hw hB hz1 hk1 hS => ?_)
      obtain ⟨hP1, hD1⟩ := hB
      rw [ht] at hP1
      obtain ⟨hP, hD⟩ := va_join (wr := []) (w1 := (wM q cq T R S X (nI n) h k ((fX2_fails 1).2) a o)) hP hD [0, 1, 2, 3, 4] [] rfl rfl (by decide) (by decide) hk1 hFc hP1 hD1
      have hP := hP.sub (ws' := (wM q cq T R S X (nI n) h k ((fX2_fails 1).2) a o)) [0, 1, 2, 3, 4] rfl
      have hD := hD.sub (ws' := (wM q cq T R S X (nI n) h k ((fX2_fails 1).2) a o)) [0, 1, 2, 3, 4] (by decide) rfl
      generalize H1 = H at hP hS ⊢
      subst r9
      have hq : (fX2_fix T R n x x2 x3) = ((fX2_fails 1).1, T, R, n, (fX2_fails 1).2) := Eq.symm (by first | ((rw [fX2_fix, if_neg c_1, if_pos c_2]); first | done | rfl) | rfl)
      exact W.iret (v := (fX2_fails 1).1) hx hb hr (fun t9 ht hW => ⟨⟨(fX2_fails 1).1, (), rfl, by rw [hq], by rw [hq]; exact ⟨by rw [ht]; exact hP, hD⟩⟩, hS.F ht⟩) hS.2.2 dX2_fix_26
theorem in_X2_substitute_X2 : ∀ w ∈ wsX20, w ∈ wsX2_substitute := by decide +kernel
def sX2_substitute_40 (T : Nat → Int32) (x : Int32) (x2 : Int32) (x3 : Int32) (i1 : Nat) (a1 : Int32) : Int32 := (a1 ||| ((fX2_valueWith T x (nI i1) x2 (((T x3.toNatClampNeg) >>> ((nI i1) &&& 31)) &&& 1)) <<< ((nI i1) &&& 31)))
def fX2_substitute (T : Nat → Int32) (R : Nat → Int32) (n : Nat) (x : Int32) (x2 : Int32) (x3 : Int32) : Int32 × (Nat → Int32) × (Nat → Int32) × Nat × Int32 := if (fX2_isOne x) = 0 then ((fX2_fails 1).1, T, R, n, (fX2_fails 1).2) else (if (fX2_in x2 0 3) = 0 then ((fX2_fails 1).1, T, R, n, (fX2_fails 1).2) else (if (fX2_isOne x3) = 0 then ((fX2_fails 1).1, T, R, n, (fX2_fails 1).2) else ((fX2_sets T R n x (lp (sX2_substitute_40 T x x2 x3) 16 0 0)).1, (fX2_sets T R n x (lp (sX2_substitute_40 T x x2 x3) 16 0 0)).2.1, (fX2_sets T R n x (lp (sX2_substitute_40 T x x2 x3) 16 0 0)).2.2.1, ((fX2_sets T R n x (lp (sX2_substitute_40 T x x2 x3) 16 0 0)).2.2.2), 0)))
set_option maxHeartbeats 4000000 in
set_option maxRecDepth 100000 in
theorem c_X2_substitute (l : Launch) (D : va_G) (q : Nat → Nat) (cq : Nat → ClassId) (sz : Nat) (T : Nat → Int32) (R : Nat → Int32) (S : Nat → Int32) (X : Nat → Int32) (n : Nat) (h : Int32) (k : Int32) (th : Int32) (a : Int32) (o : Int32) (x : Int32) (x2 : Int32) (x3 : Int32) (hn : n ≤ 4) : Met l yX2_substitute wsX2_substitute ({ frames := 3, cells := 0, slots := 0, locals := 67 }) (va_Pc [.ref (q 0), .int x, .int x2, .int x3] (fun U => U.heap.size = sz ∧ va_P D vwCl (wM q cq T R S X (nI n) h k th a o) U.heap ∧ va_K D vwCl (tyM cq) U ∧ va_D (fun _ => True) (wM q cq T R S X (nI n) h k th a o) ∧ envE (va_A (wM q cq T R S X (nI n) h k th a o) sz) U)) (va_Qi (fun r9 (_ : Unit) => r9 = (fX2_substitute T R n x x2 x3).1) (fun _ t9 => va_P D vwCl (wM q cq ((fX2_substitute T R n x x2 x3).2.1) ((fX2_substitute T R n x x2 x3).2.2.1) S X (nI (fX2_substitute T R n x x2 x3).2.2.2.1) h k ((fX2_substitute T R n x x2 x3).2.2.2.2) a o) t9.heap ∧ va_D (va_A (wM q cq T R S X (nI n) h k th a o) sz) (wM q cq ((fX2_substitute T R n x x2 x3).2.1) ((fX2_substitute T R n x x2 x3).2.2.1) S X (nI (fX2_substitute T R n x x2 x3).2.2.2.1) h k ((fX2_substitute T R n x x2 x3).2.2.2.2) a o)) (va_A (wM q cq T R S X (nI n) h k th a o) sz)) 0 0 (va_A (wM q cq T R S X (nI n) h k th a o) sz) := by
  refine Met.ofW (cc := cX2_substitute) (maxL := 6) (ret := (some .int)) (by decide) rfl ?_
  intro p e s m args below meth c s₁ B hml hv
  obtain ⟨rfl, hsz, hP, hK, hD0, hE⟩ := hv
  have hx := B.exec
  have hb := B.bytes
  have hr := B.returns
  have hts := atoms_spec (ws := wsX2_substitute) B.pre
  have hown : s.vm.findClass RX2 = some m.cls := findClass_of_methodNamed B.named
  have hlocks := B.notSynchronized
  subst hsz
  have hD := hD0.self (sz := s.heap.size)
  generalize hAe : va_A (wM q cq T R S X (nI n) h k th a o) s.heap.size = A at hD hE ⊢
  have hA : ∀ q : Nat, s.heap.size ≤ q → A q := fun q h => by rw [← hAe]; exact Or.inr h
  have hS : va_S A s.heap s.heap [] := va_S.rf
  have hP : va_P D vwCl (wM q cq T R S X (nI n) h k th a o) s.heap := hP
  have hl := lv_entry ([.ref (q 0), .int x, .int x2, .int x3]) (n := 6) (Nat.le_of_ble_eq_true rfl)
  rw [lg_entry_eq]
  generalize (lg_sl ([.ref (q 0), .int x, .int x2, .int x3]) ++ List.replicate (6 - (lg_sl ([.ref (q 0), .int x, .int x2, .int x3])).length) Slot.unset).toArray = ls at hl ⊢
  have hl : lv_has ls 6 [(0, .ref (q 0)), (1, .int x), (2, .int x2), (3, .int x3)] := hl
  refine lv_aload_n hx hb dX2_substitute_0 rfl (lv_at hl 0 rfl) ?_
  refine lv_iconst (v := 0) hx hb dX2_substitute_1 (by decide) ?_
  refine va_put (D := D) (ci := 2) (v := .int 0) (ty := .int) (C := RX2) (T := TX2) (N := 10) hx hb hts in_X2_substitute_X2 tyX2 tyX2_ok nmX2 hown hK hP hD hS 0 rfl rfl 7 (by decide) (hts (.fieldLink RX2 27 "ZhegalkinBenchModel" "thrown" "I") (List.mem_of_getElem? (i := 1) rfl)) (fun _ h9 => h9) rfl (by decide +kernel) rfl rfl (Nat.le_of_ble_eq_true rfl) dX2_substitute_2 (fun H locs hP hD hS => ?_)
  have hP : va_P D vwCl (wM q cq T R S X (nI n) h k 0 a o) H := hP
  have hD : va_D A (wM q cq T R S X (nI n) h k 0 a o) := hD
  refine lv_iload_n hx hb dX2_substitute_5 rfl (lv_at hl 1 rfl) ?_
  refine vp_callSi (va_Run.run (va_runS (As := [.int x]) (rest := []) ⟨hx, hb, hml, hown, hts⟩ (c_X2_isOne l x) (va_cwS 1 hts gX2_substitute_X2_isOne rfl rfl rfl (by decide +kernel) ⟨Nat.le_of_ble_eq_true rfl, Nat.le_of_ble_eq_true rfl⟩) ⟨fun _ _ _ _ z => z, fun _ _ _ => ⟨rfl, trivial⟩⟩ rfl rfl hl.1 rfl (lv_room (Nat.le_of_ble_eq_true rfl)) dX2_substitute_6 ⟨(Nat.zero_le _), (Nat.zero_le _)⟩)) (fun r9 hr => ?_)
  subst r9
  refine lv_if_eq (tgt := 28) hx hb dX2_substitute_9 (by decide) (fun c_1 => ?_) (fun c_1 => ?_)
  · refine lv_aload_n hx hb dX2_substitute_28 rfl (lv_at hl 0 rfl) ?_
    refine lv_iconst (v := 1) hx hb dX2_substitute_29 (by decide) ?_
    have hPc := hP.sub (ws' := (wM q cq T R S X (nI n) h k 0 a o)) [0, 1, 2, 3, 4] rfl
    have hKc := hK.sub (tys' := (tyM cq)) [0, 1, 2, 3] rfl
    have hDc := hD.sub (ws' := (wM q cq T R S X (nI n) h k 0 a o)) [0, 1, 2, 3, 4] (by decide) rfl
    have hFc := va_free (wc := (wM q cq T R S X (nI n) h k 0 a o)) hD hS hA [0, 1, 2, 3, 4] rfl
    refine va_calli (va_runV (As := [.int 1]) (rest := []) ⟨hx, hb, hml, hown, hts⟩ (c_X2_fails l D q cq H.size T R S X (nI n) h k 0 a o 1) (cwV 1 hts gX2_substitute_X2_fails rfl rfl rfl (by decide +kernel) ⟨Nat.le_of_ble_eq_true rfl, Nat.le_of_ble_eq_true rfl⟩) ⟨fun a U g mk z => ⟨z.1, z.2.1, z.2.2.1, va_K.moved (u := U) (U := U.calling g mk a) (Vm.Alike.refl U.vm) z.2.2.2.1, z.2.2.2.2.1, z.2.2.2.2.2.blind g mk a⟩, va_recv hKc hPc (ci := 2) (q0 := 0) rfl rfl, fun U hU hW => ⟨rfl, by rw [hU], by rw [hU]; exact hPc, va_K.moved hW.alike hKc, hDc.weaken (fun _ _ _ _ => trivial), hE.at hS hU hW hFc⟩⟩ rfl rfl hl.1 rfl (lv_room (Nat.le_of_ble_eq_true rfl)) dX2_substitute_30 ⟨(Nat.zero_le _), (Nat.zero_le _)⟩) hS (fun q _ h => hFc q h) hFc (fun r9 u9 t8 H1 locs ht hvm hw hB hz1 hk1 hS => ?_)
    obtain ⟨hP1, hD1⟩ := hB
    rw [ht] at hP1
    obtain ⟨hP, hD⟩ := va_join (wr := []) (w1 := (wM q cq T R S X (nI n) h k ((fX2_fails 1).2) a o)) hP hD [0, 1, 2, 3, 4] [] rfl rfl (by decide) (by decide) hk1 hFc hP1 hD1
    have hP := hP.sub (ws' := (wM q cq T R S X (nI n) h k ((fX2_fails 1).2) a o)) [0, 1, 2, 3, 4] rfl
    have hD := hD.sub (ws' := (wM q cq T R S X (nI n) h k ((fX2_fails 1).2) a o)) [0, 1, 2, 3, 4] (by decide) rfl
    generalize H1 = H at hP hS ⊢
    subst r9
    have hq : (fX2_substitute T R n x x2 x3) = ((fX2_fails 1).1, T, R, n, (fX2_fails 1).2) := Eq.symm (by first | ((rw [fX2_substitute, if_pos c_1]); first | done | rfl) | rfl)
    exact W.iret (v := (fX2_fails 1).1) hx hb hr (fun t9 ht hW => ⟨⟨(fX2_fails 1).1, (), rfl, by rw [hq], by rw [hq]; exact ⟨by rw [ht]; exact hP, hD⟩⟩, hS.F ht⟩) hS.2.2 dX2_substitute_33
  · refine lv_iload_n hx hb dX2_substitute_12 rfl (lv_at hl 2 rfl) ?_
    refine lv_iconst (v := 0) hx hb dX2_substitute_13 (by decide) ?_
    refine lv_iconst (v := 3) hx hb dX2_substitute_14 (by decide) ?_
    refine vp_callSi (va_Run.run (va_runS (As := [.int x2, .int 0, .int 3]) (rest := []) ⟨hx, hb, hml, hown, hts⟩ (c_X2_in l x2 0 3) (va_cwS 3 hts gX2_substitute_X2_in rfl rfl rfl (by decide +kernel) ⟨Nat.le_of_ble_eq_true rfl, Nat.le_of_ble_eq_true rfl⟩) ⟨fun _ _ _ _ z => z, fun _ _ _ => ⟨rfl, trivial⟩⟩ rfl rfl hl.1 rfl (lv_room (Nat.le_of_ble_eq_true rfl)) dX2_substitute_15 ⟨(Nat.zero_le _), (Nat.zero_le _)⟩)) (fun r9 hr => ?_)
    subst r9
    refine lv_if_eq (tgt := 28) hx hb dX2_substitute_18 (by decide) (fun c_2 => ?_) (fun c_2 => ?_)
    · refine lv_aload_n hx hb dX2_substitute_28 rfl (lv_at hl 0 rfl) ?_
      refine lv_iconst (v := 1) hx hb dX2_substitute_29 (by decide) ?_
      have hPc := hP.sub (ws' := (wM q cq T R S X (nI n) h k 0 a o)) [0, 1, 2, 3, 4] rfl
      have hKc := hK.sub (tys' := (tyM cq)) [0, 1, 2, 3] rfl
      have hDc := hD.sub (ws' := (wM q cq T R S X (nI n) h k 0 a o)) [0, 1, 2, 3, 4] (by decide) rfl
      have hFc := va_free (wc := (wM q cq T R S X (nI n) h k 0 a o)) hD hS hA [0, 1, 2, 3, 4] rfl
      refine va_calli (va_runV (As := [.int 1]) (rest := []) ⟨hx, hb, hml, hown, hts⟩ (c_X2_fails l D q cq H.size T R S X (nI n) h k 0 a o 1) (cwV 1 hts gX2_substitute_X2_fails rfl rfl rfl (by decide +kernel) ⟨Nat.le_of_ble_eq_true rfl, Nat.le_of_ble_eq_true rfl⟩) ⟨fun a U g mk z => ⟨z.1, z.2.1, z.2.2.1, va_K.moved (u := U) (U := U.calling g mk a) (Vm.Alike.refl U.vm) z.2.2.2.1, z.2.2.2.2.1, z.2.2.2.2.2.blind g mk a⟩, va_recv hKc hPc (ci := 2) (q0 := 0) rfl rfl, fun U hU hW => ⟨rfl, by rw [hU], by rw [hU]; exact hPc, va_K.moved hW.alike hKc, hDc.weaken (fun _ _ _ _ => trivial), hE.at hS hU hW hFc⟩⟩ rfl rfl hl.1 rfl (lv_room (Nat.le_of_ble_eq_true rfl)) dX2_substitute_30 ⟨(Nat.zero_le _), (Nat.zero_le _)⟩) hS (fun q _ h => hFc q h) hFc (fun r9 u9 t8 H1 locs ht hvm hw hB hz1 hk1 hS => ?_)
      obtain ⟨hP1, hD1⟩ := hB
      rw [ht] at hP1
      obtain ⟨hP, hD⟩ := va_join (wr := []) (w1 := (wM q cq T R S X (nI n) h k ((fX2_fails 1).2) a o)) hP hD [0, 1, 2, 3, 4] [] rfl rfl (by decide) (by decide) hk1 hFc hP1 hD1
      have hP := hP.sub (ws' := (wM q cq T R S X (nI n) h k ((fX2_fails 1).2) a o)) [0, 1, 2, 3, 4] rfl
      have hD := hD.sub (ws' := (wM q cq T R S X (nI n) h k ((fX2_fails 1).2) a o)) [0, 1, 2, 3, 4] (by decide) rfl
      generalize H1 = H at hP hS ⊢
      subst r9
      have hq : (fX2_substitute T R n x x2 x3) = ((fX2_fails 1).1, T, R, n, (fX2_fails 1).2) := Eq.symm (by first | ((rw [fX2_substitute, if_neg c_1, if_pos c_2]); first | done | rfl) | rfl)
      exact W.iret (v := (fX2_fails 1).1) hx hb hr (fun t9 ht hW => ⟨⟨(fX2_fails 1).1, (), rfl, by rw [hq], by rw [hq]; exact ⟨by rw [ht]; exact hP, hD⟩⟩, hS.F ht⟩) hS.2.2 dX2_substitute_33
    · refine lv_iload_n hx hb dX2_substitute_21 rfl (lv_at hl 3 rfl) ?_
      refine vp_callSi (va_Run.run (va_runS (As := [.int x3]) (rest := []) ⟨hx, hb, hml, hown, hts⟩ (c_X2_isOne l x3) (va_cwS 1 hts gX2_substitute_X2_isOne rfl rfl rfl (by decide +kernel) ⟨Nat.le_of_ble_eq_true rfl, Nat.le_of_ble_eq_true rfl⟩) ⟨fun _ _ _ _ z => z, fun _ _ _ => ⟨rfl, trivial⟩⟩ rfl rfl hl.1 rfl (lv_room (Nat.le_of_ble_eq_true rfl)) dX2_substitute_22 ⟨(Nat.zero_le _), (Nat.zero_le _)⟩)) (fun r9 hr => ?_)
      subst r9
      refine lv_if_ne (tgt := 34) hx hb dX2_substitute_25 (by decide) (fun c_3 => ?_) (fun c_3 => ?_)
      · have hin_x_6 : vp_in x 6 := kisOne c_1
        have hin_x3_6 : vp_in x3 6 := kisOne c_3
        refine lv_iconst (v := 0) hx hb dX2_substitute_34 (by decide) ?_
        refine lv_istore (lv' := [(4, .int 0), (0, .ref (q 0)), (1, .int x), (2, .int x2), (3, .int x3)]) hx hb dX2_substitute_35 hl (by decide) rfl (fun ls hl => ?_)
        refine lv_iconst (v := 0) hx hb dX2_substitute_37 (by decide) ?_
        refine lv_istore (lv' := [(5, .int 0), (4, .int 0), (0, .ref (q 0)), (1, .int x), (2, .int x2), (3, .int x3)]) hx hb dX2_substitute_38 hl (by decide) rfl (fun ls hl => ?_)
        obtain ⟨F1, hF1⟩ : ∃ z9, z9 = (lp (sX2_substitute_40 T x x2 x3) 16 0 0) := ⟨_, rfl⟩
        refine vz_cut (fun H1 l1 g1 => ∃ (n1 i1 : Nat) (a1 : Int32) (ls : Array Slot), i1 + n1 = 16 ∧ lp (sX2_substitute_40 T x x2 x3) n1 i1 a1 = F1 ∧ lv_has ls 6 [(5, .int (nI i1)), (4, .int a1), (0, .ref (q 0)), (1, .int x), (2, .int x2), (3, .int x3)] ∧ (H = H1 ∧ locs = l1) ∧ g1 = F0 m 40 ls []) (fun hj => hj _ _ _ ⟨16, 0, 0, ls, (by omega), hF1.symm, lv_sub hl [0, 1, 2, 3, 4, 5] rfl, ⟨rfl, rfl⟩, rfl⟩) ?_
        rintro H1 l1 g1 ⟨n1, i1, a1, ls, hi1, hf1, hl, ⟨rfl, rfl⟩, rfl⟩
        revert i1 a1 ls
        induction n1 with
        | zero =>
          intro i1 a1 ls hi1 hf1 hl
          obtain rfl : 16 = i1 := by omega
          have hf1 : F1 = a1 := hf1.symm
          subst hf1
          refine lv_iload hx hb dX2_substitute_40 (lv_at hl 0 rfl) ?_
          refine lv_bipush (v := 16) hx hb dX2_substitute_42 (by decide) ?_
          refine lv_icmp_ge (tgt := 80) hx hb dX2_substitute_44 (by decide) (fun c_4 => ?_) (fun c_4 => ?_)
          · refine lv_aload_n hx hb dX2_substitute_80 rfl (lv_at hl 2 rfl) ?_
            refine lv_iload_n hx hb dX2_substitute_81 rfl (lv_at hl 3 rfl) ?_
            refine lv_iload hx hb dX2_substitute_82 (lv_at hl 1 rfl) ?_
            have hPc := hP.sub (ws' := (wM q cq T R S X (nI n) h k 0 a o)) [0, 1, 2, 3, 4] rfl
            have hKc := hK.sub (tys' := (tyM cq)) [0, 1, 2, 3] rfl
            have hDc := hD.sub (ws' := (wM q cq T R S X (nI n) h k 0 a o)) [0, 1, 2, 3, 4] (by decide) rfl
            have hFc := va_free (wc := (wM q cq T R S X (nI n) h k 0 a o)) hD hS hA [0, 1, 2, 3, 4] rfl
            refine va_calli (va_runV (As := [.int x, .int F1]) (rest := []) ⟨hx, hb, hml, hown, hts⟩ (c_X2_sets l D q cq H.size T R S X n h k 0 a o x F1 (by omega) hin_x_6) (cwV 2 hts gX2_substitute_X2_sets rfl rfl rfl (by decide +kernel) ⟨Nat.le_of_ble_eq_true rfl, Nat.le_of_ble_eq_true rfl⟩) ⟨fun a U g mk z => ⟨z.1, z.2.1, z.2.2.1, va_K.moved (u := U) (U := U.calling g mk a) (Vm.Alike.refl U.vm) z.2.2.2.1, z.2.2.2.2.1, z.2.2.2.2.2.blind g mk a⟩, va_recv hKc hPc (ci := 2) (q0 := 0) rfl rfl, fun U hU hW => ⟨rfl, by rw [hU], by rw [hU]; exact hPc, va_K.moved hW.alike hKc, hDc.weaken (fun _ _ _ _ => trivial), hE.at hS hU hW hFc⟩⟩ rfl rfl hl.1 rfl (lv_room (Nat.le_of_ble_eq_true rfl)) dX2_substitute_84 ⟨(Nat.zero_le _), (Nat.zero_le _)⟩) hS (fun q _ h => hFc q h) hFc (fun r9 u9 t8 H1 locs ht hvm hw hB hz1 hk1 hS => ?_)
            obtain ⟨hP1, hD1⟩ := hB
            rw [ht] at hP1
            obtain ⟨hP, hD⟩ := va_join (wr := []) (w1 := (wM q cq ((fX2_sets T R n x F1).2.1) ((fX2_sets T R n x F1).2.2.1) S X (nI (fX2_sets T R n x F1).2.2.2) h k 0 a o)) hP hD [0, 1, 2, 3, 4] [] rfl rfl (by decide) (by decide) hk1 hFc hP1 hD1
            have hP := hP.sub (ws' := (wM q cq ((fX2_sets T R n x F1).2.1) ((fX2_sets T R n x F1).2.2.1) S X (nI (fX2_sets T R n x F1).2.2.2) h k 0 a o)) [0, 1, 2, 3, 4] rfl
            have hD := hD.sub (ws' := (wM q cq ((fX2_sets T R n x F1).2.1) ((fX2_sets T R n x F1).2.2.1) S X (nI (fX2_sets T R n x F1).2.2.2) h k 0 a o)) [0, 1, 2, 3, 4] (by decide) rfl
            generalize H1 = H at hP hS ⊢
            subst r9
            have hq : (fX2_substitute T R n x x2 x3) = ((fX2_sets T R n x F1).1, (fX2_sets T R n x F1).2.1, (fX2_sets T R n x F1).2.2.1, ((fX2_sets T R n x F1).2.2.2), 0) := Eq.symm (by first | ((rw [fX2_substitute, if_neg c_1, if_neg c_2, if_neg c_3]); (try rw [← hF1]); first | done | rfl) | rfl)
            exact W.iret (v := (fX2_sets T R n x F1).1) hx hb hr (fun t9 ht hW => ⟨⟨(fX2_sets T R n x F1).1, (), rfl, by rw [hq], by rw [hq]; exact ⟨by rw [ht]; exact hP, hD⟩⟩, hS.F ht⟩) hS.2.2 dX2_substitute_87
          · exact absurd (nI_le (a := 16) (b := 16) (by omega) (by omega)) c_4
        | succ n1 ih1 =>
          intro i1 a1 ls hi1 hf1 hl
          refine lv_iload hx hb dX2_substitute_40 (lv_at hl 0 rfl) ?_
          refine lv_bipush (v := 16) hx hb dX2_substitute_42 (by decide) ?_
          refine lv_icmp_ge (tgt := 80) hx hb dX2_substitute_44 (by decide) (fun c_5 => ?_) (fun c_5 => ?_)
          · exact absurd c_5 (nI_ge (a := i1) (b := 16) (by omega) (by omega))
          · refine lv_iload hx hb dX2_substitute_47 (lv_at hl 1 rfl) ?_
            refine lv_aload_n hx hb dX2_substitute_49 rfl (lv_at hl 2 rfl) ?_
            refine lv_iload_n hx hb dX2_substitute_50 rfl (lv_at hl 3 rfl) ?_
            refine lv_iload hx hb dX2_substitute_51 (lv_at hl 0 rfl) ?_
            refine lv_iload_n hx hb dX2_substitute_53 rfl (lv_at hl 4 rfl) ?_
            refine lv_aload_n hx hb dX2_substitute_54 rfl (lv_at hl 2 rfl) ?_
            refine va_get (D := D) (ci := 2) (v := .ref (q 1)) (C := RX2) (T := TX2) (N := 10) hx hb hts in_X2_substitute_X2 hown hK hP 0 rfl rfl 0 (by decide) (hts (.fieldLink RX2 7 "ZhegalkinBenchModel" "now" "[I") (List.mem_of_getElem? (i := 2) rfl)) (fun _ h9 => h9) rfl dX2_substitute_55 ?_
            refine lv_iload_n hx hb dX2_substitute_58 rfl (lv_at hl 5 rfl) ?_
            refine va_iald hx hb hK hP 1 0 rfl rfl hin_x3_6 dX2_substitute_59 ?_
            refine lv_iload hx hb dX2_substitute_60 (lv_at hl 0 rfl) ?_
            refine lv_ishr hx hb dX2_substitute_62 ?_
            refine lv_iconst (v := 1) hx hb dX2_substitute_63 (by decide) ?_
            refine lv_iand hx hb dX2_substitute_64 ?_
            have hPc := hP.sub (ws' := (wM q cq T R S X (nI n) h k 0 a o)) [0, 1, 2, 3, 4] rfl
            have hKc := hK.sub (tys' := (tyM cq)) [0, 1, 2, 3] rfl
            refine vp_callSi (va_Run.run (va_runV (As := [.int x, .int (nI i1), .int x2, .int (((T x3.toNatClampNeg) >>> ((nI i1) &&& 31)) &&& 1)]) (rest := [.int a1]) ⟨hx, hb, hml, hown, hts⟩ (c_X2_valueWith l D q cq T R S X (nI n) h k 0 a o x (nI i1) x2 (((T x3.toNatClampNeg) >>> ((nI i1) &&& 31)) &&& 1) hin_x_6) (cwV 4 hts gX2_substitute_X2_valueWith rfl rfl rfl (by decide +kernel) ⟨Nat.le_of_ble_eq_true rfl, Nat.le_of_ble_eq_true rfl⟩) ⟨fun a U g mk z => ⟨z.1, z.2.1, va_K.moved (u := U) (U := U.calling g mk a) (Vm.Alike.refl U.vm) z.2.2.1, z.2.2.2.blind g mk a⟩, va_recv hKc hPc (ci := 2) (q0 := 0) rfl rfl, fun U hU hW => ⟨rfl, by rw [hU]; exact hPc, va_K.moved hW.alike hKc, hE.at0 hS hU hW⟩⟩ rfl rfl hl.1 rfl (lv_room (Nat.le_of_ble_eq_true rfl)) dX2_substitute_65 ⟨(Nat.zero_le _), (Nat.zero_le _)⟩)) (fun r9 hr => ?_)
            subst r9
            refine lv_iload hx hb dX2_substitute_68 (lv_at hl 0 rfl) ?_
            refine lv_ishl hx hb dX2_substitute_70 ?_
            refine lv_ior hx hb dX2_substitute_71 ?_
            refine lv_istore (lv' := [(4, .int (a1 ||| ((fX2_valueWith T x (nI i1) x2 (((T x3.toNatClampNeg) >>> ((nI i1) &&& 31)) &&& 1)) <<< ((nI i1) &&& 31)))), (5, .int (nI i1)), (0, .ref (q 0)), (1, .int x), (2, .int x2), (3, .int x3)]) hx hb dX2_substitute_72 hl (by decide) rfl (fun ls hl => ?_)
            refine lv_iinc (v := (nI (i1 + 1))) (lv' := [(5, .int (nI (i1 + 1))), (4, .int (a1 ||| ((fX2_valueWith T x (nI i1) x2 (((T x3.toNatClampNeg) >>> ((nI i1) &&& 31)) &&& 1)) <<< ((nI i1) &&& 31)))), (0, .ref (q 0)), (1, .int x), (2, .int x2), (3, .int x3)]) hx hb dX2_substitute_74 hl (k := 1) rfl (by first | exact nI_add _ _ | rfl) (by decide) rfl (fun ls hl => ?_)
            refine lv_goto (tgt := 40) hx hb dX2_substitute_77 (by decide) ?_
            exact ih1 (i1 + 1) (a1 ||| ((fX2_valueWith T x (nI i1) x2 (((T x3.toNatClampNeg) >>> ((nI i1) &&& 31)) &&& 1)) <<< ((nI i1) &&& 31))) ls (by omega) ((congrArg (lp (sX2_substitute_40 T x x2 x3) n1 (i1 + 1)) (show (a1 ||| ((fX2_valueWith T x (nI i1) x2 (((T x3.toNatClampNeg) >>> ((nI i1) &&& 31)) &&& 1)) <<< ((nI i1) &&& 31))) = (sX2_substitute_40 T x x2 x3) i1 a1 from by first | ((rw [sX2_substitute_40]); first | done | rfl) | rfl)).trans hf1) (lv_sub hl [0, 1, 2, 3, 4, 5] rfl)
      · refine lv_aload_n hx hb dX2_substitute_28 rfl (lv_at hl 0 rfl) ?_
        refine lv_iconst (v := 1) hx hb dX2_substitute_29 (by decide) ?_
        have hPc := hP.sub (ws' := (wM q cq T R S X (nI n) h k 0 a o)) [0, 1, 2, 3, 4] rfl
        have hKc := hK.sub (tys' := (tyM cq)) [0, 1, 2, 3] rfl
        have hDc := hD.sub (ws' := (wM q cq T R S X (nI n) h k 0 a o)) [0, 1, 2, 3, 4] (by decide) rfl
        have hFc := va_free (wc := (wM q cq T R S X (nI n) h k 0 a o)) hD hS hA [0, 1, 2, 3, 4] rfl
        refine va_calli (va_runV (As := [.int 1]) (rest := []) ⟨hx, hb, hml, hown, hts⟩ (c_X2_fails l D q cq H.size T R S X (nI n) h k 0 a o 1) (cwV 1 hts gX2_substitute_X2_fails rfl rfl rfl (by decide +kernel) ⟨Nat.le_of_ble_eq_true rfl, Nat.le_of_ble_eq_true rfl⟩) ⟨fun a U g mk z => ⟨z.1, z.2.1, z.2.2.1, va_K.moved (u := U) (U := U.calling g mk a) (Vm.Alike.refl U.vm) z.2.2.2.1, z.2.2.2.2.1, z.2.2.2.2.2.blind g mk a⟩, va_recv hKc hPc (ci := 2) (q0 := 0) rfl rfl, fun U hU hW => ⟨rfl, by rw [hU], by rw [hU]; exact hPc, va_K.moved hW.alike hKc, hDc.weaken (fun _ _ _ _ => trivial), hE.at hS hU hW hFc⟩⟩ rfl rfl hl.1 rfl (lv_room (Nat.le_of_ble_eq_true rfl)) dX2_substitute_30 ⟨(Nat.zero_le _), (Nat.zero_le _)⟩) hS (fun q _ h => hFc q h) hFc (fun r9 u9 t8 H1 locs ht hvm hw hB hz1 hk1 hS => ?_)
        obtain ⟨hP1, hD1⟩ := hB
        rw [ht] at hP1
        obtain ⟨hP, hD⟩ := va_join (wr := []) (w1 := (wM q cq T R S X (nI n) h k ((fX2_fails 1).2) a o)) hP hD [0, 1, 2, 3, 4] [] rfl rfl (by decide) (by decide) hk1 hFc hP1 hD1
        have hP := hP.sub (ws' := (wM q cq T R S X (nI n) h k ((fX2_fails 1).2) a o)) [0, 1, 2, 3, 4] rfl
        have hD := hD.sub (ws' := (wM q cq T R S X (nI n) h k ((fX2_fails 1).2) a o)) [0, 1, 2, 3, 4] (by decide) rfl
        generalize H1 = H at hP hS ⊢
        subst r9
        have hq : (fX2_substitute T R n x x2 x3) = ((fX2_fails 1).1, T, R, n, (fX2_fails 1).2) := Eq.symm (by first | ((rw [fX2_substitute, if_neg c_1, if_neg c_2, if_pos c_3]); first | done | rfl) | rfl)
        exact W.iret (v := (fX2_fails 1).1) hx hb hr (fun t9 ht hW => ⟨⟨(fX2_fails 1).1, (), rfl, by rw [hq], by rw [hq]; exact ⟨by rw [ht]; exact hP, hD⟩⟩, hS.F ht⟩) hS.2.2 dX2_substitute_33
theorem in_X2_type_X2 : ∀ w ∈ wsX20, w ∈ wsX2_type := by decide +kernel
def fX2_type (X : Nat → Int32) (k : Nat) (x : Int32) : Int32 × (Nat → Int32) × Nat × Int32 := if (nI k) = 80 then ((fX2_fails 1).1, X, k, (fX2_fails 1).2) else ((nI (k + 1)), (upd X k x), (k + 1), 0)
set_option maxHeartbeats 4000000 in
set_option maxRecDepth 100000 in
theorem c_X2_type (l : Launch) (D : va_G) (q : Nat → Nat) (cq : Nat → ClassId) (sz : Nat) (T : Nat → Int32) (R : Nat → Int32) (S : Nat → Int32) (X : Nat → Int32) (n : Int32) (h : Int32) (k : Nat) (th : Int32) (a : Int32) (o : Int32) (x : Int32) (hk9 : k ≤ 80) : Met l yX2_type wsX2_type ({ frames := 1, cells := 0, slots := 0, locals := 21 }) (va_Pc [.ref (q 0), .int x] (fun U => U.heap.size = sz ∧ va_P D vwCl (wM q cq T R S X n h (nI k) th a o) U.heap ∧ va_K D vwCl (tyM cq) U ∧ va_D (fun _ => True) (wM q cq T R S X n h (nI k) th a o) ∧ envE (va_A (wM q cq T R S X n h (nI k) th a o) sz) U)) (va_Qi (fun r9 (_ : Unit) => r9 = (fX2_type X k x).1) (fun _ t9 => va_P D vwCl (wM q cq T R S ((fX2_type X k x).2.1) n h (nI (fX2_type X k x).2.2.1) ((fX2_type X k x).2.2.2) a o) t9.heap ∧ va_D (va_A (wM q cq T R S X n h (nI k) th a o) sz) (wM q cq T R S ((fX2_type X k x).2.1) n h (nI (fX2_type X k x).2.2.1) ((fX2_type X k x).2.2.2) a o)) (va_A (wM q cq T R S X n h (nI k) th a o) sz)) 0 0 (va_A (wM q cq T R S X n h (nI k) th a o) sz) := by
  refine Met.ofW (cc := cX2_type) (maxL := 2) (ret := (some .int)) (by decide) rfl ?_
  intro p e s m args below meth c s₁ B hml hv
  obtain ⟨rfl, hsz, hP, hK, hD0, hE⟩ := hv
  have hx := B.exec
  have hb := B.bytes
  have hr := B.returns
  have hts := atoms_spec (ws := wsX2_type) B.pre
  have hown : s.vm.findClass RX2 = some m.cls := findClass_of_methodNamed B.named
  have hlocks := B.notSynchronized
  subst hsz
  have hD := hD0.self (sz := s.heap.size)
  generalize hAe : va_A (wM q cq T R S X n h (nI k) th a o) s.heap.size = A at hD hE ⊢
  have hA : ∀ q : Nat, s.heap.size ≤ q → A q := fun q h => by rw [← hAe]; exact Or.inr h
  have hS : va_S A s.heap s.heap [] := va_S.rf
  have hP : va_P D vwCl (wM q cq T R S X n h (nI k) th a o) s.heap := hP
  have hl := lv_entry ([.ref (q 0), .int x]) (n := 2) (Nat.le_of_ble_eq_true rfl)
  rw [lg_entry_eq]
  generalize (lg_sl ([.ref (q 0), .int x]) ++ List.replicate (2 - (lg_sl ([.ref (q 0), .int x])).length) Slot.unset).toArray = ls at hl ⊢
  have hl : lv_has ls 2 [(0, .ref (q 0)), (1, .int x)] := hl
  refine lv_aload_n hx hb dX2_type_0 rfl (lv_at hl 0 rfl) ?_
  refine lv_iconst (v := 0) hx hb dX2_type_1 (by decide) ?_
  refine va_put (D := D) (ci := 2) (v := .int 0) (ty := .int) (C := RX2) (T := TX2) (N := 10) hx hb hts in_X2_type_X2 tyX2 tyX2_ok nmX2 hown hK hP hD hS 0 rfl rfl 7 (by decide) (hts (.fieldLink RX2 27 "ZhegalkinBenchModel" "thrown" "I") (List.mem_of_getElem? (i := 1) rfl)) (fun _ h9 => h9) rfl (by decide +kernel) rfl rfl (Nat.le_of_ble_eq_true rfl) dX2_type_2 (fun H locs hP hD hS => ?_)
  have hP : va_P D vwCl (wM q cq T R S X n h (nI k) 0 a o) H := hP
  have hD : va_D A (wM q cq T R S X n h (nI k) 0 a o) := hD
  refine lv_aload_n hx hb dX2_type_5 rfl (lv_at hl 0 rfl) ?_
  refine va_get (D := D) (ci := 2) (v := .int (nI k)) (C := RX2) (T := TX2) (N := 10) hx hb hts in_X2_type_X2 hown hK hP 0 rfl rfl 6 (by decide) (hts (.fieldLink RX2 73 "ZhegalkinBenchModel" "typed" "I") (List.mem_of_getElem? (i := 2) rfl)) (fun _ h9 => h9) rfl dX2_type_6 ?_
  refine lv_bipush (v := 80) hx hb dX2_type_9 (by decide) ?_
  refine lv_icmp_ne (tgt := 20) hx hb dX2_type_11 (by decide) (fun c_1 => ?_) (fun c_1 => ?_)
  · have hlt : k < 80 := by
      have h9 : ¬ k = 80 := fun q9 => c_1 (by rw [q9]; rfl)
      omega
    refine lv_aload_n hx hb dX2_type_20 rfl (lv_at hl 0 rfl) ?_
    refine va_get (D := D) (ci := 2) (v := .ref (q 4)) (C := RX2) (T := TX2) (N := 10) hx hb hts in_X2_type_X2 hown hK hP 0 rfl rfl 5 (by decide) (hts (.fieldLink RX2 19 "ZhegalkinBenchModel" "text" "[I") (List.mem_of_getElem? (i := 3) rfl)) (fun _ h9 => h9) rfl dX2_type_21 ?_
    refine lv_aload_n hx hb dX2_type_24 rfl (lv_at hl 0 rfl) ?_
    refine va_get (D := D) (ci := 2) (v := .int (nI k)) (C := RX2) (T := TX2) (N := 10) hx hb hts in_X2_type_X2 hown hK hP 0 rfl rfl 6 (by decide) (hts (.fieldLink RX2 73 "ZhegalkinBenchModel" "typed" "I") (List.mem_of_getElem? (i := 2) rfl)) (fun _ h9 => h9) rfl dX2_type_25 ?_
    refine lv_iload_n hx hb dX2_type_28 rfl (lv_at hl 1 rfl) ?_
    refine vz_iast hx hb hK hP hD hS 4 3 rfl rfl k (by omega) (by decide) dX2_type_29 (fun H locs hP hD hS => ?_)
    have hP : va_P D vwCl (wM q cq T R S (upd X k x) n h (nI k) 0 a o) H := hP
    have hD : va_D A (wM q cq T R S (upd X k x) n h (nI k) 0 a o) := hD
    refine lv_aload_n hx hb dX2_type_30 rfl (lv_at hl 0 rfl) ?_
    refine lv_dup hx hb dX2_type_31 rfl ?_
    refine va_get (D := D) (ci := 2) (v := .int (nI k)) (C := RX2) (T := TX2) (N := 10) hx hb hts in_X2_type_X2 hown hK hP 0 rfl rfl 6 (by decide) (hts (.fieldLink RX2 73 "ZhegalkinBenchModel" "typed" "I") (List.mem_of_getElem? (i := 2) rfl)) (fun _ h9 => h9) rfl dX2_type_32 ?_
    refine lv_iconst (v := 1) hx hb dX2_type_35 (by decide) ?_
    refine lv_iadd hx hb dX2_type_36 ?_
    refine lv_is (nI (k + 1)) (by first | exact nI_add _ _ | rfl) ?_
    refine va_put (D := D) (ci := 2) (v := .int (nI (k + 1))) (ty := .int) (C := RX2) (T := TX2) (N := 10) hx hb hts in_X2_type_X2 tyX2 tyX2_ok nmX2 hown hK hP hD hS 0 rfl rfl 6 (by decide) (hts (.fieldLink RX2 73 "ZhegalkinBenchModel" "typed" "I") (List.mem_of_getElem? (i := 2) rfl)) (fun _ h9 => h9) rfl (by decide +kernel) rfl rfl (Nat.le_of_ble_eq_true rfl) dX2_type_37 (fun H locs hP hD hS => ?_)
    have hP : va_P D vwCl (wM q cq T R S (upd X k x) n h (nI (k + 1)) 0 a o) H := hP
    have hD : va_D A (wM q cq T R S (upd X k x) n h (nI (k + 1)) 0 a o) := hD
    refine lv_aload_n hx hb dX2_type_40 rfl (lv_at hl 0 rfl) ?_
    refine va_get (D := D) (ci := 2) (v := .int (nI (k + 1))) (C := RX2) (T := TX2) (N := 10) hx hb hts in_X2_type_X2 hown hK hP 0 rfl rfl 6 (by decide) (hts (.fieldLink RX2 73 "ZhegalkinBenchModel" "typed" "I") (List.mem_of_getElem? (i := 2) rfl)) (fun _ h9 => h9) rfl dX2_type_41 ?_
    have hq : (fX2_type X k x) = ((nI (k + 1)), (upd X k x), (k + 1), 0) := Eq.symm (by first | ((rw [fX2_type, if_neg c_1]); first | done | rfl) | rfl)
    exact W.iret (v := (nI (k + 1))) hx hb hr (fun t9 ht hW => ⟨⟨(nI (k + 1)), (), rfl, by rw [hq], by rw [hq]; exact ⟨by rw [ht]; exact hP, hD⟩⟩, hS.F ht⟩) hS.2.2 dX2_type_44
  · refine lv_aload_n hx hb dX2_type_14 rfl (lv_at hl 0 rfl) ?_
    refine lv_iconst (v := 1) hx hb dX2_type_15 (by decide) ?_
    have hPc := hP.sub (ws' := (wM q cq T R S X n h (nI k) 0 a o)) [0, 1, 2, 3, 4] rfl
    have hKc := hK.sub (tys' := (tyM cq)) [0, 1, 2, 3] rfl
    have hDc := hD.sub (ws' := (wM q cq T R S X n h (nI k) 0 a o)) [0, 1, 2, 3, 4] (by decide) rfl
    have hFc := va_free (wc := (wM q cq T R S X n h (nI k) 0 a o)) hD hS hA [0, 1, 2, 3, 4] rfl
    refine va_calli (va_runV (As := [.int 1]) (rest := []) ⟨hx, hb, hml, hown, hts⟩ (c_X2_fails l D q cq H.size T R S X n h (nI k) 0 a o 1) (cwV 1 hts gX2_type_X2_fails rfl rfl rfl (by decide +kernel) ⟨Nat.le_of_ble_eq_true rfl, Nat.le_of_ble_eq_true rfl⟩) ⟨fun a U g mk z => ⟨z.1, z.2.1, z.2.2.1, va_K.moved (u := U) (U := U.calling g mk a) (Vm.Alike.refl U.vm) z.2.2.2.1, z.2.2.2.2.1, z.2.2.2.2.2.blind g mk a⟩, va_recv hKc hPc (ci := 2) (q0 := 0) rfl rfl, fun U hU hW => ⟨rfl, by rw [hU], by rw [hU]; exact hPc, va_K.moved hW.alike hKc, hDc.weaken (fun _ _ _ _ => trivial), hE.at hS hU hW hFc⟩⟩ rfl rfl hl.1 rfl (lv_room (Nat.le_of_ble_eq_true rfl)) dX2_type_16 ⟨(Nat.zero_le _), (Nat.zero_le _)⟩) hS (fun q _ h => hFc q h) hFc (fun r9 u9 t8 H1 locs ht hvm hw hB hz1 hk1 hS => ?_)
    obtain ⟨hP1, hD1⟩ := hB
    rw [ht] at hP1
    obtain ⟨hP, hD⟩ := va_join (wr := []) (w1 := (wM q cq T R S X n h (nI k) ((fX2_fails 1).2) a o)) hP hD [0, 1, 2, 3, 4] [] rfl rfl (by decide) (by decide) hk1 hFc hP1 hD1
    have hP := hP.sub (ws' := (wM q cq T R S X n h (nI k) ((fX2_fails 1).2) a o)) [0, 1, 2, 3, 4] rfl
    have hD := hD.sub (ws' := (wM q cq T R S X n h (nI k) ((fX2_fails 1).2) a o)) [0, 1, 2, 3, 4] (by decide) rfl
    generalize H1 = H at hP hS ⊢
    subst r9
    have hq : (fX2_type X k x) = ((fX2_fails 1).1, X, k, (fX2_fails 1).2) := Eq.symm (by first | ((rw [fX2_type, if_pos c_1]); first | done | rfl) | rfl)
    exact W.iret (v := (fX2_fails 1).1) hx hb hr (fun t9 ht hW => ⟨⟨(fX2_fails 1).1, (), rfl, by rw [hq], by rw [hq]; exact ⟨by rw [ht]; exact hP, hD⟩⟩, hS.F ht⟩) hS.2.2 dX2_type_19
theorem in_X2_clearText_X2 : ∀ w ∈ wsX20, w ∈ wsX2_clearText := by decide +kernel
def fX2_clearText (k : Nat) : Int32 × Nat × Int32 := ((nI k), 0, 0)
set_option maxHeartbeats 4000000 in
set_option maxRecDepth 100000 in
theorem c_X2_clearText (l : Launch) (D : va_G) (q : Nat → Nat) (cq : Nat → ClassId) (sz : Nat) (T : Nat → Int32) (R : Nat → Int32) (S : Nat → Int32) (X : Nat → Int32) (n : Int32) (h : Int32) (k : Nat) (th : Int32) (a : Int32) (o : Int32) : Met l yX2_clearText wsX2_clearText ({ frames := 0, cells := 0, slots := 0, locals := 0 }) (va_Pc [.ref (q 0)] (fun U => U.heap.size = sz ∧ va_P D vwCl (wM q cq T R S X n h (nI k) th a o) U.heap ∧ va_K D vwCl (tyM cq) U ∧ va_D (fun _ => True) (wM q cq T R S X n h (nI k) th a o) ∧ envE (va_A (wM q cq T R S X n h (nI k) th a o) sz) U)) (va_Qi (fun r9 (_ : Unit) => r9 = (fX2_clearText k).1) (fun _ t9 => va_P D vwCl (wM q cq T R S X n h (nI (fX2_clearText k).2.1) ((fX2_clearText k).2.2) a o) t9.heap ∧ va_D (va_A (wM q cq T R S X n h (nI k) th a o) sz) (wM q cq T R S X n h (nI (fX2_clearText k).2.1) ((fX2_clearText k).2.2) a o)) (va_A (wM q cq T R S X n h (nI k) th a o) sz)) 0 0 (va_A (wM q cq T R S X n h (nI k) th a o) sz) := by
  refine Met.ofW (cc := cX2_clearText) (maxL := 2) (ret := (some .int)) (by decide) rfl ?_
  intro p e s m args below meth c s₁ B hml hv
  obtain ⟨rfl, hsz, hP, hK, hD0, hE⟩ := hv
  have hx := B.exec
  have hb := B.bytes
  have hr := B.returns
  have hts := atoms_spec (ws := wsX2_clearText) B.pre
  have hown : s.vm.findClass RX2 = some m.cls := findClass_of_methodNamed B.named
  have hlocks := B.notSynchronized
  subst hsz
  have hD := hD0.self (sz := s.heap.size)
  generalize hAe : va_A (wM q cq T R S X n h (nI k) th a o) s.heap.size = A at hD hE ⊢
  have hA : ∀ q : Nat, s.heap.size ≤ q → A q := fun q h => by rw [← hAe]; exact Or.inr h
  have hS : va_S A s.heap s.heap [] := va_S.rf
  have hP : va_P D vwCl (wM q cq T R S X n h (nI k) th a o) s.heap := hP
  have hl := lv_entry ([.ref (q 0)]) (n := 2) (Nat.le_of_ble_eq_true rfl)
  rw [lg_entry_eq]
  generalize (lg_sl ([.ref (q 0)]) ++ List.replicate (2 - (lg_sl ([.ref (q 0)])).length) Slot.unset).toArray = ls at hl ⊢
  have hl : lv_has ls 2 [(0, .ref (q 0))] := hl
  refine lv_aload_n hx hb dX2_clearText_0 rfl (lv_at hl 0 rfl) ?_
  refine lv_iconst (v := 0) hx hb dX2_clearText_1 (by decide) ?_
  refine va_put (D := D) (ci := 2) (v := .int 0) (ty := .int) (C := RX2) (T := TX2) (N := 10) hx hb hts in_X2_clearText_X2 tyX2 tyX2_ok nmX2 hown hK hP hD hS 0 rfl rfl 7 (by decide) (hts (.fieldLink RX2 27 "ZhegalkinBenchModel" "thrown" "I") (List.mem_of_getElem? (i := 1) rfl)) (fun _ h9 => h9) rfl (by decide +kernel) rfl rfl (Nat.le_of_ble_eq_true rfl) dX2_clearText_2 (fun H locs hP hD hS => ?_)
  have hP : va_P D vwCl (wM q cq T R S X n h (nI k) 0 a o) H := hP
  have hD : va_D A (wM q cq T R S X n h (nI k) 0 a o) := hD
  refine lv_aload_n hx hb dX2_clearText_5 rfl (lv_at hl 0 rfl) ?_
  refine va_get (D := D) (ci := 2) (v := .int (nI k)) (C := RX2) (T := TX2) (N := 10) hx hb hts in_X2_clearText_X2 hown hK hP 0 rfl rfl 6 (by decide) (hts (.fieldLink RX2 73 "ZhegalkinBenchModel" "typed" "I") (List.mem_of_getElem? (i := 2) rfl)) (fun _ h9 => h9) rfl dX2_clearText_6 ?_
  refine lv_istore_n (lv' := [(1, .int (nI k)), (0, .ref (q 0))]) hx hb dX2_clearText_9 rfl hl (by decide) rfl (fun ls hl => ?_)
  refine lv_aload_n hx hb dX2_clearText_10 rfl (lv_at hl 1 rfl) ?_
  refine lv_iconst (v := 0) hx hb dX2_clearText_11 (by decide) ?_
  refine va_put (D := D) (ci := 2) (v := .int 0) (ty := .int) (C := RX2) (T := TX2) (N := 10) hx hb hts in_X2_clearText_X2 tyX2 tyX2_ok nmX2 hown hK hP hD hS 0 rfl rfl 6 (by decide) (hts (.fieldLink RX2 73 "ZhegalkinBenchModel" "typed" "I") (List.mem_of_getElem? (i := 2) rfl)) (fun _ h9 => h9) rfl (by decide +kernel) rfl rfl (Nat.le_of_ble_eq_true rfl) dX2_clearText_12 (fun H locs hP hD hS => ?_)
  have hP : va_P D vwCl (wM q cq T R S X n h 0 0 a o) H := hP
  have hD : va_D A (wM q cq T R S X n h 0 0 a o) := hD
  refine lv_iload_n hx hb dX2_clearText_15 rfl (lv_at hl 0 rfl) ?_
  have hq : (fX2_clearText k) = ((nI k), 0, 0) := Eq.symm (by first | ((rw [fX2_clearText]); first | done | rfl) | rfl)
  exact W.iret (v := (nI k)) hx hb hr (fun t9 ht hW => ⟨⟨(nI k), (), rfl, by rw [hq], by rw [hq]; exact ⟨by rw [ht]; exact hP, hD⟩⟩, hS.F ht⟩) hS.2.2 dX2_clearText_16
theorem in_X2_textError_X2 : ∀ w ∈ wsX20, w ∈ wsX2_textError := by decide +kernel
def fX2_textError (X : Nat → Int32) (k : Nat) : Int32 × Int32 × Nat × Int32 := if (fX2_reads X k).1 = 0 then ((nI (fX2_reads X k).2.1), 0, ((fX2_reads X k).2.1), (fX2_reads X k).2.2) else ((-1), 0, ((fX2_reads X k).2.1), (fX2_reads X k).2.2)
set_option maxHeartbeats 4000000 in
set_option maxRecDepth 100000 in
theorem c_X2_textError (l : Launch) (D : va_G) (q : Nat → Nat) (cq : Nat → ClassId) (sz : Nat) (T : Nat → Int32) (R : Nat → Int32) (S : Nat → Int32) (X : Nat → Int32) (n : Int32) (h : Int32) (k : Nat) (th : Int32) (a : Nat) (o : Int32) (hk9 : k ≤ 80) : Met l yX2_textError wsX2_textError ({ frames := 4, cells := 0, slots := 0, locals := 93 }) (va_Pc [.ref (q 0)] (fun U => U.heap.size = sz ∧ va_P D vwCl (wM q cq T R S X n h (nI k) th (nI a) o) U.heap ∧ va_K D vwCl (tyM cq) U ∧ va_D (fun _ => True) (wM q cq T R S X n h (nI k) th (nI a) o) ∧ envE (va_A (wM q cq T R S X n h (nI k) th (nI a) o) sz) U)) (va_Qi (fun r9 (_ : Unit) => r9 = (fX2_textError X k).1) (fun _ t9 => va_P D vwCl (wM q cq T R S X n h (nI k) ((fX2_textError X k).2.1) (nI (fX2_textError X k).2.2.1) ((fX2_textError X k).2.2.2)) t9.heap ∧ va_D (va_A (wM q cq T R S X n h (nI k) th (nI a) o) sz) (wM q cq T R S X n h (nI k) ((fX2_textError X k).2.1) (nI (fX2_textError X k).2.2.1) ((fX2_textError X k).2.2.2))) (va_A (wM q cq T R S X n h (nI k) th (nI a) o) sz)) 0 0 (va_A (wM q cq T R S X n h (nI k) th (nI a) o) sz) := by
  refine Met.ofW (cc := cX2_textError) (maxL := 1) (ret := (some .int)) (by decide) rfl ?_
  intro p e s m args below meth c s₁ B hml hv
  obtain ⟨rfl, hsz, hP, hK, hD0, hE⟩ := hv
  have hx := B.exec
  have hb := B.bytes
  have hr := B.returns
  have hts := atoms_spec (ws := wsX2_textError) B.pre
  have hown : s.vm.findClass RX2 = some m.cls := findClass_of_methodNamed B.named
  have hlocks := B.notSynchronized
  subst hsz
  have hD := hD0.self (sz := s.heap.size)
  generalize hAe : va_A (wM q cq T R S X n h (nI k) th (nI a) o) s.heap.size = A at hD hE ⊢
  have hA : ∀ q : Nat, s.heap.size ≤ q → A q := fun q h => by rw [← hAe]; exact Or.inr h
  have hS : va_S A s.heap s.heap [] := va_S.rf
  have hP : va_P D vwCl (wM q cq T R S X n h (nI k) th (nI a) o) s.heap := hP
  have hl := lv_entry ([.ref (q 0)]) (n := 1) (Nat.le_of_ble_eq_true rfl)
  rw [lg_entry_eq]
  generalize (lg_sl ([.ref (q 0)]) ++ List.replicate (1 - (lg_sl ([.ref (q 0)])).length) Slot.unset).toArray = ls at hl ⊢
  have hl : lv_has ls 1 [(0, .ref (q 0))] := hl
  refine lv_aload_n hx hb dX2_textError_0 rfl (lv_at hl 0 rfl) ?_
  refine lv_iconst (v := 0) hx hb dX2_textError_1 (by decide) ?_
  refine va_put (D := D) (ci := 2) (v := .int 0) (ty := .int) (C := RX2) (T := TX2) (N := 10) hx hb hts in_X2_textError_X2 tyX2 tyX2_ok nmX2 hown hK hP hD hS 0 rfl rfl 7 (by decide) (hts (.fieldLink RX2 27 "ZhegalkinBenchModel" "thrown" "I") (List.mem_of_getElem? (i := 1) rfl)) (fun _ h9 => h9) rfl (by decide +kernel) rfl rfl (Nat.le_of_ble_eq_true rfl) dX2_textError_2 (fun H locs hP hD hS => ?_)
  have hP : va_P D vwCl (wM q cq T R S X n h (nI k) 0 (nI a) o) H := hP
  have hD : va_D A (wM q cq T R S X n h (nI k) 0 (nI a) o) := hD
  refine lv_aload_n hx hb dX2_textError_5 rfl (lv_at hl 0 rfl) ?_
  have hPc := hP.sub (ws' := (wM q cq T R S X n h (nI k) 0 (nI a) o)) [0, 1, 2, 3, 4] rfl
  have hKc := hK.sub (tys' := (tyM cq)) [0, 1, 2, 3] rfl
  have hDc := hD.sub (ws' := (wM q cq T R S X n h (nI k) 0 (nI a) o)) [0, 1, 2, 3, 4] (by decide) rfl
  have hFc := va_free (wc := (wM q cq T R S X n h (nI k) 0 (nI a) o)) hD hS hA [0, 1, 2, 3, 4] rfl
  refine va_calli (va_runV (As := []) (rest := []) ⟨hx, hb, hml, hown, hts⟩ (c_X2_reads l D q cq H.size T R S X n h k 0 a o (by omega)) (cwV 0 hts gX2_textError_X2_reads rfl rfl rfl (by decide +kernel) ⟨Nat.le_of_ble_eq_true rfl, Nat.le_of_ble_eq_true rfl⟩) ⟨fun a U g mk z => ⟨z.1, z.2.1, z.2.2.1, va_K.moved (u := U) (U := U.calling g mk a) (Vm.Alike.refl U.vm) z.2.2.2.1, z.2.2.2.2.1, z.2.2.2.2.2.blind g mk a⟩, va_recv hKc hPc (ci := 2) (q0 := 0) rfl rfl, fun U hU hW => ⟨rfl, by rw [hU], by rw [hU]; exact hPc, va_K.moved hW.alike hKc, hDc.weaken (fun _ _ _ _ => trivial), hE.at hS hU hW hFc⟩⟩ rfl rfl hl.1 rfl (lv_room (Nat.le_of_ble_eq_true rfl)) dX2_textError_6 ⟨(Nat.zero_le _), (Nat.zero_le _)⟩) hS (fun q _ h => hFc q h) hFc (fun r9 u9 t8 H1 locs ht hvm hw hB hz1 hk1 hS => ?_)
  obtain ⟨hP1, hD1⟩ := hB
  rw [ht] at hP1
  obtain ⟨hP, hD⟩ := va_join (wr := []) (w1 := (wM q cq T R S X n h (nI k) 0 (nI (fX2_reads X k).2.1) ((fX2_reads X k).2.2))) hP hD [0, 1, 2, 3, 4] [] rfl rfl (by decide) (by decide) hk1 hFc hP1 hD1
  have hP := hP.sub (ws' := (wM q cq T R S X n h (nI k) 0 (nI (fX2_reads X k).2.1) ((fX2_reads X k).2.2))) [0, 1, 2, 3, 4] rfl
  have hD := hD.sub (ws' := (wM q cq T R S X n h (nI k) 0 (nI (fX2_reads X k).2.1) ((fX2_reads X k).2.2))) [0, 1, 2, 3, 4] (by decide) rfl
  generalize H1 = H at hP hS ⊢
  subst r9
  refine lv_if_eq (tgt := 16) hx hb dX2_textError_9 (by decide) (fun c_1 => ?_) (fun c_1 => ?_)
  · refine lv_aload_n hx hb dX2_textError_16 rfl (lv_at hl 0 rfl) ?_
    refine va_get (D := D) (ci := 2) (v := .int (nI (fX2_reads X k).2.1)) (C := RX2) (T := TX2) (N := 10) hx hb hts in_X2_textError_X2 hown hK hP 0 rfl rfl 8 (by decide) (hts (.fieldLink RX2 82 "ZhegalkinBenchModel" "at" "I") (List.mem_of_getElem? (i := 2) rfl)) (fun _ h9 => h9) rfl dX2_textError_17 ?_
    have hq : (fX2_textError X k) = ((nI (fX2_reads X k).2.1), 0, ((fX2_reads X k).2.1), (fX2_reads X k).2.2) := Eq.symm (by first | ((rw [fX2_textError, if_pos c_1]); first | done | rfl) | rfl)
    exact W.iret (v := (nI (fX2_reads X k).2.1)) hx hb hr (fun t9 ht hW => ⟨⟨(nI (fX2_reads X k).2.1), (), rfl, by rw [hq], by rw [hq]; exact ⟨by rw [ht]; exact hP, hD⟩⟩, hS.F ht⟩) hS.2.2 dX2_textError_20
  · refine lv_iconst (v := (-1)) hx hb dX2_textError_12 (by decide) ?_
    refine lv_goto (tgt := 20) hx hb dX2_textError_13 (by decide) ?_
    have hq : (fX2_textError X k) = ((-1), 0, ((fX2_reads X k).2.1), (fX2_reads X k).2.2) := Eq.symm (by first | ((rw [fX2_textError, if_neg c_1]); first | done | rfl) | rfl)
    exact W.iret (v := (-1)) hx hb hr (fun t9 ht hW => ⟨⟨(-1), (), rfl, by rw [hq], by rw [hq]; exact ⟨by rw [ht]; exact hP, hD⟩⟩, hS.F ht⟩) hS.2.2 dX2_textError_20
theorem in_X2_textProducts_X2 : ∀ w ∈ wsX20, w ∈ wsX2_textProducts := by decide +kernel
def fX2_textProducts (X : Nat → Int32) (k : Nat) : Int32 × Int32 × Nat × Int32 := if (fX2_reads X k).1 = 0 then ((fX2_fails 1).1, (fX2_fails 1).2, ((fX2_reads X k).2.1), (fX2_reads X k).2.2) else ((fX2_reads X k).2.2, 0, ((fX2_reads X k).2.1), (fX2_reads X k).2.2)
set_option maxHeartbeats 4000000 in
set_option maxRecDepth 100000 in
theorem c_X2_textProducts (l : Launch) (D : va_G) (q : Nat → Nat) (cq : Nat → ClassId) (sz : Nat) (T : Nat → Int32) (R : Nat → Int32) (S : Nat → Int32) (X : Nat → Int32) (n : Int32) (h : Int32) (k : Nat) (th : Int32) (a : Nat) (o : Int32) (hk9 : k ≤ 80) : Met l yX2_textProducts wsX2_textProducts ({ frames := 4, cells := 0, slots := 0, locals := 93 }) (va_Pc [.ref (q 0)] (fun U => U.heap.size = sz ∧ va_P D vwCl (wM q cq T R S X n h (nI k) th (nI a) o) U.heap ∧ va_K D vwCl (tyM cq) U ∧ va_D (fun _ => True) (wM q cq T R S X n h (nI k) th (nI a) o) ∧ envE (va_A (wM q cq T R S X n h (nI k) th (nI a) o) sz) U)) (va_Qi (fun r9 (_ : Unit) => r9 = (fX2_textProducts X k).1) (fun _ t9 => va_P D vwCl (wM q cq T R S X n h (nI k) ((fX2_textProducts X k).2.1) (nI (fX2_textProducts X k).2.2.1) ((fX2_textProducts X k).2.2.2)) t9.heap ∧ va_D (va_A (wM q cq T R S X n h (nI k) th (nI a) o) sz) (wM q cq T R S X n h (nI k) ((fX2_textProducts X k).2.1) (nI (fX2_textProducts X k).2.2.1) ((fX2_textProducts X k).2.2.2))) (va_A (wM q cq T R S X n h (nI k) th (nI a) o) sz)) 0 0 (va_A (wM q cq T R S X n h (nI k) th (nI a) o) sz) := by
  refine Met.ofW (cc := cX2_textProducts) (maxL := 1) (ret := (some .int)) (by decide) rfl ?_
  intro p e s m args below meth c s₁ B hml hv
  obtain ⟨rfl, hsz, hP, hK, hD0, hE⟩ := hv
  have hx := B.exec
  have hb := B.bytes
  have hr := B.returns
  have hts := atoms_spec (ws := wsX2_textProducts) B.pre
  have hown : s.vm.findClass RX2 = some m.cls := findClass_of_methodNamed B.named
  have hlocks := B.notSynchronized
  subst hsz
  have hD := hD0.self (sz := s.heap.size)
  generalize hAe : va_A (wM q cq T R S X n h (nI k) th (nI a) o) s.heap.size = A at hD hE ⊢
  have hA : ∀ q : Nat, s.heap.size ≤ q → A q := fun q h => by rw [← hAe]; exact Or.inr h
  have hS : va_S A s.heap s.heap [] := va_S.rf
  have hP : va_P D vwCl (wM q cq T R S X n h (nI k) th (nI a) o) s.heap := hP
  have hl := lv_entry ([.ref (q 0)]) (n := 1) (Nat.le_of_ble_eq_true rfl)
  rw [lg_entry_eq]
  generalize (lg_sl ([.ref (q 0)]) ++ List.replicate (1 - (lg_sl ([.ref (q 0)])).length) Slot.unset).toArray = ls at hl ⊢
  have hl : lv_has ls 1 [(0, .ref (q 0))] := hl
  refine lv_aload_n hx hb dX2_textProducts_0 rfl (lv_at hl 0 rfl) ?_
  refine lv_iconst (v := 0) hx hb dX2_textProducts_1 (by decide) ?_
  refine va_put (D := D) (ci := 2) (v := .int 0) (ty := .int) (C := RX2) (T := TX2) (N := 10) hx hb hts in_X2_textProducts_X2 tyX2 tyX2_ok nmX2 hown hK hP hD hS 0 rfl rfl 7 (by decide) (hts (.fieldLink RX2 27 "ZhegalkinBenchModel" "thrown" "I") (List.mem_of_getElem? (i := 1) rfl)) (fun _ h9 => h9) rfl (by decide +kernel) rfl rfl (Nat.le_of_ble_eq_true rfl) dX2_textProducts_2 (fun H locs hP hD hS => ?_)
  have hP : va_P D vwCl (wM q cq T R S X n h (nI k) 0 (nI a) o) H := hP
  have hD : va_D A (wM q cq T R S X n h (nI k) 0 (nI a) o) := hD
  refine lv_aload_n hx hb dX2_textProducts_5 rfl (lv_at hl 0 rfl) ?_
  have hPc := hP.sub (ws' := (wM q cq T R S X n h (nI k) 0 (nI a) o)) [0, 1, 2, 3, 4] rfl
  have hKc := hK.sub (tys' := (tyM cq)) [0, 1, 2, 3] rfl
  have hDc := hD.sub (ws' := (wM q cq T R S X n h (nI k) 0 (nI a) o)) [0, 1, 2, 3, 4] (by decide) rfl
  have hFc := va_free (wc := (wM q cq T R S X n h (nI k) 0 (nI a) o)) hD hS hA [0, 1, 2, 3, 4] rfl
  refine va_calli (va_runV (As := []) (rest := []) ⟨hx, hb, hml, hown, hts⟩ (c_X2_reads l D q cq H.size T R S X n h k 0 a o (by omega)) (cwV 0 hts gX2_textProducts_X2_reads rfl rfl rfl (by decide +kernel) ⟨Nat.le_of_ble_eq_true rfl, Nat.le_of_ble_eq_true rfl⟩) ⟨fun a U g mk z => ⟨z.1, z.2.1, z.2.2.1, va_K.moved (u := U) (U := U.calling g mk a) (Vm.Alike.refl U.vm) z.2.2.2.1, z.2.2.2.2.1, z.2.2.2.2.2.blind g mk a⟩, va_recv hKc hPc (ci := 2) (q0 := 0) rfl rfl, fun U hU hW => ⟨rfl, by rw [hU], by rw [hU]; exact hPc, va_K.moved hW.alike hKc, hDc.weaken (fun _ _ _ _ => trivial), hE.at hS hU hW hFc⟩⟩ rfl rfl hl.1 rfl (lv_room (Nat.le_of_ble_eq_true rfl)) dX2_textProducts_6 ⟨(Nat.zero_le _), (Nat.zero_le _)⟩) hS (fun q _ h => hFc q h) hFc (fun r9 u9 t8 H1 locs ht hvm hw hB hz1 hk1 hS => ?_)
  obtain ⟨hP1, hD1⟩ := hB
  rw [ht] at hP1
  obtain ⟨hP, hD⟩ := va_join (wr := []) (w1 := (wM q cq T R S X n h (nI k) 0 (nI (fX2_reads X k).2.1) ((fX2_reads X k).2.2))) hP hD [0, 1, 2, 3, 4] [] rfl rfl (by decide) (by decide) hk1 hFc hP1 hD1
  have hP := hP.sub (ws' := (wM q cq T R S X n h (nI k) 0 (nI (fX2_reads X k).2.1) ((fX2_reads X k).2.2))) [0, 1, 2, 3, 4] rfl
  have hD := hD.sub (ws' := (wM q cq T R S X n h (nI k) 0 (nI (fX2_reads X k).2.1) ((fX2_reads X k).2.2))) [0, 1, 2, 3, 4] (by decide) rfl
  generalize H1 = H at hP hS ⊢
  subst r9
  refine lv_if_eq (tgt := 19) hx hb dX2_textProducts_9 (by decide) (fun c_1 => ?_) (fun c_1 => ?_)
  · refine lv_aload_n hx hb dX2_textProducts_19 rfl (lv_at hl 0 rfl) ?_
    refine lv_iconst (v := 1) hx hb dX2_textProducts_20 (by decide) ?_
    have hPc := hP.sub (ws' := (wM q cq T R S X n h (nI k) 0 (nI (fX2_reads X k).2.1) ((fX2_reads X k).2.2))) [0, 1, 2, 3, 4] rfl
    have hKc := hK.sub (tys' := (tyM cq)) [0, 1, 2, 3] rfl
    have hDc := hD.sub (ws' := (wM q cq T R S X n h (nI k) 0 (nI (fX2_reads X k).2.1) ((fX2_reads X k).2.2))) [0, 1, 2, 3, 4] (by decide) rfl
    have hFc := va_free (wc := (wM q cq T R S X n h (nI k) 0 (nI (fX2_reads X k).2.1) ((fX2_reads X k).2.2))) hD hS hA [0, 1, 2, 3, 4] rfl
    refine va_calli (va_runV (As := [.int 1]) (rest := []) ⟨hx, hb, hml, hown, hts⟩ (c_X2_fails l D q cq H.size T R S X n h (nI k) 0 (nI (fX2_reads X k).2.1) ((fX2_reads X k).2.2) 1) (cwV 1 hts gX2_textProducts_X2_fails rfl rfl rfl (by decide +kernel) ⟨Nat.le_of_ble_eq_true rfl, Nat.le_of_ble_eq_true rfl⟩) ⟨fun a U g mk z => ⟨z.1, z.2.1, z.2.2.1, va_K.moved (u := U) (U := U.calling g mk a) (Vm.Alike.refl U.vm) z.2.2.2.1, z.2.2.2.2.1, z.2.2.2.2.2.blind g mk a⟩, va_recv hKc hPc (ci := 2) (q0 := 0) rfl rfl, fun U hU hW => ⟨rfl, by rw [hU], by rw [hU]; exact hPc, va_K.moved hW.alike hKc, hDc.weaken (fun _ _ _ _ => trivial), hE.at hS hU hW hFc⟩⟩ rfl rfl hl.1 rfl (lv_room (Nat.le_of_ble_eq_true rfl)) dX2_textProducts_21 ⟨(Nat.zero_le _), (Nat.zero_le _)⟩) hS (fun q _ h => hFc q h) hFc (fun r9 u9 t8 H1 locs ht hvm hw hB hz1 hk1 hS => ?_)
    obtain ⟨hP1, hD1⟩ := hB
    rw [ht] at hP1
    obtain ⟨hP, hD⟩ := va_join (wr := []) (w1 := (wM q cq T R S X n h (nI k) ((fX2_fails 1).2) (nI (fX2_reads X k).2.1) ((fX2_reads X k).2.2))) hP hD [0, 1, 2, 3, 4] [] rfl rfl (by decide) (by decide) hk1 hFc hP1 hD1
    have hP := hP.sub (ws' := (wM q cq T R S X n h (nI k) ((fX2_fails 1).2) (nI (fX2_reads X k).2.1) ((fX2_reads X k).2.2))) [0, 1, 2, 3, 4] rfl
    have hD := hD.sub (ws' := (wM q cq T R S X n h (nI k) ((fX2_fails 1).2) (nI (fX2_reads X k).2.1) ((fX2_reads X k).2.2))) [0, 1, 2, 3, 4] (by decide) rfl
    generalize H1 = H at hP hS ⊢
    subst r9
    have hq : (fX2_textProducts X k) = ((fX2_fails 1).1, (fX2_fails 1).2, ((fX2_reads X k).2.1), (fX2_reads X k).2.2) := Eq.symm (by first | ((rw [fX2_textProducts, if_pos c_1]); first | done | rfl) | rfl)
    exact W.iret (v := (fX2_fails 1).1) hx hb hr (fun t9 ht hW => ⟨⟨(fX2_fails 1).1, (), rfl, by rw [hq], by rw [hq]; exact ⟨by rw [ht]; exact hP, hD⟩⟩, hS.F ht⟩) hS.2.2 dX2_textProducts_24
  · refine lv_aload_n hx hb dX2_textProducts_12 rfl (lv_at hl 0 rfl) ?_
    refine va_get (D := D) (ci := 2) (v := .int (fX2_reads X k).2.2) (C := RX2) (T := TX2) (N := 10) hx hb hts in_X2_textProducts_X2 hown hK hP 0 rfl rfl 9 (by decide) (hts (.fieldLink RX2 62 "ZhegalkinBenchModel" "told" "I") (List.mem_of_getElem? (i := 2) rfl)) (fun _ h9 => h9) rfl dX2_textProducts_13 ?_
    refine lv_goto (tgt := 24) hx hb dX2_textProducts_16 (by decide) ?_
    have hq : (fX2_textProducts X k) = ((fX2_reads X k).2.2, 0, ((fX2_reads X k).2.1), (fX2_reads X k).2.2) := Eq.symm (by first | ((rw [fX2_textProducts, if_neg c_1]); first | done | rfl) | rfl)
    exact W.iret (v := (fX2_reads X k).2.2) hx hb hr (fun t9 ht hW => ⟨⟨(fX2_reads X k).2.2, (), rfl, by rw [hq], by rw [hq]; exact ⟨by rw [ht]; exact hP, hD⟩⟩, hS.F ht⟩) hS.2.2 dX2_textProducts_24
theorem in_X2_undo_X2 : ∀ w ∈ wsX20, w ∈ wsX2_undo := by decide +kernel
def fX2_undo (T : Nat → Int32) (R : Nat → Int32) (n : Nat) : Int32 × (Nat → Int32) × Nat × Int32 := if (nI n) = 0 then ((fX2_fails 1).1, T, n, (fX2_fails 1).2) else ((nI (n - 1)), (fX2_copies R T (6 * (n - 1)) 0), (n - 1), 0)
set_option maxHeartbeats 4000000 in
set_option maxRecDepth 100000 in
theorem c_X2_undo (l : Launch) (D : va_G) (q : Nat → Nat) (cq : Nat → ClassId) (sz : Nat) (T : Nat → Int32) (R : Nat → Int32) (S : Nat → Int32) (X : Nat → Int32) (n : Nat) (h : Int32) (k : Int32) (th : Int32) (a : Int32) (o : Int32) (hn : n ≤ 4) : Met l yX2_undo wsX2_undo ({ frames := 1, cells := 0, slots := 0, locals := 24 }) (va_Pc [.ref (q 0)] (fun U => U.heap.size = sz ∧ va_P D vwCl (wM q cq T R S X (nI n) h k th a o) U.heap ∧ va_K D vwCl (tyM cq) U ∧ va_D (fun _ => True) (wM q cq T R S X (nI n) h k th a o) ∧ envE (va_A (wM q cq T R S X (nI n) h k th a o) sz) U)) (va_Qi (fun r9 (_ : Unit) => r9 = (fX2_undo T R n).1) (fun _ t9 => va_P D vwCl (wM q cq ((fX2_undo T R n).2.1) R S X (nI (fX2_undo T R n).2.2.1) h k ((fX2_undo T R n).2.2.2) a o) t9.heap ∧ va_D (va_A (wM q cq T R S X (nI n) h k th a o) sz) (wM q cq ((fX2_undo T R n).2.1) R S X (nI (fX2_undo T R n).2.2.1) h k ((fX2_undo T R n).2.2.2) a o)) (va_A (wM q cq T R S X (nI n) h k th a o) sz)) 0 0 (va_A (wM q cq T R S X (nI n) h k th a o) sz) := by
  refine Met.ofW (cc := cX2_undo) (maxL := 1) (ret := (some .int)) (by decide) rfl ?_
  intro p e s m args below meth c s₁ B hml hv
  obtain ⟨rfl, hsz, hP, hK, hD0, hE⟩ := hv
  have hx := B.exec
  have hb := B.bytes
  have hr := B.returns
  have hts := atoms_spec (ws := wsX2_undo) B.pre
  have hown : s.vm.findClass RX2 = some m.cls := findClass_of_methodNamed B.named
  have hlocks := B.notSynchronized
  subst hsz
  have hD := hD0.self (sz := s.heap.size)
  generalize hAe : va_A (wM q cq T R S X (nI n) h k th a o) s.heap.size = A at hD hE ⊢
  have hA : ∀ q : Nat, s.heap.size ≤ q → A q := fun q h => by rw [← hAe]; exact Or.inr h
  have hS : va_S A s.heap s.heap [] := va_S.rf
  have hP : va_P D vwCl (wM q cq T R S X (nI n) h k th a o) s.heap := hP
  have hl := lv_entry ([.ref (q 0)]) (n := 1) (Nat.le_of_ble_eq_true rfl)
  rw [lg_entry_eq]
  generalize (lg_sl ([.ref (q 0)]) ++ List.replicate (1 - (lg_sl ([.ref (q 0)])).length) Slot.unset).toArray = ls at hl ⊢
  have hl : lv_has ls 1 [(0, .ref (q 0))] := hl
  refine lv_aload_n hx hb dX2_undo_0 rfl (lv_at hl 0 rfl) ?_
  refine lv_iconst (v := 0) hx hb dX2_undo_1 (by decide) ?_
  refine va_put (D := D) (ci := 2) (v := .int 0) (ty := .int) (C := RX2) (T := TX2) (N := 10) hx hb hts in_X2_undo_X2 tyX2 tyX2_ok nmX2 hown hK hP hD hS 0 rfl rfl 7 (by decide) (hts (.fieldLink RX2 27 "ZhegalkinBenchModel" "thrown" "I") (List.mem_of_getElem? (i := 1) rfl)) (fun _ h9 => h9) rfl (by decide +kernel) rfl rfl (Nat.le_of_ble_eq_true rfl) dX2_undo_2 (fun H locs hP hD hS => ?_)
  have hP : va_P D vwCl (wM q cq T R S X (nI n) h k 0 a o) H := hP
  have hD : va_D A (wM q cq T R S X (nI n) h k 0 a o) := hD
  refine lv_aload_n hx hb dX2_undo_5 rfl (lv_at hl 0 rfl) ?_
  refine va_get (D := D) (ci := 2) (v := .int (nI n)) (C := RX2) (T := TX2) (N := 10) hx hb hts in_X2_undo_X2 hown hK hP 0 rfl rfl 4 (by decide) (hts (.fieldLink RX2 35 "ZhegalkinBenchModel" "kept" "I") (List.mem_of_getElem? (i := 2) rfl)) (fun _ h9 => h9) rfl dX2_undo_6 ?_
  refine lv_if_ne (tgt := 18) hx hb dX2_undo_9 (by decide) (fun c_1 => ?_) (fun c_1 => ?_)
  · have hlt : 1 ≤ n := Nat.pos_of_ne_zero (fun q9 => absurd c_1 (by rw [q9]; decide))
    refine lv_aload_n hx hb dX2_undo_18 rfl (lv_at hl 0 rfl) ?_
    refine lv_dup hx hb dX2_undo_19 rfl ?_
    refine va_get (D := D) (ci := 2) (v := .int (nI n)) (C := RX2) (T := TX2) (N := 10) hx hb hts in_X2_undo_X2 hown hK hP 0 rfl rfl 4 (by decide) (hts (.fieldLink RX2 35 "ZhegalkinBenchModel" "kept" "I") (List.mem_of_getElem? (i := 2) rfl)) (fun _ h9 => h9) rfl dX2_undo_20 ?_
    refine lv_iconst (v := 1) hx hb dX2_undo_23 (by decide) ?_
    refine lv_isub hx hb dX2_undo_24 ?_
    refine lv_is (nI (n - 1)) (by first | exact pk_sub (a := n) (b := 1) (by omega) | rfl) ?_
    refine va_put (D := D) (ci := 2) (v := .int (nI (n - 1))) (ty := .int) (C := RX2) (T := TX2) (N := 10) hx hb hts in_X2_undo_X2 tyX2 tyX2_ok nmX2 hown hK hP hD hS 0 rfl rfl 4 (by decide) (hts (.fieldLink RX2 35 "ZhegalkinBenchModel" "kept" "I") (List.mem_of_getElem? (i := 2) rfl)) (fun _ h9 => h9) rfl (by decide +kernel) rfl rfl (Nat.le_of_ble_eq_true rfl) dX2_undo_25 (fun H locs hP hD hS => ?_)
    have hP : va_P D vwCl (wM q cq T R S X (nI (n - 1)) h k 0 a o) H := hP
    have hD : va_D A (wM q cq T R S X (nI (n - 1)) h k 0 a o) := hD
    refine lv_aload_n hx hb dX2_undo_28 rfl (lv_at hl 0 rfl) ?_
    refine va_get (D := D) (ci := 2) (v := .ref (q 2)) (C := RX2) (T := TX2) (N := 10) hx hb hts in_X2_undo_X2 hown hK hP 0 rfl rfl 1 (by decide) (hts (.fieldLink RX2 13 "ZhegalkinBenchModel" "past" "[I") (List.mem_of_getElem? (i := 3) rfl)) (fun _ h9 => h9) rfl dX2_undo_29 ?_
    refine lv_bipush (v := 6) hx hb dX2_undo_32 (by decide) ?_
    refine lv_aload_n hx hb dX2_undo_34 rfl (lv_at hl 0 rfl) ?_
    refine va_get (D := D) (ci := 2) (v := .int (nI (n - 1))) (C := RX2) (T := TX2) (N := 10) hx hb hts in_X2_undo_X2 hown hK hP 0 rfl rfl 4 (by decide) (hts (.fieldLink RX2 35 "ZhegalkinBenchModel" "kept" "I") (List.mem_of_getElem? (i := 2) rfl)) (fun _ h9 => h9) rfl dX2_undo_35 ?_
    refine lv_imul hx hb dX2_undo_38 ?_
    refine lv_is (nI (6 * (n - 1))) (by first | exact pk_mul _ _ | rfl) ?_
    refine lv_aload_n hx hb dX2_undo_39 rfl (lv_at hl 0 rfl) ?_
    refine va_get (D := D) (ci := 2) (v := .ref (q 1)) (C := RX2) (T := TX2) (N := 10) hx hb hts in_X2_undo_X2 hown hK hP 0 rfl rfl 0 (by decide) (hts (.fieldLink RX2 7 "ZhegalkinBenchModel" "now" "[I") (List.mem_of_getElem? (i := 4) rfl)) (fun _ h9 => h9) rfl dX2_undo_40 ?_
    refine lv_iconst (v := 0) hx hb dX2_undo_43 (by decide) ?_
    have hPc := hP.sub (ws' := (wC (q 2) (cq 1) 24 (q 1) (cq 0) 6 R T)) [2, 1] rfl
    have hKc := hK.sub (tys' := [(cq 1, .int), (cq 0, .int)]) [1, 0] rfl
    have hDc := hD.sub (ws' := (wC (q 2) (cq 1) 24 (q 1) (cq 0) 6 R T)) [2, 1] (by decide) rfl
    have hFc := va_free (wc := (wC (q 2) (cq 1) 24 (q 1) (cq 0) 6 R T)) hD hS hA [2, 1] rfl
    refine va_callv (va_runS (As := [.ref (q 2), .int (nI (6 * (n - 1))), .ref (q 1), .int 0]) (rest := []) ⟨hx, hb, hml, hown, hts⟩ (c_X2_copies l D (q 2) (cq 1) 24 (q 1) (cq 0) 6 H.size R T (6 * (n - 1)) 0 (by omega) (by omega) (by omega) (by omega)) (va_cwS 4 hts gX2_undo_X2_copies rfl rfl rfl (by decide +kernel) ⟨Nat.le_of_ble_eq_true rfl, Nat.le_of_ble_eq_true rfl⟩) ⟨fun a U g mk z => ⟨z.1, z.2.1, z.2.2.1, va_K.moved (u := U) (U := U.calling g mk a) (Vm.Alike.refl U.vm) z.2.2.2.1, z.2.2.2.2.1, z.2.2.2.2.2.blind g mk a⟩, fun U hU hW => ⟨rfl, by rw [hU], by rw [hU]; exact hPc, va_K.moved hW.alike hKc, hDc.weaken (fun _ _ _ _ => trivial), hE.at hS hU hW hFc⟩⟩ rfl rfl hl.1 rfl (lv_room (Nat.le_of_ble_eq_true rfl)) dX2_undo_44 ⟨(Nat.zero_le _), (Nat.zero_le _)⟩) hS (fun q _ h => hFc q h) hFc (fun u9 t8 H1 locs ht hvm hw hB hz1 hk1 hS => ?_)
    obtain ⟨hP1, hD1⟩ := hB
    rw [ht] at hP1
    obtain ⟨hP, hD⟩ := va_join (wr := [((q 0), .inr (2, [.ref (q 1), .ref (q 2), .ref (q 3), .int h, .int (nI (n - 1)), .ref (q 4), .int k, .int 0, .int a, .int o])), ((q 3), .inl ((cq 2), (6, .inl S))), ((q 4), .inl ((cq 3), (80, .inl X)))]) (w1 := (wC (q 2) (cq 1) 24 (q 1) (cq 0) 6 R (fX2_copies R T (6 * (n - 1)) 0))) hP hD [2, 1] [0, 3, 4] rfl rfl (by decide) (by decide) hk1 hFc hP1 hD1
    have hP := hP.sub (ws' := (wM q cq (fX2_copies R T (6 * (n - 1)) 0) R S X (nI (n - 1)) h k 0 a o)) [0, 4, 3, 1, 2] rfl
    have hD := hD.sub (ws' := (wM q cq (fX2_copies R T (6 * (n - 1)) 0) R S X (nI (n - 1)) h k 0 a o)) [0, 4, 3, 1, 2] (by decide) rfl
    generalize H1 = H at hP hS ⊢
    refine lv_aload_n hx hb dX2_undo_47 rfl (lv_at hl 0 rfl) ?_
    refine va_get (D := D) (ci := 2) (v := .int (nI (n - 1))) (C := RX2) (T := TX2) (N := 10) hx hb hts in_X2_undo_X2 hown hK hP 0 rfl rfl 4 (by decide) (hts (.fieldLink RX2 35 "ZhegalkinBenchModel" "kept" "I") (List.mem_of_getElem? (i := 2) rfl)) (fun _ h9 => h9) rfl dX2_undo_48 ?_
    have hq : (fX2_undo T R n) = ((nI (n - 1)), (fX2_copies R T (6 * (n - 1)) 0), (n - 1), 0) := Eq.symm (by first | ((rw [fX2_undo, if_neg c_1]); first | done | rfl) | rfl)
    exact W.iret (v := (nI (n - 1))) hx hb hr (fun t9 ht hW => ⟨⟨(nI (n - 1)), (), rfl, by rw [hq], by rw [hq]; exact ⟨by rw [ht]; exact hP, hD⟩⟩, hS.F ht⟩) hS.2.2 dX2_undo_51
  · refine lv_aload_n hx hb dX2_undo_12 rfl (lv_at hl 0 rfl) ?_
    refine lv_iconst (v := 1) hx hb dX2_undo_13 (by decide) ?_
    have hPc := hP.sub (ws' := (wM q cq T R S X (nI n) h k 0 a o)) [0, 1, 2, 3, 4] rfl
    have hKc := hK.sub (tys' := (tyM cq)) [0, 1, 2, 3] rfl
    have hDc := hD.sub (ws' := (wM q cq T R S X (nI n) h k 0 a o)) [0, 1, 2, 3, 4] (by decide) rfl
    have hFc := va_free (wc := (wM q cq T R S X (nI n) h k 0 a o)) hD hS hA [0, 1, 2, 3, 4] rfl
    refine va_calli (va_runV (As := [.int 1]) (rest := []) ⟨hx, hb, hml, hown, hts⟩ (c_X2_fails l D q cq H.size T R S X (nI n) h k 0 a o 1) (cwV 1 hts gX2_undo_X2_fails rfl rfl rfl (by decide +kernel) ⟨Nat.le_of_ble_eq_true rfl, Nat.le_of_ble_eq_true rfl⟩) ⟨fun a U g mk z => ⟨z.1, z.2.1, z.2.2.1, va_K.moved (u := U) (U := U.calling g mk a) (Vm.Alike.refl U.vm) z.2.2.2.1, z.2.2.2.2.1, z.2.2.2.2.2.blind g mk a⟩, va_recv hKc hPc (ci := 2) (q0 := 0) rfl rfl, fun U hU hW => ⟨rfl, by rw [hU], by rw [hU]; exact hPc, va_K.moved hW.alike hKc, hDc.weaken (fun _ _ _ _ => trivial), hE.at hS hU hW hFc⟩⟩ rfl rfl hl.1 rfl (lv_room (Nat.le_of_ble_eq_true rfl)) dX2_undo_14 ⟨(Nat.zero_le _), (Nat.zero_le _)⟩) hS (fun q _ h => hFc q h) hFc (fun r9 u9 t8 H1 locs ht hvm hw hB hz1 hk1 hS => ?_)
    obtain ⟨hP1, hD1⟩ := hB
    rw [ht] at hP1
    obtain ⟨hP, hD⟩ := va_join (wr := []) (w1 := (wM q cq T R S X (nI n) h k ((fX2_fails 1).2) a o)) hP hD [0, 1, 2, 3, 4] [] rfl rfl (by decide) (by decide) hk1 hFc hP1 hD1
    have hP := hP.sub (ws' := (wM q cq T R S X (nI n) h k ((fX2_fails 1).2) a o)) [0, 1, 2, 3, 4] rfl
    have hD := hD.sub (ws' := (wM q cq T R S X (nI n) h k ((fX2_fails 1).2) a o)) [0, 1, 2, 3, 4] (by decide) rfl
    generalize H1 = H at hP hS ⊢
    subst r9
    have hq : (fX2_undo T R n) = ((fX2_fails 1).1, T, n, (fX2_fails 1).2) := Eq.symm (by first | ((rw [fX2_undo, if_pos c_1]); first | done | rfl) | rfl)
    exact W.iret (v := (fX2_fails 1).1) hx hb hr (fun t9 ht hW => ⟨⟨(fX2_fails 1).1, (), rfl, by rw [hq], by rw [hq]; exact ⟨by rw [ht]; exact hP, hD⟩⟩, hS.F ht⟩) hS.2.2 dX2_undo_17
theorem in_X2_takeSnapshot_X2 : ∀ w ∈ wsX20, w ∈ wsX2_takeSnapshot := by decide +kernel
def fX2_takeSnapshot (T : Nat → Int32) (S : Nat → Int32) : Int32 × (Nat → Int32) × Int32 × Int32 := ((fX2_allProducts T), (fX2_copies T S 0 0), 1, 0)
set_option maxHeartbeats 4000000 in
set_option maxRecDepth 100000 in
theorem c_X2_takeSnapshot (l : Launch) (D : va_G) (q : Nat → Nat) (cq : Nat → ClassId) (sz : Nat) (T : Nat → Int32) (R : Nat → Int32) (S : Nat → Int32) (X : Nat → Int32) (n : Int32) (h : Int32) (k : Int32) (th : Int32) (a : Int32) (o : Int32) : Met l yX2_takeSnapshot wsX2_takeSnapshot ({ frames := 2, cells := 0, slots := 0, locals := 46 }) (va_Pc [.ref (q 0)] (fun U => U.heap.size = sz ∧ va_P D vwCl (wM q cq T R S X n h k th a o) U.heap ∧ va_K D vwCl (tyM cq) U ∧ va_D (fun _ => True) (wM q cq T R S X n h k th a o) ∧ envE (va_A (wM q cq T R S X n h k th a o) sz) U)) (va_Qi (fun r9 (_ : Unit) => r9 = (fX2_takeSnapshot T S).1) (fun _ t9 => va_P D vwCl (wM q cq T R ((fX2_takeSnapshot T S).2.1) X n ((fX2_takeSnapshot T S).2.2.1) k ((fX2_takeSnapshot T S).2.2.2) a o) t9.heap ∧ va_D (va_A (wM q cq T R S X n h k th a o) sz) (wM q cq T R ((fX2_takeSnapshot T S).2.1) X n ((fX2_takeSnapshot T S).2.2.1) k ((fX2_takeSnapshot T S).2.2.2) a o)) (va_A (wM q cq T R S X n h k th a o) sz)) 0 0 (va_A (wM q cq T R S X n h k th a o) sz) := by
  refine Met.ofW (cc := cX2_takeSnapshot) (maxL := 1) (ret := (some .int)) (by decide) rfl ?_
  intro p e s m args below meth c s₁ B hml hv
  obtain ⟨rfl, hsz, hP, hK, hD0, hE⟩ := hv
  have hx := B.exec
  have hb := B.bytes
  have hr := B.returns
  have hts := atoms_spec (ws := wsX2_takeSnapshot) B.pre
  have hown : s.vm.findClass RX2 = some m.cls := findClass_of_methodNamed B.named
  have hlocks := B.notSynchronized
  subst hsz
  have hD := hD0.self (sz := s.heap.size)
  generalize hAe : va_A (wM q cq T R S X n h k th a o) s.heap.size = A at hD hE ⊢
  have hA : ∀ q : Nat, s.heap.size ≤ q → A q := fun q h => by rw [← hAe]; exact Or.inr h
  have hS : va_S A s.heap s.heap [] := va_S.rf
  have hP : va_P D vwCl (wM q cq T R S X n h k th a o) s.heap := hP
  have hl := lv_entry ([.ref (q 0)]) (n := 1) (Nat.le_of_ble_eq_true rfl)
  rw [lg_entry_eq]
  generalize (lg_sl ([.ref (q 0)]) ++ List.replicate (1 - (lg_sl ([.ref (q 0)])).length) Slot.unset).toArray = ls at hl ⊢
  have hl : lv_has ls 1 [(0, .ref (q 0))] := hl
  refine lv_aload_n hx hb dX2_takeSnapshot_0 rfl (lv_at hl 0 rfl) ?_
  refine lv_iconst (v := 0) hx hb dX2_takeSnapshot_1 (by decide) ?_
  refine va_put (D := D) (ci := 2) (v := .int 0) (ty := .int) (C := RX2) (T := TX2) (N := 10) hx hb hts in_X2_takeSnapshot_X2 tyX2 tyX2_ok nmX2 hown hK hP hD hS 0 rfl rfl 7 (by decide) (hts (.fieldLink RX2 27 "ZhegalkinBenchModel" "thrown" "I") (List.mem_of_getElem? (i := 1) rfl)) (fun _ h9 => h9) rfl (by decide +kernel) rfl rfl (Nat.le_of_ble_eq_true rfl) dX2_takeSnapshot_2 (fun H locs hP hD hS => ?_)
  have hP : va_P D vwCl (wM q cq T R S X n h k 0 a o) H := hP
  have hD : va_D A (wM q cq T R S X n h k 0 a o) := hD
  refine lv_aload_n hx hb dX2_takeSnapshot_5 rfl (lv_at hl 0 rfl) ?_
  refine va_get (D := D) (ci := 2) (v := .ref (q 1)) (C := RX2) (T := TX2) (N := 10) hx hb hts in_X2_takeSnapshot_X2 hown hK hP 0 rfl rfl 0 (by decide) (hts (.fieldLink RX2 7 "ZhegalkinBenchModel" "now" "[I") (List.mem_of_getElem? (i := 2) rfl)) (fun _ h9 => h9) rfl dX2_takeSnapshot_6 ?_
  refine lv_iconst (v := 0) hx hb dX2_takeSnapshot_9 (by decide) ?_
  refine lv_aload_n hx hb dX2_takeSnapshot_10 rfl (lv_at hl 0 rfl) ?_
  refine va_get (D := D) (ci := 2) (v := .ref (q 3)) (C := RX2) (T := TX2) (N := 10) hx hb hts in_X2_takeSnapshot_X2 hown hK hP 0 rfl rfl 2 (by decide) (hts (.fieldLink RX2 16 "ZhegalkinBenchModel" "shot" "[I") (List.mem_of_getElem? (i := 3) rfl)) (fun _ h9 => h9) rfl dX2_takeSnapshot_11 ?_
  refine lv_iconst (v := 0) hx hb dX2_takeSnapshot_14 (by decide) ?_
  have hPc := hP.sub (ws' := (wC (q 1) (cq 0) 6 (q 3) (cq 2) 6 T S)) [1, 3] rfl
  have hKc := hK.sub (tys' := [(cq 0, .int), (cq 2, .int)]) [0, 2] rfl
  have hDc := hD.sub (ws' := (wC (q 1) (cq 0) 6 (q 3) (cq 2) 6 T S)) [1, 3] (by decide) rfl
  have hFc := va_free (wc := (wC (q 1) (cq 0) 6 (q 3) (cq 2) 6 T S)) hD hS hA [1, 3] rfl
  refine va_callv (va_runS (As := [.ref (q 1), .int 0, .ref (q 3), .int 0]) (rest := []) ⟨hx, hb, hml, hown, hts⟩ (c_X2_copies l D (q 1) (cq 0) 6 (q 3) (cq 2) 6 H.size T S 0 0 (by omega) (by omega) (by omega) (by omega)) (va_cwS 4 hts gX2_takeSnapshot_X2_copies rfl rfl rfl (by decide +kernel) ⟨Nat.le_of_ble_eq_true rfl, Nat.le_of_ble_eq_true rfl⟩) ⟨fun a U g mk z => ⟨z.1, z.2.1, z.2.2.1, va_K.moved (u := U) (U := U.calling g mk a) (Vm.Alike.refl U.vm) z.2.2.2.1, z.2.2.2.2.1, z.2.2.2.2.2.blind g mk a⟩, fun U hU hW => ⟨rfl, by rw [hU], by rw [hU]; exact hPc, va_K.moved hW.alike hKc, hDc.weaken (fun _ _ _ _ => trivial), hE.at hS hU hW hFc⟩⟩ rfl rfl hl.1 rfl (lv_room (Nat.le_of_ble_eq_true rfl)) dX2_takeSnapshot_15 ⟨(Nat.zero_le _), (Nat.zero_le _)⟩) hS (fun q _ h => hFc q h) hFc (fun u9 t8 H1 locs ht hvm hw hB hz1 hk1 hS => ?_)
  obtain ⟨hP1, hD1⟩ := hB
  rw [ht] at hP1
  obtain ⟨hP, hD⟩ := va_join (wr := [((q 0), .inr (2, [.ref (q 1), .ref (q 2), .ref (q 3), .int h, .int n, .ref (q 4), .int k, .int 0, .int a, .int o])), ((q 2), .inl ((cq 1), (24, .inl R))), ((q 4), .inl ((cq 3), (80, .inl X)))]) (w1 := (wC (q 1) (cq 0) 6 (q 3) (cq 2) 6 T (fX2_copies T S 0 0))) hP hD [1, 3] [0, 2, 4] rfl rfl (by decide) (by decide) hk1 hFc hP1 hD1
  have hP := hP.sub (ws' := (wM q cq T R (fX2_copies T S 0 0) X n h k 0 a o)) [0, 3, 1, 4, 2] rfl
  have hD := hD.sub (ws' := (wM q cq T R (fX2_copies T S 0 0) X n h k 0 a o)) [0, 3, 1, 4, 2] (by decide) rfl
  generalize H1 = H at hP hS ⊢
  refine lv_aload_n hx hb dX2_takeSnapshot_18 rfl (lv_at hl 0 rfl) ?_
  refine lv_iconst (v := 1) hx hb dX2_takeSnapshot_19 (by decide) ?_
  refine va_put (D := D) (ci := 2) (v := .int 1) (ty := .boolean) (C := RX2) (T := TX2) (N := 10) hx hb hts in_X2_takeSnapshot_X2 tyX2 tyX2_ok nmX2 hown hK hP hD hS 0 rfl rfl 3 (by decide) (hts (.fieldLink RX2 92 "ZhegalkinBenchModel" "hasShot" "Z") (List.mem_of_getElem? (i := 4) rfl)) (fun _ h9 => h9) rfl (by decide +kernel) rfl rfl (Nat.le_of_ble_eq_true rfl) dX2_takeSnapshot_20 (fun H locs hP hD hS => ?_)
  have hP : va_P D vwCl (wM q cq T R (fX2_copies T S 0 0) X n 1 k 0 a o) H := hP
  have hD : va_D A (wM q cq T R (fX2_copies T S 0 0) X n 1 k 0 a o) := hD
  refine lv_aload_n hx hb dX2_takeSnapshot_23 rfl (lv_at hl 0 rfl) ?_
  have hPc := hP.sub (ws' := (wM q cq T R (fX2_copies T S 0 0) X n 1 k 0 a o)) [0, 1, 2, 3, 4] rfl
  have hKc := hK.sub (tys' := (tyM cq)) [0, 1, 2, 3] rfl
  refine vp_callSi (va_Run.run (va_runV (As := []) (rest := []) ⟨hx, hb, hml, hown, hts⟩ (c_X2_allProducts l D q cq T R (fX2_copies T S 0 0) X n 1 k 0 a o) (cwV 0 hts gX2_takeSnapshot_X2_allProducts rfl rfl rfl (by decide +kernel) ⟨Nat.le_of_ble_eq_true rfl, Nat.le_of_ble_eq_true rfl⟩) ⟨fun a U g mk z => ⟨z.1, z.2.1, va_K.moved (u := U) (U := U.calling g mk a) (Vm.Alike.refl U.vm) z.2.2.1, z.2.2.2.blind g mk a⟩, va_recv hKc hPc (ci := 2) (q0 := 0) rfl rfl, fun U hU hW => ⟨rfl, by rw [hU]; exact hPc, va_K.moved hW.alike hKc, hE.at0 hS hU hW⟩⟩ rfl rfl hl.1 rfl (lv_room (Nat.le_of_ble_eq_true rfl)) dX2_takeSnapshot_24 ⟨(Nat.zero_le _), (Nat.zero_le _)⟩)) (fun r9 hr => ?_)
  subst r9
  have hq : (fX2_takeSnapshot T S) = ((fX2_allProducts T), (fX2_copies T S 0 0), 1, 0) := Eq.symm (by first | ((rw [fX2_takeSnapshot]); first | done | rfl) | rfl)
  exact W.iret (v := (fX2_allProducts T)) hx hb hr (fun t9 ht hW => ⟨⟨(fX2_allProducts T), (), rfl, by rw [hq], by rw [hq]; exact ⟨by rw [ht]; exact hP, hD⟩⟩, hS.F ht⟩) hS.2.2 dX2_takeSnapshot_27
theorem in_X2_restoreSnapshot_X2 : ∀ w ∈ wsX20, w ∈ wsX2_restoreSnapshot := by decide +kernel
def fX2_restoreSnapshot (T : Nat → Int32) (R : Nat → Int32) (S : Nat → Int32) (n : Nat) (h : Int32) : Int32 × (Nat → Int32) × (Nat → Int32) × Nat × Int32 := if h = 0 then ((fX2_fails 1).1, T, R, n, (fX2_fails 1).2) else ((fX2_allProducts (fX2_copies S T 0 0)), (fX2_copies S T 0 0), (fX2_records T R n).1, ((fX2_records T R n).2), 0)
set_option maxHeartbeats 4000000 in
set_option maxRecDepth 100000 in
theorem c_X2_restoreSnapshot (l : Launch) (D : va_G) (q : Nat → Nat) (cq : Nat → ClassId) (sz : Nat) (T : Nat → Int32) (R : Nat → Int32) (S : Nat → Int32) (X : Nat → Int32) (n : Nat) (h : Int32) (k : Int32) (th : Int32) (a : Int32) (o : Int32) (hn : n ≤ 4) : Met l yX2_restoreSnapshot wsX2_restoreSnapshot ({ frames := 2, cells := 0, slots := 0, locals := 46 }) (va_Pc [.ref (q 0)] (fun U => U.heap.size = sz ∧ va_P D vwCl (wM q cq T R S X (nI n) h k th a o) U.heap ∧ va_K D vwCl (tyM cq) U ∧ va_D (fun _ => True) (wM q cq T R S X (nI n) h k th a o) ∧ envE (va_A (wM q cq T R S X (nI n) h k th a o) sz) U)) (va_Qi (fun r9 (_ : Unit) => r9 = (fX2_restoreSnapshot T R S n h).1) (fun _ t9 => va_P D vwCl (wM q cq ((fX2_restoreSnapshot T R S n h).2.1) ((fX2_restoreSnapshot T R S n h).2.2.1) S X (nI (fX2_restoreSnapshot T R S n h).2.2.2.1) h k ((fX2_restoreSnapshot T R S n h).2.2.2.2) a o) t9.heap ∧ va_D (va_A (wM q cq T R S X (nI n) h k th a o) sz) (wM q cq ((fX2_restoreSnapshot T R S n h).2.1) ((fX2_restoreSnapshot T R S n h).2.2.1) S X (nI (fX2_restoreSnapshot T R S n h).2.2.2.1) h k ((fX2_restoreSnapshot T R S n h).2.2.2.2) a o)) (va_A (wM q cq T R S X (nI n) h k th a o) sz)) 0 0 (va_A (wM q cq T R S X (nI n) h k th a o) sz) := by
  refine Met.ofW (cc := cX2_restoreSnapshot) (maxL := 1) (ret := (some .int)) (by decide) rfl ?_
  intro p e s m args below meth c s₁ B hml hv
  obtain ⟨rfl, hsz, hP, hK, hD0, hE⟩ := hv
  have hx := B.exec
  have hb := B.bytes
  have hr := B.returns
  have hts := atoms_spec (ws := wsX2_restoreSnapshot) B.pre
  have hown : s.vm.findClass RX2 = some m.cls := findClass_of_methodNamed B.named
  have hlocks := B.notSynchronized
  subst hsz
  have hD := hD0.self (sz := s.heap.size)
  generalize hAe : va_A (wM q cq T R S X (nI n) h k th a o) s.heap.size = A at hD hE ⊢
  have hA : ∀ q : Nat, s.heap.size ≤ q → A q := fun q h => by rw [← hAe]; exact Or.inr h
  have hS : va_S A s.heap s.heap [] := va_S.rf
  have hP : va_P D vwCl (wM q cq T R S X (nI n) h k th a o) s.heap := hP
  have hl := lv_entry ([.ref (q 0)]) (n := 1) (Nat.le_of_ble_eq_true rfl)
  rw [lg_entry_eq]
  generalize (lg_sl ([.ref (q 0)]) ++ List.replicate (1 - (lg_sl ([.ref (q 0)])).length) Slot.unset).toArray = ls at hl ⊢
  have hl : lv_has ls 1 [(0, .ref (q 0))] := hl
  refine lv_aload_n hx hb dX2_restoreSnapshot_0 rfl (lv_at hl 0 rfl) ?_
  refine lv_iconst (v := 0) hx hb dX2_restoreSnapshot_1 (by decide) ?_
  refine va_put (D := D) (ci := 2) (v := .int 0) (ty := .int) (C := RX2) (T := TX2) (N := 10) hx hb hts in_X2_restoreSnapshot_X2 tyX2 tyX2_ok nmX2 hown hK hP hD hS 0 rfl rfl 7 (by decide) (hts (.fieldLink RX2 27 "ZhegalkinBenchModel" "thrown" "I") (List.mem_of_getElem? (i := 1) rfl)) (fun _ h9 => h9) rfl (by decide +kernel) rfl rfl (Nat.le_of_ble_eq_true rfl) dX2_restoreSnapshot_2 (fun H locs hP hD hS => ?_)
  have hP : va_P D vwCl (wM q cq T R S X (nI n) h k 0 a o) H := hP
  have hD : va_D A (wM q cq T R S X (nI n) h k 0 a o) := hD
  refine lv_aload_n hx hb dX2_restoreSnapshot_5 rfl (lv_at hl 0 rfl) ?_
  refine va_get (D := D) (ci := 2) (v := .int h) (C := RX2) (T := TX2) (N := 10) hx hb hts in_X2_restoreSnapshot_X2 hown hK hP 0 rfl rfl 3 (by decide) (hts (.fieldLink RX2 92 "ZhegalkinBenchModel" "hasShot" "Z") (List.mem_of_getElem? (i := 2) rfl)) (fun _ h9 => h9) rfl dX2_restoreSnapshot_6 ?_
  refine lv_if_ne (tgt := 18) hx hb dX2_restoreSnapshot_9 (by decide) (fun c_1 => ?_) (fun c_1 => ?_)
  · refine lv_aload_n hx hb dX2_restoreSnapshot_18 rfl (lv_at hl 0 rfl) ?_
    have hPc := hP.sub (ws' := (wM q cq T R S X (nI n) h k 0 a o)) [0, 1, 2, 3, 4] rfl
    have hKc := hK.sub (tys' := (tyM cq)) [0, 1, 2, 3] rfl
    have hDc := hD.sub (ws' := (wM q cq T R S X (nI n) h k 0 a o)) [0, 1, 2, 3, 4] (by decide) rfl
    have hFc := va_free (wc := (wM q cq T R S X (nI n) h k 0 a o)) hD hS hA [0, 1, 2, 3, 4] rfl
    refine va_callv (va_runV (As := []) (rest := []) ⟨hx, hb, hml, hown, hts⟩ (c_X2_records l D q cq H.size T R S X n h k 0 a o (by omega)) (cwV 0 hts gX2_restoreSnapshot_X2_records rfl rfl rfl (by decide +kernel) ⟨Nat.le_of_ble_eq_true rfl, Nat.le_of_ble_eq_true rfl⟩) ⟨fun a U g mk z => ⟨z.1, z.2.1, z.2.2.1, va_K.moved (u := U) (U := U.calling g mk a) (Vm.Alike.refl U.vm) z.2.2.2.1, z.2.2.2.2.1, z.2.2.2.2.2.blind g mk a⟩, va_recv hKc hPc (ci := 2) (q0 := 0) rfl rfl, fun U hU hW => ⟨rfl, by rw [hU], by rw [hU]; exact hPc, va_K.moved hW.alike hKc, hDc.weaken (fun _ _ _ _ => trivial), hE.at hS hU hW hFc⟩⟩ rfl rfl hl.1 rfl (lv_room (Nat.le_of_ble_eq_true rfl)) dX2_restoreSnapshot_19 ⟨(Nat.zero_le _), (Nat.zero_le _)⟩) hS (fun q _ h => hFc q h) hFc (fun u9 t8 H1 locs ht hvm hw hB hz1 hk1 hS => ?_)
    obtain ⟨hP1, hD1⟩ := hB
    rw [ht] at hP1
    obtain ⟨hP, hD⟩ := va_join (wr := []) (w1 := (wM q cq T ((fX2_records T R n).1) S X (nI (fX2_records T R n).2) h k 0 a o)) hP hD [0, 1, 2, 3, 4] [] rfl rfl (by decide) (by decide) hk1 hFc hP1 hD1
    have hP := hP.sub (ws' := (wM q cq T ((fX2_records T R n).1) S X (nI (fX2_records T R n).2) h k 0 a o)) [0, 1, 2, 3, 4] rfl
    have hD := hD.sub (ws' := (wM q cq T ((fX2_records T R n).1) S X (nI (fX2_records T R n).2) h k 0 a o)) [0, 1, 2, 3, 4] (by decide) rfl
    generalize H1 = H at hP hS ⊢
    refine lv_aload_n hx hb dX2_restoreSnapshot_22 rfl (lv_at hl 0 rfl) ?_
    refine va_get (D := D) (ci := 2) (v := .ref (q 3)) (C := RX2) (T := TX2) (N := 10) hx hb hts in_X2_restoreSnapshot_X2 hown hK hP 0 rfl rfl 2 (by decide) (hts (.fieldLink RX2 16 "ZhegalkinBenchModel" "shot" "[I") (List.mem_of_getElem? (i := 3) rfl)) (fun _ h9 => h9) rfl dX2_restoreSnapshot_23 ?_
    refine lv_iconst (v := 0) hx hb dX2_restoreSnapshot_26 (by decide) ?_
    refine lv_aload_n hx hb dX2_restoreSnapshot_27 rfl (lv_at hl 0 rfl) ?_
    refine va_get (D := D) (ci := 2) (v := .ref (q 1)) (C := RX2) (T := TX2) (N := 10) hx hb hts in_X2_restoreSnapshot_X2 hown hK hP 0 rfl rfl 0 (by decide) (hts (.fieldLink RX2 7 "ZhegalkinBenchModel" "now" "[I") (List.mem_of_getElem? (i := 4) rfl)) (fun _ h9 => h9) rfl dX2_restoreSnapshot_28 ?_
    refine lv_iconst (v := 0) hx hb dX2_restoreSnapshot_31 (by decide) ?_
    have hPc := hP.sub (ws' := (wC (q 3) (cq 2) 6 (q 1) (cq 0) 6 S T)) [3, 1] rfl
    have hKc := hK.sub (tys' := [(cq 2, .int), (cq 0, .int)]) [2, 0] rfl
    have hDc := hD.sub (ws' := (wC (q 3) (cq 2) 6 (q 1) (cq 0) 6 S T)) [3, 1] (by decide) rfl
    have hFc := va_free (wc := (wC (q 3) (cq 2) 6 (q 1) (cq 0) 6 S T)) hD hS hA [3, 1] rfl
    refine va_callv (va_runS (As := [.ref (q 3), .int 0, .ref (q 1), .int 0]) (rest := []) ⟨hx, hb, hml, hown, hts⟩ (c_X2_copies l D (q 3) (cq 2) 6 (q 1) (cq 0) 6 H.size S T 0 0 (by omega) (by omega) (by omega) (by omega)) (va_cwS 4 hts gX2_restoreSnapshot_X2_copies rfl rfl rfl (by decide +kernel) ⟨Nat.le_of_ble_eq_true rfl, Nat.le_of_ble_eq_true rfl⟩) ⟨fun a U g mk z => ⟨z.1, z.2.1, z.2.2.1, va_K.moved (u := U) (U := U.calling g mk a) (Vm.Alike.refl U.vm) z.2.2.2.1, z.2.2.2.2.1, z.2.2.2.2.2.blind g mk a⟩, fun U hU hW => ⟨rfl, by rw [hU], by rw [hU]; exact hPc, va_K.moved hW.alike hKc, hDc.weaken (fun _ _ _ _ => trivial), hE.at hS hU hW hFc⟩⟩ rfl rfl hl.1 rfl (lv_room (Nat.le_of_ble_eq_true rfl)) dX2_restoreSnapshot_32 ⟨(Nat.zero_le _), (Nat.zero_le _)⟩) hS (fun q _ h => hFc q h) hFc (fun u9 t8 H1 locs ht hvm hw hB hz1 hk1 hS => ?_)
    obtain ⟨hP1, hD1⟩ := hB
    rw [ht] at hP1
    obtain ⟨hP, hD⟩ := va_join (wr := [((q 0), .inr (2, [.ref (q 1), .ref (q 2), .ref (q 3), .int h, .int (nI (fX2_records T R n).2), .ref (q 4), .int k, .int 0, .int a, .int o])), ((q 2), .inl ((cq 1), (24, .inl ((fX2_records T R n).1)))), ((q 4), .inl ((cq 3), (80, .inl X)))]) (w1 := (wC (q 3) (cq 2) 6 (q 1) (cq 0) 6 S (fX2_copies S T 0 0))) hP hD [3, 1] [0, 2, 4] rfl rfl (by decide) (by decide) hk1 hFc hP1 hD1
    have hP := hP.sub (ws' := (wM q cq (fX2_copies S T 0 0) ((fX2_records T R n).1) S X (nI (fX2_records T R n).2) h k 0 a o)) [0, 4, 1, 3, 2] rfl
    have hD := hD.sub (ws' := (wM q cq (fX2_copies S T 0 0) ((fX2_records T R n).1) S X (nI (fX2_records T R n).2) h k 0 a o)) [0, 4, 1, 3, 2] (by decide) rfl
    generalize H1 = H at hP hS ⊢
    refine lv_aload_n hx hb dX2_restoreSnapshot_35 rfl (lv_at hl 0 rfl) ?_
    have hPc := hP.sub (ws' := (wM q cq (fX2_copies S T 0 0) ((fX2_records T R n).1) S X (nI (fX2_records T R n).2) h k 0 a o)) [0, 1, 2, 3, 4] rfl
    have hKc := hK.sub (tys' := (tyM cq)) [0, 1, 2, 3] rfl
    refine vp_callSi (va_Run.run (va_runV (As := []) (rest := []) ⟨hx, hb, hml, hown, hts⟩ (c_X2_allProducts l D q cq (fX2_copies S T 0 0) ((fX2_records T R n).1) S X (nI (fX2_records T R n).2) h k 0 a o) (cwV 0 hts gX2_restoreSnapshot_X2_allProducts rfl rfl rfl (by decide +kernel) ⟨Nat.le_of_ble_eq_true rfl, Nat.le_of_ble_eq_true rfl⟩) ⟨fun a U g mk z => ⟨z.1, z.2.1, va_K.moved (u := U) (U := U.calling g mk a) (Vm.Alike.refl U.vm) z.2.2.1, z.2.2.2.blind g mk a⟩, va_recv hKc hPc (ci := 2) (q0 := 0) rfl rfl, fun U hU hW => ⟨rfl, by rw [hU]; exact hPc, va_K.moved hW.alike hKc, hE.at0 hS hU hW⟩⟩ rfl rfl hl.1 rfl (lv_room (Nat.le_of_ble_eq_true rfl)) dX2_restoreSnapshot_36 ⟨(Nat.zero_le _), (Nat.zero_le _)⟩)) (fun r9 hr => ?_)
    subst r9
    have hq : (fX2_restoreSnapshot T R S n h) = ((fX2_allProducts (fX2_copies S T 0 0)), (fX2_copies S T 0 0), (fX2_records T R n).1, ((fX2_records T R n).2), 0) := Eq.symm (by first | ((rw [fX2_restoreSnapshot, if_neg c_1]); first | done | rfl) | rfl)
    exact W.iret (v := (fX2_allProducts (fX2_copies S T 0 0))) hx hb hr (fun t9 ht hW => ⟨⟨(fX2_allProducts (fX2_copies S T 0 0)), (), rfl, by rw [hq], by rw [hq]; exact ⟨by rw [ht]; exact hP, hD⟩⟩, hS.F ht⟩) hS.2.2 dX2_restoreSnapshot_39
  · refine lv_aload_n hx hb dX2_restoreSnapshot_12 rfl (lv_at hl 0 rfl) ?_
    refine lv_iconst (v := 1) hx hb dX2_restoreSnapshot_13 (by decide) ?_
    have hPc := hP.sub (ws' := (wM q cq T R S X (nI n) h k 0 a o)) [0, 1, 2, 3, 4] rfl
    have hKc := hK.sub (tys' := (tyM cq)) [0, 1, 2, 3] rfl
    have hDc := hD.sub (ws' := (wM q cq T R S X (nI n) h k 0 a o)) [0, 1, 2, 3, 4] (by decide) rfl
    have hFc := va_free (wc := (wM q cq T R S X (nI n) h k 0 a o)) hD hS hA [0, 1, 2, 3, 4] rfl
    refine va_calli (va_runV (As := [.int 1]) (rest := []) ⟨hx, hb, hml, hown, hts⟩ (c_X2_fails l D q cq H.size T R S X (nI n) h k 0 a o 1) (cwV 1 hts gX2_restoreSnapshot_X2_fails rfl rfl rfl (by decide +kernel) ⟨Nat.le_of_ble_eq_true rfl, Nat.le_of_ble_eq_true rfl⟩) ⟨fun a U g mk z => ⟨z.1, z.2.1, z.2.2.1, va_K.moved (u := U) (U := U.calling g mk a) (Vm.Alike.refl U.vm) z.2.2.2.1, z.2.2.2.2.1, z.2.2.2.2.2.blind g mk a⟩, va_recv hKc hPc (ci := 2) (q0 := 0) rfl rfl, fun U hU hW => ⟨rfl, by rw [hU], by rw [hU]; exact hPc, va_K.moved hW.alike hKc, hDc.weaken (fun _ _ _ _ => trivial), hE.at hS hU hW hFc⟩⟩ rfl rfl hl.1 rfl (lv_room (Nat.le_of_ble_eq_true rfl)) dX2_restoreSnapshot_14 ⟨(Nat.zero_le _), (Nat.zero_le _)⟩) hS (fun q _ h => hFc q h) hFc (fun r9 u9 t8 H1 locs ht hvm hw hB hz1 hk1 hS => ?_)
    obtain ⟨hP1, hD1⟩ := hB
    rw [ht] at hP1
    obtain ⟨hP, hD⟩ := va_join (wr := []) (w1 := (wM q cq T R S X (nI n) h k ((fX2_fails 1).2) a o)) hP hD [0, 1, 2, 3, 4] [] rfl rfl (by decide) (by decide) hk1 hFc hP1 hD1
    have hP := hP.sub (ws' := (wM q cq T R S X (nI n) h k ((fX2_fails 1).2) a o)) [0, 1, 2, 3, 4] rfl
    have hD := hD.sub (ws' := (wM q cq T R S X (nI n) h k ((fX2_fails 1).2) a o)) [0, 1, 2, 3, 4] (by decide) rfl
    generalize H1 = H at hP hS ⊢
    subst r9
    have hq : (fX2_restoreSnapshot T R S n h) = ((fX2_fails 1).1, T, R, n, (fX2_fails 1).2) := Eq.symm (by first | ((rw [fX2_restoreSnapshot, if_pos c_1]); first | done | rfl) | rfl)
    exact W.iret (v := (fX2_fails 1).1) hx hb hr (fun t9 ht hW => ⟨⟨(fX2_fails 1).1, (), rfl, by rw [hq], by rw [hq]; exact ⟨by rw [ht]; exact hP, hD⟩⟩, hS.F ht⟩) hS.2.2 dX2_restoreSnapshot_17
theorem in_X2_tableOf_X2 : ∀ w ∈ wsX20, w ∈ wsX2_tableOf := by decide +kernel
def fX2_tableOf (T : Nat → Int32) (x : Int32) : Int32 × Int32 := if (fX2_is x).1 = 0 then (0, (fX2_is x).2) else ((T x.toNatClampNeg), (fX2_is x).2)
set_option maxHeartbeats 4000000 in
set_option maxRecDepth 100000 in
theorem c_X2_tableOf (l : Launch) (D : va_G) (q : Nat → Nat) (cq : Nat → ClassId) (sz : Nat) (T : Nat → Int32) (R : Nat → Int32) (S : Nat → Int32) (X : Nat → Int32) (n : Int32) (h : Int32) (k : Int32) (th : Int32) (a : Int32) (o : Int32) (x : Int32) : Met l yX2_tableOf wsX2_tableOf ({ frames := 3, cells := 0, slots := 0, locals := 63 }) (va_Pc [.ref (q 0), .int x] (fun U => U.heap.size = sz ∧ va_P D vwCl (wM q cq T R S X n h k th a o) U.heap ∧ va_K D vwCl (tyM cq) U ∧ va_D (fun _ => True) (wM q cq T R S X n h k th a o) ∧ envE (va_A (wM q cq T R S X n h k th a o) sz) U)) (va_Qi (fun r9 (_ : Unit) => r9 = (fX2_tableOf T x).1) (fun _ t9 => va_P D vwCl (wM q cq T R S X n h k ((fX2_tableOf T x).2) a o) t9.heap ∧ va_D (va_A (wM q cq T R S X n h k th a o) sz) (wM q cq T R S X n h k ((fX2_tableOf T x).2) a o)) (va_A (wM q cq T R S X n h k th a o) sz)) 0 0 (va_A (wM q cq T R S X n h k th a o) sz) := by
  refine Met.ofW (cc := cX2_tableOf) (maxL := 2) (ret := (some .int)) (by decide) rfl ?_
  intro p e s m args below meth c s₁ B hml hv
  obtain ⟨rfl, hsz, hP, hK, hD0, hE⟩ := hv
  have hx := B.exec
  have hb := B.bytes
  have hr := B.returns
  have hts := atoms_spec (ws := wsX2_tableOf) B.pre
  have hown : s.vm.findClass RX2 = some m.cls := findClass_of_methodNamed B.named
  have hlocks := B.notSynchronized
  subst hsz
  have hD := hD0.self (sz := s.heap.size)
  generalize hAe : va_A (wM q cq T R S X n h k th a o) s.heap.size = A at hD hE ⊢
  have hA : ∀ q : Nat, s.heap.size ≤ q → A q := fun q h => by rw [← hAe]; exact Or.inr h
  have hS : va_S A s.heap s.heap [] := va_S.rf
  have hP : va_P D vwCl (wM q cq T R S X n h k th a o) s.heap := hP
  have hl := lv_entry ([.ref (q 0), .int x]) (n := 2) (Nat.le_of_ble_eq_true rfl)
  rw [lg_entry_eq]
  generalize (lg_sl ([.ref (q 0), .int x]) ++ List.replicate (2 - (lg_sl ([.ref (q 0), .int x])).length) Slot.unset).toArray = ls at hl ⊢
  have hl : lv_has ls 2 [(0, .ref (q 0)), (1, .int x)] := hl
  refine lv_aload_n hx hb dX2_tableOf_0 rfl (lv_at hl 0 rfl) ?_
  refine lv_iload_n hx hb dX2_tableOf_1 rfl (lv_at hl 1 rfl) ?_
  have hPc := hP.sub (ws' := (wM q cq T R S X n h k th a o)) [0, 1, 2, 3, 4] rfl
  have hKc := hK.sub (tys' := (tyM cq)) [0, 1, 2, 3] rfl
  have hDc := hD.sub (ws' := (wM q cq T R S X n h k th a o)) [0, 1, 2, 3, 4] (by decide) rfl
  have hFc := va_free (wc := (wM q cq T R S X n h k th a o)) hD hS hA [0, 1, 2, 3, 4] rfl
  refine va_calli (va_runV (As := [.int x]) (rest := []) ⟨hx, hb, hml, hown, hts⟩ (c_X2_is l D q cq s.heap.size T R S X n h k th a o x) (cwV 1 hts gX2_tableOf_X2_is rfl rfl rfl (by decide +kernel) ⟨Nat.le_of_ble_eq_true rfl, Nat.le_of_ble_eq_true rfl⟩) ⟨fun a U g mk z => ⟨z.1, z.2.1, z.2.2.1, va_K.moved (u := U) (U := U.calling g mk a) (Vm.Alike.refl U.vm) z.2.2.2.1, z.2.2.2.2.1, z.2.2.2.2.2.blind g mk a⟩, va_recv hKc hPc (ci := 2) (q0 := 0) rfl rfl, fun U hU hW => ⟨rfl, by rw [hU], by rw [hU]; exact hPc, va_K.moved hW.alike hKc, hDc.weaken (fun _ _ _ _ => trivial), hE.at hS hU hW hFc⟩⟩ rfl rfl hl.1 rfl (lv_room (Nat.le_of_ble_eq_true rfl)) dX2_tableOf_2 ⟨(Nat.zero_le _), (Nat.zero_le _)⟩) hS (fun q _ h => hFc q h) hFc (fun r9 u9 t8 H1 locs ht hvm hw hB hz1 hk1 hS => ?_)
  obtain ⟨hP1, hD1⟩ := hB
  rw [ht] at hP1
  obtain ⟨hP, hD⟩ := va_join (wr := []) (w1 := (wM q cq T R S X n h k ((fX2_is x).2) a o)) hP hD [0, 1, 2, 3, 4] [] rfl rfl (by decide) (by decide) hk1 hFc hP1 hD1
  have hP := hP.sub (ws' := (wM q cq T R S X n h k ((fX2_is x).2) a o)) [0, 1, 2, 3, 4] rfl
  have hD := hD.sub (ws' := (wM q cq T R S X n h k ((fX2_is x).2) a o)) [0, 1, 2, 3, 4] (by decide) rfl
  generalize H1 = H at hP hS ⊢
  subst r9
  refine lv_if_eq (tgt := 17) hx hb dX2_tableOf_5 (by decide) (fun c_1 => ?_) (fun c_1 => ?_)
  · refine lv_iconst (v := 0) hx hb dX2_tableOf_17 (by decide) ?_
    have hq : (fX2_tableOf T x) = (0, (fX2_is x).2) := Eq.symm (by first | ((rw [fX2_tableOf, if_pos c_1]); first | done | rfl) | rfl)
    exact W.iret (v := 0) hx hb hr (fun t9 ht hW => ⟨⟨0, (), rfl, by rw [hq], by rw [hq]; exact ⟨by rw [ht]; exact hP, hD⟩⟩, hS.F ht⟩) hS.2.2 dX2_tableOf_18
  · have hin_x_6 : vp_in x 6 := kis c_1
    refine lv_aload_n hx hb dX2_tableOf_8 rfl (lv_at hl 0 rfl) ?_
    refine va_get (D := D) (ci := 2) (v := .ref (q 1)) (C := RX2) (T := TX2) (N := 10) hx hb hts in_X2_tableOf_X2 hown hK hP 0 rfl rfl 0 (by decide) (hts (.fieldLink RX2 7 "ZhegalkinBenchModel" "now" "[I") (List.mem_of_getElem? (i := 1) rfl)) (fun _ h9 => h9) rfl dX2_tableOf_9 ?_
    refine lv_iload_n hx hb dX2_tableOf_12 rfl (lv_at hl 1 rfl) ?_
    refine va_iald hx hb hK hP 1 0 rfl rfl hin_x_6 dX2_tableOf_13 ?_
    refine lv_goto (tgt := 18) hx hb dX2_tableOf_14 (by decide) ?_
    have hq : (fX2_tableOf T x) = ((T x.toNatClampNeg), (fX2_is x).2) := Eq.symm (by first | ((rw [fX2_tableOf, if_neg c_1]); first | done | rfl) | rfl)
    exact W.iret (v := (T x.toNatClampNeg)) hx hb hr (fun t9 ht hW => ⟨⟨(T x.toNatClampNeg), (), rfl, by rw [hq], by rw [hq]; exact ⟨by rw [ht]; exact hP, hD⟩⟩, hS.F ht⟩) hS.2.2 dX2_tableOf_18
theorem in_X2_valueAt_X2 : ∀ w ∈ wsX20, w ∈ wsX2_valueAt := by decide +kernel
def fX2_valueAt (T : Nat → Int32) (x : Int32) (x2 : Int32) : Int32 × Int32 := if (fX2_isOne x) = 0 then (0, 1) else (if (fX2_in x2 0 15) = 0 then (0, 1) else ((((T x.toNatClampNeg) >>> (x2 &&& 31)) &&& 1), 0))
set_option maxHeartbeats 4000000 in
set_option maxRecDepth 100000 in
theorem c_X2_valueAt (l : Launch) (D : va_G) (q : Nat → Nat) (cq : Nat → ClassId) (sz : Nat) (T : Nat → Int32) (R : Nat → Int32) (S : Nat → Int32) (X : Nat → Int32) (n : Int32) (h : Int32) (k : Int32) (th : Int32) (a : Int32) (o : Int32) (x : Int32) (x2 : Int32) : Met l yX2_valueAt wsX2_valueAt ({ frames := 2, cells := 0, slots := 0, locals := 42 }) (va_Pc [.ref (q 0), .int x, .int x2] (fun U => U.heap.size = sz ∧ va_P D vwCl (wM q cq T R S X n h k th a o) U.heap ∧ va_K D vwCl (tyM cq) U ∧ va_D (fun _ => True) (wM q cq T R S X n h k th a o) ∧ envE (va_A (wM q cq T R S X n h k th a o) sz) U)) (va_Qi (fun r9 (_ : Unit) => r9 = (fX2_valueAt T x x2).1) (fun _ t9 => va_P D vwCl (wM q cq T R S X n h k ((fX2_valueAt T x x2).2) a o) t9.heap ∧ va_D (va_A (wM q cq T R S X n h k th a o) sz) (wM q cq T R S X n h k ((fX2_valueAt T x x2).2) a o)) (va_A (wM q cq T R S X n h k th a o) sz)) 0 0 (va_A (wM q cq T R S X n h k th a o) sz) := by
  refine Met.ofW (cc := cX2_valueAt) (maxL := 3) (ret := (some .int)) (by decide) rfl ?_
  intro p e s m args below meth c s₁ B hml hv
  obtain ⟨rfl, hsz, hP, hK, hD0, hE⟩ := hv
  have hx := B.exec
  have hb := B.bytes
  have hr := B.returns
  have hts := atoms_spec (ws := wsX2_valueAt) B.pre
  have hown : s.vm.findClass RX2 = some m.cls := findClass_of_methodNamed B.named
  have hlocks := B.notSynchronized
  subst hsz
  have hD := hD0.self (sz := s.heap.size)
  generalize hAe : va_A (wM q cq T R S X n h k th a o) s.heap.size = A at hD hE ⊢
  have hA : ∀ q : Nat, s.heap.size ≤ q → A q := fun q h => by rw [← hAe]; exact Or.inr h
  have hS : va_S A s.heap s.heap [] := va_S.rf
  have hP : va_P D vwCl (wM q cq T R S X n h k th a o) s.heap := hP
  have hl := lv_entry ([.ref (q 0), .int x, .int x2]) (n := 3) (Nat.le_of_ble_eq_true rfl)
  rw [lg_entry_eq]
  generalize (lg_sl ([.ref (q 0), .int x, .int x2]) ++ List.replicate (3 - (lg_sl ([.ref (q 0), .int x, .int x2])).length) Slot.unset).toArray = ls at hl ⊢
  have hl : lv_has ls 3 [(0, .ref (q 0)), (1, .int x), (2, .int x2)] := hl
  refine lv_aload_n hx hb dX2_valueAt_0 rfl (lv_at hl 0 rfl) ?_
  refine lv_iload_n hx hb dX2_valueAt_1 rfl (lv_at hl 1 rfl) ?_
  refine vp_callSi (va_Run.run (va_runS (As := [.int x]) (rest := [.ref (q 0)]) ⟨hx, hb, hml, hown, hts⟩ (c_X2_isOne l x) (va_cwS 1 hts gX2_valueAt_X2_isOne rfl rfl rfl (by decide +kernel) ⟨Nat.le_of_ble_eq_true rfl, Nat.le_of_ble_eq_true rfl⟩) ⟨fun _ _ _ _ z => z, fun _ _ _ => ⟨rfl, trivial⟩⟩ rfl rfl hl.1 rfl (lv_room (Nat.le_of_ble_eq_true rfl)) dX2_valueAt_2 ⟨(Nat.zero_le _), (Nat.zero_le _)⟩)) (fun r9 hr => ?_)
  subst r9
  refine lv_if_eq (tgt := 22) hx hb dX2_valueAt_5 (by decide) (fun c_1 => ?_) (fun c_1 => ?_)
  · refine lv_iconst (v := 1) hx hb dX2_valueAt_22 (by decide) ?_
    refine va_put (D := D) (ci := 2) (v := .int 1) (ty := .int) (C := RX2) (T := TX2) (N := 10) hx hb hts in_X2_valueAt_X2 tyX2 tyX2_ok nmX2 hown hK hP hD hS 0 rfl rfl 7 (by decide) (hts (.fieldLink RX2 27 "ZhegalkinBenchModel" "thrown" "I") (List.mem_of_getElem? (i := 1) rfl)) (fun _ h9 => h9) rfl (by decide +kernel) rfl rfl (Nat.le_of_ble_eq_true rfl) dX2_valueAt_23 (fun H locs hP hD hS => ?_)
    have hP : va_P D vwCl (wM q cq T R S X n h k 1 a o) H := hP
    have hD : va_D A (wM q cq T R S X n h k 1 a o) := hD
    refine lv_aload_n hx hb dX2_valueAt_26 rfl (lv_at hl 0 rfl) ?_
    refine va_get (D := D) (ci := 2) (v := .int 1) (C := RX2) (T := TX2) (N := 10) hx hb hts in_X2_valueAt_X2 hown hK hP 0 rfl rfl 7 (by decide) (hts (.fieldLink RX2 27 "ZhegalkinBenchModel" "thrown" "I") (List.mem_of_getElem? (i := 1) rfl)) (fun _ h9 => h9) rfl dX2_valueAt_27 ?_
    refine lv_if_ne (tgt := 46) hx hb dX2_valueAt_30 (by decide) (fun c_2 => ?_) (fun c_2 => ?_)
    · refine lv_iconst (v := 0) hx hb dX2_valueAt_46 (by decide) ?_
      have hq : (fX2_valueAt T x x2) = (0, 1) := Eq.symm (by first | ((rw [fX2_valueAt, if_pos c_1]); first | done | rfl) | rfl)
      exact W.iret (v := 0) hx hb hr (fun t9 ht hW => ⟨⟨0, (), rfl, by rw [hq], by rw [hq]; exact ⟨by rw [ht]; exact hP, hD⟩⟩, hS.F ht⟩) hS.2.2 dX2_valueAt_47
    · exact absurd c_2 (by decide)
  · refine lv_iload_n hx hb dX2_valueAt_8 rfl (lv_at hl 2 rfl) ?_
    refine lv_iconst (v := 0) hx hb dX2_valueAt_9 (by decide) ?_
    refine lv_bipush (v := 15) hx hb dX2_valueAt_10 (by decide) ?_
    refine vp_callSi (va_Run.run (va_runS (As := [.int x2, .int 0, .int 15]) (rest := [.ref (q 0)]) ⟨hx, hb, hml, hown, hts⟩ (c_X2_in l x2 0 15) (va_cwS 3 hts gX2_valueAt_X2_in rfl rfl rfl (by decide +kernel) ⟨Nat.le_of_ble_eq_true rfl, Nat.le_of_ble_eq_true rfl⟩) ⟨fun _ _ _ _ z => z, fun _ _ _ => ⟨rfl, trivial⟩⟩ rfl rfl hl.1 rfl (lv_room (Nat.le_of_ble_eq_true rfl)) dX2_valueAt_12 ⟨(Nat.zero_le _), (Nat.zero_le _)⟩)) (fun r9 hr => ?_)
    subst r9
    refine lv_if_eq (tgt := 22) hx hb dX2_valueAt_15 (by decide) (fun c_3 => ?_) (fun c_3 => ?_)
    · refine lv_iconst (v := 1) hx hb dX2_valueAt_22 (by decide) ?_
      refine va_put (D := D) (ci := 2) (v := .int 1) (ty := .int) (C := RX2) (T := TX2) (N := 10) hx hb hts in_X2_valueAt_X2 tyX2 tyX2_ok nmX2 hown hK hP hD hS 0 rfl rfl 7 (by decide) (hts (.fieldLink RX2 27 "ZhegalkinBenchModel" "thrown" "I") (List.mem_of_getElem? (i := 1) rfl)) (fun _ h9 => h9) rfl (by decide +kernel) rfl rfl (Nat.le_of_ble_eq_true rfl) dX2_valueAt_23 (fun H locs hP hD hS => ?_)
      have hP : va_P D vwCl (wM q cq T R S X n h k 1 a o) H := hP
      have hD : va_D A (wM q cq T R S X n h k 1 a o) := hD
      refine lv_aload_n hx hb dX2_valueAt_26 rfl (lv_at hl 0 rfl) ?_
      refine va_get (D := D) (ci := 2) (v := .int 1) (C := RX2) (T := TX2) (N := 10) hx hb hts in_X2_valueAt_X2 hown hK hP 0 rfl rfl 7 (by decide) (hts (.fieldLink RX2 27 "ZhegalkinBenchModel" "thrown" "I") (List.mem_of_getElem? (i := 1) rfl)) (fun _ h9 => h9) rfl dX2_valueAt_27 ?_
      refine lv_if_ne (tgt := 46) hx hb dX2_valueAt_30 (by decide) (fun c_4 => ?_) (fun c_4 => ?_)
      · refine lv_iconst (v := 0) hx hb dX2_valueAt_46 (by decide) ?_
        have hq : (fX2_valueAt T x x2) = (0, 1) := Eq.symm (by first | ((rw [fX2_valueAt, if_neg c_1, if_pos c_3]); first | done | rfl) | rfl)
        exact W.iret (v := 0) hx hb hr (fun t9 ht hW => ⟨⟨0, (), rfl, by rw [hq], by rw [hq]; exact ⟨by rw [ht]; exact hP, hD⟩⟩, hS.F ht⟩) hS.2.2 dX2_valueAt_47
      · exact absurd c_4 (by decide)
    · refine lv_iconst (v := 0) hx hb dX2_valueAt_18 (by decide) ?_
      refine lv_goto (tgt := 23) hx hb dX2_valueAt_19 (by decide) ?_
      refine va_put (D := D) (ci := 2) (v := .int 0) (ty := .int) (C := RX2) (T := TX2) (N := 10) hx hb hts in_X2_valueAt_X2 tyX2 tyX2_ok nmX2 hown hK hP hD hS 0 rfl rfl 7 (by decide) (hts (.fieldLink RX2 27 "ZhegalkinBenchModel" "thrown" "I") (List.mem_of_getElem? (i := 1) rfl)) (fun _ h9 => h9) rfl (by decide +kernel) rfl rfl (Nat.le_of_ble_eq_true rfl) dX2_valueAt_23 (fun H locs hP hD hS => ?_)
      have hP : va_P D vwCl (wM q cq T R S X n h k 0 a o) H := hP
      have hD : va_D A (wM q cq T R S X n h k 0 a o) := hD
      refine lv_aload_n hx hb dX2_valueAt_26 rfl (lv_at hl 0 rfl) ?_
      refine va_get (D := D) (ci := 2) (v := .int 0) (C := RX2) (T := TX2) (N := 10) hx hb hts in_X2_valueAt_X2 hown hK hP 0 rfl rfl 7 (by decide) (hts (.fieldLink RX2 27 "ZhegalkinBenchModel" "thrown" "I") (List.mem_of_getElem? (i := 1) rfl)) (fun _ h9 => h9) rfl dX2_valueAt_27 ?_
      refine lv_if_ne (tgt := 46) hx hb dX2_valueAt_30 (by decide) (fun c_5 => ?_) (fun c_5 => ?_)
      · exact absurd (by decide) c_5
      · have hin_x_6 : vp_in x 6 := kisOne c_1
        refine lv_aload_n hx hb dX2_valueAt_33 rfl (lv_at hl 0 rfl) ?_
        refine va_get (D := D) (ci := 2) (v := .ref (q 1)) (C := RX2) (T := TX2) (N := 10) hx hb hts in_X2_valueAt_X2 hown hK hP 0 rfl rfl 0 (by decide) (hts (.fieldLink RX2 7 "ZhegalkinBenchModel" "now" "[I") (List.mem_of_getElem? (i := 2) rfl)) (fun _ h9 => h9) rfl dX2_valueAt_34 ?_
        refine lv_iload_n hx hb dX2_valueAt_37 rfl (lv_at hl 1 rfl) ?_
        refine va_iald hx hb hK hP 1 0 rfl rfl hin_x_6 dX2_valueAt_38 ?_
        refine lv_iload_n hx hb dX2_valueAt_39 rfl (lv_at hl 2 rfl) ?_
        refine lv_ishr hx hb dX2_valueAt_40 ?_
        refine lv_iconst (v := 1) hx hb dX2_valueAt_41 (by decide) ?_
        refine lv_iand hx hb dX2_valueAt_42 ?_
        refine lv_goto (tgt := 47) hx hb dX2_valueAt_43 (by decide) ?_
        have hq : (fX2_valueAt T x x2) = ((((T x.toNatClampNeg) >>> (x2 &&& 31)) &&& 1), 0) := Eq.symm (by first | ((rw [fX2_valueAt, if_neg c_1, if_neg c_3]); first | done | rfl) | rfl)
        exact W.iret (v := (((T x.toNatClampNeg) >>> (x2 &&& 31)) &&& 1)) hx hb hr (fun t9 ht hW => ⟨⟨(((T x.toNatClampNeg) >>> (x2 &&& 31)) &&& 1), (), rfl, by rw [hq], by rw [hq]; exact ⟨by rw [ht]; exact hP, hD⟩⟩, hS.F ht⟩) hS.2.2 dX2_valueAt_47
theorem in_X2_weightOf_X2 : ∀ w ∈ wsX20, w ∈ wsX2_weightOf := by decide +kernel
def fX2_weightOf (T : Nat → Int32) (x : Int32) : Int32 × Int32 := if (fX2_is x).1 = 0 then (0, (fX2_is x).2) else ((fX2_bits (T x.toNatClampNeg)), (fX2_is x).2)
set_option maxHeartbeats 4000000 in
set_option maxRecDepth 100000 in
theorem c_X2_weightOf (l : Launch) (D : va_G) (q : Nat → Nat) (cq : Nat → ClassId) (sz : Nat) (T : Nat → Int32) (R : Nat → Int32) (S : Nat → Int32) (X : Nat → Int32) (n : Int32) (h : Int32) (k : Int32) (th : Int32) (a : Int32) (o : Int32) (x : Int32) : Met l yX2_weightOf wsX2_weightOf ({ frames := 3, cells := 0, slots := 0, locals := 63 }) (va_Pc [.ref (q 0), .int x] (fun U => U.heap.size = sz ∧ va_P D vwCl (wM q cq T R S X n h k th a o) U.heap ∧ va_K D vwCl (tyM cq) U ∧ va_D (fun _ => True) (wM q cq T R S X n h k th a o) ∧ envE (va_A (wM q cq T R S X n h k th a o) sz) U)) (va_Qi (fun r9 (_ : Unit) => r9 = (fX2_weightOf T x).1) (fun _ t9 => va_P D vwCl (wM q cq T R S X n h k ((fX2_weightOf T x).2) a o) t9.heap ∧ va_D (va_A (wM q cq T R S X n h k th a o) sz) (wM q cq T R S X n h k ((fX2_weightOf T x).2) a o)) (va_A (wM q cq T R S X n h k th a o) sz)) 0 0 (va_A (wM q cq T R S X n h k th a o) sz) := by
  refine Met.ofW (cc := cX2_weightOf) (maxL := 2) (ret := (some .int)) (by decide) rfl ?_
  intro p e s m args below meth c s₁ B hml hv
  obtain ⟨rfl, hsz, hP, hK, hD0, hE⟩ := hv
  have hx := B.exec
  have hb := B.bytes
  have hr := B.returns
  have hts := atoms_spec (ws := wsX2_weightOf) B.pre
  have hown : s.vm.findClass RX2 = some m.cls := findClass_of_methodNamed B.named
  have hlocks := B.notSynchronized
  subst hsz
  have hD := hD0.self (sz := s.heap.size)
  generalize hAe : va_A (wM q cq T R S X n h k th a o) s.heap.size = A at hD hE ⊢
  have hA : ∀ q : Nat, s.heap.size ≤ q → A q := fun q h => by rw [← hAe]; exact Or.inr h
  have hS : va_S A s.heap s.heap [] := va_S.rf
  have hP : va_P D vwCl (wM q cq T R S X n h k th a o) s.heap := hP
  have hl := lv_entry ([.ref (q 0), .int x]) (n := 2) (Nat.le_of_ble_eq_true rfl)
  rw [lg_entry_eq]
  generalize (lg_sl ([.ref (q 0), .int x]) ++ List.replicate (2 - (lg_sl ([.ref (q 0), .int x])).length) Slot.unset).toArray = ls at hl ⊢
  have hl : lv_has ls 2 [(0, .ref (q 0)), (1, .int x)] := hl
  refine lv_aload_n hx hb dX2_weightOf_0 rfl (lv_at hl 0 rfl) ?_
  refine lv_iload_n hx hb dX2_weightOf_1 rfl (lv_at hl 1 rfl) ?_
  have hPc := hP.sub (ws' := (wM q cq T R S X n h k th a o)) [0, 1, 2, 3, 4] rfl
  have hKc := hK.sub (tys' := (tyM cq)) [0, 1, 2, 3] rfl
  have hDc := hD.sub (ws' := (wM q cq T R S X n h k th a o)) [0, 1, 2, 3, 4] (by decide) rfl
  have hFc := va_free (wc := (wM q cq T R S X n h k th a o)) hD hS hA [0, 1, 2, 3, 4] rfl
  refine va_calli (va_runV (As := [.int x]) (rest := []) ⟨hx, hb, hml, hown, hts⟩ (c_X2_is l D q cq s.heap.size T R S X n h k th a o x) (cwV 1 hts gX2_weightOf_X2_is rfl rfl rfl (by decide +kernel) ⟨Nat.le_of_ble_eq_true rfl, Nat.le_of_ble_eq_true rfl⟩) ⟨fun a U g mk z => ⟨z.1, z.2.1, z.2.2.1, va_K.moved (u := U) (U := U.calling g mk a) (Vm.Alike.refl U.vm) z.2.2.2.1, z.2.2.2.2.1, z.2.2.2.2.2.blind g mk a⟩, va_recv hKc hPc (ci := 2) (q0 := 0) rfl rfl, fun U hU hW => ⟨rfl, by rw [hU], by rw [hU]; exact hPc, va_K.moved hW.alike hKc, hDc.weaken (fun _ _ _ _ => trivial), hE.at hS hU hW hFc⟩⟩ rfl rfl hl.1 rfl (lv_room (Nat.le_of_ble_eq_true rfl)) dX2_weightOf_2 ⟨(Nat.zero_le _), (Nat.zero_le _)⟩) hS (fun q _ h => hFc q h) hFc (fun r9 u9 t8 H1 locs ht hvm hw hB hz1 hk1 hS => ?_)
  obtain ⟨hP1, hD1⟩ := hB
  rw [ht] at hP1
  obtain ⟨hP, hD⟩ := va_join (wr := []) (w1 := (wM q cq T R S X n h k ((fX2_is x).2) a o)) hP hD [0, 1, 2, 3, 4] [] rfl rfl (by decide) (by decide) hk1 hFc hP1 hD1
  have hP := hP.sub (ws' := (wM q cq T R S X n h k ((fX2_is x).2) a o)) [0, 1, 2, 3, 4] rfl
  have hD := hD.sub (ws' := (wM q cq T R S X n h k ((fX2_is x).2) a o)) [0, 1, 2, 3, 4] (by decide) rfl
  generalize H1 = H at hP hS ⊢
  subst r9
  refine lv_if_eq (tgt := 20) hx hb dX2_weightOf_5 (by decide) (fun c_1 => ?_) (fun c_1 => ?_)
  · refine lv_iconst (v := 0) hx hb dX2_weightOf_20 (by decide) ?_
    have hq : (fX2_weightOf T x) = (0, (fX2_is x).2) := Eq.symm (by first | ((rw [fX2_weightOf, if_pos c_1]); first | done | rfl) | rfl)
    exact W.iret (v := 0) hx hb hr (fun t9 ht hW => ⟨⟨0, (), rfl, by rw [hq], by rw [hq]; exact ⟨by rw [ht]; exact hP, hD⟩⟩, hS.F ht⟩) hS.2.2 dX2_weightOf_21
  · have hin_x_6 : vp_in x 6 := kis c_1
    refine lv_aload_n hx hb dX2_weightOf_8 rfl (lv_at hl 0 rfl) ?_
    refine va_get (D := D) (ci := 2) (v := .ref (q 1)) (C := RX2) (T := TX2) (N := 10) hx hb hts in_X2_weightOf_X2 hown hK hP 0 rfl rfl 0 (by decide) (hts (.fieldLink RX2 7 "ZhegalkinBenchModel" "now" "[I") (List.mem_of_getElem? (i := 1) rfl)) (fun _ h9 => h9) rfl dX2_weightOf_9 ?_
    refine lv_iload_n hx hb dX2_weightOf_12 rfl (lv_at hl 1 rfl) ?_
    refine va_iald hx hb hK hP 1 0 rfl rfl hin_x_6 dX2_weightOf_13 ?_
    refine vp_callSi (va_Run.run (va_runS (As := [.int (T x.toNatClampNeg)]) (rest := []) ⟨hx, hb, hml, hown, hts⟩ (c_X2_bits l (T x.toNatClampNeg)) (va_cwS 1 hts gX2_weightOf_X2_bits rfl rfl rfl (by decide +kernel) ⟨Nat.le_of_ble_eq_true rfl, Nat.le_of_ble_eq_true rfl⟩) ⟨fun _ _ _ _ z => z, fun _ _ _ => ⟨rfl, trivial⟩⟩ rfl rfl hl.1 rfl (lv_room (Nat.le_of_ble_eq_true rfl)) dX2_weightOf_14 ⟨(Nat.zero_le _), (Nat.zero_le _)⟩)) (fun r9 hr => ?_)
    subst r9
    refine lv_goto (tgt := 21) hx hb dX2_weightOf_17 (by decide) ?_
    have hq : (fX2_weightOf T x) = ((fX2_bits (T x.toNatClampNeg)), (fX2_is x).2) := Eq.symm (by first | ((rw [fX2_weightOf, if_neg c_1]); first | done | rfl) | rfl)
    exact W.iret (v := (fX2_bits (T x.toNatClampNeg))) hx hb hr (fun t9 ht hW => ⟨⟨(fX2_bits (T x.toNatClampNeg)), (), rfl, by rw [hq], by rw [hq]; exact ⟨by rw [ht]; exact hP, hD⟩⟩, hS.F ht⟩) hS.2.2 dX2_weightOf_21
theorem in_X2_dependsOn_X2 : ∀ w ∈ wsX20, w ∈ wsX2_dependsOn := by decide +kernel
def tX2_dependsOn_30 (T : Nat → Int32) (x : Int32) (x2 : Int32) : Nat → Nat → Int32 → Int32 × Int32
  | 0, _, a1 => (a1, (if (fX2_isOne x) = 0 then 1 else (if (fX2_in x2 0 3) = 0 then 1 else 0) : Int32))
  | n1 + 1, i1, a1 => if (if (fX2_isOne x) = 0 then 1 else (if (fX2_in x2 0 3) = 0 then 1 else 0) : Int32) = 0 then tX2_dependsOn_30 T x x2 n1 (i1 + 1) (if a1 = 0 then (if (fX2_valueWith T x (nI i1) x2 0) = (fX2_valueWith T x (nI i1) x2 1) then 0 else 1) else 1 : Int32) else (a1, (if (fX2_isOne x) = 0 then 1 else (if (fX2_in x2 0 3) = 0 then 1 else 0) : Int32))
def fX2_dependsOn (T : Nat → Int32) (x : Int32) (x2 : Int32) : Int32 × Int32 := tX2_dependsOn_30 T x x2 16 0 0
set_option maxHeartbeats 4000000 in
set_option maxRecDepth 100000 in
theorem c_X2_dependsOn (l : Launch) (D : va_G) (q : Nat → Nat) (cq : Nat → ClassId) (sz : Nat) (T : Nat → Int32) (R : Nat → Int32) (S : Nat → Int32) (X : Nat → Int32) (n : Int32) (h : Int32) (k : Int32) (th : Int32) (a : Int32) (o : Int32) (x : Int32) (x2 : Int32) : Met l yX2_dependsOn wsX2_dependsOn ({ frames := 2, cells := 0, slots := 0, locals := 42 }) (va_Pc [.ref (q 0), .int x, .int x2] (fun U => U.heap.size = sz ∧ va_P D vwCl (wM q cq T R S X n h k th a o) U.heap ∧ va_K D vwCl (tyM cq) U ∧ va_D (fun _ => True) (wM q cq T R S X n h k th a o) ∧ envE (va_A (wM q cq T R S X n h k th a o) sz) U)) (va_Qi (fun r9 (_ : Unit) => r9 = (fX2_dependsOn T x x2).1) (fun _ t9 => va_P D vwCl (wM q cq T R S X n h k ((fX2_dependsOn T x x2).2) a o) t9.heap ∧ va_D (va_A (wM q cq T R S X n h k th a o) sz) (wM q cq T R S X n h k ((fX2_dependsOn T x x2).2) a o)) (va_A (wM q cq T R S X n h k th a o) sz)) 0 0 (va_A (wM q cq T R S X n h k th a o) sz) := by
  refine Met.ofW (cc := cX2_dependsOn) (maxL := 5) (ret := (some .boolean)) (by decide) rfl ?_
  intro p e s m args below meth c s₁ B hml hv
  obtain ⟨rfl, hsz, hP, hK, hD0, hE⟩ := hv
  have hx := B.exec
  have hb := B.bytes
  have hr := B.returns
  have hts := atoms_spec (ws := wsX2_dependsOn) B.pre
  have hown : s.vm.findClass RX2 = some m.cls := findClass_of_methodNamed B.named
  have hlocks := B.notSynchronized
  subst hsz
  have hD := hD0.self (sz := s.heap.size)
  generalize hAe : va_A (wM q cq T R S X n h k th a o) s.heap.size = A at hD hE ⊢
  have hA : ∀ q : Nat, s.heap.size ≤ q → A q := fun q h => by rw [← hAe]; exact Or.inr h
  have hS : va_S A s.heap s.heap [] := va_S.rf
  have hP : va_P D vwCl (wM q cq T R S X n h k th a o) s.heap := hP
  have hl := lv_entry ([.ref (q 0), .int x, .int x2]) (n := 5) (Nat.le_of_ble_eq_true rfl)
  rw [lg_entry_eq]
  generalize (lg_sl ([.ref (q 0), .int x, .int x2]) ++ List.replicate (5 - (lg_sl ([.ref (q 0), .int x, .int x2])).length) Slot.unset).toArray = ls at hl ⊢
  have hl : lv_has ls 5 [(0, .ref (q 0)), (1, .int x), (2, .int x2)] := hl
  refine lv_aload_n hx hb dX2_dependsOn_0 rfl (lv_at hl 0 rfl) ?_
  refine lv_iload_n hx hb dX2_dependsOn_1 rfl (lv_at hl 1 rfl) ?_
  refine vp_callSi (va_Run.run (va_runS (As := [.int x]) (rest := [.ref (q 0)]) ⟨hx, hb, hml, hown, hts⟩ (c_X2_isOne l x) (va_cwS 1 hts gX2_dependsOn_X2_isOne rfl rfl rfl (by decide +kernel) ⟨Nat.le_of_ble_eq_true rfl, Nat.le_of_ble_eq_true rfl⟩) ⟨fun _ _ _ _ z => z, fun _ _ _ => ⟨rfl, trivial⟩⟩ rfl rfl hl.1 rfl (lv_room (Nat.le_of_ble_eq_true rfl)) dX2_dependsOn_2 ⟨(Nat.zero_le _), (Nat.zero_le _)⟩)) (fun r9 hr => ?_)
  subst r9
  refine vz_cut (fun H1 l1 g1 => ∃ (x1_0 : Int32) (ls : Array Slot), x1_0 = (if (fX2_isOne x) = 0 then 1 else (if (fX2_in x2 0 3) = 0 then 1 else 0) : Int32) ∧ lv_has ls 5 [(0, .ref (q 0)), (1, .int x), (2, .int x2)] ∧ (s.heap = H1 ∧ [] = l1) ∧ g1 = F0 m 22 ls [.int x1_0, .ref (q 0)]) (fun hj1 => ?_) ?_
  · refine lv_if_eq (tgt := 21) hx hb dX2_dependsOn_5 (by decide) (fun c_1 => ?_) (fun c_1 => ?_)
    · refine lv_iconst (v := 1) hx hb dX2_dependsOn_21 (by decide) ?_
      exact hj1 _ _ _ ⟨1, ls, (by (rw [if_pos c_1]); first | done | rfl), lv_sub hl [0, 1, 2] rfl, ⟨rfl, rfl⟩, rfl⟩
    · refine lv_iload_n hx hb dX2_dependsOn_8 rfl (lv_at hl 2 rfl) ?_
      refine lv_iconst (v := 0) hx hb dX2_dependsOn_9 (by decide) ?_
      refine lv_iconst (v := 3) hx hb dX2_dependsOn_10 (by decide) ?_
      refine vp_callSi (va_Run.run (va_runS (As := [.int x2, .int 0, .int 3]) (rest := [.ref (q 0)]) ⟨hx, hb, hml, hown, hts⟩ (c_X2_in l x2 0 3) (va_cwS 3 hts gX2_dependsOn_X2_in rfl rfl rfl (by decide +kernel) ⟨Nat.le_of_ble_eq_true rfl, Nat.le_of_ble_eq_true rfl⟩) ⟨fun _ _ _ _ z => z, fun _ _ _ => ⟨rfl, trivial⟩⟩ rfl rfl hl.1 rfl (lv_room (Nat.le_of_ble_eq_true rfl)) dX2_dependsOn_11 ⟨(Nat.zero_le _), (Nat.zero_le _)⟩)) (fun r9 hr => ?_)
      subst r9
      refine lv_if_eq (tgt := 21) hx hb dX2_dependsOn_14 (by decide) (fun c_2 => ?_) (fun c_2 => ?_)
      · refine lv_iconst (v := 1) hx hb dX2_dependsOn_21 (by decide) ?_
        exact hj1 _ _ _ ⟨1, ls, (by (rw [if_neg c_1, if_pos c_2]); first | done | rfl), lv_sub hl [0, 1, 2] rfl, ⟨rfl, rfl⟩, rfl⟩
      · refine lv_iconst (v := 0) hx hb dX2_dependsOn_17 (by decide) ?_
        refine lv_goto (tgt := 22) hx hb dX2_dependsOn_18 (by decide) ?_
        exact hj1 _ _ _ ⟨0, ls, (by (rw [if_neg c_1, if_neg c_2]); first | done | rfl), lv_sub hl [0, 1, 2] rfl, ⟨rfl, rfl⟩, rfl⟩
  rintro H1 l1 g1 ⟨x1_0, ls, ex1_0, hl, ⟨rfl, rfl⟩, rfl⟩
  subst x1_0
  refine va_put (D := D) (ci := 2) (v := .int (if (fX2_isOne x) = 0 then 1 else (if (fX2_in x2 0 3) = 0 then 1 else 0) : Int32)) (ty := .int) (C := RX2) (T := TX2) (N := 10) hx hb hts in_X2_dependsOn_X2 tyX2 tyX2_ok nmX2 hown hK hP hD hS 0 rfl rfl 7 (by decide) (hts (.fieldLink RX2 27 "ZhegalkinBenchModel" "thrown" "I") (List.mem_of_getElem? (i := 1) rfl)) (fun _ h9 => h9) rfl (by decide +kernel) rfl rfl (Nat.le_of_ble_eq_true rfl) dX2_dependsOn_22 (fun H locs hP hD hS => ?_)
  have hP : va_P D vwCl (wM q cq T R S X n h k (if (fX2_isOne x) = 0 then 1 else (if (fX2_in x2 0 3) = 0 then 1 else 0) : Int32) a o) H := hP
  have hD : va_D A (wM q cq T R S X n h k (if (fX2_isOne x) = 0 then 1 else (if (fX2_in x2 0 3) = 0 then 1 else 0) : Int32) a o) := hD
  refine lv_iconst (v := 0) hx hb dX2_dependsOn_25 (by decide) ?_
  refine lv_istore_n (lv' := [(3, .int 0), (0, .ref (q 0)), (1, .int x), (2, .int x2)]) hx hb dX2_dependsOn_26 rfl hl (by decide) rfl (fun ls hl => ?_)
  refine lv_iconst (v := 0) hx hb dX2_dependsOn_27 (by decide) ?_
  refine lv_istore (lv' := [(4, .int 0), (3, .int 0), (0, .ref (q 0)), (1, .int x), (2, .int x2)]) hx hb dX2_dependsOn_28 hl (by decide) rfl (fun ls hl => ?_)
  refine vz_cut (fun H1 l1 g1 => ∃ (n1 i1 : Nat) (a1 : Int32) (ls : Array Slot), i1 + n1 = 16 ∧ tX2_dependsOn_30 T x x2 n1 i1 a1 = tX2_dependsOn_30 T x x2 16 0 0 ∧ (a1 = 0 ∨ a1 = 1) ∧ lv_has ls 5 [(4, .int (nI i1)), (3, .int a1), (0, .ref (q 0)), (1, .int x), (2, .int x2)] ∧ (H = H1 ∧ locs = l1) ∧ g1 = F0 m 30 ls []) (fun hj => hj _ _ _ ⟨16, 0, 0, ls, (by omega), rfl, (Or.inl rfl), lv_sub hl [0, 1, 2, 3, 4] rfl, ⟨rfl, rfl⟩, rfl⟩) ?_
  rintro H1 l1 g1 ⟨n1, i1, a1, ls, hi1, hf1, hv1_0, hl, ⟨rfl, rfl⟩, rfl⟩
  revert i1 a1 ls
  induction n1 with
  | zero =>
    intro i1 a1 ls hi1 hf1 hv1_0 hl
    obtain rfl : 16 = i1 := by omega
    refine lv_iload hx hb dX2_dependsOn_30 (lv_at hl 0 rfl) ?_
    refine lv_bipush (v := 16) hx hb dX2_dependsOn_32 (by decide) ?_
    refine lv_icmp_ge (tgt := 81) hx hb dX2_dependsOn_34 (by decide) (fun c_3 => ?_) (fun c_3 => ?_)
    · refine lv_iload_n hx hb dX2_dependsOn_81 rfl (lv_at hl 1 rfl) ?_
      have hq : (fX2_dependsOn T x x2) = (a1, (if (fX2_isOne x) = 0 then 1 else (if (fX2_in x2 0 3) = 0 then 1 else 0) : Int32)) := Eq.symm ((show (a1, (if (fX2_isOne x) = 0 then 1 else (if (fX2_in x2 0 3) = 0 then 1 else 0) : Int32)) = tX2_dependsOn_30 T x x2 0 16 a1 from by first | (symm; (rw [tX2_dependsOn_30]); first | done | rfl) | rfl).trans hf1)
      exact W.zret (v := a1) hx hb hr (nar_b hv1_0) (fun t9 ht hW => ⟨⟨a1, (), rfl, by rw [hq], by rw [hq]; exact ⟨by rw [ht]; exact hP, hD⟩⟩, hS.F ht⟩) hS.2.2 dX2_dependsOn_82
    · exact absurd (nI_le (a := 16) (b := 16) (by omega) (by omega)) c_3
  | succ n1 ih1 =>
    intro i1 a1 ls hi1 hf1 hv1_0 hl
    refine lv_iload hx hb dX2_dependsOn_30 (lv_at hl 0 rfl) ?_
    refine lv_bipush (v := 16) hx hb dX2_dependsOn_32 (by decide) ?_
    refine lv_icmp_ge (tgt := 81) hx hb dX2_dependsOn_34 (by decide) (fun c_4 => ?_) (fun c_4 => ?_)
    · exact absurd c_4 (nI_ge (a := i1) (b := 16) (by omega) (by omega))
    · refine lv_aload_n hx hb dX2_dependsOn_37 rfl (lv_at hl 2 rfl) ?_
      refine va_get (D := D) (ci := 2) (v := .int (if (fX2_isOne x) = 0 then 1 else (if (fX2_in x2 0 3) = 0 then 1 else 0) : Int32)) (C := RX2) (T := TX2) (N := 10) hx hb hts in_X2_dependsOn_X2 hown hK hP 0 rfl rfl 7 (by decide) (hts (.fieldLink RX2 27 "ZhegalkinBenchModel" "thrown" "I") (List.mem_of_getElem? (i := 1) rfl)) (fun _ h9 => h9) rfl dX2_dependsOn_38 ?_
      refine lv_if_ne (tgt := 81) hx hb dX2_dependsOn_41 (by decide) (fun c_5 => ?_) (fun c_5 => ?_)
      · refine lv_iload_n hx hb dX2_dependsOn_81 rfl (lv_at hl 1 rfl) ?_
        have hq : (fX2_dependsOn T x x2) = (a1, (if (fX2_isOne x) = 0 then 1 else (if (fX2_in x2 0 3) = 0 then 1 else 0) : Int32)) := Eq.symm ((show (a1, (if (fX2_isOne x) = 0 then 1 else (if (fX2_in x2 0 3) = 0 then 1 else 0) : Int32)) = tX2_dependsOn_30 T x x2 (n1 + 1) i1 a1 from by first | (symm; (rw [tX2_dependsOn_30, if_neg c_5]); first | done | rfl) | rfl).trans hf1)
        exact W.zret (v := a1) hx hb hr (nar_b hv1_0) (fun t9 ht hW => ⟨⟨a1, (), rfl, by rw [hq], by rw [hq]; exact ⟨by rw [ht]; exact hP, hD⟩⟩, hS.F ht⟩) hS.2.2 dX2_dependsOn_82
      · refine lv_iload_n hx hb dX2_dependsOn_44 rfl (lv_at hl 1 rfl) ?_
        refine vz_cut (fun H1 l1 g1 => ∃ (x2_0 : Int32) (ls : Array Slot), x2_0 = (if a1 = 0 then (if (fX2_valueWith T x (nI i1) x2 0) = (fX2_valueWith T x (nI i1) x2 1) then 0 else 1) else 1 : Int32) ∧ lv_has ls 5 [(4, .int (nI i1)), (3, .int a1), (0, .ref (q 0)), (1, .int x), (2, .int x2)] ∧ (H = H1 ∧ locs = l1) ∧ g1 = F0 m 74 ls [.int x2_0]) (fun hj2 => ?_) ?_
        · refine lv_if_ne (tgt := 69) hx hb dX2_dependsOn_45 (by decide) (fun c_6 => ?_) (fun c_6 => ?_)
          · refine lv_iconst (v := 1) hx hb dX2_dependsOn_69 (by decide) ?_
            refine lv_goto (tgt := 74) hx hb dX2_dependsOn_70 (by decide) ?_
            exact hj2 _ _ _ ⟨1, ls, (by (rw [if_neg c_6]); first | done | rfl), lv_sub hl [0, 1, 2, 3, 4] rfl, ⟨rfl, rfl⟩, rfl⟩
          · have hin_x_6 : vp_in x 6 := kdep c_5
            refine lv_aload_n hx hb dX2_dependsOn_48 rfl (lv_at hl 2 rfl) ?_
            refine lv_iload_n hx hb dX2_dependsOn_49 rfl (lv_at hl 3 rfl) ?_
            refine lv_iload hx hb dX2_dependsOn_50 (lv_at hl 0 rfl) ?_
            refine lv_iload_n hx hb dX2_dependsOn_52 rfl (lv_at hl 4 rfl) ?_
            refine lv_iconst (v := 0) hx hb dX2_dependsOn_53 (by decide) ?_
            have hPc := hP.sub (ws' := (wM q cq T R S X n h k (if (fX2_isOne x) = 0 then 1 else (if (fX2_in x2 0 3) = 0 then 1 else 0) : Int32) a o)) [0, 1, 2, 3, 4] rfl
            have hKc := hK.sub (tys' := (tyM cq)) [0, 1, 2, 3] rfl
            refine vp_callSi (va_Run.run (va_runV (As := [.int x, .int (nI i1), .int x2, .int 0]) (rest := []) ⟨hx, hb, hml, hown, hts⟩ (c_X2_valueWith l D q cq T R S X n h k (if (fX2_isOne x) = 0 then 1 else (if (fX2_in x2 0 3) = 0 then 1 else 0) : Int32) a o x (nI i1) x2 0 hin_x_6) (cwV 4 hts gX2_dependsOn_X2_valueWith rfl rfl rfl (by decide +kernel) ⟨Nat.le_of_ble_eq_true rfl, Nat.le_of_ble_eq_true rfl⟩) ⟨fun a U g mk z => ⟨z.1, z.2.1, va_K.moved (u := U) (U := U.calling g mk a) (Vm.Alike.refl U.vm) z.2.2.1, z.2.2.2.blind g mk a⟩, va_recv hKc hPc (ci := 2) (q0 := 0) rfl rfl, fun U hU hW => ⟨rfl, by rw [hU]; exact hPc, va_K.moved hW.alike hKc, hE.at0 hS hU hW⟩⟩ rfl rfl hl.1 rfl (lv_room (Nat.le_of_ble_eq_true rfl)) dX2_dependsOn_54 ⟨(Nat.zero_le _), (Nat.zero_le _)⟩)) (fun r9 hr => ?_)
            subst r9
            refine lv_aload_n hx hb dX2_dependsOn_57 rfl (lv_at hl 2 rfl) ?_
            refine lv_iload_n hx hb dX2_dependsOn_58 rfl (lv_at hl 3 rfl) ?_
            refine lv_iload hx hb dX2_dependsOn_59 (lv_at hl 0 rfl) ?_
            refine lv_iload_n hx hb dX2_dependsOn_61 rfl (lv_at hl 4 rfl) ?_
            refine lv_iconst (v := 1) hx hb dX2_dependsOn_62 (by decide) ?_
            have hPc := hP.sub (ws' := (wM q cq T R S X n h k (if (fX2_isOne x) = 0 then 1 else (if (fX2_in x2 0 3) = 0 then 1 else 0) : Int32) a o)) [0, 1, 2, 3, 4] rfl
            have hKc := hK.sub (tys' := (tyM cq)) [0, 1, 2, 3] rfl
            refine vp_callSi (va_Run.run (va_runV (As := [.int x, .int (nI i1), .int x2, .int 1]) (rest := [.int (fX2_valueWith T x (nI i1) x2 0)]) ⟨hx, hb, hml, hown, hts⟩ (c_X2_valueWith l D q cq T R S X n h k (if (fX2_isOne x) = 0 then 1 else (if (fX2_in x2 0 3) = 0 then 1 else 0) : Int32) a o x (nI i1) x2 1 hin_x_6) (cwV 4 hts gX2_dependsOn_X2_valueWith rfl rfl rfl (by decide +kernel) ⟨Nat.le_of_ble_eq_true rfl, Nat.le_of_ble_eq_true rfl⟩) ⟨fun a U g mk z => ⟨z.1, z.2.1, va_K.moved (u := U) (U := U.calling g mk a) (Vm.Alike.refl U.vm) z.2.2.1, z.2.2.2.blind g mk a⟩, va_recv hKc hPc (ci := 2) (q0 := 0) rfl rfl, fun U hU hW => ⟨rfl, by rw [hU]; exact hPc, va_K.moved hW.alike hKc, hE.at0 hS hU hW⟩⟩ rfl rfl hl.1 rfl (lv_room (Nat.le_of_ble_eq_true rfl)) dX2_dependsOn_63 ⟨(Nat.zero_le _), (Nat.zero_le _)⟩)) (fun r9 hr => ?_)
            subst r9
            refine lv_icmp_eq (tgt := 73) hx hb dX2_dependsOn_66 (by decide) (fun c_7 => ?_) (fun c_7 => ?_)
            · refine lv_iconst (v := 0) hx hb dX2_dependsOn_73 (by decide) ?_
              exact hj2 _ _ _ ⟨0, ls, (by (rw [if_pos c_6, if_pos c_7]); first | done | rfl), lv_sub hl [0, 1, 2, 3, 4] rfl, ⟨rfl, rfl⟩, rfl⟩
            · refine lv_iconst (v := 1) hx hb dX2_dependsOn_69 (by decide) ?_
              refine lv_goto (tgt := 74) hx hb dX2_dependsOn_70 (by decide) ?_
              exact hj2 _ _ _ ⟨1, ls, (by (rw [if_pos c_6, if_neg c_7]); first | done | rfl), lv_sub hl [0, 1, 2, 3, 4] rfl, ⟨rfl, rfl⟩, rfl⟩
        rintro H1 l1 g1 ⟨x2_0, ls, ex2_0, hl, ⟨rfl, rfl⟩, rfl⟩
        subst x2_0
        refine lv_istore_n (lv' := [(3, .int (if a1 = 0 then (if (fX2_valueWith T x (nI i1) x2 0) = (fX2_valueWith T x (nI i1) x2 1) then 0 else 1) else 1 : Int32)), (4, .int (nI i1)), (0, .ref (q 0)), (1, .int x), (2, .int x2)]) hx hb dX2_dependsOn_74 rfl hl (by decide) rfl (fun ls hl => ?_)
        refine lv_iinc (v := (nI (i1 + 1))) (lv' := [(4, .int (nI (i1 + 1))), (3, .int (if a1 = 0 then (if (fX2_valueWith T x (nI i1) x2 0) = (fX2_valueWith T x (nI i1) x2 1) then 0 else 1) else 1 : Int32)), (0, .ref (q 0)), (1, .int x), (2, .int x2)]) hx hb dX2_dependsOn_75 hl (k := 1) rfl (by first | exact nI_add _ _ | rfl) (by decide) rfl (fun ls hl => ?_)
        refine lv_goto (tgt := 30) hx hb dX2_dependsOn_78 (by decide) ?_
        exact ih1 (i1 + 1) (if a1 = 0 then (if (fX2_valueWith T x (nI i1) x2 0) = (fX2_valueWith T x (nI i1) x2 1) then 0 else 1) else 1 : Int32) ls (by omega) ((show tX2_dependsOn_30 T x x2 n1 (i1 + 1) (if a1 = 0 then (if (fX2_valueWith T x (nI i1) x2 0) = (fX2_valueWith T x (nI i1) x2 1) then 0 else 1) else 1 : Int32) = tX2_dependsOn_30 T x x2 (n1 + 1) i1 a1 from by first | (symm; (rw [tX2_dependsOn_30, if_pos c_5]); first | done | rfl) | rfl).trans hf1) (or01 (or01 (Or.inl rfl) (Or.inr rfl)) (Or.inr rfl)) (lv_sub hl [0, 1, 2, 3, 4] rfl)
theorem in_X2_productsByHalves_X2 : ∀ w ∈ wsX20, w ∈ wsX2_productsByHalves := by decide +kernel
def fX2_productsByHalves (T : Nat → Int32) (x : Int32) : Int32 × Int32 := if (fX2_is x).1 = 0 then (0, (fX2_is x).2) else ((fX2_turned (T x.toNatClampNeg)), (fX2_is x).2)
set_option maxHeartbeats 4000000 in
set_option maxRecDepth 100000 in
theorem c_X2_productsByHalves (l : Launch) (D : va_G) (q : Nat → Nat) (cq : Nat → ClassId) (sz : Nat) (T : Nat → Int32) (R : Nat → Int32) (S : Nat → Int32) (X : Nat → Int32) (n : Int32) (h : Int32) (k : Int32) (th : Int32) (a : Int32) (o : Int32) (x : Int32) : Met l yX2_productsByHalves wsX2_productsByHalves ({ frames := 3, cells := 0, slots := 0, locals := 63 }) (va_Pc [.ref (q 0), .int x] (fun U => U.heap.size = sz ∧ va_P D vwCl (wM q cq T R S X n h k th a o) U.heap ∧ va_K D vwCl (tyM cq) U ∧ va_D (fun _ => True) (wM q cq T R S X n h k th a o) ∧ envE (va_A (wM q cq T R S X n h k th a o) sz) U)) (va_Qi (fun r9 (_ : Unit) => r9 = (fX2_productsByHalves T x).1) (fun _ t9 => va_P D vwCl (wM q cq T R S X n h k ((fX2_productsByHalves T x).2) a o) t9.heap ∧ va_D (va_A (wM q cq T R S X n h k th a o) sz) (wM q cq T R S X n h k ((fX2_productsByHalves T x).2) a o)) (va_A (wM q cq T R S X n h k th a o) sz)) 0 0 (va_A (wM q cq T R S X n h k th a o) sz) := by
  refine Met.ofW (cc := cX2_productsByHalves) (maxL := 2) (ret := (some .int)) (by decide) rfl ?_
  intro p e s m args below meth c s₁ B hml hv
  obtain ⟨rfl, hsz, hP, hK, hD0, hE⟩ := hv
  have hx := B.exec
  have hb := B.bytes
  have hr := B.returns
  have hts := atoms_spec (ws := wsX2_productsByHalves) B.pre
  have hown : s.vm.findClass RX2 = some m.cls := findClass_of_methodNamed B.named
  have hlocks := B.notSynchronized
  subst hsz
  have hD := hD0.self (sz := s.heap.size)
  generalize hAe : va_A (wM q cq T R S X n h k th a o) s.heap.size = A at hD hE ⊢
  have hA : ∀ q : Nat, s.heap.size ≤ q → A q := fun q h => by rw [← hAe]; exact Or.inr h
  have hS : va_S A s.heap s.heap [] := va_S.rf
  have hP : va_P D vwCl (wM q cq T R S X n h k th a o) s.heap := hP
  have hl := lv_entry ([.ref (q 0), .int x]) (n := 2) (Nat.le_of_ble_eq_true rfl)
  rw [lg_entry_eq]
  generalize (lg_sl ([.ref (q 0), .int x]) ++ List.replicate (2 - (lg_sl ([.ref (q 0), .int x])).length) Slot.unset).toArray = ls at hl ⊢
  have hl : lv_has ls 2 [(0, .ref (q 0)), (1, .int x)] := hl
  refine lv_aload_n hx hb dX2_productsByHalves_0 rfl (lv_at hl 0 rfl) ?_
  refine lv_iload_n hx hb dX2_productsByHalves_1 rfl (lv_at hl 1 rfl) ?_
  have hPc := hP.sub (ws' := (wM q cq T R S X n h k th a o)) [0, 1, 2, 3, 4] rfl
  have hKc := hK.sub (tys' := (tyM cq)) [0, 1, 2, 3] rfl
  have hDc := hD.sub (ws' := (wM q cq T R S X n h k th a o)) [0, 1, 2, 3, 4] (by decide) rfl
  have hFc := va_free (wc := (wM q cq T R S X n h k th a o)) hD hS hA [0, 1, 2, 3, 4] rfl
  refine va_calli (va_runV (As := [.int x]) (rest := []) ⟨hx, hb, hml, hown, hts⟩ (c_X2_is l D q cq s.heap.size T R S X n h k th a o x) (cwV 1 hts gX2_productsByHalves_X2_is rfl rfl rfl (by decide +kernel) ⟨Nat.le_of_ble_eq_true rfl, Nat.le_of_ble_eq_true rfl⟩) ⟨fun a U g mk z => ⟨z.1, z.2.1, z.2.2.1, va_K.moved (u := U) (U := U.calling g mk a) (Vm.Alike.refl U.vm) z.2.2.2.1, z.2.2.2.2.1, z.2.2.2.2.2.blind g mk a⟩, va_recv hKc hPc (ci := 2) (q0 := 0) rfl rfl, fun U hU hW => ⟨rfl, by rw [hU], by rw [hU]; exact hPc, va_K.moved hW.alike hKc, hDc.weaken (fun _ _ _ _ => trivial), hE.at hS hU hW hFc⟩⟩ rfl rfl hl.1 rfl (lv_room (Nat.le_of_ble_eq_true rfl)) dX2_productsByHalves_2 ⟨(Nat.zero_le _), (Nat.zero_le _)⟩) hS (fun q _ h => hFc q h) hFc (fun r9 u9 t8 H1 locs ht hvm hw hB hz1 hk1 hS => ?_)
  obtain ⟨hP1, hD1⟩ := hB
  rw [ht] at hP1
  obtain ⟨hP, hD⟩ := va_join (wr := []) (w1 := (wM q cq T R S X n h k ((fX2_is x).2) a o)) hP hD [0, 1, 2, 3, 4] [] rfl rfl (by decide) (by decide) hk1 hFc hP1 hD1
  have hP := hP.sub (ws' := (wM q cq T R S X n h k ((fX2_is x).2) a o)) [0, 1, 2, 3, 4] rfl
  have hD := hD.sub (ws' := (wM q cq T R S X n h k ((fX2_is x).2) a o)) [0, 1, 2, 3, 4] (by decide) rfl
  generalize H1 = H at hP hS ⊢
  subst r9
  refine lv_if_eq (tgt := 20) hx hb dX2_productsByHalves_5 (by decide) (fun c_1 => ?_) (fun c_1 => ?_)
  · refine lv_iconst (v := 0) hx hb dX2_productsByHalves_20 (by decide) ?_
    have hq : (fX2_productsByHalves T x) = (0, (fX2_is x).2) := Eq.symm (by first | ((rw [fX2_productsByHalves, if_pos c_1]); first | done | rfl) | rfl)
    exact W.iret (v := 0) hx hb hr (fun t9 ht hW => ⟨⟨0, (), rfl, by rw [hq], by rw [hq]; exact ⟨by rw [ht]; exact hP, hD⟩⟩, hS.F ht⟩) hS.2.2 dX2_productsByHalves_21
  · have hin_x_6 : vp_in x 6 := kis c_1
    refine lv_aload_n hx hb dX2_productsByHalves_8 rfl (lv_at hl 0 rfl) ?_
    refine va_get (D := D) (ci := 2) (v := .ref (q 1)) (C := RX2) (T := TX2) (N := 10) hx hb hts in_X2_productsByHalves_X2 hown hK hP 0 rfl rfl 0 (by decide) (hts (.fieldLink RX2 7 "ZhegalkinBenchModel" "now" "[I") (List.mem_of_getElem? (i := 1) rfl)) (fun _ h9 => h9) rfl dX2_productsByHalves_9 ?_
    refine lv_iload_n hx hb dX2_productsByHalves_12 rfl (lv_at hl 1 rfl) ?_
    refine va_iald hx hb hK hP 1 0 rfl rfl hin_x_6 dX2_productsByHalves_13 ?_
    refine vp_callSi (va_Run.run (va_runS (As := [.int (T x.toNatClampNeg)]) (rest := []) ⟨hx, hb, hml, hown, hts⟩ (c_X2_turned l (T x.toNatClampNeg)) (va_cwS 1 hts gX2_productsByHalves_X2_turned rfl rfl rfl (by decide +kernel) ⟨Nat.le_of_ble_eq_true rfl, Nat.le_of_ble_eq_true rfl⟩) ⟨fun _ _ _ _ z => z, fun _ _ _ => ⟨rfl, trivial⟩⟩ rfl rfl hl.1 rfl (lv_room (Nat.le_of_ble_eq_true rfl)) dX2_productsByHalves_14 ⟨(Nat.zero_le _), (Nat.zero_le _)⟩)) (fun r9 hr => ?_)
    subst r9
    refine lv_goto (tgt := 21) hx hb dX2_productsByHalves_17 (by decide) ?_
    have hq : (fX2_productsByHalves T x) = ((fX2_turned (T x.toNatClampNeg)), (fX2_is x).2) := Eq.symm (by first | ((rw [fX2_productsByHalves, if_neg c_1]); first | done | rfl) | rfl)
    exact W.iret (v := (fX2_turned (T x.toNatClampNeg))) hx hb hr (fun t9 ht hW => ⟨⟨(fX2_turned (T x.toNatClampNeg)), (), rfl, by rw [hq], by rw [hq]; exact ⟨by rw [ht]; exact hP, hD⟩⟩, hS.F ht⟩) hS.2.2 dX2_productsByHalves_21
theorem in_X2_productsBySums_X2 : ∀ w ∈ wsX20, w ∈ wsX2_productsBySums := by decide +kernel
def fX2_productsBySums (T : Nat → Int32) (x : Int32) : Int32 × Int32 := if (fX2_is x).1 = 0 then (0, (fX2_is x).2) else ((fX2_turned (T x.toNatClampNeg)), (fX2_is x).2)
set_option maxHeartbeats 4000000 in
set_option maxRecDepth 100000 in
theorem c_X2_productsBySums (l : Launch) (D : va_G) (q : Nat → Nat) (cq : Nat → ClassId) (sz : Nat) (T : Nat → Int32) (R : Nat → Int32) (S : Nat → Int32) (X : Nat → Int32) (n : Int32) (h : Int32) (k : Int32) (th : Int32) (a : Int32) (o : Int32) (x : Int32) : Met l yX2_productsBySums wsX2_productsBySums ({ frames := 3, cells := 0, slots := 0, locals := 63 }) (va_Pc [.ref (q 0), .int x] (fun U => U.heap.size = sz ∧ va_P D vwCl (wM q cq T R S X n h k th a o) U.heap ∧ va_K D vwCl (tyM cq) U ∧ va_D (fun _ => True) (wM q cq T R S X n h k th a o) ∧ envE (va_A (wM q cq T R S X n h k th a o) sz) U)) (va_Qi (fun r9 (_ : Unit) => r9 = (fX2_productsBySums T x).1) (fun _ t9 => va_P D vwCl (wM q cq T R S X n h k ((fX2_productsBySums T x).2) a o) t9.heap ∧ va_D (va_A (wM q cq T R S X n h k th a o) sz) (wM q cq T R S X n h k ((fX2_productsBySums T x).2) a o)) (va_A (wM q cq T R S X n h k th a o) sz)) 0 0 (va_A (wM q cq T R S X n h k th a o) sz) := by
  refine Met.ofW (cc := cX2_productsBySums) (maxL := 2) (ret := (some .int)) (by decide) rfl ?_
  intro p e s m args below meth c s₁ B hml hv
  obtain ⟨rfl, hsz, hP, hK, hD0, hE⟩ := hv
  have hx := B.exec
  have hb := B.bytes
  have hr := B.returns
  have hts := atoms_spec (ws := wsX2_productsBySums) B.pre
  have hown : s.vm.findClass RX2 = some m.cls := findClass_of_methodNamed B.named
  have hlocks := B.notSynchronized
  subst hsz
  have hD := hD0.self (sz := s.heap.size)
  generalize hAe : va_A (wM q cq T R S X n h k th a o) s.heap.size = A at hD hE ⊢
  have hA : ∀ q : Nat, s.heap.size ≤ q → A q := fun q h => by rw [← hAe]; exact Or.inr h
  have hS : va_S A s.heap s.heap [] := va_S.rf
  have hP : va_P D vwCl (wM q cq T R S X n h k th a o) s.heap := hP
  have hl := lv_entry ([.ref (q 0), .int x]) (n := 2) (Nat.le_of_ble_eq_true rfl)
  rw [lg_entry_eq]
  generalize (lg_sl ([.ref (q 0), .int x]) ++ List.replicate (2 - (lg_sl ([.ref (q 0), .int x])).length) Slot.unset).toArray = ls at hl ⊢
  have hl : lv_has ls 2 [(0, .ref (q 0)), (1, .int x)] := hl
  refine lv_aload_n hx hb dX2_productsBySums_0 rfl (lv_at hl 0 rfl) ?_
  refine lv_iload_n hx hb dX2_productsBySums_1 rfl (lv_at hl 1 rfl) ?_
  have hPc := hP.sub (ws' := (wM q cq T R S X n h k th a o)) [0, 1, 2, 3, 4] rfl
  have hKc := hK.sub (tys' := (tyM cq)) [0, 1, 2, 3] rfl
  have hDc := hD.sub (ws' := (wM q cq T R S X n h k th a o)) [0, 1, 2, 3, 4] (by decide) rfl
  have hFc := va_free (wc := (wM q cq T R S X n h k th a o)) hD hS hA [0, 1, 2, 3, 4] rfl
  refine va_calli (va_runV (As := [.int x]) (rest := []) ⟨hx, hb, hml, hown, hts⟩ (c_X2_is l D q cq s.heap.size T R S X n h k th a o x) (cwV 1 hts gX2_productsBySums_X2_is rfl rfl rfl (by decide +kernel) ⟨Nat.le_of_ble_eq_true rfl, Nat.le_of_ble_eq_true rfl⟩) ⟨fun a U g mk z => ⟨z.1, z.2.1, z.2.2.1, va_K.moved (u := U) (U := U.calling g mk a) (Vm.Alike.refl U.vm) z.2.2.2.1, z.2.2.2.2.1, z.2.2.2.2.2.blind g mk a⟩, va_recv hKc hPc (ci := 2) (q0 := 0) rfl rfl, fun U hU hW => ⟨rfl, by rw [hU], by rw [hU]; exact hPc, va_K.moved hW.alike hKc, hDc.weaken (fun _ _ _ _ => trivial), hE.at hS hU hW hFc⟩⟩ rfl rfl hl.1 rfl (lv_room (Nat.le_of_ble_eq_true rfl)) dX2_productsBySums_2 ⟨(Nat.zero_le _), (Nat.zero_le _)⟩) hS (fun q _ h => hFc q h) hFc (fun r9 u9 t8 H1 locs ht hvm hw hB hz1 hk1 hS => ?_)
  obtain ⟨hP1, hD1⟩ := hB
  rw [ht] at hP1
  obtain ⟨hP, hD⟩ := va_join (wr := []) (w1 := (wM q cq T R S X n h k ((fX2_is x).2) a o)) hP hD [0, 1, 2, 3, 4] [] rfl rfl (by decide) (by decide) hk1 hFc hP1 hD1
  have hP := hP.sub (ws' := (wM q cq T R S X n h k ((fX2_is x).2) a o)) [0, 1, 2, 3, 4] rfl
  have hD := hD.sub (ws' := (wM q cq T R S X n h k ((fX2_is x).2) a o)) [0, 1, 2, 3, 4] (by decide) rfl
  generalize H1 = H at hP hS ⊢
  subst r9
  refine lv_if_eq (tgt := 20) hx hb dX2_productsBySums_5 (by decide) (fun c_1 => ?_) (fun c_1 => ?_)
  · refine lv_iconst (v := 0) hx hb dX2_productsBySums_20 (by decide) ?_
    have hq : (fX2_productsBySums T x) = (0, (fX2_is x).2) := Eq.symm (by first | ((rw [fX2_productsBySums, if_pos c_1]); first | done | rfl) | rfl)
    exact W.iret (v := 0) hx hb hr (fun t9 ht hW => ⟨⟨0, (), rfl, by rw [hq], by rw [hq]; exact ⟨by rw [ht]; exact hP, hD⟩⟩, hS.F ht⟩) hS.2.2 dX2_productsBySums_21
  · have hin_x_6 : vp_in x 6 := kis c_1
    refine lv_aload_n hx hb dX2_productsBySums_8 rfl (lv_at hl 0 rfl) ?_
    refine va_get (D := D) (ci := 2) (v := .ref (q 1)) (C := RX2) (T := TX2) (N := 10) hx hb hts in_X2_productsBySums_X2 hown hK hP 0 rfl rfl 0 (by decide) (hts (.fieldLink RX2 7 "ZhegalkinBenchModel" "now" "[I") (List.mem_of_getElem? (i := 1) rfl)) (fun _ h9 => h9) rfl dX2_productsBySums_9 ?_
    refine lv_iload_n hx hb dX2_productsBySums_12 rfl (lv_at hl 1 rfl) ?_
    refine va_iald hx hb hK hP 1 0 rfl rfl hin_x_6 dX2_productsBySums_13 ?_
    refine vp_callSi (va_Run.run (va_runS (As := [.int (T x.toNatClampNeg)]) (rest := []) ⟨hx, hb, hml, hown, hts⟩ (c_X2_turned l (T x.toNatClampNeg)) (va_cwS 1 hts gX2_productsBySums_X2_turned rfl rfl rfl (by decide +kernel) ⟨Nat.le_of_ble_eq_true rfl, Nat.le_of_ble_eq_true rfl⟩) ⟨fun _ _ _ _ z => z, fun _ _ _ => ⟨rfl, trivial⟩⟩ rfl rfl hl.1 rfl (lv_room (Nat.le_of_ble_eq_true rfl)) dX2_productsBySums_14 ⟨(Nat.zero_le _), (Nat.zero_le _)⟩)) (fun r9 hr => ?_)
    subst r9
    refine lv_goto (tgt := 21) hx hb dX2_productsBySums_17 (by decide) ?_
    have hq : (fX2_productsBySums T x) = ((fX2_turned (T x.toNatClampNeg)), (fX2_is x).2) := Eq.symm (by first | ((rw [fX2_productsBySums, if_neg c_1]); first | done | rfl) | rfl)
    exact W.iret (v := (fX2_turned (T x.toNatClampNeg))) hx hb hr (fun t9 ht hW => ⟨⟨(fX2_turned (T x.toNatClampNeg)), (), rfl, by rw [hq], by rw [hq]; exact ⟨by rw [ht]; exact hP, hD⟩⟩, hS.F ht⟩) hS.2.2 dX2_productsBySums_21
theorem in_X2_degreeOf_X2 : ∀ w ∈ wsX20, w ∈ wsX2_degreeOf := by decide +kernel
def fX2_degreeOf (T : Nat → Int32) (x : Int32) : Int32 × Int32 := if (fX2_is x).1 = 0 then (0, (fX2_is x).2) else ((fX2_degree (T x.toNatClampNeg)), (fX2_is x).2)
set_option maxHeartbeats 4000000 in
set_option maxRecDepth 100000 in
theorem c_X2_degreeOf (l : Launch) (D : va_G) (q : Nat → Nat) (cq : Nat → ClassId) (sz : Nat) (T : Nat → Int32) (R : Nat → Int32) (S : Nat → Int32) (X : Nat → Int32) (n : Int32) (h : Int32) (k : Int32) (th : Int32) (a : Int32) (o : Int32) (x : Int32) : Met l yX2_degreeOf wsX2_degreeOf ({ frames := 3, cells := 0, slots := 0, locals := 63 }) (va_Pc [.ref (q 0), .int x] (fun U => U.heap.size = sz ∧ va_P D vwCl (wM q cq T R S X n h k th a o) U.heap ∧ va_K D vwCl (tyM cq) U ∧ va_D (fun _ => True) (wM q cq T R S X n h k th a o) ∧ envE (va_A (wM q cq T R S X n h k th a o) sz) U)) (va_Qi (fun r9 (_ : Unit) => r9 = (fX2_degreeOf T x).1) (fun _ t9 => va_P D vwCl (wM q cq T R S X n h k ((fX2_degreeOf T x).2) a o) t9.heap ∧ va_D (va_A (wM q cq T R S X n h k th a o) sz) (wM q cq T R S X n h k ((fX2_degreeOf T x).2) a o)) (va_A (wM q cq T R S X n h k th a o) sz)) 0 0 (va_A (wM q cq T R S X n h k th a o) sz) := by
  refine Met.ofW (cc := cX2_degreeOf) (maxL := 2) (ret := (some .int)) (by decide) rfl ?_
  intro p e s m args below meth c s₁ B hml hv
  obtain ⟨rfl, hsz, hP, hK, hD0, hE⟩ := hv
  have hx := B.exec
  have hb := B.bytes
  have hr := B.returns
  have hts := atoms_spec (ws := wsX2_degreeOf) B.pre
  have hown : s.vm.findClass RX2 = some m.cls := findClass_of_methodNamed B.named
  have hlocks := B.notSynchronized
  subst hsz
  have hD := hD0.self (sz := s.heap.size)
  generalize hAe : va_A (wM q cq T R S X n h k th a o) s.heap.size = A at hD hE ⊢
  have hA : ∀ q : Nat, s.heap.size ≤ q → A q := fun q h => by rw [← hAe]; exact Or.inr h
  have hS : va_S A s.heap s.heap [] := va_S.rf
  have hP : va_P D vwCl (wM q cq T R S X n h k th a o) s.heap := hP
  have hl := lv_entry ([.ref (q 0), .int x]) (n := 2) (Nat.le_of_ble_eq_true rfl)
  rw [lg_entry_eq]
  generalize (lg_sl ([.ref (q 0), .int x]) ++ List.replicate (2 - (lg_sl ([.ref (q 0), .int x])).length) Slot.unset).toArray = ls at hl ⊢
  have hl : lv_has ls 2 [(0, .ref (q 0)), (1, .int x)] := hl
  refine lv_aload_n hx hb dX2_degreeOf_0 rfl (lv_at hl 0 rfl) ?_
  refine lv_iload_n hx hb dX2_degreeOf_1 rfl (lv_at hl 1 rfl) ?_
  have hPc := hP.sub (ws' := (wM q cq T R S X n h k th a o)) [0, 1, 2, 3, 4] rfl
  have hKc := hK.sub (tys' := (tyM cq)) [0, 1, 2, 3] rfl
  have hDc := hD.sub (ws' := (wM q cq T R S X n h k th a o)) [0, 1, 2, 3, 4] (by decide) rfl
  have hFc := va_free (wc := (wM q cq T R S X n h k th a o)) hD hS hA [0, 1, 2, 3, 4] rfl
  refine va_calli (va_runV (As := [.int x]) (rest := []) ⟨hx, hb, hml, hown, hts⟩ (c_X2_is l D q cq s.heap.size T R S X n h k th a o x) (cwV 1 hts gX2_degreeOf_X2_is rfl rfl rfl (by decide +kernel) ⟨Nat.le_of_ble_eq_true rfl, Nat.le_of_ble_eq_true rfl⟩) ⟨fun a U g mk z => ⟨z.1, z.2.1, z.2.2.1, va_K.moved (u := U) (U := U.calling g mk a) (Vm.Alike.refl U.vm) z.2.2.2.1, z.2.2.2.2.1, z.2.2.2.2.2.blind g mk a⟩, va_recv hKc hPc (ci := 2) (q0 := 0) rfl rfl, fun U hU hW => ⟨rfl, by rw [hU], by rw [hU]; exact hPc, va_K.moved hW.alike hKc, hDc.weaken (fun _ _ _ _ => trivial), hE.at hS hU hW hFc⟩⟩ rfl rfl hl.1 rfl (lv_room (Nat.le_of_ble_eq_true rfl)) dX2_degreeOf_2 ⟨(Nat.zero_le _), (Nat.zero_le _)⟩) hS (fun q _ h => hFc q h) hFc (fun r9 u9 t8 H1 locs ht hvm hw hB hz1 hk1 hS => ?_)
  obtain ⟨hP1, hD1⟩ := hB
  rw [ht] at hP1
  obtain ⟨hP, hD⟩ := va_join (wr := []) (w1 := (wM q cq T R S X n h k ((fX2_is x).2) a o)) hP hD [0, 1, 2, 3, 4] [] rfl rfl (by decide) (by decide) hk1 hFc hP1 hD1
  have hP := hP.sub (ws' := (wM q cq T R S X n h k ((fX2_is x).2) a o)) [0, 1, 2, 3, 4] rfl
  have hD := hD.sub (ws' := (wM q cq T R S X n h k ((fX2_is x).2) a o)) [0, 1, 2, 3, 4] (by decide) rfl
  generalize H1 = H at hP hS ⊢
  subst r9
  refine lv_if_eq (tgt := 20) hx hb dX2_degreeOf_5 (by decide) (fun c_1 => ?_) (fun c_1 => ?_)
  · refine lv_iconst (v := 0) hx hb dX2_degreeOf_20 (by decide) ?_
    have hq : (fX2_degreeOf T x) = (0, (fX2_is x).2) := Eq.symm (by first | ((rw [fX2_degreeOf, if_pos c_1]); first | done | rfl) | rfl)
    exact W.iret (v := 0) hx hb hr (fun t9 ht hW => ⟨⟨0, (), rfl, by rw [hq], by rw [hq]; exact ⟨by rw [ht]; exact hP, hD⟩⟩, hS.F ht⟩) hS.2.2 dX2_degreeOf_21
  · have hin_x_6 : vp_in x 6 := kis c_1
    refine lv_aload_n hx hb dX2_degreeOf_8 rfl (lv_at hl 0 rfl) ?_
    refine va_get (D := D) (ci := 2) (v := .ref (q 1)) (C := RX2) (T := TX2) (N := 10) hx hb hts in_X2_degreeOf_X2 hown hK hP 0 rfl rfl 0 (by decide) (hts (.fieldLink RX2 7 "ZhegalkinBenchModel" "now" "[I") (List.mem_of_getElem? (i := 1) rfl)) (fun _ h9 => h9) rfl dX2_degreeOf_9 ?_
    refine lv_iload_n hx hb dX2_degreeOf_12 rfl (lv_at hl 1 rfl) ?_
    refine va_iald hx hb hK hP 1 0 rfl rfl hin_x_6 dX2_degreeOf_13 ?_
    refine vp_callSi (va_Run.run (va_runS (As := [.int (T x.toNatClampNeg)]) (rest := []) ⟨hx, hb, hml, hown, hts⟩ (c_X2_degree l (T x.toNatClampNeg)) (va_cwS 1 hts gX2_degreeOf_X2_degree rfl rfl rfl (by decide +kernel) ⟨Nat.le_of_ble_eq_true rfl, Nat.le_of_ble_eq_true rfl⟩) ⟨fun _ _ _ _ z => z, fun _ _ _ => ⟨rfl, trivial⟩⟩ rfl rfl hl.1 rfl (lv_room (Nat.le_of_ble_eq_true rfl)) dX2_degreeOf_14 ⟨(Nat.zero_le _), (Nat.zero_le _)⟩)) (fun r9 hr => ?_)
    subst r9
    refine lv_goto (tgt := 21) hx hb dX2_degreeOf_17 (by decide) ?_
    have hq : (fX2_degreeOf T x) = ((fX2_degree (T x.toNatClampNeg)), (fX2_is x).2) := Eq.symm (by first | ((rw [fX2_degreeOf, if_neg c_1]); first | done | rfl) | rfl)
    exact W.iret (v := (fX2_degree (T x.toNatClampNeg))) hx hb hr (fun t9 ht hW => ⟨⟨(fX2_degree (T x.toNatClampNeg)), (), rfl, by rw [hq], by rw [hq]; exact ⟨by rw [ht]; exact hP, hD⟩⟩, hS.F ht⟩) hS.2.2 dX2_degreeOf_21
theorem in_X2_printedLength_X2 : ∀ w ∈ wsX20, w ∈ wsX2_printedLength := by decide +kernel
def fX2_printedLength (T : Nat → Int32) (x : Int32) : Int32 × Int32 := if (fX2_is x).1 = 0 then (0, (fX2_is x).2) else ((fX2_printed (fX2_turned (T x.toNatClampNeg))), (fX2_is x).2)
set_option maxHeartbeats 4000000 in
set_option maxRecDepth 100000 in
theorem c_X2_printedLength (l : Launch) (D : va_G) (q : Nat → Nat) (cq : Nat → ClassId) (sz : Nat) (T : Nat → Int32) (R : Nat → Int32) (S : Nat → Int32) (X : Nat → Int32) (n : Int32) (h : Int32) (k : Int32) (th : Int32) (a : Int32) (o : Int32) (x : Int32) : Met l yX2_printedLength wsX2_printedLength ({ frames := 3, cells := 0, slots := 0, locals := 64 }) (va_Pc [.ref (q 0), .int x] (fun U => U.heap.size = sz ∧ va_P D vwCl (wM q cq T R S X n h k th a o) U.heap ∧ va_K D vwCl (tyM cq) U ∧ va_D (fun _ => True) (wM q cq T R S X n h k th a o) ∧ envE (va_A (wM q cq T R S X n h k th a o) sz) U)) (va_Qi (fun r9 (_ : Unit) => r9 = (fX2_printedLength T x).1) (fun _ t9 => va_P D vwCl (wM q cq T R S X n h k ((fX2_printedLength T x).2) a o) t9.heap ∧ va_D (va_A (wM q cq T R S X n h k th a o) sz) (wM q cq T R S X n h k ((fX2_printedLength T x).2) a o)) (va_A (wM q cq T R S X n h k th a o) sz)) 0 0 (va_A (wM q cq T R S X n h k th a o) sz) := by
  refine Met.ofW (cc := cX2_printedLength) (maxL := 2) (ret := (some .int)) (by decide) rfl ?_
  intro p e s m args below meth c s₁ B hml hv
  obtain ⟨rfl, hsz, hP, hK, hD0, hE⟩ := hv
  have hx := B.exec
  have hb := B.bytes
  have hr := B.returns
  have hts := atoms_spec (ws := wsX2_printedLength) B.pre
  have hown : s.vm.findClass RX2 = some m.cls := findClass_of_methodNamed B.named
  have hlocks := B.notSynchronized
  subst hsz
  have hD := hD0.self (sz := s.heap.size)
  generalize hAe : va_A (wM q cq T R S X n h k th a o) s.heap.size = A at hD hE ⊢
  have hA : ∀ q : Nat, s.heap.size ≤ q → A q := fun q h => by rw [← hAe]; exact Or.inr h
  have hS : va_S A s.heap s.heap [] := va_S.rf
  have hP : va_P D vwCl (wM q cq T R S X n h k th a o) s.heap := hP
  have hl := lv_entry ([.ref (q 0), .int x]) (n := 2) (Nat.le_of_ble_eq_true rfl)
  rw [lg_entry_eq]
  generalize (lg_sl ([.ref (q 0), .int x]) ++ List.replicate (2 - (lg_sl ([.ref (q 0), .int x])).length) Slot.unset).toArray = ls at hl ⊢
  have hl : lv_has ls 2 [(0, .ref (q 0)), (1, .int x)] := hl
  refine lv_aload_n hx hb dX2_printedLength_0 rfl (lv_at hl 0 rfl) ?_
  refine lv_iload_n hx hb dX2_printedLength_1 rfl (lv_at hl 1 rfl) ?_
  have hPc := hP.sub (ws' := (wM q cq T R S X n h k th a o)) [0, 1, 2, 3, 4] rfl
  have hKc := hK.sub (tys' := (tyM cq)) [0, 1, 2, 3] rfl
  have hDc := hD.sub (ws' := (wM q cq T R S X n h k th a o)) [0, 1, 2, 3, 4] (by decide) rfl
  have hFc := va_free (wc := (wM q cq T R S X n h k th a o)) hD hS hA [0, 1, 2, 3, 4] rfl
  refine va_calli (va_runV (As := [.int x]) (rest := []) ⟨hx, hb, hml, hown, hts⟩ (c_X2_is l D q cq s.heap.size T R S X n h k th a o x) (cwV 1 hts gX2_printedLength_X2_is rfl rfl rfl (by decide +kernel) ⟨Nat.le_of_ble_eq_true rfl, Nat.le_of_ble_eq_true rfl⟩) ⟨fun a U g mk z => ⟨z.1, z.2.1, z.2.2.1, va_K.moved (u := U) (U := U.calling g mk a) (Vm.Alike.refl U.vm) z.2.2.2.1, z.2.2.2.2.1, z.2.2.2.2.2.blind g mk a⟩, va_recv hKc hPc (ci := 2) (q0 := 0) rfl rfl, fun U hU hW => ⟨rfl, by rw [hU], by rw [hU]; exact hPc, va_K.moved hW.alike hKc, hDc.weaken (fun _ _ _ _ => trivial), hE.at hS hU hW hFc⟩⟩ rfl rfl hl.1 rfl (lv_room (Nat.le_of_ble_eq_true rfl)) dX2_printedLength_2 ⟨(Nat.zero_le _), (Nat.zero_le _)⟩) hS (fun q _ h => hFc q h) hFc (fun r9 u9 t8 H1 locs ht hvm hw hB hz1 hk1 hS => ?_)
  obtain ⟨hP1, hD1⟩ := hB
  rw [ht] at hP1
  obtain ⟨hP, hD⟩ := va_join (wr := []) (w1 := (wM q cq T R S X n h k ((fX2_is x).2) a o)) hP hD [0, 1, 2, 3, 4] [] rfl rfl (by decide) (by decide) hk1 hFc hP1 hD1
  have hP := hP.sub (ws' := (wM q cq T R S X n h k ((fX2_is x).2) a o)) [0, 1, 2, 3, 4] rfl
  have hD := hD.sub (ws' := (wM q cq T R S X n h k ((fX2_is x).2) a o)) [0, 1, 2, 3, 4] (by decide) rfl
  generalize H1 = H at hP hS ⊢
  subst r9
  refine lv_if_eq (tgt := 23) hx hb dX2_printedLength_5 (by decide) (fun c_1 => ?_) (fun c_1 => ?_)
  · refine lv_iconst (v := 0) hx hb dX2_printedLength_23 (by decide) ?_
    have hq : (fX2_printedLength T x) = (0, (fX2_is x).2) := Eq.symm (by first | ((rw [fX2_printedLength, if_pos c_1]); first | done | rfl) | rfl)
    exact W.iret (v := 0) hx hb hr (fun t9 ht hW => ⟨⟨0, (), rfl, by rw [hq], by rw [hq]; exact ⟨by rw [ht]; exact hP, hD⟩⟩, hS.F ht⟩) hS.2.2 dX2_printedLength_24
  · have hin_x_6 : vp_in x 6 := kis c_1
    refine lv_aload_n hx hb dX2_printedLength_8 rfl (lv_at hl 0 rfl) ?_
    refine va_get (D := D) (ci := 2) (v := .ref (q 1)) (C := RX2) (T := TX2) (N := 10) hx hb hts in_X2_printedLength_X2 hown hK hP 0 rfl rfl 0 (by decide) (hts (.fieldLink RX2 7 "ZhegalkinBenchModel" "now" "[I") (List.mem_of_getElem? (i := 1) rfl)) (fun _ h9 => h9) rfl dX2_printedLength_9 ?_
    refine lv_iload_n hx hb dX2_printedLength_12 rfl (lv_at hl 1 rfl) ?_
    refine va_iald hx hb hK hP 1 0 rfl rfl hin_x_6 dX2_printedLength_13 ?_
    refine vp_callSi (va_Run.run (va_runS (As := [.int (T x.toNatClampNeg)]) (rest := []) ⟨hx, hb, hml, hown, hts⟩ (c_X2_turned l (T x.toNatClampNeg)) (va_cwS 1 hts gX2_printedLength_X2_turned rfl rfl rfl (by decide +kernel) ⟨Nat.le_of_ble_eq_true rfl, Nat.le_of_ble_eq_true rfl⟩) ⟨fun _ _ _ _ z => z, fun _ _ _ => ⟨rfl, trivial⟩⟩ rfl rfl hl.1 rfl (lv_room (Nat.le_of_ble_eq_true rfl)) dX2_printedLength_14 ⟨(Nat.zero_le _), (Nat.zero_le _)⟩)) (fun r9 hr => ?_)
    subst r9
    refine vp_callSi (va_Run.run (va_runS (As := [.int (fX2_turned (T x.toNatClampNeg))]) (rest := []) ⟨hx, hb, hml, hown, hts⟩ (c_X2_printed l (fX2_turned (T x.toNatClampNeg))) (va_cwS 1 hts gX2_printedLength_X2_printed rfl rfl rfl (by decide +kernel) ⟨Nat.le_of_ble_eq_true rfl, Nat.le_of_ble_eq_true rfl⟩) ⟨fun _ _ _ _ z => z, fun _ _ _ => ⟨rfl, trivial⟩⟩ rfl rfl hl.1 rfl (lv_room (Nat.le_of_ble_eq_true rfl)) dX2_printedLength_17 ⟨(Nat.zero_le _), (Nat.zero_le _)⟩)) (fun r9 hr => ?_)
    subst r9
    refine lv_goto (tgt := 24) hx hb dX2_printedLength_20 (by decide) ?_
    have hq : (fX2_printedLength T x) = ((fX2_printed (fX2_turned (T x.toNatClampNeg))), (fX2_is x).2) := Eq.symm (by first | ((rw [fX2_printedLength, if_neg c_1]); first | done | rfl) | rfl)
    exact W.iret (v := (fX2_printed (fX2_turned (T x.toNatClampNeg)))) hx hb hr (fun t9 ht hW => ⟨⟨(fX2_printed (fX2_turned (T x.toNatClampNeg))), (), rfl, by rw [hq], by rw [hq]; exact ⟨by rw [ht]; exact hP, hD⟩⟩, hS.F ht⟩) hS.2.2 dX2_printedLength_24
theorem in_X2_distanceByTrying_X2 : ∀ w ∈ wsX20, w ∈ wsX2_distanceByTrying := by decide +kernel
def fX2_distanceByTrying (T : Nat → Int32) (x : Int32) : Int32 × Int32 := if (fX2_is x).1 = 0 then (0, (fX2_is x).2) else ((fX2_distance (T x.toNatClampNeg)), (fX2_is x).2)
set_option maxHeartbeats 4000000 in
set_option maxRecDepth 100000 in
theorem c_X2_distanceByTrying (l : Launch) (D : va_G) (q : Nat → Nat) (cq : Nat → ClassId) (sz : Nat) (T : Nat → Int32) (R : Nat → Int32) (S : Nat → Int32) (X : Nat → Int32) (n : Int32) (h : Int32) (k : Int32) (th : Int32) (a : Int32) (o : Int32) (x : Int32) : Met l yX2_distanceByTrying wsX2_distanceByTrying ({ frames := 3, cells := 0, slots := 0, locals := 63 }) (va_Pc [.ref (q 0), .int x] (fun U => U.heap.size = sz ∧ va_P D vwCl (wM q cq T R S X n h k th a o) U.heap ∧ va_K D vwCl (tyM cq) U ∧ va_D (fun _ => True) (wM q cq T R S X n h k th a o) ∧ envE (va_A (wM q cq T R S X n h k th a o) sz) U)) (va_Qi (fun r9 (_ : Unit) => r9 = (fX2_distanceByTrying T x).1) (fun _ t9 => va_P D vwCl (wM q cq T R S X n h k ((fX2_distanceByTrying T x).2) a o) t9.heap ∧ va_D (va_A (wM q cq T R S X n h k th a o) sz) (wM q cq T R S X n h k ((fX2_distanceByTrying T x).2) a o)) (va_A (wM q cq T R S X n h k th a o) sz)) 0 0 (va_A (wM q cq T R S X n h k th a o) sz) := by
  refine Met.ofW (cc := cX2_distanceByTrying) (maxL := 2) (ret := (some .int)) (by decide) rfl ?_
  intro p e s m args below meth c s₁ B hml hv
  obtain ⟨rfl, hsz, hP, hK, hD0, hE⟩ := hv
  have hx := B.exec
  have hb := B.bytes
  have hr := B.returns
  have hts := atoms_spec (ws := wsX2_distanceByTrying) B.pre
  have hown : s.vm.findClass RX2 = some m.cls := findClass_of_methodNamed B.named
  have hlocks := B.notSynchronized
  subst hsz
  have hD := hD0.self (sz := s.heap.size)
  generalize hAe : va_A (wM q cq T R S X n h k th a o) s.heap.size = A at hD hE ⊢
  have hA : ∀ q : Nat, s.heap.size ≤ q → A q := fun q h => by rw [← hAe]; exact Or.inr h
  have hS : va_S A s.heap s.heap [] := va_S.rf
  have hP : va_P D vwCl (wM q cq T R S X n h k th a o) s.heap := hP
  have hl := lv_entry ([.ref (q 0), .int x]) (n := 2) (Nat.le_of_ble_eq_true rfl)
  rw [lg_entry_eq]
  generalize (lg_sl ([.ref (q 0), .int x]) ++ List.replicate (2 - (lg_sl ([.ref (q 0), .int x])).length) Slot.unset).toArray = ls at hl ⊢
  have hl : lv_has ls 2 [(0, .ref (q 0)), (1, .int x)] := hl
  refine lv_aload_n hx hb dX2_distanceByTrying_0 rfl (lv_at hl 0 rfl) ?_
  refine lv_iload_n hx hb dX2_distanceByTrying_1 rfl (lv_at hl 1 rfl) ?_
  have hPc := hP.sub (ws' := (wM q cq T R S X n h k th a o)) [0, 1, 2, 3, 4] rfl
  have hKc := hK.sub (tys' := (tyM cq)) [0, 1, 2, 3] rfl
  have hDc := hD.sub (ws' := (wM q cq T R S X n h k th a o)) [0, 1, 2, 3, 4] (by decide) rfl
  have hFc := va_free (wc := (wM q cq T R S X n h k th a o)) hD hS hA [0, 1, 2, 3, 4] rfl
  refine va_calli (va_runV (As := [.int x]) (rest := []) ⟨hx, hb, hml, hown, hts⟩ (c_X2_is l D q cq s.heap.size T R S X n h k th a o x) (cwV 1 hts gX2_distanceByTrying_X2_is rfl rfl rfl (by decide +kernel) ⟨Nat.le_of_ble_eq_true rfl, Nat.le_of_ble_eq_true rfl⟩) ⟨fun a U g mk z => ⟨z.1, z.2.1, z.2.2.1, va_K.moved (u := U) (U := U.calling g mk a) (Vm.Alike.refl U.vm) z.2.2.2.1, z.2.2.2.2.1, z.2.2.2.2.2.blind g mk a⟩, va_recv hKc hPc (ci := 2) (q0 := 0) rfl rfl, fun U hU hW => ⟨rfl, by rw [hU], by rw [hU]; exact hPc, va_K.moved hW.alike hKc, hDc.weaken (fun _ _ _ _ => trivial), hE.at hS hU hW hFc⟩⟩ rfl rfl hl.1 rfl (lv_room (Nat.le_of_ble_eq_true rfl)) dX2_distanceByTrying_2 ⟨(Nat.zero_le _), (Nat.zero_le _)⟩) hS (fun q _ h => hFc q h) hFc (fun r9 u9 t8 H1 locs ht hvm hw hB hz1 hk1 hS => ?_)
  obtain ⟨hP1, hD1⟩ := hB
  rw [ht] at hP1
  obtain ⟨hP, hD⟩ := va_join (wr := []) (w1 := (wM q cq T R S X n h k ((fX2_is x).2) a o)) hP hD [0, 1, 2, 3, 4] [] rfl rfl (by decide) (by decide) hk1 hFc hP1 hD1
  have hP := hP.sub (ws' := (wM q cq T R S X n h k ((fX2_is x).2) a o)) [0, 1, 2, 3, 4] rfl
  have hD := hD.sub (ws' := (wM q cq T R S X n h k ((fX2_is x).2) a o)) [0, 1, 2, 3, 4] (by decide) rfl
  generalize H1 = H at hP hS ⊢
  subst r9
  refine lv_if_eq (tgt := 20) hx hb dX2_distanceByTrying_5 (by decide) (fun c_1 => ?_) (fun c_1 => ?_)
  · refine lv_iconst (v := 0) hx hb dX2_distanceByTrying_20 (by decide) ?_
    have hq : (fX2_distanceByTrying T x) = (0, (fX2_is x).2) := Eq.symm (by first | ((rw [fX2_distanceByTrying, if_pos c_1]); first | done | rfl) | rfl)
    exact W.iret (v := 0) hx hb hr (fun t9 ht hW => ⟨⟨0, (), rfl, by rw [hq], by rw [hq]; exact ⟨by rw [ht]; exact hP, hD⟩⟩, hS.F ht⟩) hS.2.2 dX2_distanceByTrying_21
  · have hin_x_6 : vp_in x 6 := kis c_1
    refine lv_aload_n hx hb dX2_distanceByTrying_8 rfl (lv_at hl 0 rfl) ?_
    refine va_get (D := D) (ci := 2) (v := .ref (q 1)) (C := RX2) (T := TX2) (N := 10) hx hb hts in_X2_distanceByTrying_X2 hown hK hP 0 rfl rfl 0 (by decide) (hts (.fieldLink RX2 7 "ZhegalkinBenchModel" "now" "[I") (List.mem_of_getElem? (i := 1) rfl)) (fun _ h9 => h9) rfl dX2_distanceByTrying_9 ?_
    refine lv_iload_n hx hb dX2_distanceByTrying_12 rfl (lv_at hl 1 rfl) ?_
    refine va_iald hx hb hK hP 1 0 rfl rfl hin_x_6 dX2_distanceByTrying_13 ?_
    refine vp_callSi (va_Run.run (va_runS (As := [.int (T x.toNatClampNeg)]) (rest := []) ⟨hx, hb, hml, hown, hts⟩ (c_X2_distance l (T x.toNatClampNeg)) (va_cwS 1 hts gX2_distanceByTrying_X2_distance rfl rfl rfl (by decide +kernel) ⟨Nat.le_of_ble_eq_true rfl, Nat.le_of_ble_eq_true rfl⟩) ⟨fun _ _ _ _ z => z, fun _ _ _ => ⟨rfl, trivial⟩⟩ rfl rfl hl.1 rfl (lv_room (Nat.le_of_ble_eq_true rfl)) dX2_distanceByTrying_14 ⟨(Nat.zero_le _), (Nat.zero_le _)⟩)) (fun r9 hr => ?_)
    subst r9
    refine lv_goto (tgt := 21) hx hb dX2_distanceByTrying_17 (by decide) ?_
    have hq : (fX2_distanceByTrying T x) = ((fX2_distance (T x.toNatClampNeg)), (fX2_is x).2) := Eq.symm (by first | ((rw [fX2_distanceByTrying, if_neg c_1]); first | done | rfl) | rfl)
    exact W.iret (v := (fX2_distance (T x.toNatClampNeg))) hx hb hr (fun t9 ht hW => ⟨⟨(fX2_distance (T x.toNatClampNeg)), (), rfl, by rw [hq], by rw [hq]; exact ⟨by rw [ht]; exact hP, hD⟩⟩, hS.F ht⟩) hS.2.2 dX2_distanceByTrying_21
theorem in_X2_distanceBySums_X2 : ∀ w ∈ wsX20, w ∈ wsX2_distanceBySums := by decide +kernel
def fX2_distanceBySums (T : Nat → Int32) (x : Int32) : Int32 × Int32 := if (fX2_is x).1 = 0 then (0, (fX2_is x).2) else ((fX2_distance (T x.toNatClampNeg)), (fX2_is x).2)
set_option maxHeartbeats 4000000 in
set_option maxRecDepth 100000 in
theorem c_X2_distanceBySums (l : Launch) (D : va_G) (q : Nat → Nat) (cq : Nat → ClassId) (sz : Nat) (T : Nat → Int32) (R : Nat → Int32) (S : Nat → Int32) (X : Nat → Int32) (n : Int32) (h : Int32) (k : Int32) (th : Int32) (a : Int32) (o : Int32) (x : Int32) : Met l yX2_distanceBySums wsX2_distanceBySums ({ frames := 3, cells := 0, slots := 0, locals := 63 }) (va_Pc [.ref (q 0), .int x] (fun U => U.heap.size = sz ∧ va_P D vwCl (wM q cq T R S X n h k th a o) U.heap ∧ va_K D vwCl (tyM cq) U ∧ va_D (fun _ => True) (wM q cq T R S X n h k th a o) ∧ envE (va_A (wM q cq T R S X n h k th a o) sz) U)) (va_Qi (fun r9 (_ : Unit) => r9 = (fX2_distanceBySums T x).1) (fun _ t9 => va_P D vwCl (wM q cq T R S X n h k ((fX2_distanceBySums T x).2) a o) t9.heap ∧ va_D (va_A (wM q cq T R S X n h k th a o) sz) (wM q cq T R S X n h k ((fX2_distanceBySums T x).2) a o)) (va_A (wM q cq T R S X n h k th a o) sz)) 0 0 (va_A (wM q cq T R S X n h k th a o) sz) := by
  refine Met.ofW (cc := cX2_distanceBySums) (maxL := 2) (ret := (some .int)) (by decide) rfl ?_
  intro p e s m args below meth c s₁ B hml hv
  obtain ⟨rfl, hsz, hP, hK, hD0, hE⟩ := hv
  have hx := B.exec
  have hb := B.bytes
  have hr := B.returns
  have hts := atoms_spec (ws := wsX2_distanceBySums) B.pre
  have hown : s.vm.findClass RX2 = some m.cls := findClass_of_methodNamed B.named
  have hlocks := B.notSynchronized
  subst hsz
  have hD := hD0.self (sz := s.heap.size)
  generalize hAe : va_A (wM q cq T R S X n h k th a o) s.heap.size = A at hD hE ⊢
  have hA : ∀ q : Nat, s.heap.size ≤ q → A q := fun q h => by rw [← hAe]; exact Or.inr h
  have hS : va_S A s.heap s.heap [] := va_S.rf
  have hP : va_P D vwCl (wM q cq T R S X n h k th a o) s.heap := hP
  have hl := lv_entry ([.ref (q 0), .int x]) (n := 2) (Nat.le_of_ble_eq_true rfl)
  rw [lg_entry_eq]
  generalize (lg_sl ([.ref (q 0), .int x]) ++ List.replicate (2 - (lg_sl ([.ref (q 0), .int x])).length) Slot.unset).toArray = ls at hl ⊢
  have hl : lv_has ls 2 [(0, .ref (q 0)), (1, .int x)] := hl
  refine lv_aload_n hx hb dX2_distanceBySums_0 rfl (lv_at hl 0 rfl) ?_
  refine lv_iload_n hx hb dX2_distanceBySums_1 rfl (lv_at hl 1 rfl) ?_
  have hPc := hP.sub (ws' := (wM q cq T R S X n h k th a o)) [0, 1, 2, 3, 4] rfl
  have hKc := hK.sub (tys' := (tyM cq)) [0, 1, 2, 3] rfl
  have hDc := hD.sub (ws' := (wM q cq T R S X n h k th a o)) [0, 1, 2, 3, 4] (by decide) rfl
  have hFc := va_free (wc := (wM q cq T R S X n h k th a o)) hD hS hA [0, 1, 2, 3, 4] rfl
  refine va_calli (va_runV (As := [.int x]) (rest := []) ⟨hx, hb, hml, hown, hts⟩ (c_X2_is l D q cq s.heap.size T R S X n h k th a o x) (cwV 1 hts gX2_distanceBySums_X2_is rfl rfl rfl (by decide +kernel) ⟨Nat.le_of_ble_eq_true rfl, Nat.le_of_ble_eq_true rfl⟩) ⟨fun a U g mk z => ⟨z.1, z.2.1, z.2.2.1, va_K.moved (u := U) (U := U.calling g mk a) (Vm.Alike.refl U.vm) z.2.2.2.1, z.2.2.2.2.1, z.2.2.2.2.2.blind g mk a⟩, va_recv hKc hPc (ci := 2) (q0 := 0) rfl rfl, fun U hU hW => ⟨rfl, by rw [hU], by rw [hU]; exact hPc, va_K.moved hW.alike hKc, hDc.weaken (fun _ _ _ _ => trivial), hE.at hS hU hW hFc⟩⟩ rfl rfl hl.1 rfl (lv_room (Nat.le_of_ble_eq_true rfl)) dX2_distanceBySums_2 ⟨(Nat.zero_le _), (Nat.zero_le _)⟩) hS (fun q _ h => hFc q h) hFc (fun r9 u9 t8 H1 locs ht hvm hw hB hz1 hk1 hS => ?_)
  obtain ⟨hP1, hD1⟩ := hB
  rw [ht] at hP1
  obtain ⟨hP, hD⟩ := va_join (wr := []) (w1 := (wM q cq T R S X n h k ((fX2_is x).2) a o)) hP hD [0, 1, 2, 3, 4] [] rfl rfl (by decide) (by decide) hk1 hFc hP1 hD1
  have hP := hP.sub (ws' := (wM q cq T R S X n h k ((fX2_is x).2) a o)) [0, 1, 2, 3, 4] rfl
  have hD := hD.sub (ws' := (wM q cq T R S X n h k ((fX2_is x).2) a o)) [0, 1, 2, 3, 4] (by decide) rfl
  generalize H1 = H at hP hS ⊢
  subst r9
  refine lv_if_eq (tgt := 20) hx hb dX2_distanceBySums_5 (by decide) (fun c_1 => ?_) (fun c_1 => ?_)
  · refine lv_iconst (v := 0) hx hb dX2_distanceBySums_20 (by decide) ?_
    have hq : (fX2_distanceBySums T x) = (0, (fX2_is x).2) := Eq.symm (by first | ((rw [fX2_distanceBySums, if_pos c_1]); first | done | rfl) | rfl)
    exact W.iret (v := 0) hx hb hr (fun t9 ht hW => ⟨⟨0, (), rfl, by rw [hq], by rw [hq]; exact ⟨by rw [ht]; exact hP, hD⟩⟩, hS.F ht⟩) hS.2.2 dX2_distanceBySums_21
  · have hin_x_6 : vp_in x 6 := kis c_1
    refine lv_aload_n hx hb dX2_distanceBySums_8 rfl (lv_at hl 0 rfl) ?_
    refine va_get (D := D) (ci := 2) (v := .ref (q 1)) (C := RX2) (T := TX2) (N := 10) hx hb hts in_X2_distanceBySums_X2 hown hK hP 0 rfl rfl 0 (by decide) (hts (.fieldLink RX2 7 "ZhegalkinBenchModel" "now" "[I") (List.mem_of_getElem? (i := 1) rfl)) (fun _ h9 => h9) rfl dX2_distanceBySums_9 ?_
    refine lv_iload_n hx hb dX2_distanceBySums_12 rfl (lv_at hl 1 rfl) ?_
    refine va_iald hx hb hK hP 1 0 rfl rfl hin_x_6 dX2_distanceBySums_13 ?_
    refine vp_callSi (va_Run.run (va_runS (As := [.int (T x.toNatClampNeg)]) (rest := []) ⟨hx, hb, hml, hown, hts⟩ (c_X2_distance l (T x.toNatClampNeg)) (va_cwS 1 hts gX2_distanceBySums_X2_distance rfl rfl rfl (by decide +kernel) ⟨Nat.le_of_ble_eq_true rfl, Nat.le_of_ble_eq_true rfl⟩) ⟨fun _ _ _ _ z => z, fun _ _ _ => ⟨rfl, trivial⟩⟩ rfl rfl hl.1 rfl (lv_room (Nat.le_of_ble_eq_true rfl)) dX2_distanceBySums_14 ⟨(Nat.zero_le _), (Nat.zero_le _)⟩)) (fun r9 hr => ?_)
    subst r9
    refine lv_goto (tgt := 21) hx hb dX2_distanceBySums_17 (by decide) ?_
    have hq : (fX2_distanceBySums T x) = ((fX2_distance (T x.toNatClampNeg)), (fX2_is x).2) := Eq.symm (by first | ((rw [fX2_distanceBySums, if_neg c_1]); first | done | rfl) | rfl)
    exact W.iret (v := (fX2_distance (T x.toNatClampNeg))) hx hb hr (fun t9 ht hW => ⟨⟨(fX2_distance (T x.toNatClampNeg)), (), rfl, by rw [hq], by rw [hq]; exact ⟨by rw [ht]; exact hP, hD⟩⟩, hS.F ht⟩) hS.2.2 dX2_distanceBySums_21
theorem in_X2_isSelfDual_X2 : ∀ w ∈ wsX20, w ∈ wsX2_isSelfDual := by decide +kernel
def fX2_isSelfDual (T : Nat → Int32) (x : Int32) : Int32 × Int32 := if (fX2_is x).1 = 0 then (0, (fX2_is x).2) else (if (fX2_selfDual (T x.toNatClampNeg)) = 0 then (0, (fX2_is x).2) else (1, (fX2_is x).2))
set_option maxHeartbeats 4000000 in
set_option maxRecDepth 100000 in
theorem c_X2_isSelfDual (l : Launch) (D : va_G) (q : Nat → Nat) (cq : Nat → ClassId) (sz : Nat) (T : Nat → Int32) (R : Nat → Int32) (S : Nat → Int32) (X : Nat → Int32) (n : Int32) (h : Int32) (k : Int32) (th : Int32) (a : Int32) (o : Int32) (x : Int32) : Met l yX2_isSelfDual wsX2_isSelfDual ({ frames := 3, cells := 0, slots := 0, locals := 63 }) (va_Pc [.ref (q 0), .int x] (fun U => U.heap.size = sz ∧ va_P D vwCl (wM q cq T R S X n h k th a o) U.heap ∧ va_K D vwCl (tyM cq) U ∧ va_D (fun _ => True) (wM q cq T R S X n h k th a o) ∧ envE (va_A (wM q cq T R S X n h k th a o) sz) U)) (va_Qi (fun r9 (_ : Unit) => r9 = (fX2_isSelfDual T x).1) (fun _ t9 => va_P D vwCl (wM q cq T R S X n h k ((fX2_isSelfDual T x).2) a o) t9.heap ∧ va_D (va_A (wM q cq T R S X n h k th a o) sz) (wM q cq T R S X n h k ((fX2_isSelfDual T x).2) a o)) (va_A (wM q cq T R S X n h k th a o) sz)) 0 0 (va_A (wM q cq T R S X n h k th a o) sz) := by
  refine Met.ofW (cc := cX2_isSelfDual) (maxL := 2) (ret := (some .boolean)) (by decide) rfl ?_
  intro p e s m args below meth c s₁ B hml hv
  obtain ⟨rfl, hsz, hP, hK, hD0, hE⟩ := hv
  have hx := B.exec
  have hb := B.bytes
  have hr := B.returns
  have hts := atoms_spec (ws := wsX2_isSelfDual) B.pre
  have hown : s.vm.findClass RX2 = some m.cls := findClass_of_methodNamed B.named
  have hlocks := B.notSynchronized
  subst hsz
  have hD := hD0.self (sz := s.heap.size)
  generalize hAe : va_A (wM q cq T R S X n h k th a o) s.heap.size = A at hD hE ⊢
  have hA : ∀ q : Nat, s.heap.size ≤ q → A q := fun q h => by rw [← hAe]; exact Or.inr h
  have hS : va_S A s.heap s.heap [] := va_S.rf
  have hP : va_P D vwCl (wM q cq T R S X n h k th a o) s.heap := hP
  have hl := lv_entry ([.ref (q 0), .int x]) (n := 2) (Nat.le_of_ble_eq_true rfl)
  rw [lg_entry_eq]
  generalize (lg_sl ([.ref (q 0), .int x]) ++ List.replicate (2 - (lg_sl ([.ref (q 0), .int x])).length) Slot.unset).toArray = ls at hl ⊢
  have hl : lv_has ls 2 [(0, .ref (q 0)), (1, .int x)] := hl
  refine lv_aload_n hx hb dX2_isSelfDual_0 rfl (lv_at hl 0 rfl) ?_
  refine lv_iload_n hx hb dX2_isSelfDual_1 rfl (lv_at hl 1 rfl) ?_
  have hPc := hP.sub (ws' := (wM q cq T R S X n h k th a o)) [0, 1, 2, 3, 4] rfl
  have hKc := hK.sub (tys' := (tyM cq)) [0, 1, 2, 3] rfl
  have hDc := hD.sub (ws' := (wM q cq T R S X n h k th a o)) [0, 1, 2, 3, 4] (by decide) rfl
  have hFc := va_free (wc := (wM q cq T R S X n h k th a o)) hD hS hA [0, 1, 2, 3, 4] rfl
  refine va_calli (va_runV (As := [.int x]) (rest := []) ⟨hx, hb, hml, hown, hts⟩ (c_X2_is l D q cq s.heap.size T R S X n h k th a o x) (cwV 1 hts gX2_isSelfDual_X2_is rfl rfl rfl (by decide +kernel) ⟨Nat.le_of_ble_eq_true rfl, Nat.le_of_ble_eq_true rfl⟩) ⟨fun a U g mk z => ⟨z.1, z.2.1, z.2.2.1, va_K.moved (u := U) (U := U.calling g mk a) (Vm.Alike.refl U.vm) z.2.2.2.1, z.2.2.2.2.1, z.2.2.2.2.2.blind g mk a⟩, va_recv hKc hPc (ci := 2) (q0 := 0) rfl rfl, fun U hU hW => ⟨rfl, by rw [hU], by rw [hU]; exact hPc, va_K.moved hW.alike hKc, hDc.weaken (fun _ _ _ _ => trivial), hE.at hS hU hW hFc⟩⟩ rfl rfl hl.1 rfl (lv_room (Nat.le_of_ble_eq_true rfl)) dX2_isSelfDual_2 ⟨(Nat.zero_le _), (Nat.zero_le _)⟩) hS (fun q _ h => hFc q h) hFc (fun r9 u9 t8 H1 locs ht hvm hw hB hz1 hk1 hS => ?_)
  obtain ⟨hP1, hD1⟩ := hB
  rw [ht] at hP1
  obtain ⟨hP, hD⟩ := va_join (wr := []) (w1 := (wM q cq T R S X n h k ((fX2_is x).2) a o)) hP hD [0, 1, 2, 3, 4] [] rfl rfl (by decide) (by decide) hk1 hFc hP1 hD1
  have hP := hP.sub (ws' := (wM q cq T R S X n h k ((fX2_is x).2) a o)) [0, 1, 2, 3, 4] rfl
  have hD := hD.sub (ws' := (wM q cq T R S X n h k ((fX2_is x).2) a o)) [0, 1, 2, 3, 4] (by decide) rfl
  generalize H1 = H at hP hS ⊢
  subst r9
  refine lv_if_eq (tgt := 24) hx hb dX2_isSelfDual_5 (by decide) (fun c_1 => ?_) (fun c_1 => ?_)
  · refine lv_iconst (v := 0) hx hb dX2_isSelfDual_24 (by decide) ?_
    have hq : (fX2_isSelfDual T x) = (0, (fX2_is x).2) := Eq.symm (by first | ((rw [fX2_isSelfDual, if_pos c_1]); first | done | rfl) | rfl)
    exact W.zret (v := 0) hx hb hr rfl (fun t9 ht hW => ⟨⟨0, (), rfl, by rw [hq], by rw [hq]; exact ⟨by rw [ht]; exact hP, hD⟩⟩, hS.F ht⟩) hS.2.2 dX2_isSelfDual_25
  · have hin_x_6 : vp_in x 6 := kis c_1
    refine lv_aload_n hx hb dX2_isSelfDual_8 rfl (lv_at hl 0 rfl) ?_
    refine va_get (D := D) (ci := 2) (v := .ref (q 1)) (C := RX2) (T := TX2) (N := 10) hx hb hts in_X2_isSelfDual_X2 hown hK hP 0 rfl rfl 0 (by decide) (hts (.fieldLink RX2 7 "ZhegalkinBenchModel" "now" "[I") (List.mem_of_getElem? (i := 1) rfl)) (fun _ h9 => h9) rfl dX2_isSelfDual_9 ?_
    refine lv_iload_n hx hb dX2_isSelfDual_12 rfl (lv_at hl 1 rfl) ?_
    refine va_iald hx hb hK hP 1 0 rfl rfl hin_x_6 dX2_isSelfDual_13 ?_
    refine vp_callSi (va_Run.run (va_runS (As := [.int (T x.toNatClampNeg)]) (rest := []) ⟨hx, hb, hml, hown, hts⟩ (c_X2_selfDual l (T x.toNatClampNeg)) (va_cwS 1 hts gX2_isSelfDual_X2_selfDual rfl rfl rfl (by decide +kernel) ⟨Nat.le_of_ble_eq_true rfl, Nat.le_of_ble_eq_true rfl⟩) ⟨fun _ _ _ _ z => z, fun _ _ _ => ⟨rfl, trivial⟩⟩ rfl rfl hl.1 rfl (lv_room (Nat.le_of_ble_eq_true rfl)) dX2_isSelfDual_14 ⟨(Nat.zero_le _), (Nat.zero_le _)⟩)) (fun r9 hr => ?_)
    subst r9
    refine lv_if_eq (tgt := 24) hx hb dX2_isSelfDual_17 (by decide) (fun c_2 => ?_) (fun c_2 => ?_)
    · refine lv_iconst (v := 0) hx hb dX2_isSelfDual_24 (by decide) ?_
      have hq : (fX2_isSelfDual T x) = (0, (fX2_is x).2) := Eq.symm (by first | ((rw [fX2_isSelfDual, if_neg c_1, if_pos c_2]); first | done | rfl) | rfl)
      exact W.zret (v := 0) hx hb hr rfl (fun t9 ht hW => ⟨⟨0, (), rfl, by rw [hq], by rw [hq]; exact ⟨by rw [ht]; exact hP, hD⟩⟩, hS.F ht⟩) hS.2.2 dX2_isSelfDual_25
    · refine lv_iconst (v := 1) hx hb dX2_isSelfDual_20 (by decide) ?_
      refine lv_goto (tgt := 25) hx hb dX2_isSelfDual_21 (by decide) ?_
      have hq : (fX2_isSelfDual T x) = (1, (fX2_is x).2) := Eq.symm (by first | ((rw [fX2_isSelfDual, if_neg c_1, if_neg c_2]); first | done | rfl) | rfl)
      exact W.zret (v := 1) hx hb hr rfl (fun t9 ht hW => ⟨⟨1, (), rfl, by rw [hq], by rw [hq]; exact ⟨by rw [ht]; exact hP, hD⟩⟩, hS.F ht⟩) hS.2.2 dX2_isSelfDual_25
theorem in_X2_isMonotone_X2 : ∀ w ∈ wsX20, w ∈ wsX2_isMonotone := by decide +kernel
def fX2_isMonotone (T : Nat → Int32) (x : Int32) : Int32 × Int32 := if (fX2_is x).1 = 0 then (0, (fX2_is x).2) else (if (fX2_monotone (T x.toNatClampNeg)) = 0 then (0, (fX2_is x).2) else (1, (fX2_is x).2))
set_option maxHeartbeats 4000000 in
set_option maxRecDepth 100000 in
theorem c_X2_isMonotone (l : Launch) (D : va_G) (q : Nat → Nat) (cq : Nat → ClassId) (sz : Nat) (T : Nat → Int32) (R : Nat → Int32) (S : Nat → Int32) (X : Nat → Int32) (n : Int32) (h : Int32) (k : Int32) (th : Int32) (a : Int32) (o : Int32) (x : Int32) : Met l yX2_isMonotone wsX2_isMonotone ({ frames := 3, cells := 0, slots := 0, locals := 63 }) (va_Pc [.ref (q 0), .int x] (fun U => U.heap.size = sz ∧ va_P D vwCl (wM q cq T R S X n h k th a o) U.heap ∧ va_K D vwCl (tyM cq) U ∧ va_D (fun _ => True) (wM q cq T R S X n h k th a o) ∧ envE (va_A (wM q cq T R S X n h k th a o) sz) U)) (va_Qi (fun r9 (_ : Unit) => r9 = (fX2_isMonotone T x).1) (fun _ t9 => va_P D vwCl (wM q cq T R S X n h k ((fX2_isMonotone T x).2) a o) t9.heap ∧ va_D (va_A (wM q cq T R S X n h k th a o) sz) (wM q cq T R S X n h k ((fX2_isMonotone T x).2) a o)) (va_A (wM q cq T R S X n h k th a o) sz)) 0 0 (va_A (wM q cq T R S X n h k th a o) sz) := by
  refine Met.ofW (cc := cX2_isMonotone) (maxL := 2) (ret := (some .boolean)) (by decide) rfl ?_
  intro p e s m args below meth c s₁ B hml hv
  obtain ⟨rfl, hsz, hP, hK, hD0, hE⟩ := hv
  have hx := B.exec
  have hb := B.bytes
  have hr := B.returns
  have hts := atoms_spec (ws := wsX2_isMonotone) B.pre
  have hown : s.vm.findClass RX2 = some m.cls := findClass_of_methodNamed B.named
  have hlocks := B.notSynchronized
  subst hsz
  have hD := hD0.self (sz := s.heap.size)
  generalize hAe : va_A (wM q cq T R S X n h k th a o) s.heap.size = A at hD hE ⊢
  have hA : ∀ q : Nat, s.heap.size ≤ q → A q := fun q h => by rw [← hAe]; exact Or.inr h
  have hS : va_S A s.heap s.heap [] := va_S.rf
  have hP : va_P D vwCl (wM q cq T R S X n h k th a o) s.heap := hP
  have hl := lv_entry ([.ref (q 0), .int x]) (n := 2) (Nat.le_of_ble_eq_true rfl)
  rw [lg_entry_eq]
  generalize (lg_sl ([.ref (q 0), .int x]) ++ List.replicate (2 - (lg_sl ([.ref (q 0), .int x])).length) Slot.unset).toArray = ls at hl ⊢
  have hl : lv_has ls 2 [(0, .ref (q 0)), (1, .int x)] := hl
  refine lv_aload_n hx hb dX2_isMonotone_0 rfl (lv_at hl 0 rfl) ?_
  refine lv_iload_n hx hb dX2_isMonotone_1 rfl (lv_at hl 1 rfl) ?_
  have hPc := hP.sub (ws' := (wM q cq T R S X n h k th a o)) [0, 1, 2, 3, 4] rfl
  have hKc := hK.sub (tys' := (tyM cq)) [0, 1, 2, 3] rfl
  have hDc := hD.sub (ws' := (wM q cq T R S X n h k th a o)) [0, 1, 2, 3, 4] (by decide) rfl
  have hFc := va_free (wc := (wM q cq T R S X n h k th a o)) hD hS hA [0, 1, 2, 3, 4] rfl
  refine va_calli (va_runV (As := [.int x]) (rest := []) ⟨hx, hb, hml, hown, hts⟩ (c_X2_is l D q cq s.heap.size T R S X n h k th a o x) (cwV 1 hts gX2_isMonotone_X2_is rfl rfl rfl (by decide +kernel) ⟨Nat.le_of_ble_eq_true rfl, Nat.le_of_ble_eq_true rfl⟩) ⟨fun a U g mk z => ⟨z.1, z.2.1, z.2.2.1, va_K.moved (u := U) (U := U.calling g mk a) (Vm.Alike.refl U.vm) z.2.2.2.1, z.2.2.2.2.1, z.2.2.2.2.2.blind g mk a⟩, va_recv hKc hPc (ci := 2) (q0 := 0) rfl rfl, fun U hU hW => ⟨rfl, by rw [hU], by rw [hU]; exact hPc, va_K.moved hW.alike hKc, hDc.weaken (fun _ _ _ _ => trivial), hE.at hS hU hW hFc⟩⟩ rfl rfl hl.1 rfl (lv_room (Nat.le_of_ble_eq_true rfl)) dX2_isMonotone_2 ⟨(Nat.zero_le _), (Nat.zero_le _)⟩) hS (fun q _ h => hFc q h) hFc (fun r9 u9 t8 H1 locs ht hvm hw hB hz1 hk1 hS => ?_)
  obtain ⟨hP1, hD1⟩ := hB
  rw [ht] at hP1
  obtain ⟨hP, hD⟩ := va_join (wr := []) (w1 := (wM q cq T R S X n h k ((fX2_is x).2) a o)) hP hD [0, 1, 2, 3, 4] [] rfl rfl (by decide) (by decide) hk1 hFc hP1 hD1
  have hP := hP.sub (ws' := (wM q cq T R S X n h k ((fX2_is x).2) a o)) [0, 1, 2, 3, 4] rfl
  have hD := hD.sub (ws' := (wM q cq T R S X n h k ((fX2_is x).2) a o)) [0, 1, 2, 3, 4] (by decide) rfl
  generalize H1 = H at hP hS ⊢
  subst r9
  refine lv_if_eq (tgt := 24) hx hb dX2_isMonotone_5 (by decide) (fun c_1 => ?_) (fun c_1 => ?_)
  · refine lv_iconst (v := 0) hx hb dX2_isMonotone_24 (by decide) ?_
    have hq : (fX2_isMonotone T x) = (0, (fX2_is x).2) := Eq.symm (by first | ((rw [fX2_isMonotone, if_pos c_1]); first | done | rfl) | rfl)
    exact W.zret (v := 0) hx hb hr rfl (fun t9 ht hW => ⟨⟨0, (), rfl, by rw [hq], by rw [hq]; exact ⟨by rw [ht]; exact hP, hD⟩⟩, hS.F ht⟩) hS.2.2 dX2_isMonotone_25
  · have hin_x_6 : vp_in x 6 := kis c_1
    refine lv_aload_n hx hb dX2_isMonotone_8 rfl (lv_at hl 0 rfl) ?_
    refine va_get (D := D) (ci := 2) (v := .ref (q 1)) (C := RX2) (T := TX2) (N := 10) hx hb hts in_X2_isMonotone_X2 hown hK hP 0 rfl rfl 0 (by decide) (hts (.fieldLink RX2 7 "ZhegalkinBenchModel" "now" "[I") (List.mem_of_getElem? (i := 1) rfl)) (fun _ h9 => h9) rfl dX2_isMonotone_9 ?_
    refine lv_iload_n hx hb dX2_isMonotone_12 rfl (lv_at hl 1 rfl) ?_
    refine va_iald hx hb hK hP 1 0 rfl rfl hin_x_6 dX2_isMonotone_13 ?_
    refine vp_callSi (va_Run.run (va_runS (As := [.int (T x.toNatClampNeg)]) (rest := []) ⟨hx, hb, hml, hown, hts⟩ (c_X2_monotone l (T x.toNatClampNeg)) (va_cwS 1 hts gX2_isMonotone_X2_monotone rfl rfl rfl (by decide +kernel) ⟨Nat.le_of_ble_eq_true rfl, Nat.le_of_ble_eq_true rfl⟩) ⟨fun _ _ _ _ z => z, fun _ _ _ => ⟨rfl, trivial⟩⟩ rfl rfl hl.1 rfl (lv_room (Nat.le_of_ble_eq_true rfl)) dX2_isMonotone_14 ⟨(Nat.zero_le _), (Nat.zero_le _)⟩)) (fun r9 hr => ?_)
    subst r9
    refine lv_if_eq (tgt := 24) hx hb dX2_isMonotone_17 (by decide) (fun c_2 => ?_) (fun c_2 => ?_)
    · refine lv_iconst (v := 0) hx hb dX2_isMonotone_24 (by decide) ?_
      have hq : (fX2_isMonotone T x) = (0, (fX2_is x).2) := Eq.symm (by first | ((rw [fX2_isMonotone, if_neg c_1, if_pos c_2]); first | done | rfl) | rfl)
      exact W.zret (v := 0) hx hb hr rfl (fun t9 ht hW => ⟨⟨0, (), rfl, by rw [hq], by rw [hq]; exact ⟨by rw [ht]; exact hP, hD⟩⟩, hS.F ht⟩) hS.2.2 dX2_isMonotone_25
    · refine lv_iconst (v := 1) hx hb dX2_isMonotone_20 (by decide) ?_
      refine lv_goto (tgt := 25) hx hb dX2_isMonotone_21 (by decide) ?_
      have hq : (fX2_isMonotone T x) = (1, (fX2_is x).2) := Eq.symm (by first | ((rw [fX2_isMonotone, if_neg c_1, if_neg c_2]); first | done | rfl) | rfl)
      exact W.zret (v := 1) hx hb hr rfl (fun t9 ht hW => ⟨⟨1, (), rfl, by rw [hq], by rw [hq]; exact ⟨by rw [ht]; exact hP, hD⟩⟩, hS.F ht⟩) hS.2.2 dX2_isMonotone_25
theorem in_X2_printedLetter_X2 : ∀ w ∈ wsX20, w ∈ wsX2_printedLetter := by decide +kernel
def tX2_printedLetter_56 (T : Nat → Int32) (x : Int32) : Nat → Nat → Int32 → Int32 × Int32
  | 0, _, _ => (48, (fX2_is x).2)
  | n1 + 1, i1, a1 => if (if (((if (fX2_is x).1 = 0 then 0 else (fX2_turned (T x.toNatClampNeg)) : Int32) >>> ((nI i1) &&& 31)) &&& 1) = 1 then 1 else 0 : Int32) = 0 then tX2_printedLetter_56 T x n1 (i1 + 1) (a1 - (if (if (((if (fX2_is x).1 = 0 then 0 else (fX2_turned (T x.toNatClampNeg)) : Int32) >>> ((nI i1) &&& 31)) &&& 1) = 1 then 1 else 0 : Int32) = 0 then 0 else ((fX2_letters (nI i1)) + 1) : Int32)) else (if (fX2_letters (nI i1)) < a1 then tX2_printedLetter_56 T x n1 (i1 + 1) (a1 - (if (if (((if (fX2_is x).1 = 0 then 0 else (fX2_turned (T x.toNatClampNeg)) : Int32) >>> ((nI i1) &&& 31)) &&& 1) = 1 then 1 else 0 : Int32) = 0 then 0 else ((fX2_letters (nI i1)) + 1) : Int32)) else (if a1 = (fX2_letters (nI i1)) then (43, (fX2_is x).2) else ((fX2_letter (nI i1) a1), (fX2_is x).2)))
def fX2_printedLetter (T : Nat → Int32) (x : Int32) (x2 : Int32) : Int32 × Int32 := if 0 < (fX2_is x).2 then (0, 1) else (if (fX2_in x2 0 ((fX2_printed (if (fX2_is x).1 = 0 then 0 else (fX2_turned (T x.toNatClampNeg)) : Int32)) - 1)) = 0 then (0, 1) else tX2_printedLetter_56 T x 16 0 x2)
set_option maxHeartbeats 4000000 in
set_option maxRecDepth 100000 in
theorem c_X2_printedLetter (l : Launch) (D : va_G) (q : Nat → Nat) (cq : Nat → ClassId) (sz : Nat) (T : Nat → Int32) (R : Nat → Int32) (S : Nat → Int32) (X : Nat → Int32) (n : Int32) (h : Int32) (k : Int32) (th : Int32) (a : Int32) (o : Int32) (x : Int32) (x2 : Int32) : Met l yX2_printedLetter wsX2_printedLetter ({ frames := 3, cells := 0, slots := 0, locals := 64 }) (va_Pc [.ref (q 0), .int x, .int x2] (fun U => U.heap.size = sz ∧ va_P D vwCl (wM q cq T R S X n h k th a o) U.heap ∧ va_K D vwCl (tyM cq) U ∧ va_D (fun _ => True) (wM q cq T R S X n h k th a o) ∧ envE (va_A (wM q cq T R S X n h k th a o) sz) U)) (va_Qi (fun r9 (_ : Unit) => r9 = (fX2_printedLetter T x x2).1) (fun _ t9 => va_P D vwCl (wM q cq T R S X n h k ((fX2_printedLetter T x x2).2) a o) t9.heap ∧ va_D (va_A (wM q cq T R S X n h k th a o) sz) (wM q cq T R S X n h k ((fX2_printedLetter T x x2).2) a o)) (va_A (wM q cq T R S X n h k th a o) sz)) 0 0 (va_A (wM q cq T R S X n h k th a o) sz) := by
  refine Met.ofW (cc := cX2_printedLetter) (maxL := 7) (ret := (some .char)) (by decide) rfl ?_
  intro p e s m args below meth c s₁ B hml hv
  obtain ⟨rfl, hsz, hP, hK, hD0, hE⟩ := hv
  have hx := B.exec
  have hb := B.bytes
  have hr := B.returns
  have hts := atoms_spec (ws := wsX2_printedLetter) B.pre
  have hown : s.vm.findClass RX2 = some m.cls := findClass_of_methodNamed B.named
  have hlocks := B.notSynchronized
  subst hsz
  have hD := hD0.self (sz := s.heap.size)
  generalize hAe : va_A (wM q cq T R S X n h k th a o) s.heap.size = A at hD hE ⊢
  have hA : ∀ q : Nat, s.heap.size ≤ q → A q := fun q h => by rw [← hAe]; exact Or.inr h
  have hS : va_S A s.heap s.heap [] := va_S.rf
  have hP : va_P D vwCl (wM q cq T R S X n h k th a o) s.heap := hP
  have hl := lv_entry ([.ref (q 0), .int x, .int x2]) (n := 7) (Nat.le_of_ble_eq_true rfl)
  rw [lg_entry_eq]
  generalize (lg_sl ([.ref (q 0), .int x, .int x2]) ++ List.replicate (7 - (lg_sl ([.ref (q 0), .int x, .int x2])).length) Slot.unset).toArray = ls at hl ⊢
  have hl : lv_has ls 7 [(0, .ref (q 0)), (1, .int x), (2, .int x2)] := hl
  refine lv_aload_n hx hb dX2_printedLetter_0 rfl (lv_at hl 0 rfl) ?_
  refine lv_iload_n hx hb dX2_printedLetter_1 rfl (lv_at hl 1 rfl) ?_
  have hPc := hP.sub (ws' := (wM q cq T R S X n h k th a o)) [0, 1, 2, 3, 4] rfl
  have hKc := hK.sub (tys' := (tyM cq)) [0, 1, 2, 3] rfl
  have hDc := hD.sub (ws' := (wM q cq T R S X n h k th a o)) [0, 1, 2, 3, 4] (by decide) rfl
  have hFc := va_free (wc := (wM q cq T R S X n h k th a o)) hD hS hA [0, 1, 2, 3, 4] rfl
  refine va_calli (va_runV (As := [.int x]) (rest := []) ⟨hx, hb, hml, hown, hts⟩ (c_X2_is l D q cq s.heap.size T R S X n h k th a o x) (cwV 1 hts gX2_printedLetter_X2_is rfl rfl rfl (by decide +kernel) ⟨Nat.le_of_ble_eq_true rfl, Nat.le_of_ble_eq_true rfl⟩) ⟨fun a U g mk z => ⟨z.1, z.2.1, z.2.2.1, va_K.moved (u := U) (U := U.calling g mk a) (Vm.Alike.refl U.vm) z.2.2.2.1, z.2.2.2.2.1, z.2.2.2.2.2.blind g mk a⟩, va_recv hKc hPc (ci := 2) (q0 := 0) rfl rfl, fun U hU hW => ⟨rfl, by rw [hU], by rw [hU]; exact hPc, va_K.moved hW.alike hKc, hDc.weaken (fun _ _ _ _ => trivial), hE.at hS hU hW hFc⟩⟩ rfl rfl hl.1 rfl (lv_room (Nat.le_of_ble_eq_true rfl)) dX2_printedLetter_2 ⟨(Nat.zero_le _), (Nat.zero_le _)⟩) hS (fun q _ h => hFc q h) hFc (fun r9 u9 t8 H1 locs ht hvm hw hB hz1 hk1 hS => ?_)
  obtain ⟨hP1, hD1⟩ := hB
  rw [ht] at hP1
  obtain ⟨hP, hD⟩ := va_join (wr := []) (w1 := (wM q cq T R S X n h k ((fX2_is x).2) a o)) hP hD [0, 1, 2, 3, 4] [] rfl rfl (by decide) (by decide) hk1 hFc hP1 hD1
  have hP := hP.sub (ws' := (wM q cq T R S X n h k ((fX2_is x).2) a o)) [0, 1, 2, 3, 4] rfl
  have hD := hD.sub (ws' := (wM q cq T R S X n h k ((fX2_is x).2) a o)) [0, 1, 2, 3, 4] (by decide) rfl
  generalize H1 = H at hP hS ⊢
  subst r9
  refine vz_cut (fun H1 l1 g1 => ∃ (x1_0 : Int32) (ls : Array Slot), x1_0 = (if (fX2_is x).1 = 0 then 0 else (fX2_turned (T x.toNatClampNeg)) : Int32) ∧ lv_has ls 7 [(0, .ref (q 0)), (1, .int x), (2, .int x2)] ∧ (H = H1 ∧ locs = l1) ∧ g1 = F0 m 21 ls [.int x1_0]) (fun hj1 => ?_) ?_
  · refine lv_if_eq (tgt := 20) hx hb dX2_printedLetter_5 (by decide) (fun c_1 => ?_) (fun c_1 => ?_)
    · refine lv_iconst (v := 0) hx hb dX2_printedLetter_20 (by decide) ?_
      exact hj1 _ _ _ ⟨0, ls, (by (rw [if_pos c_1]); first | done | rfl), lv_sub hl [0, 1, 2] rfl, ⟨rfl, rfl⟩, rfl⟩
    · have hin_x_6 : vp_in x 6 := kis c_1
      refine lv_aload_n hx hb dX2_printedLetter_8 rfl (lv_at hl 0 rfl) ?_
      refine va_get (D := D) (ci := 2) (v := .ref (q 1)) (C := RX2) (T := TX2) (N := 10) hx hb hts in_X2_printedLetter_X2 hown hK hP 0 rfl rfl 0 (by decide) (hts (.fieldLink RX2 7 "ZhegalkinBenchModel" "now" "[I") (List.mem_of_getElem? (i := 1) rfl)) (fun _ h9 => h9) rfl dX2_printedLetter_9 ?_
      refine lv_iload_n hx hb dX2_printedLetter_12 rfl (lv_at hl 1 rfl) ?_
      refine va_iald hx hb hK hP 1 0 rfl rfl hin_x_6 dX2_printedLetter_13 ?_
      refine vp_callSi (va_Run.run (va_runS (As := [.int (T x.toNatClampNeg)]) (rest := []) ⟨hx, hb, hml, hown, hts⟩ (c_X2_turned l (T x.toNatClampNeg)) (va_cwS 1 hts gX2_printedLetter_X2_turned rfl rfl rfl (by decide +kernel) ⟨Nat.le_of_ble_eq_true rfl, Nat.le_of_ble_eq_true rfl⟩) ⟨fun _ _ _ _ z => z, fun _ _ _ => ⟨rfl, trivial⟩⟩ rfl rfl hl.1 rfl (lv_room (Nat.le_of_ble_eq_true rfl)) dX2_printedLetter_14 ⟨(Nat.zero_le _), (Nat.zero_le _)⟩)) (fun r9 hr => ?_)
      subst r9
      refine lv_goto (tgt := 21) hx hb dX2_printedLetter_17 (by decide) ?_
      exact hj1 _ _ _ ⟨(fX2_turned (T x.toNatClampNeg)), ls, (by (rw [if_neg c_1]); first | done | rfl), lv_sub hl [0, 1, 2] rfl, ⟨rfl, rfl⟩, rfl⟩
  rintro H1 l1 g1 ⟨x1_0, ls, ex1_0, hl, ⟨rfl, rfl⟩, rfl⟩
  subst x1_0
  refine lv_istore_n (lv' := [(3, .int (if (fX2_is x).1 = 0 then 0 else (fX2_turned (T x.toNatClampNeg)) : Int32)), (0, .ref (q 0)), (1, .int x), (2, .int x2)]) hx hb dX2_printedLetter_21 rfl hl (by decide) rfl (fun ls hl => ?_)
  refine lv_aload_n hx hb dX2_printedLetter_22 rfl (lv_at hl 1 rfl) ?_
  refine va_get (D := D) (ci := 2) (v := .int (fX2_is x).2) (C := RX2) (T := TX2) (N := 10) hx hb hts in_X2_printedLetter_X2 hown hK hP 0 rfl rfl 7 (by decide) (hts (.fieldLink RX2 27 "ZhegalkinBenchModel" "thrown" "I") (List.mem_of_getElem? (i := 2) rfl)) (fun _ h9 => h9) rfl dX2_printedLetter_23 ?_
  refine lv_if_gt (tgt := 43) hx hb dX2_printedLetter_26 (by decide) (fun c_2 => ?_) (fun c_2 => ?_)
  · refine lv_aload_n hx hb dX2_printedLetter_43 rfl (lv_at hl 1 rfl) ?_
    refine lv_iconst (v := 1) hx hb dX2_printedLetter_44 (by decide) ?_
    refine va_put (D := D) (ci := 2) (v := .int 1) (ty := .int) (C := RX2) (T := TX2) (N := 10) hx hb hts in_X2_printedLetter_X2 tyX2 tyX2_ok nmX2 hown hK hP hD hS 0 rfl rfl 7 (by decide) (hts (.fieldLink RX2 27 "ZhegalkinBenchModel" "thrown" "I") (List.mem_of_getElem? (i := 2) rfl)) (fun _ h9 => h9) rfl (by decide +kernel) rfl rfl (Nat.le_of_ble_eq_true rfl) dX2_printedLetter_45 (fun H locs hP hD hS => ?_)
    have hP : va_P D vwCl (wM q cq T R S X n h k 1 a o) H := hP
    have hD : va_D A (wM q cq T R S X n h k 1 a o) := hD
    refine lv_iconst (v := 0) hx hb dX2_printedLetter_48 (by decide) ?_
    have hq : (fX2_printedLetter T x x2) = (0, 1) := Eq.symm (by first | ((rw [fX2_printedLetter, if_pos c_2]); first | done | rfl) | rfl)
    exact W.zret (v := 0) hx hb hr rfl (fun t9 ht hW => ⟨⟨0, (), rfl, by rw [hq], by rw [hq]; exact ⟨by rw [ht]; exact hP, hD⟩⟩, hS.F ht⟩) hS.2.2 dX2_printedLetter_49
  · refine lv_iload_n hx hb dX2_printedLetter_29 rfl (lv_at hl 3 rfl) ?_
    refine lv_iconst (v := 0) hx hb dX2_printedLetter_30 (by decide) ?_
    refine lv_iload_n hx hb dX2_printedLetter_31 rfl (lv_at hl 0 rfl) ?_
    refine vp_callSi (va_Run.run (va_runS (As := [.int (if (fX2_is x).1 = 0 then 0 else (fX2_turned (T x.toNatClampNeg)) : Int32)]) (rest := [.int 0, .int x2]) ⟨hx, hb, hml, hown, hts⟩ (c_X2_printed l (if (fX2_is x).1 = 0 then 0 else (fX2_turned (T x.toNatClampNeg)) : Int32)) (va_cwS 1 hts gX2_printedLetter_X2_printed rfl rfl rfl (by decide +kernel) ⟨Nat.le_of_ble_eq_true rfl, Nat.le_of_ble_eq_true rfl⟩) ⟨fun _ _ _ _ z => z, fun _ _ _ => ⟨rfl, trivial⟩⟩ rfl rfl hl.1 rfl (lv_room (Nat.le_of_ble_eq_true rfl)) dX2_printedLetter_32 ⟨(Nat.zero_le _), (Nat.zero_le _)⟩)) (fun r9 hr => ?_)
    subst r9
    refine lv_iconst (v := 1) hx hb dX2_printedLetter_35 (by decide) ?_
    refine lv_isub hx hb dX2_printedLetter_36 ?_
    refine vp_callSi (va_Run.run (va_runS (As := [.int x2, .int 0, .int ((fX2_printed (if (fX2_is x).1 = 0 then 0 else (fX2_turned (T x.toNatClampNeg)) : Int32)) - 1)]) (rest := []) ⟨hx, hb, hml, hown, hts⟩ (c_X2_in l x2 0 ((fX2_printed (if (fX2_is x).1 = 0 then 0 else (fX2_turned (T x.toNatClampNeg)) : Int32)) - 1)) (va_cwS 3 hts gX2_printedLetter_X2_in rfl rfl rfl (by decide +kernel) ⟨Nat.le_of_ble_eq_true rfl, Nat.le_of_ble_eq_true rfl⟩) ⟨fun _ _ _ _ z => z, fun _ _ _ => ⟨rfl, trivial⟩⟩ rfl rfl hl.1 rfl (lv_room (Nat.le_of_ble_eq_true rfl)) dX2_printedLetter_37 ⟨(Nat.zero_le _), (Nat.zero_le _)⟩)) (fun r9 hr => ?_)
    subst r9
    refine lv_if_ne (tgt := 50) hx hb dX2_printedLetter_40 (by decide) (fun c_3 => ?_) (fun c_3 => ?_)
    · refine lv_iload_n hx hb dX2_printedLetter_50 rfl (lv_at hl 3 rfl) ?_
      refine lv_istore (lv' := [(4, .int x2), (3, .int (if (fX2_is x).1 = 0 then 0 else (fX2_turned (T x.toNatClampNeg)) : Int32)), (0, .ref (q 0)), (1, .int x), (2, .int x2)]) hx hb dX2_printedLetter_51 hl (by decide) rfl (fun ls hl => ?_)
      refine lv_iconst (v := 0) hx hb dX2_printedLetter_53 (by decide) ?_
      refine lv_istore (lv' := [(5, .int 0), (4, .int x2), (3, .int (if (fX2_is x).1 = 0 then 0 else (fX2_turned (T x.toNatClampNeg)) : Int32)), (0, .ref (q 0)), (1, .int x), (2, .int x2)]) hx hb dX2_printedLetter_54 hl (by decide) rfl (fun ls hl => ?_)
      have hfo1 : tX2_printedLetter_56 T x 16 0 x2 = (fX2_printedLetter T x x2) := Eq.symm (by first | ((rw [fX2_printedLetter, if_neg c_2, if_neg c_3]); first | done | rfl) | rfl)
      refine vz_cut (fun H1 l1 g1 => ∃ (n1 i1 : Nat) (a1 : Int32) (ls : Array Slot), i1 + n1 = 16 ∧ tX2_printedLetter_56 T x n1 i1 a1 = tX2_printedLetter_56 T x 16 0 x2 ∧ lv_has ls 7 [(5, .int (nI i1)), (4, .int a1), (3, .int (if (fX2_is x).1 = 0 then 0 else (fX2_turned (T x.toNatClampNeg)) : Int32)), (0, .ref (q 0)), (1, .int x), (2, .int x2)] ∧ (H = H1 ∧ locs = l1) ∧ g1 = F0 m 56 ls []) (fun hj => hj _ _ _ ⟨16, 0, x2, ls, (by omega), rfl, lv_sub hl [0, 1, 2, 3, 4, 5] rfl, ⟨rfl, rfl⟩, rfl⟩) ?_
      rintro H1 l1 g1 ⟨n1, i1, a1, ls, hi1, hf1, hl, ⟨rfl, rfl⟩, rfl⟩
      revert i1 a1 ls
      induction n1 with
      | zero =>
        intro i1 a1 ls hi1 hf1 hl
        obtain rfl : 16 = i1 := by omega
        refine lv_iload hx hb dX2_printedLetter_56 (lv_at hl 0 rfl) ?_
        refine lv_bipush (v := 16) hx hb dX2_printedLetter_58 (by decide) ?_
        refine lv_icmp_ge (tgt := 145) hx hb dX2_printedLetter_60 (by decide) (fun c_4 => ?_) (fun c_4 => ?_)
        · refine lv_bipush (v := 48) hx hb dX2_printedLetter_145 (by decide) ?_
          have hq : (fX2_printedLetter T x x2) = (48, (fX2_is x).2) := Eq.symm ((show (48, (fX2_is x).2) = tX2_printedLetter_56 T x 0 16 a1 from by first | (symm; (rw [tX2_printedLetter_56]); first | done | rfl) | rfl).trans (hf1.trans hfo1))
          exact W.zret (v := 48) hx hb hr rfl (fun t9 ht hW => ⟨⟨48, (), rfl, by rw [hq], by rw [hq]; exact ⟨by rw [ht]; exact hP, hD⟩⟩, hS.F ht⟩) hS.2.2 dX2_printedLetter_147
        · exact absurd (nI_le (a := 16) (b := 16) (by omega) (by omega)) c_4
      | succ n1 ih1 =>
        intro i1 a1 ls hi1 hf1 hl
        refine lv_iload hx hb dX2_printedLetter_56 (lv_at hl 0 rfl) ?_
        refine lv_bipush (v := 16) hx hb dX2_printedLetter_58 (by decide) ?_
        refine lv_icmp_ge (tgt := 145) hx hb dX2_printedLetter_60 (by decide) (fun c_5 => ?_) (fun c_5 => ?_)
        · exact absurd c_5 (nI_ge (a := i1) (b := 16) (by omega) (by omega))
        · refine lv_iload_n hx hb dX2_printedLetter_63 rfl (lv_at hl 2 rfl) ?_
          refine lv_iload hx hb dX2_printedLetter_64 (lv_at hl 0 rfl) ?_
          refine lv_ishr hx hb dX2_printedLetter_66 ?_
          refine lv_iconst (v := 1) hx hb dX2_printedLetter_67 (by decide) ?_
          refine lv_iand hx hb dX2_printedLetter_68 ?_
          refine lv_iconst (v := 1) hx hb dX2_printedLetter_69 (by decide) ?_
          refine vz_cut (fun H1 l1 g1 => ∃ (x2_0 : Int32) (ls : Array Slot), x2_0 = (if (((if (fX2_is x).1 = 0 then 0 else (fX2_turned (T x.toNatClampNeg)) : Int32) >>> ((nI i1) &&& 31)) &&& 1) = 1 then 1 else 0 : Int32) ∧ lv_has ls 7 [(5, .int (nI i1)), (4, .int a1), (3, .int (if (fX2_is x).1 = 0 then 0 else (fX2_turned (T x.toNatClampNeg)) : Int32)), (0, .ref (q 0)), (1, .int x), (2, .int x2)] ∧ (H = H1 ∧ locs = l1) ∧ g1 = F0 m 78 ls [.int x2_0]) (fun hj2 => ?_) ?_
          · refine lv_icmp_ne (tgt := 77) hx hb dX2_printedLetter_70 (by decide) (fun c_6 => ?_) (fun c_6 => ?_)
            · refine lv_iconst (v := 0) hx hb dX2_printedLetter_77 (by decide) ?_
              exact hj2 _ _ _ ⟨0, ls, (by (rw [if_neg c_6]); first | done | rfl), lv_sub hl [0, 1, 2, 3, 4, 5] rfl, ⟨rfl, rfl⟩, rfl⟩
            · refine lv_iconst (v := 1) hx hb dX2_printedLetter_73 (by decide) ?_
              refine lv_goto (tgt := 78) hx hb dX2_printedLetter_74 (by decide) ?_
              exact hj2 _ _ _ ⟨1, ls, (by (rw [if_pos c_6]); first | done | rfl), lv_sub hl [0, 1, 2, 3, 4, 5] rfl, ⟨rfl, rfl⟩, rfl⟩
          rintro H1 l1 g1 ⟨x2_0, ls, ex2_0, hl, ⟨rfl, rfl⟩, rfl⟩
          subst x2_0
          refine lv_istore (lv' := [(6, .int (if (((if (fX2_is x).1 = 0 then 0 else (fX2_turned (T x.toNatClampNeg)) : Int32) >>> ((nI i1) &&& 31)) &&& 1) = 1 then 1 else 0 : Int32)), (5, .int (nI i1)), (4, .int a1), (3, .int (if (fX2_is x).1 = 0 then 0 else (fX2_turned (T x.toNatClampNeg)) : Int32)), (0, .ref (q 0)), (1, .int x), (2, .int x2)]) hx hb dX2_printedLetter_78 hl (by decide) rfl (fun ls hl => ?_)
          refine lv_iload hx hb dX2_printedLetter_80 (lv_at hl 0 rfl) ?_
          refine lv_if_eq (tgt := 118) hx hb dX2_printedLetter_82 (by decide) (fun c_7 => ?_) (fun c_7 => ?_)
          · refine lv_iload hx hb dX2_printedLetter_118 (lv_at hl 2 rfl) ?_
            refine lv_iload hx hb dX2_printedLetter_120 (lv_at hl 0 rfl) ?_
            refine vz_cut (fun H1 l1 g1 => ∃ (x3_0 : Int32) (ls : Array Slot), x3_0 = (if (if (((if (fX2_is x).1 = 0 then 0 else (fX2_turned (T x.toNatClampNeg)) : Int32) >>> ((nI i1) &&& 31)) &&& 1) = 1 then 1 else 0 : Int32) = 0 then 0 else ((fX2_letters (nI i1)) + 1) : Int32) ∧ lv_has ls 7 [(6, .int (if (((if (fX2_is x).1 = 0 then 0 else (fX2_turned (T x.toNatClampNeg)) : Int32) >>> ((nI i1) &&& 31)) &&& 1) = 1 then 1 else 0 : Int32)), (5, .int (nI i1)), (4, .int a1), (3, .int (if (fX2_is x).1 = 0 then 0 else (fX2_turned (T x.toNatClampNeg)) : Int32)), (0, .ref (q 0)), (1, .int x), (2, .int x2)] ∧ (H = H1 ∧ locs = l1) ∧ g1 = F0 m 136 ls [.int x3_0, .int a1]) (fun hj3 => ?_) ?_
            · refine lv_if_eq (tgt := 135) hx hb dX2_printedLetter_122 (by decide) (fun c_8 => ?_) (fun c_8 => ?_)
              · refine lv_iconst (v := 0) hx hb dX2_printedLetter_135 (by decide) ?_
                exact hj3 _ _ _ ⟨0, ls, (by (rw [if_pos c_8]); first | done | rfl), lv_sub hl [0, 1, 2, 3, 4, 5, 6] rfl, ⟨rfl, rfl⟩, rfl⟩
              · refine lv_iload hx hb dX2_printedLetter_125 (lv_at hl 1 rfl) ?_
                refine vp_callSi (va_Run.run (va_runS (As := [.int (nI i1)]) (rest := [.int a1]) ⟨hx, hb, hml, hown, hts⟩ (c_X2_letters l (nI i1)) (va_cwS 1 hts gX2_printedLetter_X2_letters rfl rfl rfl (by decide +kernel) ⟨Nat.le_of_ble_eq_true rfl, Nat.le_of_ble_eq_true rfl⟩) ⟨fun _ _ _ _ z => z, fun _ _ _ => ⟨rfl, trivial⟩⟩ rfl rfl hl.1 rfl (lv_room (Nat.le_of_ble_eq_true rfl)) dX2_printedLetter_127 ⟨(Nat.zero_le _), (Nat.zero_le _)⟩)) (fun r9 hr => ?_)
                subst r9
                refine lv_iconst (v := 1) hx hb dX2_printedLetter_130 (by decide) ?_
                refine lv_iadd hx hb dX2_printedLetter_131 ?_
                refine lv_goto (tgt := 136) hx hb dX2_printedLetter_132 (by decide) ?_
                exact hj3 _ _ _ ⟨((fX2_letters (nI i1)) + 1), ls, (by (rw [if_neg c_8]); first | done | rfl), lv_sub hl [0, 1, 2, 3, 4, 5, 6] rfl, ⟨rfl, rfl⟩, rfl⟩
            rintro H1 l1 g1 ⟨x3_0, ls, ex3_0, hl, ⟨rfl, rfl⟩, rfl⟩
            subst x3_0
            refine lv_isub hx hb dX2_printedLetter_136 ?_
            refine lv_istore (lv' := [(4, .int (a1 - (if (if (((if (fX2_is x).1 = 0 then 0 else (fX2_turned (T x.toNatClampNeg)) : Int32) >>> ((nI i1) &&& 31)) &&& 1) = 1 then 1 else 0 : Int32) = 0 then 0 else ((fX2_letters (nI i1)) + 1) : Int32))), (6, .int (if (((if (fX2_is x).1 = 0 then 0 else (fX2_turned (T x.toNatClampNeg)) : Int32) >>> ((nI i1) &&& 31)) &&& 1) = 1 then 1 else 0 : Int32)), (5, .int (nI i1)), (3, .int (if (fX2_is x).1 = 0 then 0 else (fX2_turned (T x.toNatClampNeg)) : Int32)), (0, .ref (q 0)), (1, .int x), (2, .int x2)]) hx hb dX2_printedLetter_137 hl (by decide) rfl (fun ls hl => ?_)
            refine lv_iinc (v := (nI (i1 + 1))) (lv' := [(5, .int (nI (i1 + 1))), (4, .int (a1 - (if (if (((if (fX2_is x).1 = 0 then 0 else (fX2_turned (T x.toNatClampNeg)) : Int32) >>> ((nI i1) &&& 31)) &&& 1) = 1 then 1 else 0 : Int32) = 0 then 0 else ((fX2_letters (nI i1)) + 1) : Int32))), (6, .int (if (((if (fX2_is x).1 = 0 then 0 else (fX2_turned (T x.toNatClampNeg)) : Int32) >>> ((nI i1) &&& 31)) &&& 1) = 1 then 1 else 0 : Int32)), (3, .int (if (fX2_is x).1 = 0 then 0 else (fX2_turned (T x.toNatClampNeg)) : Int32)), (0, .ref (q 0)), (1, .int x), (2, .int x2)]) hx hb dX2_printedLetter_139 hl (k := 2) rfl (by first | exact nI_add _ _ | rfl) (by decide) rfl (fun ls hl => ?_)
            refine lv_goto (tgt := 56) hx hb dX2_printedLetter_142 (by decide) ?_
            exact ih1 (i1 + 1) (a1 - (if (if (((if (fX2_is x).1 = 0 then 0 else (fX2_turned (T x.toNatClampNeg)) : Int32) >>> ((nI i1) &&& 31)) &&& 1) = 1 then 1 else 0 : Int32) = 0 then 0 else ((fX2_letters (nI i1)) + 1) : Int32)) ls (by omega) ((show tX2_printedLetter_56 T x n1 (i1 + 1) (a1 - (if (if (((if (fX2_is x).1 = 0 then 0 else (fX2_turned (T x.toNatClampNeg)) : Int32) >>> ((nI i1) &&& 31)) &&& 1) = 1 then 1 else 0 : Int32) = 0 then 0 else ((fX2_letters (nI i1)) + 1) : Int32)) = tX2_printedLetter_56 T x (n1 + 1) i1 a1 from by first | (symm; (rw [tX2_printedLetter_56, if_pos c_7]); first | done | rfl) | rfl).trans hf1) (lv_sub hl [0, 1, 3, 4, 5, 6] rfl)
          · refine lv_iload hx hb dX2_printedLetter_85 (lv_at hl 2 rfl) ?_
            refine lv_iload hx hb dX2_printedLetter_87 (lv_at hl 1 rfl) ?_
            refine vp_callSi (va_Run.run (va_runS (As := [.int (nI i1)]) (rest := [.int a1]) ⟨hx, hb, hml, hown, hts⟩ (c_X2_letters l (nI i1)) (va_cwS 1 hts gX2_printedLetter_X2_letters rfl rfl rfl (by decide +kernel) ⟨Nat.le_of_ble_eq_true rfl, Nat.le_of_ble_eq_true rfl⟩) ⟨fun _ _ _ _ z => z, fun _ _ _ => ⟨rfl, trivial⟩⟩ rfl rfl hl.1 rfl (lv_room (Nat.le_of_ble_eq_true rfl)) dX2_printedLetter_89 ⟨(Nat.zero_le _), (Nat.zero_le _)⟩)) (fun r9 hr => ?_)
            subst r9
            refine lv_icmp_gt (tgt := 118) hx hb dX2_printedLetter_92 (by decide) (fun c_9 => ?_) (fun c_9 => ?_)
            · refine lv_iload hx hb dX2_printedLetter_118 (lv_at hl 2 rfl) ?_
              refine lv_iload hx hb dX2_printedLetter_120 (lv_at hl 0 rfl) ?_
              refine vz_cut (fun H1 l1 g1 => ∃ (x4_0 : Int32) (ls : Array Slot), x4_0 = (if (if (((if (fX2_is x).1 = 0 then 0 else (fX2_turned (T x.toNatClampNeg)) : Int32) >>> ((nI i1) &&& 31)) &&& 1) = 1 then 1 else 0 : Int32) = 0 then 0 else ((fX2_letters (nI i1)) + 1) : Int32) ∧ lv_has ls 7 [(6, .int (if (((if (fX2_is x).1 = 0 then 0 else (fX2_turned (T x.toNatClampNeg)) : Int32) >>> ((nI i1) &&& 31)) &&& 1) = 1 then 1 else 0 : Int32)), (5, .int (nI i1)), (4, .int a1), (3, .int (if (fX2_is x).1 = 0 then 0 else (fX2_turned (T x.toNatClampNeg)) : Int32)), (0, .ref (q 0)), (1, .int x), (2, .int x2)] ∧ (H = H1 ∧ locs = l1) ∧ g1 = F0 m 136 ls [.int x4_0, .int a1]) (fun hj4 => ?_) ?_
              · refine lv_if_eq (tgt := 135) hx hb dX2_printedLetter_122 (by decide) (fun c_10 => ?_) (fun c_10 => ?_)
                · refine lv_iconst (v := 0) hx hb dX2_printedLetter_135 (by decide) ?_
                  exact hj4 _ _ _ ⟨0, ls, (by (rw [if_pos c_10]); first | done | rfl), lv_sub hl [0, 1, 2, 3, 4, 5, 6] rfl, ⟨rfl, rfl⟩, rfl⟩
                · refine lv_iload hx hb dX2_printedLetter_125 (lv_at hl 1 rfl) ?_
                  refine vp_callSi (va_Run.run (va_runS (As := [.int (nI i1)]) (rest := [.int a1]) ⟨hx, hb, hml, hown, hts⟩ (c_X2_letters l (nI i1)) (va_cwS 1 hts gX2_printedLetter_X2_letters rfl rfl rfl (by decide +kernel) ⟨Nat.le_of_ble_eq_true rfl, Nat.le_of_ble_eq_true rfl⟩) ⟨fun _ _ _ _ z => z, fun _ _ _ => ⟨rfl, trivial⟩⟩ rfl rfl hl.1 rfl (lv_room (Nat.le_of_ble_eq_true rfl)) dX2_printedLetter_127 ⟨(Nat.zero_le _), (Nat.zero_le _)⟩)) (fun r9 hr => ?_)
                  subst r9
                  refine lv_iconst (v := 1) hx hb dX2_printedLetter_130 (by decide) ?_
                  refine lv_iadd hx hb dX2_printedLetter_131 ?_
                  refine lv_goto (tgt := 136) hx hb dX2_printedLetter_132 (by decide) ?_
                  exact hj4 _ _ _ ⟨((fX2_letters (nI i1)) + 1), ls, (by (rw [if_neg c_10]); first | done | rfl), lv_sub hl [0, 1, 2, 3, 4, 5, 6] rfl, ⟨rfl, rfl⟩, rfl⟩
              rintro H1 l1 g1 ⟨x4_0, ls, ex4_0, hl, ⟨rfl, rfl⟩, rfl⟩
              subst x4_0
              refine lv_isub hx hb dX2_printedLetter_136 ?_
              refine lv_istore (lv' := [(4, .int (a1 - (if (if (((if (fX2_is x).1 = 0 then 0 else (fX2_turned (T x.toNatClampNeg)) : Int32) >>> ((nI i1) &&& 31)) &&& 1) = 1 then 1 else 0 : Int32) = 0 then 0 else ((fX2_letters (nI i1)) + 1) : Int32))), (6, .int (if (((if (fX2_is x).1 = 0 then 0 else (fX2_turned (T x.toNatClampNeg)) : Int32) >>> ((nI i1) &&& 31)) &&& 1) = 1 then 1 else 0 : Int32)), (5, .int (nI i1)), (3, .int (if (fX2_is x).1 = 0 then 0 else (fX2_turned (T x.toNatClampNeg)) : Int32)), (0, .ref (q 0)), (1, .int x), (2, .int x2)]) hx hb dX2_printedLetter_137 hl (by decide) rfl (fun ls hl => ?_)
              refine lv_iinc (v := (nI (i1 + 1))) (lv' := [(5, .int (nI (i1 + 1))), (4, .int (a1 - (if (if (((if (fX2_is x).1 = 0 then 0 else (fX2_turned (T x.toNatClampNeg)) : Int32) >>> ((nI i1) &&& 31)) &&& 1) = 1 then 1 else 0 : Int32) = 0 then 0 else ((fX2_letters (nI i1)) + 1) : Int32))), (6, .int (if (((if (fX2_is x).1 = 0 then 0 else (fX2_turned (T x.toNatClampNeg)) : Int32) >>> ((nI i1) &&& 31)) &&& 1) = 1 then 1 else 0 : Int32)), (3, .int (if (fX2_is x).1 = 0 then 0 else (fX2_turned (T x.toNatClampNeg)) : Int32)), (0, .ref (q 0)), (1, .int x), (2, .int x2)]) hx hb dX2_printedLetter_139 hl (k := 2) rfl (by first | exact nI_add _ _ | rfl) (by decide) rfl (fun ls hl => ?_)
              refine lv_goto (tgt := 56) hx hb dX2_printedLetter_142 (by decide) ?_
              exact ih1 (i1 + 1) (a1 - (if (if (((if (fX2_is x).1 = 0 then 0 else (fX2_turned (T x.toNatClampNeg)) : Int32) >>> ((nI i1) &&& 31)) &&& 1) = 1 then 1 else 0 : Int32) = 0 then 0 else ((fX2_letters (nI i1)) + 1) : Int32)) ls (by omega) ((show tX2_printedLetter_56 T x n1 (i1 + 1) (a1 - (if (if (((if (fX2_is x).1 = 0 then 0 else (fX2_turned (T x.toNatClampNeg)) : Int32) >>> ((nI i1) &&& 31)) &&& 1) = 1 then 1 else 0 : Int32) = 0 then 0 else ((fX2_letters (nI i1)) + 1) : Int32)) = tX2_printedLetter_56 T x (n1 + 1) i1 a1 from by first | (symm; (rw [tX2_printedLetter_56, if_neg c_7, if_pos c_9]); first | done | rfl) | rfl).trans hf1) (lv_sub hl [0, 1, 3, 4, 5, 6] rfl)
            · refine lv_iload hx hb dX2_printedLetter_95 (lv_at hl 2 rfl) ?_
              refine lv_iload hx hb dX2_printedLetter_97 (lv_at hl 1 rfl) ?_
              refine vp_callSi (va_Run.run (va_runS (As := [.int (nI i1)]) (rest := [.int a1]) ⟨hx, hb, hml, hown, hts⟩ (c_X2_letters l (nI i1)) (va_cwS 1 hts gX2_printedLetter_X2_letters rfl rfl rfl (by decide +kernel) ⟨Nat.le_of_ble_eq_true rfl, Nat.le_of_ble_eq_true rfl⟩) ⟨fun _ _ _ _ z => z, fun _ _ _ => ⟨rfl, trivial⟩⟩ rfl rfl hl.1 rfl (lv_room (Nat.le_of_ble_eq_true rfl)) dX2_printedLetter_99 ⟨(Nat.zero_le _), (Nat.zero_le _)⟩)) (fun r9 hr => ?_)
              subst r9
              refine lv_icmp_ne (tgt := 110) hx hb dX2_printedLetter_102 (by decide) (fun c_11 => ?_) (fun c_11 => ?_)
              · refine lv_iload hx hb dX2_printedLetter_110 (lv_at hl 1 rfl) ?_
                refine lv_iload hx hb dX2_printedLetter_112 (lv_at hl 2 rfl) ?_
                refine vp_callSi (va_Run.run (va_runS (As := [.int (nI i1), .int a1]) (rest := []) ⟨hx, hb, hml, hown, hts⟩ (c_X2_letter l (nI i1) a1) (va_cwS 2 hts gX2_printedLetter_X2_letter rfl rfl rfl (by decide +kernel) ⟨Nat.le_of_ble_eq_true rfl, Nat.le_of_ble_eq_true rfl⟩) ⟨fun _ _ _ _ z => z, fun _ _ _ => ⟨rfl, trivial⟩⟩ rfl rfl hl.1 rfl (lv_room (Nat.le_of_ble_eq_true rfl)) dX2_printedLetter_114 ⟨(Nat.zero_le _), (Nat.zero_le _)⟩)) (fun r9 hr => ?_)
                subst r9
                have hq : (fX2_printedLetter T x x2) = ((fX2_letter (nI i1) a1), (fX2_is x).2) := Eq.symm ((show ((fX2_letter (nI i1) a1), (fX2_is x).2) = tX2_printedLetter_56 T x (n1 + 1) i1 a1 from by first | (symm; (rw [tX2_printedLetter_56, if_neg c_7, if_neg c_9, if_neg c_11]); first | done | rfl) | rfl).trans (hf1.trans hfo1))
                exact W.zret (v := (fX2_letter (nI i1) a1)) hx hb hr (fX2_letter_nar _ _) (fun t9 ht hW => ⟨⟨(fX2_letter (nI i1) a1), (), rfl, by rw [hq], by rw [hq]; exact ⟨by rw [ht]; exact hP, hD⟩⟩, hS.F ht⟩) hS.2.2 dX2_printedLetter_117
              · refine lv_bipush (v := 43) hx hb dX2_printedLetter_105 (by decide) ?_
                refine lv_goto (tgt := 117) hx hb dX2_printedLetter_107 (by decide) ?_
                have hq : (fX2_printedLetter T x x2) = (43, (fX2_is x).2) := Eq.symm ((show (43, (fX2_is x).2) = tX2_printedLetter_56 T x (n1 + 1) i1 a1 from by first | (symm; (rw [tX2_printedLetter_56, if_neg c_7, if_neg c_9, if_pos c_11]); first | done | rfl) | rfl).trans (hf1.trans hfo1))
                exact W.zret (v := 43) hx hb hr rfl (fun t9 ht hW => ⟨⟨43, (), rfl, by rw [hq], by rw [hq]; exact ⟨by rw [ht]; exact hP, hD⟩⟩, hS.F ht⟩) hS.2.2 dX2_printedLetter_117
    · refine lv_aload_n hx hb dX2_printedLetter_43 rfl (lv_at hl 1 rfl) ?_
      refine lv_iconst (v := 1) hx hb dX2_printedLetter_44 (by decide) ?_
      refine va_put (D := D) (ci := 2) (v := .int 1) (ty := .int) (C := RX2) (T := TX2) (N := 10) hx hb hts in_X2_printedLetter_X2 tyX2 tyX2_ok nmX2 hown hK hP hD hS 0 rfl rfl 7 (by decide) (hts (.fieldLink RX2 27 "ZhegalkinBenchModel" "thrown" "I") (List.mem_of_getElem? (i := 2) rfl)) (fun _ h9 => h9) rfl (by decide +kernel) rfl rfl (Nat.le_of_ble_eq_true rfl) dX2_printedLetter_45 (fun H locs hP hD hS => ?_)
      have hP : va_P D vwCl (wM q cq T R S X n h k 1 a o) H := hP
      have hD : va_D A (wM q cq T R S X n h k 1 a o) := hD
      refine lv_iconst (v := 0) hx hb dX2_printedLetter_48 (by decide) ?_
      have hq : (fX2_printedLetter T x x2) = (0, 1) := Eq.symm (by first | ((rw [fX2_printedLetter, if_neg c_2, if_pos c_3]); first | done | rfl) | rfl)
      exact W.zret (v := 0) hx hb hr rfl (fun t9 ht hW => ⟨⟨0, (), rfl, by rw [hq], by rw [hq]; exact ⟨by rw [ht]; exact hP, hD⟩⟩, hS.F ht⟩) hS.2.2 dX2_printedLetter_49
theorem in_X2_enough_X2 : ∀ w ∈ wsX20, w ∈ wsX2_enough := by decide +kernel
def sX2_enough_4 (T : Nat → Int32) (x : Int32) (i1 : Nat) (a1 : Int32) : Int32 := if ((x >>> ((nI i1) &&& 31)) &&& 1) = 1 then (((((a1 ||| (if ((T i1) &&& 1) = 1 then 1 else 0 : Int32)) ||| (if (((T i1) >>> ((15 : Int32) &&& 31)) &&& 1) = 0 then 2 else 0 : Int32)) ||| (if (fX2_selfDual (T i1)) = 0 then 4 else 0 : Int32)) ||| (if (fX2_monotone (T i1)) = 0 then 8 else 0 : Int32)) ||| (if (fX2_degree (T i1)) ≤ 1 then 0 else 16 : Int32)) else a1
def fX2_enough (T : Nat → Int32) (x : Int32) : Int32 := if (lp (sX2_enough_4 T x) 6 0 0) = 31 then 1 else 0
set_option maxHeartbeats 4000000 in
set_option maxRecDepth 100000 in
theorem c_X2_enough (l : Launch) (D : va_G) (q : Nat → Nat) (cq : Nat → ClassId) (T : Nat → Int32) (R : Nat → Int32) (S : Nat → Int32) (X : Nat → Int32) (n : Int32) (h : Int32) (k : Int32) (th : Int32) (a : Int32) (o : Int32) (x : Int32) : Met l yX2_enough wsX2_enough ({ frames := 2, cells := 0, slots := 0, locals := 47 }) (va_Pc [.ref (q 0), .int x] (fun U => va_P D vwCl (wM q cq T R S X n h k th a o) U.heap ∧ va_K D vwCl (tyM cq) U ∧ env0 U)) (vp_Si (fun r9 => r9 = (fX2_enough T x))) 0 0 (fun _ => False) := by
  refine Met.ofW (cc := cX2_enough) (maxL := 5) (ret := (some .boolean)) (by decide) rfl ?_
  intro p e s m args below meth c s₁ B hml hv
  obtain ⟨rfl, hP, hK, hE⟩ := hv
  have hx := B.exec
  have hb := B.bytes
  have hr := B.returns
  have hts := atoms_spec (ws := wsX2_enough) B.pre
  have hown : s.vm.findClass RX2 = some m.cls := findClass_of_methodNamed B.named
  have hlocks := B.notSynchronized
  have hS : va_S (fun _ => False) s.heap s.heap [] := va_S.rf
  have hP : va_P D vwCl (wM q cq T R S X n h k th a o) s.heap := hP
  have hl := lv_entry ([.ref (q 0), .int x]) (n := 5) (Nat.le_of_ble_eq_true rfl)
  rw [lg_entry_eq]
  generalize (lg_sl ([.ref (q 0), .int x]) ++ List.replicate (5 - (lg_sl ([.ref (q 0), .int x])).length) Slot.unset).toArray = ls at hl ⊢
  have hl : lv_has ls 5 [(0, .ref (q 0)), (1, .int x)] := hl
  refine lv_iconst (v := 0) hx hb dX2_enough_0 (by decide) ?_
  refine lv_istore_n (lv' := [(2, .int 0), (0, .ref (q 0)), (1, .int x)]) hx hb dX2_enough_1 rfl hl (by decide) rfl (fun ls hl => ?_)
  refine lv_iconst (v := 0) hx hb dX2_enough_2 (by decide) ?_
  refine lv_istore_n (lv' := [(3, .int 0), (2, .int 0), (0, .ref (q 0)), (1, .int x)]) hx hb dX2_enough_3 rfl hl (by decide) rfl (fun ls hl => ?_)
  obtain ⟨F1, hF1⟩ : ∃ z9, z9 = (lp (sX2_enough_4 T x) 6 0 0) := ⟨_, rfl⟩
  refine vz_cut (fun H1 l1 g1 => ∃ (n1 i1 : Nat) (a1 : Int32) (ls : Array Slot), i1 + n1 = 6 ∧ lp (sX2_enough_4 T x) n1 i1 a1 = F1 ∧ lv_has ls 5 [(3, .int (nI i1)), (2, .int a1), (0, .ref (q 0)), (1, .int x)] ∧ (s.heap = H1 ∧ [] = l1) ∧ g1 = F0 m 4 ls []) (fun hj => hj _ _ _ ⟨6, 0, 0, ls, (by omega), hF1.symm, lv_sub hl [0, 1, 2, 3] rfl, ⟨rfl, rfl⟩, rfl⟩) ?_
  rintro H1 l1 g1 ⟨n1, i1, a1, ls, hi1, hf1, hl, ⟨rfl, rfl⟩, rfl⟩
  revert i1 a1 ls
  induction n1 with
  | zero =>
    intro i1 a1 ls hi1 hf1 hl
    obtain rfl : 6 = i1 := by omega
    have hf1 : F1 = a1 := hf1.symm
    subst hf1
    refine lv_iload_n hx hb dX2_enough_4 rfl (lv_at hl 0 rfl) ?_
    refine lv_bipush (v := 6) hx hb dX2_enough_5 (by decide) ?_
    refine lv_icmp_ge (tgt := 118) hx hb dX2_enough_7 (by decide) (fun c_1 => ?_) (fun c_1 => ?_)
    · refine lv_iload_n hx hb dX2_enough_118 rfl (lv_at hl 1 rfl) ?_
      refine lv_bipush (v := 31) hx hb dX2_enough_119 (by decide) ?_
      refine lv_icmp_ne (tgt := 128) hx hb dX2_enough_121 (by decide) (fun c_2 => ?_) (fun c_2 => ?_)
      · refine lv_iconst (v := 0) hx hb dX2_enough_128 (by decide) ?_
        exact W.zret (v := 0) hx hb hr rfl (fun t9 ht hW => ⟨0, rfl, (by first | ((rw [fX2_enough]); (try rw [← hF1]); (first | done | rw [if_neg c_2]); first | done | rfl) | rfl), ht⟩) (fun q h => nomatch h) dX2_enough_129
      · refine lv_iconst (v := 1) hx hb dX2_enough_124 (by decide) ?_
        refine lv_goto (tgt := 129) hx hb dX2_enough_125 (by decide) ?_
        exact W.zret (v := 1) hx hb hr rfl (fun t9 ht hW => ⟨1, rfl, (by first | ((rw [fX2_enough]); (try rw [← hF1]); (first | done | rw [if_pos c_2]); first | done | rfl) | rfl), ht⟩) (fun q h => nomatch h) dX2_enough_129
    · exact absurd (nI_le (a := 6) (b := 6) (by omega) (by omega)) c_1
  | succ n1 ih1 =>
    intro i1 a1 ls hi1 hf1 hl
    refine lv_iload_n hx hb dX2_enough_4 rfl (lv_at hl 0 rfl) ?_
    refine lv_bipush (v := 6) hx hb dX2_enough_5 (by decide) ?_
    refine lv_icmp_ge (tgt := 118) hx hb dX2_enough_7 (by decide) (fun c_3 => ?_) (fun c_3 => ?_)
    · exact absurd c_3 (nI_ge (a := i1) (b := 6) (by omega) (by omega))
    · refine lv_iload_n hx hb dX2_enough_10 rfl (lv_at hl 3 rfl) ?_
      refine lv_iload_n hx hb dX2_enough_11 rfl (lv_at hl 0 rfl) ?_
      refine lv_ishr hx hb dX2_enough_12 ?_
      refine lv_iconst (v := 1) hx hb dX2_enough_13 (by decide) ?_
      refine lv_iand hx hb dX2_enough_14 ?_
      refine lv_iconst (v := 1) hx hb dX2_enough_15 (by decide) ?_
      refine lv_icmp_ne (tgt := 112) hx hb dX2_enough_16 (by decide) (fun c_4 => ?_) (fun c_4 => ?_)
      · refine lv_iinc (v := (nI (i1 + 1))) (lv' := [(3, .int (nI (i1 + 1))), (2, .int a1), (0, .ref (q 0)), (1, .int x)]) hx hb dX2_enough_112 hl (k := 0) rfl (by first | exact nI_add _ _ | rfl) (by decide) rfl (fun ls hl => ?_)
        refine lv_goto (tgt := 4) hx hb dX2_enough_115 (by decide) ?_
        exact ih1 (i1 + 1) a1 ls (by omega) ((congrArg (lp (sX2_enough_4 T x) n1 (i1 + 1)) (show a1 = (sX2_enough_4 T x) i1 a1 from by first | ((rw [sX2_enough_4, if_neg c_4]); first | done | rfl) | rfl)).trans hf1) (lv_sub hl [0, 1, 2, 3] rfl)
      · refine lv_aload_n hx hb dX2_enough_19 rfl (lv_at hl 2 rfl) ?_
        refine va_get (D := D) (ci := 2) (v := .ref (q 1)) (C := RX2) (T := TX2) (N := 10) hx hb hts in_X2_enough_X2 hown hK hP 0 rfl rfl 0 (by decide) (hts (.fieldLink RX2 7 "ZhegalkinBenchModel" "now" "[I") (List.mem_of_getElem? (i := 1) rfl)) (fun _ h9 => h9) rfl dX2_enough_20 ?_
        refine lv_iload_n hx hb dX2_enough_23 rfl (lv_at hl 0 rfl) ?_
        refine vz_iald hx hb hK hP 1 0 rfl rfl i1 (by omega) (by decide) dX2_enough_24 ?_
        refine lv_istore (lv' := [(4, .int (T i1)), (3, .int (nI i1)), (2, .int a1), (0, .ref (q 0)), (1, .int x)]) hx hb dX2_enough_25 hl (by decide) rfl (fun ls hl => ?_)
        refine lv_iload_n hx hb dX2_enough_27 rfl (lv_at hl 2 rfl) ?_
        refine lv_iload hx hb dX2_enough_28 (lv_at hl 0 rfl) ?_
        refine lv_iconst (v := 1) hx hb dX2_enough_30 (by decide) ?_
        refine lv_iand hx hb dX2_enough_31 ?_
        refine lv_iconst (v := 1) hx hb dX2_enough_32 (by decide) ?_
        refine vz_cut (fun H1 l1 g1 => ∃ (x1_0 : Int32) (ls : Array Slot), x1_0 = (if ((T i1) &&& 1) = 1 then 1 else 0 : Int32) ∧ lv_has ls 5 [(4, .int (T i1)), (3, .int (nI i1)), (2, .int a1), (0, .ref (q 0)), (1, .int x)] ∧ (s.heap = H1 ∧ [] = l1) ∧ g1 = F0 m 41 ls [.int x1_0, .int a1]) (fun hj1 => ?_) ?_
        · refine lv_icmp_ne (tgt := 40) hx hb dX2_enough_33 (by decide) (fun c_5 => ?_) (fun c_5 => ?_)
          · refine lv_iconst (v := 0) hx hb dX2_enough_40 (by decide) ?_
            exact hj1 _ _ _ ⟨0, ls, (by (rw [if_neg c_5]); first | done | rfl), lv_sub hl [0, 1, 2, 3, 4] rfl, ⟨rfl, rfl⟩, rfl⟩
          · refine lv_iconst (v := 1) hx hb dX2_enough_36 (by decide) ?_
            refine lv_goto (tgt := 41) hx hb dX2_enough_37 (by decide) ?_
            exact hj1 _ _ _ ⟨1, ls, (by (rw [if_pos c_5]); first | done | rfl), lv_sub hl [0, 1, 2, 3, 4] rfl, ⟨rfl, rfl⟩, rfl⟩
        rintro H1 l1 g1 ⟨x1_0, ls, ex1_0, hl, ⟨rfl, rfl⟩, rfl⟩
        subst x1_0
        refine lv_ior hx hb dX2_enough_41 ?_
        refine lv_istore_n (lv' := [(2, .int (a1 ||| (if ((T i1) &&& 1) = 1 then 1 else 0 : Int32))), (4, .int (T i1)), (3, .int (nI i1)), (0, .ref (q 0)), (1, .int x)]) hx hb dX2_enough_42 rfl hl (by decide) rfl (fun ls hl => ?_)
        refine lv_iload_n hx hb dX2_enough_43 rfl (lv_at hl 0 rfl) ?_
        refine lv_iload hx hb dX2_enough_44 (lv_at hl 1 rfl) ?_
        refine lv_bipush (v := 15) hx hb dX2_enough_46 (by decide) ?_
        refine lv_ishr hx hb dX2_enough_48 ?_
        refine lv_iconst (v := 1) hx hb dX2_enough_49 (by decide) ?_
        refine lv_iand hx hb dX2_enough_50 ?_
        refine vz_cut (fun H1 l1 g1 => ∃ (x2_0 : Int32) (ls : Array Slot), x2_0 = (if (((T i1) >>> ((15 : Int32) &&& 31)) &&& 1) = 0 then 2 else 0 : Int32) ∧ lv_has ls 5 [(2, .int (a1 ||| (if ((T i1) &&& 1) = 1 then 1 else 0 : Int32))), (4, .int (T i1)), (3, .int (nI i1)), (0, .ref (q 0)), (1, .int x)] ∧ (s.heap = H1 ∧ [] = l1) ∧ g1 = F0 m 59 ls [.int x2_0, .int (a1 ||| (if ((T i1) &&& 1) = 1 then 1 else 0 : Int32))]) (fun hj2 => ?_) ?_
        · refine lv_if_ne (tgt := 58) hx hb dX2_enough_51 (by decide) (fun c_6 => ?_) (fun c_6 => ?_)
          · refine lv_iconst (v := 0) hx hb dX2_enough_58 (by decide) ?_
            exact hj2 _ _ _ ⟨0, ls, (by (rw [if_neg c_6]); first | done | rfl), lv_sub hl [0, 1, 2, 3, 4] rfl, ⟨rfl, rfl⟩, rfl⟩
          · refine lv_iconst (v := 2) hx hb dX2_enough_54 (by decide) ?_
            refine lv_goto (tgt := 59) hx hb dX2_enough_55 (by decide) ?_
            exact hj2 _ _ _ ⟨2, ls, (by (rw [if_pos c_6]); first | done | rfl), lv_sub hl [0, 1, 2, 3, 4] rfl, ⟨rfl, rfl⟩, rfl⟩
        rintro H1 l1 g1 ⟨x2_0, ls, ex2_0, hl, ⟨rfl, rfl⟩, rfl⟩
        subst x2_0
        refine lv_ior hx hb dX2_enough_59 ?_
        refine lv_istore_n (lv' := [(2, .int ((a1 ||| (if ((T i1) &&& 1) = 1 then 1 else 0 : Int32)) ||| (if (((T i1) >>> ((15 : Int32) &&& 31)) &&& 1) = 0 then 2 else 0 : Int32))), (4, .int (T i1)), (3, .int (nI i1)), (0, .ref (q 0)), (1, .int x)]) hx hb dX2_enough_60 rfl hl (by decide) rfl (fun ls hl => ?_)
        refine lv_iload_n hx hb dX2_enough_61 rfl (lv_at hl 0 rfl) ?_
        refine lv_iload hx hb dX2_enough_62 (lv_at hl 1 rfl) ?_
        refine vp_callSi (va_Run.run (va_runS (As := [.int (T i1)]) (rest := [.int ((a1 ||| (if ((T i1) &&& 1) = 1 then 1 else 0 : Int32)) ||| (if (((T i1) >>> ((15 : Int32) &&& 31)) &&& 1) = 0 then 2 else 0 : Int32))]) ⟨hx, hb, hml, hown, hts⟩ (c_X2_selfDual l (T i1)) (va_cwS 1 hts gX2_enough_X2_selfDual rfl rfl rfl (by decide +kernel) ⟨Nat.le_of_ble_eq_true rfl, Nat.le_of_ble_eq_true rfl⟩) ⟨fun _ _ _ _ z => z, fun _ _ _ => ⟨rfl, trivial⟩⟩ rfl rfl hl.1 rfl (lv_room (Nat.le_of_ble_eq_true rfl)) dX2_enough_64 ⟨(Nat.zero_le _), (Nat.zero_le _)⟩)) (fun r9 hr => ?_)
        subst r9
        refine vz_cut (fun H1 l1 g1 => ∃ (x3_0 : Int32) (ls : Array Slot), x3_0 = (if (fX2_selfDual (T i1)) = 0 then 4 else 0 : Int32) ∧ lv_has ls 5 [(2, .int ((a1 ||| (if ((T i1) &&& 1) = 1 then 1 else 0 : Int32)) ||| (if (((T i1) >>> ((15 : Int32) &&& 31)) &&& 1) = 0 then 2 else 0 : Int32))), (4, .int (T i1)), (3, .int (nI i1)), (0, .ref (q 0)), (1, .int x)] ∧ (s.heap = H1 ∧ [] = l1) ∧ g1 = F0 m 75 ls [.int x3_0, .int ((a1 ||| (if ((T i1) &&& 1) = 1 then 1 else 0 : Int32)) ||| (if (((T i1) >>> ((15 : Int32) &&& 31)) &&& 1) = 0 then 2 else 0 : Int32))]) (fun hj3 => ?_) ?_
        · refine lv_if_eq (tgt := 74) hx hb dX2_enough_67 (by decide) (fun c_7 => ?_) (fun c_7 => ?_)
          · refine lv_iconst (v := 4) hx hb dX2_enough_74 (by decide) ?_
            exact hj3 _ _ _ ⟨4, ls, (by (rw [if_pos c_7]); first | done | rfl), lv_sub hl [0, 1, 2, 3, 4] rfl, ⟨rfl, rfl⟩, rfl⟩
          · refine lv_iconst (v := 0) hx hb dX2_enough_70 (by decide) ?_
            refine lv_goto (tgt := 75) hx hb dX2_enough_71 (by decide) ?_
            exact hj3 _ _ _ ⟨0, ls, (by (rw [if_neg c_7]); first | done | rfl), lv_sub hl [0, 1, 2, 3, 4] rfl, ⟨rfl, rfl⟩, rfl⟩
        rintro H1 l1 g1 ⟨x3_0, ls, ex3_0, hl, ⟨rfl, rfl⟩, rfl⟩
        subst x3_0
        refine lv_ior hx hb dX2_enough_75 ?_
        refine lv_istore_n (lv' := [(2, .int (((a1 ||| (if ((T i1) &&& 1) = 1 then 1 else 0 : Int32)) ||| (if (((T i1) >>> ((15 : Int32) &&& 31)) &&& 1) = 0 then 2 else 0 : Int32)) ||| (if (fX2_selfDual (T i1)) = 0 then 4 else 0 : Int32))), (4, .int (T i1)), (3, .int (nI i1)), (0, .ref (q 0)), (1, .int x)]) hx hb dX2_enough_76 rfl hl (by decide) rfl (fun ls hl => ?_)
        refine lv_iload_n hx hb dX2_enough_77 rfl (lv_at hl 0 rfl) ?_
        refine lv_iload hx hb dX2_enough_78 (lv_at hl 1 rfl) ?_
        refine vp_callSi (va_Run.run (va_runS (As := [.int (T i1)]) (rest := [.int (((a1 ||| (if ((T i1) &&& 1) = 1 then 1 else 0 : Int32)) ||| (if (((T i1) >>> ((15 : Int32) &&& 31)) &&& 1) = 0 then 2 else 0 : Int32)) ||| (if (fX2_selfDual (T i1)) = 0 then 4 else 0 : Int32))]) ⟨hx, hb, hml, hown, hts⟩ (c_X2_monotone l (T i1)) (va_cwS 1 hts gX2_enough_X2_monotone rfl rfl rfl (by decide +kernel) ⟨Nat.le_of_ble_eq_true rfl, Nat.le_of_ble_eq_true rfl⟩) ⟨fun _ _ _ _ z => z, fun _ _ _ => ⟨rfl, trivial⟩⟩ rfl rfl hl.1 rfl (lv_room (Nat.le_of_ble_eq_true rfl)) dX2_enough_80 ⟨(Nat.zero_le _), (Nat.zero_le _)⟩)) (fun r9 hr => ?_)
        subst r9
        refine vz_cut (fun H1 l1 g1 => ∃ (x4_0 : Int32) (ls : Array Slot), x4_0 = (if (fX2_monotone (T i1)) = 0 then 8 else 0 : Int32) ∧ lv_has ls 5 [(2, .int (((a1 ||| (if ((T i1) &&& 1) = 1 then 1 else 0 : Int32)) ||| (if (((T i1) >>> ((15 : Int32) &&& 31)) &&& 1) = 0 then 2 else 0 : Int32)) ||| (if (fX2_selfDual (T i1)) = 0 then 4 else 0 : Int32))), (4, .int (T i1)), (3, .int (nI i1)), (0, .ref (q 0)), (1, .int x)] ∧ (s.heap = H1 ∧ [] = l1) ∧ g1 = F0 m 92 ls [.int x4_0, .int (((a1 ||| (if ((T i1) &&& 1) = 1 then 1 else 0 : Int32)) ||| (if (((T i1) >>> ((15 : Int32) &&& 31)) &&& 1) = 0 then 2 else 0 : Int32)) ||| (if (fX2_selfDual (T i1)) = 0 then 4 else 0 : Int32))]) (fun hj4 => ?_) ?_
        · refine lv_if_eq (tgt := 90) hx hb dX2_enough_83 (by decide) (fun c_8 => ?_) (fun c_8 => ?_)
          · refine lv_bipush (v := 8) hx hb dX2_enough_90 (by decide) ?_
            exact hj4 _ _ _ ⟨8, ls, (by (rw [if_pos c_8]); first | done | rfl), lv_sub hl [0, 1, 2, 3, 4] rfl, ⟨rfl, rfl⟩, rfl⟩
          · refine lv_iconst (v := 0) hx hb dX2_enough_86 (by decide) ?_
            refine lv_goto (tgt := 92) hx hb dX2_enough_87 (by decide) ?_
            exact hj4 _ _ _ ⟨0, ls, (by (rw [if_neg c_8]); first | done | rfl), lv_sub hl [0, 1, 2, 3, 4] rfl, ⟨rfl, rfl⟩, rfl⟩
        rintro H1 l1 g1 ⟨x4_0, ls, ex4_0, hl, ⟨rfl, rfl⟩, rfl⟩
        subst x4_0
        refine lv_ior hx hb dX2_enough_92 ?_
        refine lv_istore_n (lv' := [(2, .int ((((a1 ||| (if ((T i1) &&& 1) = 1 then 1 else 0 : Int32)) ||| (if (((T i1) >>> ((15 : Int32) &&& 31)) &&& 1) = 0 then 2 else 0 : Int32)) ||| (if (fX2_selfDual (T i1)) = 0 then 4 else 0 : Int32)) ||| (if (fX2_monotone (T i1)) = 0 then 8 else 0 : Int32))), (4, .int (T i1)), (3, .int (nI i1)), (0, .ref (q 0)), (1, .int x)]) hx hb dX2_enough_93 rfl hl (by decide) rfl (fun ls hl => ?_)
        refine lv_iload_n hx hb dX2_enough_94 rfl (lv_at hl 0 rfl) ?_
        refine lv_iload hx hb dX2_enough_95 (lv_at hl 1 rfl) ?_
        refine vp_callSi (va_Run.run (va_runS (As := [.int (T i1)]) (rest := [.int ((((a1 ||| (if ((T i1) &&& 1) = 1 then 1 else 0 : Int32)) ||| (if (((T i1) >>> ((15 : Int32) &&& 31)) &&& 1) = 0 then 2 else 0 : Int32)) ||| (if (fX2_selfDual (T i1)) = 0 then 4 else 0 : Int32)) ||| (if (fX2_monotone (T i1)) = 0 then 8 else 0 : Int32))]) ⟨hx, hb, hml, hown, hts⟩ (c_X2_degree l (T i1)) (va_cwS 1 hts gX2_enough_X2_degree rfl rfl rfl (by decide +kernel) ⟨Nat.le_of_ble_eq_true rfl, Nat.le_of_ble_eq_true rfl⟩) ⟨fun _ _ _ _ z => z, fun _ _ _ => ⟨rfl, trivial⟩⟩ rfl rfl hl.1 rfl (lv_room (Nat.le_of_ble_eq_true rfl)) dX2_enough_97 ⟨(Nat.zero_le _), (Nat.zero_le _)⟩)) (fun r9 hr => ?_)
        subst r9
        refine lv_iconst (v := 1) hx hb dX2_enough_100 (by decide) ?_
        refine vz_cut (fun H1 l1 g1 => ∃ (x5_0 : Int32) (ls : Array Slot), x5_0 = (if (fX2_degree (T i1)) ≤ 1 then 0 else 16 : Int32) ∧ lv_has ls 5 [(2, .int ((((a1 ||| (if ((T i1) &&& 1) = 1 then 1 else 0 : Int32)) ||| (if (((T i1) >>> ((15 : Int32) &&& 31)) &&& 1) = 0 then 2 else 0 : Int32)) ||| (if (fX2_selfDual (T i1)) = 0 then 4 else 0 : Int32)) ||| (if (fX2_monotone (T i1)) = 0 then 8 else 0 : Int32))), (4, .int (T i1)), (3, .int (nI i1)), (0, .ref (q 0)), (1, .int x)] ∧ (s.heap = H1 ∧ [] = l1) ∧ g1 = F0 m 110 ls [.int x5_0, .int ((((a1 ||| (if ((T i1) &&& 1) = 1 then 1 else 0 : Int32)) ||| (if (((T i1) >>> ((15 : Int32) &&& 31)) &&& 1) = 0 then 2 else 0 : Int32)) ||| (if (fX2_selfDual (T i1)) = 0 then 4 else 0 : Int32)) ||| (if (fX2_monotone (T i1)) = 0 then 8 else 0 : Int32))]) (fun hj5 => ?_) ?_
        · refine lv_icmp_le (tgt := 109) hx hb dX2_enough_101 (by decide) (fun c_9 => ?_) (fun c_9 => ?_)
          · refine lv_iconst (v := 0) hx hb dX2_enough_109 (by decide) ?_
            exact hj5 _ _ _ ⟨0, ls, (by (rw [if_pos c_9]); first | done | rfl), lv_sub hl [0, 1, 2, 3, 4] rfl, ⟨rfl, rfl⟩, rfl⟩
          · refine lv_bipush (v := 16) hx hb dX2_enough_104 (by decide) ?_
            refine lv_goto (tgt := 110) hx hb dX2_enough_106 (by decide) ?_
            exact hj5 _ _ _ ⟨16, ls, (by (rw [if_neg c_9]); first | done | rfl), lv_sub hl [0, 1, 2, 3, 4] rfl, ⟨rfl, rfl⟩, rfl⟩
        rintro H1 l1 g1 ⟨x5_0, ls, ex5_0, hl, ⟨rfl, rfl⟩, rfl⟩
        subst x5_0
        refine lv_ior hx hb dX2_enough_110 ?_
        refine lv_istore_n (lv' := [(2, .int (((((a1 ||| (if ((T i1) &&& 1) = 1 then 1 else 0 : Int32)) ||| (if (((T i1) >>> ((15 : Int32) &&& 31)) &&& 1) = 0 then 2 else 0 : Int32)) ||| (if (fX2_selfDual (T i1)) = 0 then 4 else 0 : Int32)) ||| (if (fX2_monotone (T i1)) = 0 then 8 else 0 : Int32)) ||| (if (fX2_degree (T i1)) ≤ 1 then 0 else 16 : Int32))), (4, .int (T i1)), (3, .int (nI i1)), (0, .ref (q 0)), (1, .int x)]) hx hb dX2_enough_111 rfl hl (by decide) rfl (fun ls hl => ?_)
        refine lv_iinc (v := (nI (i1 + 1))) (lv' := [(3, .int (nI (i1 + 1))), (2, .int (((((a1 ||| (if ((T i1) &&& 1) = 1 then 1 else 0 : Int32)) ||| (if (((T i1) >>> ((15 : Int32) &&& 31)) &&& 1) = 0 then 2 else 0 : Int32)) ||| (if (fX2_selfDual (T i1)) = 0 then 4 else 0 : Int32)) ||| (if (fX2_monotone (T i1)) = 0 then 8 else 0 : Int32)) ||| (if (fX2_degree (T i1)) ≤ 1 then 0 else 16 : Int32))), (4, .int (T i1)), (0, .ref (q 0)), (1, .int x)]) hx hb dX2_enough_112 hl (k := 2) rfl (by first | exact nI_add _ _ | rfl) (by decide) rfl (fun ls hl => ?_)
        refine lv_goto (tgt := 4) hx hb dX2_enough_115 (by decide) ?_
        exact ih1 (i1 + 1) (((((a1 ||| (if ((T i1) &&& 1) = 1 then 1 else 0 : Int32)) ||| (if (((T i1) >>> ((15 : Int32) &&& 31)) &&& 1) = 0 then 2 else 0 : Int32)) ||| (if (fX2_selfDual (T i1)) = 0 then 4 else 0 : Int32)) ||| (if (fX2_monotone (T i1)) = 0 then 8 else 0 : Int32)) ||| (if (fX2_degree (T i1)) ≤ 1 then 0 else 16 : Int32)) ls (by omega) ((congrArg (lp (sX2_enough_4 T x) n1 (i1 + 1)) (show (((((a1 ||| (if ((T i1) &&& 1) = 1 then 1 else 0 : Int32)) ||| (if (((T i1) >>> ((15 : Int32) &&& 31)) &&& 1) = 0 then 2 else 0 : Int32)) ||| (if (fX2_selfDual (T i1)) = 0 then 4 else 0 : Int32)) ||| (if (fX2_monotone (T i1)) = 0 then 8 else 0 : Int32)) ||| (if (fX2_degree (T i1)) ≤ 1 then 0 else 16 : Int32)) = (sX2_enough_4 T x) i1 a1 from by first | ((rw [sX2_enough_4, if_pos c_4]); first | done | rfl) | rfl)).trans hf1) (lv_sub hl [0, 1, 3, 4] rfl)
theorem in_X2_areEnough_X2 : ∀ w ∈ wsX20, w ∈ wsX2_areEnough := by decide +kernel
def fX2_areEnough (T : Nat → Int32) (x : Int32) : Int32 × Int32 := if (fX2_in x 1 63) = 0 then (0, 1) else (if (fX2_enough T x) = 0 then (0, 0) else (1, 0))
set_option maxHeartbeats 4000000 in
set_option maxRecDepth 100000 in
theorem c_X2_areEnough (l : Launch) (D : va_G) (q : Nat → Nat) (cq : Nat → ClassId) (sz : Nat) (T : Nat → Int32) (R : Nat → Int32) (S : Nat → Int32) (X : Nat → Int32) (n : Int32) (h : Int32) (k : Int32) (th : Int32) (a : Int32) (o : Int32) (x : Int32) : Met l yX2_areEnough wsX2_areEnough ({ frames := 3, cells := 0, slots := 0, locals := 71 }) (va_Pc [.ref (q 0), .int x] (fun U => U.heap.size = sz ∧ va_P D vwCl (wM q cq T R S X n h k th a o) U.heap ∧ va_K D vwCl (tyM cq) U ∧ va_D (fun _ => True) (wM q cq T R S X n h k th a o) ∧ envE (va_A (wM q cq T R S X n h k th a o) sz) U)) (va_Qi (fun r9 (_ : Unit) => r9 = (fX2_areEnough T x).1) (fun _ t9 => va_P D vwCl (wM q cq T R S X n h k ((fX2_areEnough T x).2) a o) t9.heap ∧ va_D (va_A (wM q cq T R S X n h k th a o) sz) (wM q cq T R S X n h k ((fX2_areEnough T x).2) a o)) (va_A (wM q cq T R S X n h k th a o) sz)) 0 0 (va_A (wM q cq T R S X n h k th a o) sz) := by
  refine Met.ofW (cc := cX2_areEnough) (maxL := 2) (ret := (some .boolean)) (by decide) rfl ?_
  intro p e s m args below meth c s₁ B hml hv
  obtain ⟨rfl, hsz, hP, hK, hD0, hE⟩ := hv
  have hx := B.exec
  have hb := B.bytes
  have hr := B.returns
  have hts := atoms_spec (ws := wsX2_areEnough) B.pre
  have hown : s.vm.findClass RX2 = some m.cls := findClass_of_methodNamed B.named
  have hlocks := B.notSynchronized
  subst hsz
  have hD := hD0.self (sz := s.heap.size)
  generalize hAe : va_A (wM q cq T R S X n h k th a o) s.heap.size = A at hD hE ⊢
  have hA : ∀ q : Nat, s.heap.size ≤ q → A q := fun q h => by rw [← hAe]; exact Or.inr h
  have hS : va_S A s.heap s.heap [] := va_S.rf
  have hP : va_P D vwCl (wM q cq T R S X n h k th a o) s.heap := hP
  have hl := lv_entry ([.ref (q 0), .int x]) (n := 2) (Nat.le_of_ble_eq_true rfl)
  rw [lg_entry_eq]
  generalize (lg_sl ([.ref (q 0), .int x]) ++ List.replicate (2 - (lg_sl ([.ref (q 0), .int x])).length) Slot.unset).toArray = ls at hl ⊢
  have hl : lv_has ls 2 [(0, .ref (q 0)), (1, .int x)] := hl
  refine lv_aload_n hx hb dX2_areEnough_0 rfl (lv_at hl 0 rfl) ?_
  refine lv_iload_n hx hb dX2_areEnough_1 rfl (lv_at hl 1 rfl) ?_
  refine lv_iconst (v := 1) hx hb dX2_areEnough_2 (by decide) ?_
  refine lv_bipush (v := 63) hx hb dX2_areEnough_3 (by decide) ?_
  refine vp_callSi (va_Run.run (va_runS (As := [.int x, .int 1, .int 63]) (rest := [.ref (q 0)]) ⟨hx, hb, hml, hown, hts⟩ (c_X2_in l x 1 63) (va_cwS 3 hts gX2_areEnough_X2_in rfl rfl rfl (by decide +kernel) ⟨Nat.le_of_ble_eq_true rfl, Nat.le_of_ble_eq_true rfl⟩) ⟨fun _ _ _ _ z => z, fun _ _ _ => ⟨rfl, trivial⟩⟩ rfl rfl hl.1 rfl (lv_room (Nat.le_of_ble_eq_true rfl)) dX2_areEnough_5 ⟨(Nat.zero_le _), (Nat.zero_le _)⟩)) (fun r9 hr => ?_)
  subst r9
  refine lv_if_eq (tgt := 15) hx hb dX2_areEnough_8 (by decide) (fun c_1 => ?_) (fun c_1 => ?_)
  · refine lv_iconst (v := 1) hx hb dX2_areEnough_15 (by decide) ?_
    refine va_put (D := D) (ci := 2) (v := .int 1) (ty := .int) (C := RX2) (T := TX2) (N := 10) hx hb hts in_X2_areEnough_X2 tyX2 tyX2_ok nmX2 hown hK hP hD hS 0 rfl rfl 7 (by decide) (hts (.fieldLink RX2 27 "ZhegalkinBenchModel" "thrown" "I") (List.mem_of_getElem? (i := 1) rfl)) (fun _ h9 => h9) rfl (by decide +kernel) rfl rfl (Nat.le_of_ble_eq_true rfl) dX2_areEnough_16 (fun H locs hP hD hS => ?_)
    have hP : va_P D vwCl (wM q cq T R S X n h k 1 a o) H := hP
    have hD : va_D A (wM q cq T R S X n h k 1 a o) := hD
    refine lv_aload_n hx hb dX2_areEnough_19 rfl (lv_at hl 0 rfl) ?_
    refine va_get (D := D) (ci := 2) (v := .int 1) (C := RX2) (T := TX2) (N := 10) hx hb hts in_X2_areEnough_X2 hown hK hP 0 rfl rfl 7 (by decide) (hts (.fieldLink RX2 27 "ZhegalkinBenchModel" "thrown" "I") (List.mem_of_getElem? (i := 1) rfl)) (fun _ h9 => h9) rfl dX2_areEnough_20 ?_
    refine lv_if_ne (tgt := 38) hx hb dX2_areEnough_23 (by decide) (fun c_2 => ?_) (fun c_2 => ?_)
    · refine lv_iconst (v := 0) hx hb dX2_areEnough_38 (by decide) ?_
      have hq : (fX2_areEnough T x) = (0, 1) := Eq.symm (by first | ((rw [fX2_areEnough, if_pos c_1]); first | done | rfl) | rfl)
      exact W.zret (v := 0) hx hb hr rfl (fun t9 ht hW => ⟨⟨0, (), rfl, by rw [hq], by rw [hq]; exact ⟨by rw [ht]; exact hP, hD⟩⟩, hS.F ht⟩) hS.2.2 dX2_areEnough_39
    · exact absurd c_2 (by decide)
  · refine lv_iconst (v := 0) hx hb dX2_areEnough_11 (by decide) ?_
    refine lv_goto (tgt := 16) hx hb dX2_areEnough_12 (by decide) ?_
    refine va_put (D := D) (ci := 2) (v := .int 0) (ty := .int) (C := RX2) (T := TX2) (N := 10) hx hb hts in_X2_areEnough_X2 tyX2 tyX2_ok nmX2 hown hK hP hD hS 0 rfl rfl 7 (by decide) (hts (.fieldLink RX2 27 "ZhegalkinBenchModel" "thrown" "I") (List.mem_of_getElem? (i := 1) rfl)) (fun _ h9 => h9) rfl (by decide +kernel) rfl rfl (Nat.le_of_ble_eq_true rfl) dX2_areEnough_16 (fun H locs hP hD hS => ?_)
    have hP : va_P D vwCl (wM q cq T R S X n h k 0 a o) H := hP
    have hD : va_D A (wM q cq T R S X n h k 0 a o) := hD
    refine lv_aload_n hx hb dX2_areEnough_19 rfl (lv_at hl 0 rfl) ?_
    refine va_get (D := D) (ci := 2) (v := .int 0) (C := RX2) (T := TX2) (N := 10) hx hb hts in_X2_areEnough_X2 hown hK hP 0 rfl rfl 7 (by decide) (hts (.fieldLink RX2 27 "ZhegalkinBenchModel" "thrown" "I") (List.mem_of_getElem? (i := 1) rfl)) (fun _ h9 => h9) rfl dX2_areEnough_20 ?_
    refine lv_if_ne (tgt := 38) hx hb dX2_areEnough_23 (by decide) (fun c_3 => ?_) (fun c_3 => ?_)
    · exact absurd (by decide) c_3
    · refine lv_aload_n hx hb dX2_areEnough_26 rfl (lv_at hl 0 rfl) ?_
      refine lv_iload_n hx hb dX2_areEnough_27 rfl (lv_at hl 1 rfl) ?_
      have hPc := hP.sub (ws' := (wM q cq T R S X n h k 0 a o)) [0, 1, 2, 3, 4] rfl
      have hKc := hK.sub (tys' := (tyM cq)) [0, 1, 2, 3] rfl
      refine vp_callSi (va_Run.run (va_runV (As := [.int x]) (rest := []) ⟨hx, hb, hml, hown, hts⟩ (c_X2_enough l D q cq T R S X n h k 0 a o x) (cwV 1 hts gX2_areEnough_X2_enough rfl rfl rfl (by decide +kernel) ⟨Nat.le_of_ble_eq_true rfl, Nat.le_of_ble_eq_true rfl⟩) ⟨fun a U g mk z => ⟨z.1, z.2.1, va_K.moved (u := U) (U := U.calling g mk a) (Vm.Alike.refl U.vm) z.2.2.1, z.2.2.2.blind g mk a⟩, va_recv hKc hPc (ci := 2) (q0 := 0) rfl rfl, fun U hU hW => ⟨rfl, by rw [hU]; exact hPc, va_K.moved hW.alike hKc, hE.at0 hS hU hW⟩⟩ rfl rfl hl.1 rfl (lv_room (Nat.le_of_ble_eq_true rfl)) dX2_areEnough_28 ⟨(Nat.zero_le _), (Nat.zero_le _)⟩)) (fun r9 hr => ?_)
      subst r9
      refine lv_if_eq (tgt := 38) hx hb dX2_areEnough_31 (by decide) (fun c_4 => ?_) (fun c_4 => ?_)
      · refine lv_iconst (v := 0) hx hb dX2_areEnough_38 (by decide) ?_
        have hq : (fX2_areEnough T x) = (0, 0) := Eq.symm (by first | ((rw [fX2_areEnough, if_neg c_1, if_pos c_4]); first | done | rfl) | rfl)
        exact W.zret (v := 0) hx hb hr rfl (fun t9 ht hW => ⟨⟨0, (), rfl, by rw [hq], by rw [hq]; exact ⟨by rw [ht]; exact hP, hD⟩⟩, hS.F ht⟩) hS.2.2 dX2_areEnough_39
      · refine lv_iconst (v := 1) hx hb dX2_areEnough_34 (by decide) ?_
        refine lv_goto (tgt := 39) hx hb dX2_areEnough_35 (by decide) ?_
        have hq : (fX2_areEnough T x) = (1, 0) := Eq.symm (by first | ((rw [fX2_areEnough, if_neg c_1, if_neg c_4]); first | done | rfl) | rfl)
        exact W.zret (v := 1) hx hb hr rfl (fun t9 ht hW => ⟨⟨1, (), rfl, by rw [hq], by rw [hq]; exact ⟨by rw [ht]; exact hP, hD⟩⟩, hS.F ht⟩) hS.2.2 dX2_areEnough_39
theorem in_X2_fewestEnough_X2 : ∀ w ∈ wsX20, w ∈ wsX2_fewestEnough := by decide +kernel
def sX2_fewestEnough_9 (T : Nat → Int32) (i1 : Nat) (a1 : Int32) : Int32 := (if (if a1 = (-1) then 1 else (if a1 ≤ (fX2_bits (nI i1)) then 0 else 1) : Int32) = 0 then a1 else (if (fX2_enough T (nI i1)) = 0 then a1 else (fX2_bits (nI i1))) : Int32)
def fX2_fewestEnough (T : Nat → Int32) : Int32 × Int32 := ((lp (sX2_fewestEnough_9 T) 63 1 (-1)), 0)
set_option maxHeartbeats 4000000 in
set_option maxRecDepth 100000 in
theorem c_X2_fewestEnough (l : Launch) (D : va_G) (q : Nat → Nat) (cq : Nat → ClassId) (sz : Nat) (T : Nat → Int32) (R : Nat → Int32) (S : Nat → Int32) (X : Nat → Int32) (n : Int32) (h : Int32) (k : Int32) (th : Int32) (a : Int32) (o : Int32) : Met l yX2_fewestEnough wsX2_fewestEnough ({ frames := 3, cells := 0, slots := 0, locals := 71 }) (va_Pc [.ref (q 0)] (fun U => U.heap.size = sz ∧ va_P D vwCl (wM q cq T R S X n h k th a o) U.heap ∧ va_K D vwCl (tyM cq) U ∧ va_D (fun _ => True) (wM q cq T R S X n h k th a o) ∧ envE (va_A (wM q cq T R S X n h k th a o) sz) U)) (va_Qi (fun r9 (_ : Unit) => r9 = (fX2_fewestEnough T).1) (fun _ t9 => va_P D vwCl (wM q cq T R S X n h k ((fX2_fewestEnough T).2) a o) t9.heap ∧ va_D (va_A (wM q cq T R S X n h k th a o) sz) (wM q cq T R S X n h k ((fX2_fewestEnough T).2) a o)) (va_A (wM q cq T R S X n h k th a o) sz)) 0 0 (va_A (wM q cq T R S X n h k th a o) sz) := by
  refine Met.ofW (cc := cX2_fewestEnough) (maxL := 4) (ret := (some .int)) (by decide) rfl ?_
  intro p e s m args below meth c s₁ B hml hv
  obtain ⟨rfl, hsz, hP, hK, hD0, hE⟩ := hv
  have hx := B.exec
  have hb := B.bytes
  have hr := B.returns
  have hts := atoms_spec (ws := wsX2_fewestEnough) B.pre
  have hown : s.vm.findClass RX2 = some m.cls := findClass_of_methodNamed B.named
  have hlocks := B.notSynchronized
  subst hsz
  have hD := hD0.self (sz := s.heap.size)
  generalize hAe : va_A (wM q cq T R S X n h k th a o) s.heap.size = A at hD hE ⊢
  have hA : ∀ q : Nat, s.heap.size ≤ q → A q := fun q h => by rw [← hAe]; exact Or.inr h
  have hS : va_S A s.heap s.heap [] := va_S.rf
  have hP : va_P D vwCl (wM q cq T R S X n h k th a o) s.heap := hP
  have hl := lv_entry ([.ref (q 0)]) (n := 4) (Nat.le_of_ble_eq_true rfl)
  rw [lg_entry_eq]
  generalize (lg_sl ([.ref (q 0)]) ++ List.replicate (4 - (lg_sl ([.ref (q 0)])).length) Slot.unset).toArray = ls at hl ⊢
  have hl : lv_has ls 4 [(0, .ref (q 0))] := hl
  refine lv_aload_n hx hb dX2_fewestEnough_0 rfl (lv_at hl 0 rfl) ?_
  refine lv_iconst (v := 0) hx hb dX2_fewestEnough_1 (by decide) ?_
  refine va_put (D := D) (ci := 2) (v := .int 0) (ty := .int) (C := RX2) (T := TX2) (N := 10) hx hb hts in_X2_fewestEnough_X2 tyX2 tyX2_ok nmX2 hown hK hP hD hS 0 rfl rfl 7 (by decide) (hts (.fieldLink RX2 27 "ZhegalkinBenchModel" "thrown" "I") (List.mem_of_getElem? (i := 1) rfl)) (fun _ h9 => h9) rfl (by decide +kernel) rfl rfl (Nat.le_of_ble_eq_true rfl) dX2_fewestEnough_2 (fun H locs hP hD hS => ?_)
  have hP : va_P D vwCl (wM q cq T R S X n h k 0 a o) H := hP
  have hD : va_D A (wM q cq T R S X n h k 0 a o) := hD
  refine lv_iconst (v := (-1)) hx hb dX2_fewestEnough_5 (by decide) ?_
  refine lv_istore_n (lv' := [(1, .int (-1)), (0, .ref (q 0))]) hx hb dX2_fewestEnough_6 rfl hl (by decide) rfl (fun ls hl => ?_)
  refine lv_iconst (v := 1) hx hb dX2_fewestEnough_7 (by decide) ?_
  refine lv_istore_n (lv' := [(2, .int 1), (1, .int (-1)), (0, .ref (q 0))]) hx hb dX2_fewestEnough_8 rfl hl (by decide) rfl (fun ls hl => ?_)
  obtain ⟨F1, hF1⟩ : ∃ z9, z9 = (lp (sX2_fewestEnough_9 T) 63 1 (-1)) := ⟨_, rfl⟩
  refine vz_cut (fun H1 l1 g1 => ∃ (n1 i1 : Nat) (a1 : Int32) (ls : Array Slot), i1 + n1 = 64 ∧ lp (sX2_fewestEnough_9 T) n1 i1 a1 = F1 ∧ lv_has ls 4 [(2, .int (nI i1)), (1, .int a1), (0, .ref (q 0))] ∧ (H = H1 ∧ locs = l1) ∧ g1 = F0 m 9 ls []) (fun hj => hj _ _ _ ⟨64 - 1, 1, (-1), ls, (by omega), hF1.symm, lv_sub hl [0, 1, 2] rfl, ⟨rfl, rfl⟩, rfl⟩) ?_
  rintro H1 l1 g1 ⟨n1, i1, a1, ls, hi1, hf1, hl, ⟨rfl, rfl⟩, rfl⟩
  revert i1 a1 ls
  induction n1 with
  | zero =>
    intro i1 a1 ls hi1 hf1 hl
    obtain rfl : 64 = i1 := by omega
    have hf1 : F1 = a1 := hf1.symm
    subst hf1
    refine lv_iload_n hx hb dX2_fewestEnough_9 rfl (lv_at hl 0 rfl) ?_
    refine lv_bipush (v := 64) hx hb dX2_fewestEnough_10 (by decide) ?_
    refine lv_icmp_ge (tgt := 61) hx hb dX2_fewestEnough_12 (by decide) (fun c_1 => ?_) (fun c_1 => ?_)
    · refine lv_iload_n hx hb dX2_fewestEnough_61 rfl (lv_at hl 1 rfl) ?_
      have hq : (fX2_fewestEnough T) = (F1, 0) := Eq.symm (by first | ((rw [fX2_fewestEnough]); (try rw [← hF1]); first | done | rfl) | rfl)
      exact W.iret (v := F1) hx hb hr (fun t9 ht hW => ⟨⟨F1, (), rfl, by rw [hq], by rw [hq]; exact ⟨by rw [ht]; exact hP, hD⟩⟩, hS.F ht⟩) hS.2.2 dX2_fewestEnough_62
    · exact absurd (nI_le (a := 64) (b := 64) (by omega) (by omega)) c_1
  | succ n1 ih1 =>
    intro i1 a1 ls hi1 hf1 hl
    refine lv_iload_n hx hb dX2_fewestEnough_9 rfl (lv_at hl 0 rfl) ?_
    refine lv_bipush (v := 64) hx hb dX2_fewestEnough_10 (by decide) ?_
    refine lv_icmp_ge (tgt := 61) hx hb dX2_fewestEnough_12 (by decide) (fun c_2 => ?_) (fun c_2 => ?_)
    · exact absurd c_2 (nI_ge (a := i1) (b := 64) (by omega) (by omega))
    · refine lv_iload_n hx hb dX2_fewestEnough_15 rfl (lv_at hl 1 rfl) ?_
      refine lv_iconst (v := (-1)) hx hb dX2_fewestEnough_16 (by decide) ?_
      refine vz_cut (fun H1 l1 g1 => ∃ (x1_0 : Int32) (ls : Array Slot), x1_0 = (if a1 = (-1) then 1 else (if a1 ≤ (fX2_bits (nI i1)) then 0 else 1) : Int32) ∧ lv_has ls 4 [(2, .int (nI i1)), (1, .int a1), (0, .ref (q 0))] ∧ (H = H1 ∧ locs = l1) ∧ g1 = F0 m 33 ls [.int x1_0]) (fun hj1 => ?_) ?_
      · refine lv_icmp_eq (tgt := 28) hx hb dX2_fewestEnough_17 (by decide) (fun c_3 => ?_) (fun c_3 => ?_)
        · refine lv_iconst (v := 1) hx hb dX2_fewestEnough_28 (by decide) ?_
          refine lv_goto (tgt := 33) hx hb dX2_fewestEnough_29 (by decide) ?_
          exact hj1 _ _ _ ⟨1, ls, (by (rw [if_pos c_3]); first | done | rfl), lv_sub hl [0, 1, 2] rfl, ⟨rfl, rfl⟩, rfl⟩
        · refine lv_iload_n hx hb dX2_fewestEnough_20 rfl (lv_at hl 0 rfl) ?_
          refine vp_callSi (va_Run.run (va_runS (As := [.int (nI i1)]) (rest := []) ⟨hx, hb, hml, hown, hts⟩ (c_X2_bits l (nI i1)) (va_cwS 1 hts gX2_fewestEnough_X2_bits rfl rfl rfl (by decide +kernel) ⟨Nat.le_of_ble_eq_true rfl, Nat.le_of_ble_eq_true rfl⟩) ⟨fun _ _ _ _ z => z, fun _ _ _ => ⟨rfl, trivial⟩⟩ rfl rfl hl.1 rfl (lv_room (Nat.le_of_ble_eq_true rfl)) dX2_fewestEnough_21 ⟨(Nat.zero_le _), (Nat.zero_le _)⟩)) (fun r9 hr => ?_)
          subst r9
          refine lv_iload_n hx hb dX2_fewestEnough_24 rfl (lv_at hl 1 rfl) ?_
          refine lv_icmp_ge (tgt := 32) hx hb dX2_fewestEnough_25 (by decide) (fun c_4 => ?_) (fun c_4 => ?_)
          · refine lv_iconst (v := 0) hx hb dX2_fewestEnough_32 (by decide) ?_
            exact hj1 _ _ _ ⟨0, ls, (by (rw [if_neg c_3, if_pos c_4]); first | done | rfl), lv_sub hl [0, 1, 2] rfl, ⟨rfl, rfl⟩, rfl⟩
          · refine lv_iconst (v := 1) hx hb dX2_fewestEnough_28 (by decide) ?_
            refine lv_goto (tgt := 33) hx hb dX2_fewestEnough_29 (by decide) ?_
            exact hj1 _ _ _ ⟨1, ls, (by (rw [if_neg c_3, if_neg c_4]); first | done | rfl), lv_sub hl [0, 1, 2] rfl, ⟨rfl, rfl⟩, rfl⟩
      rintro H1 l1 g1 ⟨x1_0, ls, ex1_0, hl, ⟨rfl, rfl⟩, rfl⟩
      subst x1_0
      refine lv_istore_n (lv' := [(3, .int (if a1 = (-1) then 1 else (if a1 ≤ (fX2_bits (nI i1)) then 0 else 1) : Int32)), (2, .int (nI i1)), (1, .int a1), (0, .ref (q 0))]) hx hb dX2_fewestEnough_33 rfl hl (by decide) rfl (fun ls hl => ?_)
      refine lv_iload_n hx hb dX2_fewestEnough_34 rfl (lv_at hl 0 rfl) ?_
      refine vz_cut (fun H1 l1 g1 => ∃ (x2_0 : Int32) (ls : Array Slot), x2_0 = (if (if a1 = (-1) then 1 else (if a1 ≤ (fX2_bits (nI i1)) then 0 else 1) : Int32) = 0 then a1 else (if (fX2_enough T (nI i1)) = 0 then a1 else (fX2_bits (nI i1))) : Int32) ∧ lv_has ls 4 [(3, .int (if a1 = (-1) then 1 else (if a1 ≤ (fX2_bits (nI i1)) then 0 else 1) : Int32)), (2, .int (nI i1)), (1, .int a1), (0, .ref (q 0))] ∧ (H = H1 ∧ locs = l1) ∧ g1 = F0 m 54 ls [.int x2_0]) (fun hj2 => ?_) ?_
      · refine lv_if_eq (tgt := 53) hx hb dX2_fewestEnough_35 (by decide) (fun c_5 => ?_) (fun c_5 => ?_)
        · refine lv_iload_n hx hb dX2_fewestEnough_53 rfl (lv_at hl 2 rfl) ?_
          exact hj2 _ _ _ ⟨a1, ls, (by (rw [if_pos c_5]); first | done | rfl), lv_sub hl [0, 1, 2, 3] rfl, ⟨rfl, rfl⟩, rfl⟩
        · refine lv_aload_n hx hb dX2_fewestEnough_38 rfl (lv_at hl 3 rfl) ?_
          refine lv_iload_n hx hb dX2_fewestEnough_39 rfl (lv_at hl 1 rfl) ?_
          have hPc := hP.sub (ws' := (wM q cq T R S X n h k 0 a o)) [0, 1, 2, 3, 4] rfl
          have hKc := hK.sub (tys' := (tyM cq)) [0, 1, 2, 3] rfl
          refine vp_callSi (va_Run.run (va_runV (As := [.int (nI i1)]) (rest := []) ⟨hx, hb, hml, hown, hts⟩ (c_X2_enough l D q cq T R S X n h k 0 a o (nI i1)) (cwV 1 hts gX2_fewestEnough_X2_enough rfl rfl rfl (by decide +kernel) ⟨Nat.le_of_ble_eq_true rfl, Nat.le_of_ble_eq_true rfl⟩) ⟨fun a U g mk z => ⟨z.1, z.2.1, va_K.moved (u := U) (U := U.calling g mk a) (Vm.Alike.refl U.vm) z.2.2.1, z.2.2.2.blind g mk a⟩, va_recv hKc hPc (ci := 2) (q0 := 0) rfl rfl, fun U hU hW => ⟨rfl, by rw [hU]; exact hPc, va_K.moved hW.alike hKc, hE.at0 hS hU hW⟩⟩ rfl rfl hl.1 rfl (lv_room (Nat.le_of_ble_eq_true rfl)) dX2_fewestEnough_40 ⟨(Nat.zero_le _), (Nat.zero_le _)⟩)) (fun r9 hr => ?_)
          subst r9
          refine lv_if_eq (tgt := 53) hx hb dX2_fewestEnough_43 (by decide) (fun c_6 => ?_) (fun c_6 => ?_)
          · refine lv_iload_n hx hb dX2_fewestEnough_53 rfl (lv_at hl 2 rfl) ?_
            exact hj2 _ _ _ ⟨a1, ls, (by (rw [if_neg c_5, if_pos c_6]); first | done | rfl), lv_sub hl [0, 1, 2, 3] rfl, ⟨rfl, rfl⟩, rfl⟩
          · refine lv_iload_n hx hb dX2_fewestEnough_46 rfl (lv_at hl 1 rfl) ?_
            refine vp_callSi (va_Run.run (va_runS (As := [.int (nI i1)]) (rest := []) ⟨hx, hb, hml, hown, hts⟩ (c_X2_bits l (nI i1)) (va_cwS 1 hts gX2_fewestEnough_X2_bits rfl rfl rfl (by decide +kernel) ⟨Nat.le_of_ble_eq_true rfl, Nat.le_of_ble_eq_true rfl⟩) ⟨fun _ _ _ _ z => z, fun _ _ _ => ⟨rfl, trivial⟩⟩ rfl rfl hl.1 rfl (lv_room (Nat.le_of_ble_eq_true rfl)) dX2_fewestEnough_47 ⟨(Nat.zero_le _), (Nat.zero_le _)⟩)) (fun r9 hr => ?_)
            subst r9
            refine lv_goto (tgt := 54) hx hb dX2_fewestEnough_50 (by decide) ?_
            exact hj2 _ _ _ ⟨(fX2_bits (nI i1)), ls, (by (rw [if_neg c_5, if_neg c_6]); first | done | rfl), lv_sub hl [0, 1, 2, 3] rfl, ⟨rfl, rfl⟩, rfl⟩
      rintro H1 l1 g1 ⟨x2_0, ls, ex2_0, hl, ⟨rfl, rfl⟩, rfl⟩
      subst x2_0
      refine lv_istore_n (lv' := [(1, .int (if (if a1 = (-1) then 1 else (if a1 ≤ (fX2_bits (nI i1)) then 0 else 1) : Int32) = 0 then a1 else (if (fX2_enough T (nI i1)) = 0 then a1 else (fX2_bits (nI i1))) : Int32)), (3, .int (if a1 = (-1) then 1 else (if a1 ≤ (fX2_bits (nI i1)) then 0 else 1) : Int32)), (2, .int (nI i1)), (0, .ref (q 0))]) hx hb dX2_fewestEnough_54 rfl hl (by decide) rfl (fun ls hl => ?_)
      refine lv_iinc (v := (nI (i1 + 1))) (lv' := [(2, .int (nI (i1 + 1))), (1, .int (if (if a1 = (-1) then 1 else (if a1 ≤ (fX2_bits (nI i1)) then 0 else 1) : Int32) = 0 then a1 else (if (fX2_enough T (nI i1)) = 0 then a1 else (fX2_bits (nI i1))) : Int32)), (3, .int (if a1 = (-1) then 1 else (if a1 ≤ (fX2_bits (nI i1)) then 0 else 1) : Int32)), (0, .ref (q 0))]) hx hb dX2_fewestEnough_55 hl (k := 2) rfl (by first | exact nI_add _ _ | rfl) (by decide) rfl (fun ls hl => ?_)
      refine lv_goto (tgt := 9) hx hb dX2_fewestEnough_58 (by decide) ?_
      exact ih1 (i1 + 1) (if (if a1 = (-1) then 1 else (if a1 ≤ (fX2_bits (nI i1)) then 0 else 1) : Int32) = 0 then a1 else (if (fX2_enough T (nI i1)) = 0 then a1 else (fX2_bits (nI i1))) : Int32) ls (by omega) ((congrArg (lp (sX2_fewestEnough_9 T) n1 (i1 + 1)) (show (if (if a1 = (-1) then 1 else (if a1 ≤ (fX2_bits (nI i1)) then 0 else 1) : Int32) = 0 then a1 else (if (fX2_enough T (nI i1)) = 0 then a1 else (fX2_bits (nI i1))) : Int32) = (sX2_fewestEnough_9 T) i1 a1 from by first | ((rw [sX2_fewestEnough_9]); first | done | rfl) | rfl)).trans hf1) (lv_sub hl [0, 1, 3] rfl)
theorem in_X2_recordedStates_X2 : ∀ w ∈ wsX20, w ∈ wsX2_recordedStates := by decide +kernel
def fX2_recordedStates (n : Int32) : Int32 × Int32 := (n, 0)
set_option maxHeartbeats 4000000 in
set_option maxRecDepth 100000 in
theorem c_X2_recordedStates (l : Launch) (D : va_G) (q : Nat → Nat) (cq : Nat → ClassId) (sz : Nat) (T : Nat → Int32) (R : Nat → Int32) (S : Nat → Int32) (X : Nat → Int32) (n : Int32) (h : Int32) (k : Int32) (th : Int32) (a : Int32) (o : Int32) : Met l yX2_recordedStates wsX2_recordedStates ({ frames := 0, cells := 0, slots := 0, locals := 0 }) (va_Pc [.ref (q 0)] (fun U => U.heap.size = sz ∧ va_P D vwCl (wM q cq T R S X n h k th a o) U.heap ∧ va_K D vwCl (tyM cq) U ∧ va_D (fun _ => True) (wM q cq T R S X n h k th a o) ∧ envE (va_A (wM q cq T R S X n h k th a o) sz) U)) (va_Qi (fun r9 (_ : Unit) => r9 = (fX2_recordedStates n).1) (fun _ t9 => va_P D vwCl (wM q cq T R S X n h k ((fX2_recordedStates n).2) a o) t9.heap ∧ va_D (va_A (wM q cq T R S X n h k th a o) sz) (wM q cq T R S X n h k ((fX2_recordedStates n).2) a o)) (va_A (wM q cq T R S X n h k th a o) sz)) 0 0 (va_A (wM q cq T R S X n h k th a o) sz) := by
  refine Met.ofW (cc := cX2_recordedStates) (maxL := 1) (ret := (some .int)) (by decide) rfl ?_
  intro p e s m args below meth c s₁ B hml hv
  obtain ⟨rfl, hsz, hP, hK, hD0, hE⟩ := hv
  have hx := B.exec
  have hb := B.bytes
  have hr := B.returns
  have hts := atoms_spec (ws := wsX2_recordedStates) B.pre
  have hown : s.vm.findClass RX2 = some m.cls := findClass_of_methodNamed B.named
  have hlocks := B.notSynchronized
  subst hsz
  have hD := hD0.self (sz := s.heap.size)
  generalize hAe : va_A (wM q cq T R S X n h k th a o) s.heap.size = A at hD hE ⊢
  have hA : ∀ q : Nat, s.heap.size ≤ q → A q := fun q h => by rw [← hAe]; exact Or.inr h
  have hS : va_S A s.heap s.heap [] := va_S.rf
  have hP : va_P D vwCl (wM q cq T R S X n h k th a o) s.heap := hP
  have hl := lv_entry ([.ref (q 0)]) (n := 1) (Nat.le_of_ble_eq_true rfl)
  rw [lg_entry_eq]
  generalize (lg_sl ([.ref (q 0)]) ++ List.replicate (1 - (lg_sl ([.ref (q 0)])).length) Slot.unset).toArray = ls at hl ⊢
  have hl : lv_has ls 1 [(0, .ref (q 0))] := hl
  refine lv_aload_n hx hb dX2_recordedStates_0 rfl (lv_at hl 0 rfl) ?_
  refine lv_iconst (v := 0) hx hb dX2_recordedStates_1 (by decide) ?_
  refine va_put (D := D) (ci := 2) (v := .int 0) (ty := .int) (C := RX2) (T := TX2) (N := 10) hx hb hts in_X2_recordedStates_X2 tyX2 tyX2_ok nmX2 hown hK hP hD hS 0 rfl rfl 7 (by decide) (hts (.fieldLink RX2 27 "ZhegalkinBenchModel" "thrown" "I") (List.mem_of_getElem? (i := 1) rfl)) (fun _ h9 => h9) rfl (by decide +kernel) rfl rfl (Nat.le_of_ble_eq_true rfl) dX2_recordedStates_2 (fun H locs hP hD hS => ?_)
  have hP : va_P D vwCl (wM q cq T R S X n h k 0 a o) H := hP
  have hD : va_D A (wM q cq T R S X n h k 0 a o) := hD
  refine lv_aload_n hx hb dX2_recordedStates_5 rfl (lv_at hl 0 rfl) ?_
  refine va_get (D := D) (ci := 2) (v := .int n) (C := RX2) (T := TX2) (N := 10) hx hb hts in_X2_recordedStates_X2 hown hK hP 0 rfl rfl 4 (by decide) (hts (.fieldLink RX2 35 "ZhegalkinBenchModel" "kept" "I") (List.mem_of_getElem? (i := 2) rfl)) (fun _ h9 => h9) rfl dX2_recordedStates_6 ?_
  have hq : (fX2_recordedStates n) = (n, 0) := Eq.symm (by first | ((rw [fX2_recordedStates]); first | done | rfl) | rfl)
  exact W.iret (v := n) hx hb hr (fun t9 ht hW => ⟨⟨n, (), rfl, by rw [hq], by rw [hq]; exact ⟨by rw [ht]; exact hP, hD⟩⟩, hS.F ht⟩) hS.2.2 dX2_recordedStates_9
