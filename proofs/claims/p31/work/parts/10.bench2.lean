theorem chr_nar {x : Int32} (h : vp_nar .char x = x) : narrow .char (.int x) = .int x := by
  show Value.int (vp_nar .char x) = .int x
  rw [h]
theorem vin_lt {x : Int32} {z : Nat} (h1 : ¬ x < 0) (h2 : x < nI z) (hz : z ≤ 48) : vp_in x 48 := by
  rw [vp_in_iff]
  rw [Int32.lt_iff_toInt_lt] at h1 h2
  rw [nI_toInt (by omega)] at h2
  have e0 : (0 : Int32).toInt = 0 := rfl
  omega
theorem fX1_put_ch {P : Nat → Int32} {z : Nat} {x : Int32} (h : ∀ j, vp_nar .char (P j) = P j) (hx : vp_nar .char x = x) : ∀ j, vp_nar .char ((fX1_put P z x).1 j) = (fX1_put P z x).1 j := by
  intro j
  unfold fX1_put
  split
  · exact h j
  · show vp_nar .char (upd P z x j) = upd P z x j
    unfold upd
    split
    · exact hx
    · exact h j
theorem fX1_printProduct_ch {P : Nat → Int32} {z : Nat} {x : Int32} (h : ∀ j, vp_nar .char (P j) = P j) : ∀ j, vp_nar .char ((fX1_printProduct P z x).1 j) = (fX1_printProduct P z x).1 j := by
  unfold fX1_printProduct
  refine lp_inv (fun (a : (Nat → Int32) × Nat) => ∀ j, vp_nar .char (a.1 j) = a.1 j) ?_ _ _ _ ?_
  · intro i a ha
    unfold sX1_printProduct_12
    split
    · exact fX1_put_ch ha (pk_vc _)
    · exact ha
  · intro j
    dsimp only
    split
    · exact fX1_put_ch h rfl j
    · exact h j
theorem fX1_print_ch {P : Nat → Int32} {x : Int32} (h : ∀ j, vp_nar .char (P j) = P j) : ∀ j, vp_nar .char ((fX1_print P x).1 j) = (fX1_print P x).1 j := by
  unfold fX1_print
  refine lp_inv (fun (a : (Nat → Int32) × Nat) => ∀ j, vp_nar .char (a.1 j) = a.1 j) ?_ _ _ _ ?_
  · intro i a ha
    unfold sX1_print_17
    split
    · refine fX1_printProduct_ch ?_
      split
      · exact ha
      · exact fX1_put_ch ha rfl
    · exact ha
  · intro j
    dsimp only
    split
    · exact fX1_put_ch h rfl j
    · exact h j
theorem bX1_hasOppositeEnds (t : Int32) : ∀ (n i : Nat) (a : Unit), tX1_hasOppositeEnds_2 t n i a = 0 ∨ tX1_hasOppositeEnds_2 t n i a = 1
  | 0, _, _ => Or.inr rfl
  | n + 1, i, a => by
    rw [tX1_hasOppositeEnds_2]
    split <;> first | exact Or.inl rfl | exact bX1_hasOppositeEnds t n _ _
theorem bX1_neverFalls (t : Int32) : ∀ (n i : Nat) (a : Unit), tX1_neverFalls_2 t n i a = 0 ∨ tX1_neverFalls_2 t n i a = 1
  | 0, _, _ => Or.inr rfl
  | n + 1, i, a => by
    rw [tX1_neverFalls_2]
    split <;> first | exact Or.inl rfl | exact bX1_neverFalls t n _ _
theorem in_X1_define_X1 : ∀ w ∈ wsX10, w ∈ wsX1_define := by decide +kernel
def fX1_define (T : Nat → Int32) (R : Nat → Int32) (X : Nat → Int32) (n : Nat) (k : Nat) (x : Nat) : Int32 × (Nat → Int32) × (Nat → Int32) × Nat × Int32 × Int32 × Int32 × Int32 := ((fJ6_bitCount_0f7a4 ((fX1_validTextProducts X k).1)), (upd T x (fX1_addHalves ((fX1_validTextProducts X k).1))), (fX1_recordState T R n).1, ((fX1_recordState T R n).2), (fX1_validTextProducts X k).2.1, (fX1_validTextProducts X k).2.2.1, (fX1_validTextProducts X k).2.2.2.1, (fX1_validTextProducts X k).2.2.2.2)
set_option maxHeartbeats 4000000 in
set_option maxRecDepth 100000 in
theorem c_X1_define (l : Launch) (D : va_G) (q : Nat → Nat) (cq : Nat → ClassId) (sz : Nat) (T : Nat → Int32) (R : Nat → Int32) (S : Nat → Int32) (X : Nat → Int32) (M : Nat → Int32) (P : Nat → Int32) (n : Nat) (h : Int32) (k : Nat) (w : Int32) (f : Int32) (d : Int32) (v : Int32) (z : Int32) (x : Nat) (hn : n ≤ 4) (hk9 : k ≤ 80) (hx6 : x < 6) (hfe : (fX0_firstError X k).1 = -1) : Met l yX1_define wsX1_define ({ frames := 6, cells := 0, slots := 0, locals := 131 }) (va_Pc [.ref (q 0), .int (nI x)] (fun U => U.heap.size = sz ∧ va_P D vwCl (wB q cq T R S X M P (nI n) h (nI k) w f d v z) U.heap ∧ va_K D vwCl (tyB cq) U ∧ va_D (fun _ => True) (wB q cq T R S X M P (nI n) h (nI k) w f d v z) ∧ envE (va_A (wB q cq T R S X M P (nI n) h (nI k) w f d v z) sz) U)) (va_Qi (fun r9 (_ : Unit) => r9 = (fX1_define T R X n k x).1) (fun _ t9 => va_P D vwCl (wB q cq ((fX1_define T R X n k x).2.1) ((fX1_define T R X n k x).2.2.1) S X M P (nI (fX1_define T R X n k x).2.2.2.1) h (nI k) ((fX1_define T R X n k x).2.2.2.2.1) ((fX1_define T R X n k x).2.2.2.2.2.1) ((fX1_define T R X n k x).2.2.2.2.2.2.1) ((fX1_define T R X n k x).2.2.2.2.2.2.2) z) t9.heap ∧ va_D (va_A (wB q cq T R S X M P (nI n) h (nI k) w f d v z) sz) (wB q cq ((fX1_define T R X n k x).2.1) ((fX1_define T R X n k x).2.2.1) S X M P (nI (fX1_define T R X n k x).2.2.2.1) h (nI k) ((fX1_define T R X n k x).2.2.2.2.1) ((fX1_define T R X n k x).2.2.2.2.2.1) ((fX1_define T R X n k x).2.2.2.2.2.2.1) ((fX1_define T R X n k x).2.2.2.2.2.2.2) z)) (va_A (wB q cq T R S X M P (nI n) h (nI k) w f d v z) sz)) 0 0 (va_A (wB q cq T R S X M P (nI n) h (nI k) w f d v z) sz) := by
  refine Met.ofW (cc := cX1_define) (maxL := 3) (ret := (some .int)) (by decide) rfl ?_
  intro p e s m args below meth c s₁ B hml hv
  obtain ⟨rfl, hsz, hP, hK, hD0, hE⟩ := hv
  have hx := B.exec
  have hb := B.bytes
  have hr := B.returns
  have hts := atoms_spec (ws := wsX1_define) B.pre
  have hown : s.vm.findClass RX1 = some m.cls := findClass_of_methodNamed B.named
  have hlocks := B.notSynchronized
  subst hsz
  have hD := hD0.self (sz := s.heap.size)
  generalize hAe : va_A (wB q cq T R S X M P (nI n) h (nI k) w f d v z) s.heap.size = A at hD hE ⊢
  have hA : ∀ q : Nat, s.heap.size ≤ q → A q := fun q h => by rw [← hAe]; exact Or.inr h
  have hS : va_S A s.heap s.heap [] := va_S.rf
  have hP : va_P D vwCl (wB q cq T R S X M P (nI n) h (nI k) w f d v z) s.heap := hP
  have hl := lv_entry ([.ref (q 0), .int (nI x)]) (n := 3) (Nat.le_of_ble_eq_true rfl)
  rw [lg_entry_eq]
  generalize (lg_sl ([.ref (q 0), .int (nI x)]) ++ List.replicate (3 - (lg_sl ([.ref (q 0), .int (nI x)])).length) Slot.unset).toArray = ls at hl ⊢
  have hl : lv_has ls 3 [(0, .ref (q 0)), (1, .int (nI x))] := hl
  refine lv_iload_n hx hb dX1_define_0 rfl (lv_at hl 1 rfl) ?_
  refine va_csv (va_Run.run (va_runS (As := [.int (nI x)]) (rest := []) ⟨hx, hb, hml, hown, hts⟩ (c_X1_checkFunction l x (by omega)) (va_cwS 1 hts gX1_define_X1_checkFunction rfl rfl rfl (by decide +kernel) ⟨Nat.le_of_ble_eq_true rfl, Nat.le_of_ble_eq_true rfl⟩) ⟨fun _ _ _ _ z => z, fun _ _ _ => ⟨rfl, trivial⟩⟩ rfl rfl hl.1 rfl (lv_room (Nat.le_of_ble_eq_true rfl)) dX1_define_1 ⟨(Nat.zero_le _), (Nat.zero_le _)⟩)) (fun _ => ?_)
  refine lv_aload_n hx hb dX1_define_4 rfl (lv_at hl 0 rfl) ?_
  have hPc := hP.sub (ws' := (wB q cq T R S X M P (nI n) h (nI k) w f d v z)) [0, 1, 2, 3, 4, 5, 6, 7] rfl
  have hKc := hK.sub (tys' := (tyB cq)) [0, 1, 2, 3, 4, 5] rfl
  have hDc := hD.sub (ws' := (wB q cq T R S X M P (nI n) h (nI k) w f d v z)) [0, 1, 2, 3, 4, 5, 6, 7] (by decide) rfl
  have hFc := va_free (wc := (wB q cq T R S X M P (nI n) h (nI k) w f d v z)) hD hS hA [0, 1, 2, 3, 4, 5, 6, 7] rfl
  refine va_calli (va_runV (As := []) (rest := []) ⟨hx, hb, hml, hown, hts⟩ (c_X1_validTextProducts l D q cq s.heap.size T R S X M P (nI n) h k w f d v z (by omega) hfe) (cwV 0 hts gX1_define_X1_validTextProducts rfl rfl rfl (by decide +kernel) ⟨Nat.le_of_ble_eq_true rfl, Nat.le_of_ble_eq_true rfl⟩) ⟨fun a U g mk z => ⟨z.1, z.2.1, z.2.2.1, va_K.moved (u := U) (U := U.calling g mk a) (Vm.Alike.refl U.vm) z.2.2.2.1, z.2.2.2.2.1, z.2.2.2.2.2.blind g mk a⟩, va_recv hKc hPc (ci := 1) (q0 := 0) rfl rfl, fun U hU hW => ⟨rfl, by rw [hU], by rw [hU]; exact hPc, va_K.moved hW.alike hKc, hDc.weaken (fun _ _ _ _ => trivial), hE.at hS hU hW hFc⟩⟩ rfl rfl hl.1 rfl (lv_room (Nat.le_of_ble_eq_true rfl)) dX1_define_5 ⟨(Nat.zero_le _), (Nat.zero_le _)⟩) hS (fun q _ h => hFc q h) hFc (fun r9 u9 t8 H1 locs ht hvm hw hB hz1 hk1 hS => ?_)
  obtain ⟨hP1, hD1⟩ := hB
  rw [ht] at hP1
  obtain ⟨hP, hD⟩ := va_join (wr := []) (w1 := (wB q cq T R S X M P (nI n) h (nI k) ((fX1_validTextProducts X k).2.1) ((fX1_validTextProducts X k).2.2.1) ((fX1_validTextProducts X k).2.2.2.1) ((fX1_validTextProducts X k).2.2.2.2) z)) hP hD [0, 1, 2, 3, 4, 5, 6, 7] [] rfl rfl (by decide) (by decide) hk1 hFc hP1 hD1
  have hP := hP.sub (ws' := (wB q cq T R S X M P (nI n) h (nI k) ((fX1_validTextProducts X k).2.1) ((fX1_validTextProducts X k).2.2.1) ((fX1_validTextProducts X k).2.2.2.1) ((fX1_validTextProducts X k).2.2.2.2) z)) [0, 1, 2, 3, 4, 5, 6, 7] rfl
  have hD := hD.sub (ws' := (wB q cq T R S X M P (nI n) h (nI k) ((fX1_validTextProducts X k).2.1) ((fX1_validTextProducts X k).2.2.1) ((fX1_validTextProducts X k).2.2.2.1) ((fX1_validTextProducts X k).2.2.2.2) z)) [0, 1, 2, 3, 4, 5, 6, 7] (by decide) rfl
  generalize H1 = H at hP hS ⊢
  subst r9
  refine lv_istore_n (lv' := [(2, .int (fX1_validTextProducts X k).1), (0, .ref (q 0)), (1, .int (nI x))]) hx hb dX1_define_8 rfl hl (by decide) rfl (fun ls hl => ?_)
  refine lv_aload_n hx hb dX1_define_9 rfl (lv_at hl 1 rfl) ?_
  have hPc := hP.sub (ws' := (wB q cq T R S X M P (nI n) h (nI k) ((fX1_validTextProducts X k).2.1) ((fX1_validTextProducts X k).2.2.1) ((fX1_validTextProducts X k).2.2.2.1) ((fX1_validTextProducts X k).2.2.2.2) z)) [0, 1, 2, 3, 4, 5, 6, 7] rfl
  have hKc := hK.sub (tys' := (tyB cq)) [0, 1, 2, 3, 4, 5] rfl
  have hDc := hD.sub (ws' := (wB q cq T R S X M P (nI n) h (nI k) ((fX1_validTextProducts X k).2.1) ((fX1_validTextProducts X k).2.2.1) ((fX1_validTextProducts X k).2.2.2.1) ((fX1_validTextProducts X k).2.2.2.2) z)) [0, 1, 2, 3, 4, 5, 6, 7] (by decide) rfl
  have hFc := va_free (wc := (wB q cq T R S X M P (nI n) h (nI k) ((fX1_validTextProducts X k).2.1) ((fX1_validTextProducts X k).2.2.1) ((fX1_validTextProducts X k).2.2.2.1) ((fX1_validTextProducts X k).2.2.2.2) z)) hD hS hA [0, 1, 2, 3, 4, 5, 6, 7] rfl
  refine va_callv (va_runV (As := []) (rest := []) ⟨hx, hb, hml, hown, hts⟩ (c_X1_recordState l D q cq H.size T R S X M P n h (nI k) ((fX1_validTextProducts X k).2.1) ((fX1_validTextProducts X k).2.2.1) ((fX1_validTextProducts X k).2.2.2.1) ((fX1_validTextProducts X k).2.2.2.2) z (by omega)) (cwV 0 hts gX1_define_X1_recordState rfl rfl rfl (by decide +kernel) ⟨Nat.le_of_ble_eq_true rfl, Nat.le_of_ble_eq_true rfl⟩) ⟨fun a U g mk z => ⟨z.1, z.2.1, z.2.2.1, va_K.moved (u := U) (U := U.calling g mk a) (Vm.Alike.refl U.vm) z.2.2.2.1, z.2.2.2.2.1, z.2.2.2.2.2.blind g mk a⟩, va_recv hKc hPc (ci := 1) (q0 := 0) rfl rfl, fun U hU hW => ⟨rfl, by rw [hU], by rw [hU]; exact hPc, va_K.moved hW.alike hKc, hDc.weaken (fun _ _ _ _ => trivial), hE.at hS hU hW hFc⟩⟩ rfl rfl hl.1 rfl (lv_room (Nat.le_of_ble_eq_true rfl)) dX1_define_10 ⟨(Nat.zero_le _), (Nat.zero_le _)⟩) hS (fun q _ h => hFc q h) hFc (fun u9 t8 H1 locs ht hvm hw hB hz1 hk1 hS => ?_)
  obtain ⟨hP1, hD1⟩ := hB
  rw [ht] at hP1
  obtain ⟨hP, hD⟩ := va_join (wr := []) (w1 := (wB q cq T ((fX1_recordState T R n).1) S X M P (nI (fX1_recordState T R n).2) h (nI k) ((fX1_validTextProducts X k).2.1) ((fX1_validTextProducts X k).2.2.1) ((fX1_validTextProducts X k).2.2.2.1) ((fX1_validTextProducts X k).2.2.2.2) z)) hP hD [0, 1, 2, 3, 4, 5, 6, 7] [] rfl rfl (by decide) (by decide) hk1 hFc hP1 hD1
  have hP := hP.sub (ws' := (wB q cq T ((fX1_recordState T R n).1) S X M P (nI (fX1_recordState T R n).2) h (nI k) ((fX1_validTextProducts X k).2.1) ((fX1_validTextProducts X k).2.2.1) ((fX1_validTextProducts X k).2.2.2.1) ((fX1_validTextProducts X k).2.2.2.2) z)) [0, 1, 2, 3, 4, 5, 6, 7] rfl
  have hD := hD.sub (ws' := (wB q cq T ((fX1_recordState T R n).1) S X M P (nI (fX1_recordState T R n).2) h (nI k) ((fX1_validTextProducts X k).2.1) ((fX1_validTextProducts X k).2.2.1) ((fX1_validTextProducts X k).2.2.2.1) ((fX1_validTextProducts X k).2.2.2.2) z)) [0, 1, 2, 3, 4, 5, 6, 7] (by decide) rfl
  generalize H1 = H at hP hS ⊢
  refine lv_aload_n hx hb dX1_define_13 rfl (lv_at hl 1 rfl) ?_
  refine va_get (D := D) (ci := 1) (v := .ref (q 1)) (C := RX1) (T := TX1) (N := 11) hx hb hts in_X1_define_X1 hown hK hP 0 rfl rfl 0 (by decide) (hts (.fieldLink RX1 9 "ZhegalkinBench" "tables" "[I") (List.mem_of_getElem? (i := 1) rfl)) (fun _ h9 => h9) rfl dX1_define_14 ?_
  refine lv_iload_n hx hb dX1_define_17 rfl (lv_at hl 2 rfl) ?_
  refine lv_iload_n hx hb dX1_define_18 rfl (lv_at hl 0 rfl) ?_
  refine vp_callSi (va_Run.run (va_runS (As := [.int (fX1_validTextProducts X k).1]) (rest := [.int (nI x), .ref (q 1)]) ⟨hx, hb, hml, hown, hts⟩ (c_X1_addHalves l ((fX1_validTextProducts X k).1)) (va_cwS 1 hts gX1_define_X1_addHalves rfl rfl rfl (by decide +kernel) ⟨Nat.le_of_ble_eq_true rfl, Nat.le_of_ble_eq_true rfl⟩) ⟨fun a U g mk z => ⟨z.1, z.2.blind g mk a⟩, fun U hU hW => ⟨rfl, hE.at0 hS hU hW⟩⟩ rfl rfl hl.1 rfl (lv_room (Nat.le_of_ble_eq_true rfl)) dX1_define_19 ⟨(Nat.zero_le _), (Nat.zero_le _)⟩)) (fun r9 hr => ?_)
  subst r9
  refine vz_iast hx hb hK hP hD hS 1 0 rfl rfl x (by omega) (by decide) dX1_define_22 (fun H locs hP hD hS => ?_)
  have hP : va_P D vwCl (wB q cq (upd T x (fX1_addHalves ((fX1_validTextProducts X k).1))) ((fX1_recordState T R n).1) S X M P (nI (fX1_recordState T R n).2) h (nI k) ((fX1_validTextProducts X k).2.1) ((fX1_validTextProducts X k).2.2.1) ((fX1_validTextProducts X k).2.2.2.1) ((fX1_validTextProducts X k).2.2.2.2) z) H := hP
  have hD : va_D A (wB q cq (upd T x (fX1_addHalves ((fX1_validTextProducts X k).1))) ((fX1_recordState T R n).1) S X M P (nI (fX1_recordState T R n).2) h (nI k) ((fX1_validTextProducts X k).2.1) ((fX1_validTextProducts X k).2.2.1) ((fX1_validTextProducts X k).2.2.2.1) ((fX1_validTextProducts X k).2.2.2.2) z) := hD
  refine lv_iload_n hx hb dX1_define_23 rfl (lv_at hl 0 rfl) ?_
  refine vp_callSi (va_Run.run (va_runS (As := [.int (fX1_validTextProducts X k).1]) (rest := []) ⟨hx, hb, hml, hown, hts⟩ (c_J6_bitCount_0f7a4 l ((fX1_validTextProducts X k).1)) (va_cwS 1 hts gX1_define_J6_bitCount_0f7a4 rfl rfl rfl (by decide +kernel) ⟨Nat.le_of_ble_eq_true rfl, Nat.le_of_ble_eq_true rfl⟩) ⟨fun _ _ _ _ z => z, fun _ _ _ => ⟨rfl, trivial⟩⟩ rfl rfl hl.1 rfl (lv_room (Nat.le_of_ble_eq_true rfl)) dX1_define_24 ⟨(Nat.zero_le _), (Nat.zero_le _)⟩)) (fun r9 hr => ?_)
  subst r9
  have hq : (fX1_define T R X n k x) = ((fJ6_bitCount_0f7a4 ((fX1_validTextProducts X k).1)), (upd T x (fX1_addHalves ((fX1_validTextProducts X k).1))), (fX1_recordState T R n).1, ((fX1_recordState T R n).2), (fX1_validTextProducts X k).2.1, (fX1_validTextProducts X k).2.2.1, (fX1_validTextProducts X k).2.2.2.1, (fX1_validTextProducts X k).2.2.2.2) := Eq.symm (by first | ((rw [fX1_define]); first | done | rfl) | rfl)
  exact W.iret (v := (fJ6_bitCount_0f7a4 ((fX1_validTextProducts X k).1))) hx hb hr (fun t9 ht hW => ⟨⟨(fJ6_bitCount_0f7a4 ((fX1_validTextProducts X k).1)), (), rfl, by rw [hq], by rw [hq]; exact ⟨by rw [ht]; exact hP, hD⟩⟩, hS.F ht⟩) hS.2.2 dX1_define_27
theorem in_X1_setTable_X1 : ∀ w ∈ wsX10, w ∈ wsX1_setTable := by decide +kernel
def fX1_setTable (T : Nat → Int32) (R : Nat → Int32) (n : Nat) (x : Nat) (x2 : Int32) : Int32 × (Nat → Int32) × (Nat → Int32) × Nat := ((T x), (upd T x x2), (fX1_recordState T R n).1, ((fX1_recordState T R n).2))
set_option maxHeartbeats 4000000 in
set_option maxRecDepth 100000 in
theorem c_X1_setTable (l : Launch) (D : va_G) (q : Nat → Nat) (cq : Nat → ClassId) (sz : Nat) (T : Nat → Int32) (R : Nat → Int32) (S : Nat → Int32) (X : Nat → Int32) (M : Nat → Int32) (P : Nat → Int32) (n : Nat) (h : Int32) (k : Int32) (w : Int32) (f : Int32) (d : Int32) (v : Int32) (z : Int32) (x : Nat) (x2 : Int32) (hn : n ≤ 4) (hx6 : x < 6) (hlo : ¬ x2 < 0) (hhi : x2 ≤ 65535) : Met l yX1_setTable wsX1_setTable ({ frames := 2, cells := 0, slots := 0, locals := 60 }) (va_Pc [.ref (q 0), .int (nI x), .int x2] (fun U => U.heap.size = sz ∧ va_P D vwCl (wB q cq T R S X M P (nI n) h k w f d v z) U.heap ∧ va_K D vwCl (tyB cq) U ∧ va_D (fun _ => True) (wB q cq T R S X M P (nI n) h k w f d v z) ∧ envE (va_A (wB q cq T R S X M P (nI n) h k w f d v z) sz) U)) (va_Qi (fun r9 (_ : Unit) => r9 = (fX1_setTable T R n x x2).1) (fun _ t9 => va_P D vwCl (wB q cq ((fX1_setTable T R n x x2).2.1) ((fX1_setTable T R n x x2).2.2.1) S X M P (nI (fX1_setTable T R n x x2).2.2.2) h k w f d v z) t9.heap ∧ va_D (va_A (wB q cq T R S X M P (nI n) h k w f d v z) sz) (wB q cq ((fX1_setTable T R n x x2).2.1) ((fX1_setTable T R n x x2).2.2.1) S X M P (nI (fX1_setTable T R n x x2).2.2.2) h k w f d v z)) (va_A (wB q cq T R S X M P (nI n) h k w f d v z) sz)) 0 0 (va_A (wB q cq T R S X M P (nI n) h k w f d v z) sz) := by
  refine Met.ofW (cc := cX1_setTable) (maxL := 4) (ret := (some .int)) (by decide) rfl ?_
  intro p e s m args below meth c s₁ B hml hv
  obtain ⟨rfl, hsz, hP, hK, hD0, hE⟩ := hv
  have hx := B.exec
  have hb := B.bytes
  have hr := B.returns
  have hts := atoms_spec (ws := wsX1_setTable) B.pre
  have hown : s.vm.findClass RX1 = some m.cls := findClass_of_methodNamed B.named
  have hlocks := B.notSynchronized
  subst hsz
  have hD := hD0.self (sz := s.heap.size)
  generalize hAe : va_A (wB q cq T R S X M P (nI n) h k w f d v z) s.heap.size = A at hD hE ⊢
  have hA : ∀ q : Nat, s.heap.size ≤ q → A q := fun q h => by rw [← hAe]; exact Or.inr h
  have hS : va_S A s.heap s.heap [] := va_S.rf
  have hP : va_P D vwCl (wB q cq T R S X M P (nI n) h k w f d v z) s.heap := hP
  have hl := lv_entry ([.ref (q 0), .int (nI x), .int x2]) (n := 4) (Nat.le_of_ble_eq_true rfl)
  rw [lg_entry_eq]
  generalize (lg_sl ([.ref (q 0), .int (nI x), .int x2]) ++ List.replicate (4 - (lg_sl ([.ref (q 0), .int (nI x), .int x2])).length) Slot.unset).toArray = ls at hl ⊢
  have hl : lv_has ls 4 [(0, .ref (q 0)), (1, .int (nI x)), (2, .int x2)] := hl
  refine lv_iload_n hx hb dX1_setTable_0 rfl (lv_at hl 1 rfl) ?_
  refine va_csv (va_Run.run (va_runS (As := [.int (nI x)]) (rest := []) ⟨hx, hb, hml, hown, hts⟩ (c_X1_checkFunction l x (by omega)) (va_cwS 1 hts gX1_setTable_X1_checkFunction rfl rfl rfl (by decide +kernel) ⟨Nat.le_of_ble_eq_true rfl, Nat.le_of_ble_eq_true rfl⟩) ⟨fun _ _ _ _ z => z, fun _ _ _ => ⟨rfl, trivial⟩⟩ rfl rfl hl.1 rfl (lv_room (Nat.le_of_ble_eq_true rfl)) dX1_setTable_1 ⟨(Nat.zero_le _), (Nat.zero_le _)⟩)) (fun _ => ?_)
  refine lv_iload_n hx hb dX1_setTable_4 rfl (lv_at hl 2 rfl) ?_
  refine lv_if_lt (tgt := 14) hx hb dX1_setTable_5 (by decide) (fun c_1 => ?_) (fun c_1 => ?_)
  · exact absurd c_1 hlo
  · refine lv_iload_n hx hb dX1_setTable_8 rfl (lv_at hl 2 rfl) ?_
    refine lv_ldc (v := 65535) hx hb hown (hts (.constant RX1 53 (65535)) (List.mem_of_getElem? (i := 3) rfl)) dX1_setTable_9 ?_
    refine lv_icmp_le (tgt := 24) hx hb dX1_setTable_11 (by decide) (fun c_2 => ?_) (fun c_2 => ?_)
    · refine lv_aload_n hx hb dX1_setTable_24 rfl (lv_at hl 0 rfl) ?_
      refine va_get (D := D) (ci := 1) (v := .ref (q 1)) (C := RX1) (T := TX1) (N := 11) hx hb hts in_X1_setTable_X1 hown hK hP 0 rfl rfl 0 (by decide) (hts (.fieldLink RX1 9 "ZhegalkinBench" "tables" "[I") (List.mem_of_getElem? (i := 4) rfl)) (fun _ h9 => h9) rfl dX1_setTable_25 ?_
      refine lv_iload_n hx hb dX1_setTable_28 rfl (lv_at hl 1 rfl) ?_
      refine vz_iald hx hb hK hP 1 0 rfl rfl x (by omega) (by decide) dX1_setTable_29 ?_
      refine lv_istore_n (lv' := [(3, .int (T x)), (0, .ref (q 0)), (1, .int (nI x)), (2, .int x2)]) hx hb dX1_setTable_30 rfl hl (by decide) rfl (fun ls hl => ?_)
      refine lv_aload_n hx hb dX1_setTable_31 rfl (lv_at hl 1 rfl) ?_
      have hPc := hP.sub (ws' := (wB q cq T R S X M P (nI n) h k w f d v z)) [0, 1, 2, 3, 4, 5, 6, 7] rfl
      have hKc := hK.sub (tys' := (tyB cq)) [0, 1, 2, 3, 4, 5] rfl
      have hDc := hD.sub (ws' := (wB q cq T R S X M P (nI n) h k w f d v z)) [0, 1, 2, 3, 4, 5, 6, 7] (by decide) rfl
      have hFc := va_free (wc := (wB q cq T R S X M P (nI n) h k w f d v z)) hD hS hA [0, 1, 2, 3, 4, 5, 6, 7] rfl
      refine va_callv (va_runV (As := []) (rest := []) ⟨hx, hb, hml, hown, hts⟩ (c_X1_recordState l D q cq s.heap.size T R S X M P n h k w f d v z (by omega)) (cwV 0 hts gX1_setTable_X1_recordState rfl rfl rfl (by decide +kernel) ⟨Nat.le_of_ble_eq_true rfl, Nat.le_of_ble_eq_true rfl⟩) ⟨fun a U g mk z => ⟨z.1, z.2.1, z.2.2.1, va_K.moved (u := U) (U := U.calling g mk a) (Vm.Alike.refl U.vm) z.2.2.2.1, z.2.2.2.2.1, z.2.2.2.2.2.blind g mk a⟩, va_recv hKc hPc (ci := 1) (q0 := 0) rfl rfl, fun U hU hW => ⟨rfl, by rw [hU], by rw [hU]; exact hPc, va_K.moved hW.alike hKc, hDc.weaken (fun _ _ _ _ => trivial), hE.at hS hU hW hFc⟩⟩ rfl rfl hl.1 rfl (lv_room (Nat.le_of_ble_eq_true rfl)) dX1_setTable_32 ⟨(Nat.zero_le _), (Nat.zero_le _)⟩) hS (fun q _ h => hFc q h) hFc (fun u9 t8 H1 locs ht hvm hw hB hz1 hk1 hS => ?_)
      obtain ⟨hP1, hD1⟩ := hB
      rw [ht] at hP1
      obtain ⟨hP, hD⟩ := va_join (wr := []) (w1 := (wB q cq T ((fX1_recordState T R n).1) S X M P (nI (fX1_recordState T R n).2) h k w f d v z)) hP hD [0, 1, 2, 3, 4, 5, 6, 7] [] rfl rfl (by decide) (by decide) hk1 hFc hP1 hD1
      have hP := hP.sub (ws' := (wB q cq T ((fX1_recordState T R n).1) S X M P (nI (fX1_recordState T R n).2) h k w f d v z)) [0, 1, 2, 3, 4, 5, 6, 7] rfl
      have hD := hD.sub (ws' := (wB q cq T ((fX1_recordState T R n).1) S X M P (nI (fX1_recordState T R n).2) h k w f d v z)) [0, 1, 2, 3, 4, 5, 6, 7] (by decide) rfl
      generalize H1 = H at hP hS ⊢
      refine lv_aload_n hx hb dX1_setTable_35 rfl (lv_at hl 1 rfl) ?_
      refine va_get (D := D) (ci := 1) (v := .ref (q 1)) (C := RX1) (T := TX1) (N := 11) hx hb hts in_X1_setTable_X1 hown hK hP 0 rfl rfl 0 (by decide) (hts (.fieldLink RX1 9 "ZhegalkinBench" "tables" "[I") (List.mem_of_getElem? (i := 4) rfl)) (fun _ h9 => h9) rfl dX1_setTable_36 ?_
      refine lv_iload_n hx hb dX1_setTable_39 rfl (lv_at hl 2 rfl) ?_
      refine lv_iload_n hx hb dX1_setTable_40 rfl (lv_at hl 3 rfl) ?_
      refine vz_iast hx hb hK hP hD hS 1 0 rfl rfl x (by omega) (by decide) dX1_setTable_41 (fun H locs hP hD hS => ?_)
      have hP : va_P D vwCl (wB q cq (upd T x x2) ((fX1_recordState T R n).1) S X M P (nI (fX1_recordState T R n).2) h k w f d v z) H := hP
      have hD : va_D A (wB q cq (upd T x x2) ((fX1_recordState T R n).1) S X M P (nI (fX1_recordState T R n).2) h k w f d v z) := hD
      refine lv_iload_n hx hb dX1_setTable_42 rfl (lv_at hl 0 rfl) ?_
      have hq : (fX1_setTable T R n x x2) = ((T x), (upd T x x2), (fX1_recordState T R n).1, ((fX1_recordState T R n).2)) := Eq.symm (by first | ((rw [fX1_setTable]); first | done | rfl) | rfl)
      exact W.iret (v := (T x)) hx hb hr (fun t9 ht hW => ⟨⟨(T x), (), rfl, by rw [hq], by rw [hq]; exact ⟨by rw [ht]; exact hP, hD⟩⟩, hS.F ht⟩) hS.2.2 dX1_setTable_43
    · exact absurd hhi c_2
theorem in_X1_join_X1 : ∀ w ∈ wsX10, w ∈ wsX1_join := by decide +kernel
def fX1_join (T : Nat → Int32) (R : Nat → Int32) (n : Nat) (x : Nat) (x2 : Nat) (x3 : Nat) (x4 : Nat) : Int32 × (Nat → Int32) × (Nat → Int32) × Nat := ((fX1_joinTables (T x2) (T x3) (nI x4)), (upd T x (fX1_joinTables (T x2) (T x3) (nI x4))), (fX1_recordState T R n).1, ((fX1_recordState T R n).2))
set_option maxHeartbeats 4000000 in
set_option maxRecDepth 100000 in
theorem c_X1_join (l : Launch) (D : va_G) (q : Nat → Nat) (cq : Nat → ClassId) (sz : Nat) (T : Nat → Int32) (R : Nat → Int32) (S : Nat → Int32) (X : Nat → Int32) (M : Nat → Int32) (P : Nat → Int32) (n : Nat) (h : Int32) (k : Int32) (w : Int32) (f : Int32) (d : Int32) (v : Int32) (z : Int32) (x : Nat) (x2 : Nat) (x3 : Nat) (x4 : Nat) (hn : n ≤ 4) (hx6 : x < 6) (hx26 : x2 < 6) (hx36 : x3 < 6) (hx44 : x4 < 4) : Met l yX1_join wsX1_join ({ frames := 2, cells := 0, slots := 0, locals := 60 }) (va_Pc [.ref (q 0), .int (nI x), .int (nI x2), .int (nI x3), .int (nI x4)] (fun U => U.heap.size = sz ∧ va_P D vwCl (wB q cq T R S X M P (nI n) h k w f d v z) U.heap ∧ va_K D vwCl (tyB cq) U ∧ va_D (fun _ => True) (wB q cq T R S X M P (nI n) h k w f d v z) ∧ envE (va_A (wB q cq T R S X M P (nI n) h k w f d v z) sz) U)) (va_Qi (fun r9 (_ : Unit) => r9 = (fX1_join T R n x x2 x3 x4).1) (fun _ t9 => va_P D vwCl (wB q cq ((fX1_join T R n x x2 x3 x4).2.1) ((fX1_join T R n x x2 x3 x4).2.2.1) S X M P (nI (fX1_join T R n x x2 x3 x4).2.2.2) h k w f d v z) t9.heap ∧ va_D (va_A (wB q cq T R S X M P (nI n) h k w f d v z) sz) (wB q cq ((fX1_join T R n x x2 x3 x4).2.1) ((fX1_join T R n x x2 x3 x4).2.2.1) S X M P (nI (fX1_join T R n x x2 x3 x4).2.2.2) h k w f d v z)) (va_A (wB q cq T R S X M P (nI n) h k w f d v z) sz)) 0 0 (va_A (wB q cq T R S X M P (nI n) h k w f d v z) sz) := by
  refine Met.ofW (cc := cX1_join) (maxL := 6) (ret := (some .int)) (by decide) rfl ?_
  intro p e s m args below meth c s₁ B hml hv
  obtain ⟨rfl, hsz, hP, hK, hD0, hE⟩ := hv
  have hx := B.exec
  have hb := B.bytes
  have hr := B.returns
  have hts := atoms_spec (ws := wsX1_join) B.pre
  have hown : s.vm.findClass RX1 = some m.cls := findClass_of_methodNamed B.named
  have hlocks := B.notSynchronized
  subst hsz
  have hD := hD0.self (sz := s.heap.size)
  generalize hAe : va_A (wB q cq T R S X M P (nI n) h k w f d v z) s.heap.size = A at hD hE ⊢
  have hA : ∀ q : Nat, s.heap.size ≤ q → A q := fun q h => by rw [← hAe]; exact Or.inr h
  have hS : va_S A s.heap s.heap [] := va_S.rf
  have hP : va_P D vwCl (wB q cq T R S X M P (nI n) h k w f d v z) s.heap := hP
  have hl := lv_entry ([.ref (q 0), .int (nI x), .int (nI x2), .int (nI x3), .int (nI x4)]) (n := 6) (Nat.le_of_ble_eq_true rfl)
  rw [lg_entry_eq]
  generalize (lg_sl ([.ref (q 0), .int (nI x), .int (nI x2), .int (nI x3), .int (nI x4)]) ++ List.replicate (6 - (lg_sl ([.ref (q 0), .int (nI x), .int (nI x2), .int (nI x3), .int (nI x4)])).length) Slot.unset).toArray = ls at hl ⊢
  have hl : lv_has ls 6 [(0, .ref (q 0)), (1, .int (nI x)), (2, .int (nI x2)), (3, .int (nI x3)), (4, .int (nI x4))] := hl
  refine lv_iload_n hx hb dX1_join_0 rfl (lv_at hl 1 rfl) ?_
  refine va_csv (va_Run.run (va_runS (As := [.int (nI x)]) (rest := []) ⟨hx, hb, hml, hown, hts⟩ (c_X1_checkFunction l x (by omega)) (va_cwS 1 hts gX1_join_X1_checkFunction rfl rfl rfl (by decide +kernel) ⟨Nat.le_of_ble_eq_true rfl, Nat.le_of_ble_eq_true rfl⟩) ⟨fun _ _ _ _ z => z, fun _ _ _ => ⟨rfl, trivial⟩⟩ rfl rfl hl.1 rfl (lv_room (Nat.le_of_ble_eq_true rfl)) dX1_join_1 ⟨(Nat.zero_le _), (Nat.zero_le _)⟩)) (fun _ => ?_)
  refine lv_iload_n hx hb dX1_join_4 rfl (lv_at hl 2 rfl) ?_
  refine va_csv (va_Run.run (va_runS (As := [.int (nI x2)]) (rest := []) ⟨hx, hb, hml, hown, hts⟩ (c_X1_checkFunction l x2 (by omega)) (va_cwS 1 hts gX1_join_X1_checkFunction rfl rfl rfl (by decide +kernel) ⟨Nat.le_of_ble_eq_true rfl, Nat.le_of_ble_eq_true rfl⟩) ⟨fun _ _ _ _ z => z, fun _ _ _ => ⟨rfl, trivial⟩⟩ rfl rfl hl.1 rfl (lv_room (Nat.le_of_ble_eq_true rfl)) dX1_join_5 ⟨(Nat.zero_le _), (Nat.zero_le _)⟩)) (fun _ => ?_)
  refine lv_iload_n hx hb dX1_join_8 rfl (lv_at hl 3 rfl) ?_
  refine va_csv (va_Run.run (va_runS (As := [.int (nI x3)]) (rest := []) ⟨hx, hb, hml, hown, hts⟩ (c_X1_checkFunction l x3 (by omega)) (va_cwS 1 hts gX1_join_X1_checkFunction rfl rfl rfl (by decide +kernel) ⟨Nat.le_of_ble_eq_true rfl, Nat.le_of_ble_eq_true rfl⟩) ⟨fun _ _ _ _ z => z, fun _ _ _ => ⟨rfl, trivial⟩⟩ rfl rfl hl.1 rfl (lv_room (Nat.le_of_ble_eq_true rfl)) dX1_join_9 ⟨(Nat.zero_le _), (Nat.zero_le _)⟩)) (fun _ => ?_)
  refine lv_iload hx hb dX1_join_12 (lv_at hl 4 rfl) ?_
  refine lv_if_lt (tgt := 23) hx hb dX1_join_14 (by decide) (fun c_1 => ?_) (fun c_1 => ?_)
  · exact absurd c_1 (nI_pos (by omega))
  · refine lv_iload hx hb dX1_join_17 (lv_at hl 4 rfl) ?_
    refine lv_iconst (v := 3) hx hb dX1_join_19 (by decide) ?_
    refine lv_icmp_le (tgt := 33) hx hb dX1_join_20 (by decide) (fun c_2 => ?_) (fun c_2 => ?_)
    · refine lv_aload_n hx hb dX1_join_33 rfl (lv_at hl 0 rfl) ?_
      refine va_get (D := D) (ci := 1) (v := .ref (q 1)) (C := RX1) (T := TX1) (N := 11) hx hb hts in_X1_join_X1 hown hK hP 0 rfl rfl 0 (by decide) (hts (.fieldLink RX1 9 "ZhegalkinBench" "tables" "[I") (List.mem_of_getElem? (i := 3) rfl)) (fun _ h9 => h9) rfl dX1_join_34 ?_
      refine lv_iload_n hx hb dX1_join_37 rfl (lv_at hl 2 rfl) ?_
      refine vz_iald hx hb hK hP 1 0 rfl rfl x2 (by omega) (by decide) dX1_join_38 ?_
      refine lv_aload_n hx hb dX1_join_39 rfl (lv_at hl 0 rfl) ?_
      refine va_get (D := D) (ci := 1) (v := .ref (q 1)) (C := RX1) (T := TX1) (N := 11) hx hb hts in_X1_join_X1 hown hK hP 0 rfl rfl 0 (by decide) (hts (.fieldLink RX1 9 "ZhegalkinBench" "tables" "[I") (List.mem_of_getElem? (i := 3) rfl)) (fun _ h9 => h9) rfl dX1_join_40 ?_
      refine lv_iload_n hx hb dX1_join_43 rfl (lv_at hl 3 rfl) ?_
      refine vz_iald hx hb hK hP 1 0 rfl rfl x3 (by omega) (by decide) dX1_join_44 ?_
      refine lv_iload hx hb dX1_join_45 (lv_at hl 4 rfl) ?_
      refine vp_callSi (va_Run.run (va_runS (As := [.int (T x2), .int (T x3), .int (nI x4)]) (rest := []) ⟨hx, hb, hml, hown, hts⟩ (c_X1_joinTables l (T x2) (T x3) (nI x4)) (va_cwS 3 hts gX1_join_X1_joinTables rfl rfl rfl (by decide +kernel) ⟨Nat.le_of_ble_eq_true rfl, Nat.le_of_ble_eq_true rfl⟩) ⟨fun _ _ _ _ z => z, fun _ _ _ => ⟨rfl, trivial⟩⟩ rfl rfl hl.1 rfl (lv_room (Nat.le_of_ble_eq_true rfl)) dX1_join_47 ⟨(Nat.zero_le _), (Nat.zero_le _)⟩)) (fun r9 hr => ?_)
      subst r9
      refine lv_istore (lv' := [(5, .int (fX1_joinTables (T x2) (T x3) (nI x4))), (0, .ref (q 0)), (1, .int (nI x)), (2, .int (nI x2)), (3, .int (nI x3)), (4, .int (nI x4))]) hx hb dX1_join_50 hl (by decide) rfl (fun ls hl => ?_)
      refine lv_aload_n hx hb dX1_join_52 rfl (lv_at hl 1 rfl) ?_
      have hPc := hP.sub (ws' := (wB q cq T R S X M P (nI n) h k w f d v z)) [0, 1, 2, 3, 4, 5, 6, 7] rfl
      have hKc := hK.sub (tys' := (tyB cq)) [0, 1, 2, 3, 4, 5] rfl
      have hDc := hD.sub (ws' := (wB q cq T R S X M P (nI n) h k w f d v z)) [0, 1, 2, 3, 4, 5, 6, 7] (by decide) rfl
      have hFc := va_free (wc := (wB q cq T R S X M P (nI n) h k w f d v z)) hD hS hA [0, 1, 2, 3, 4, 5, 6, 7] rfl
      refine va_callv (va_runV (As := []) (rest := []) ⟨hx, hb, hml, hown, hts⟩ (c_X1_recordState l D q cq s.heap.size T R S X M P n h k w f d v z (by omega)) (cwV 0 hts gX1_join_X1_recordState rfl rfl rfl (by decide +kernel) ⟨Nat.le_of_ble_eq_true rfl, Nat.le_of_ble_eq_true rfl⟩) ⟨fun a U g mk z => ⟨z.1, z.2.1, z.2.2.1, va_K.moved (u := U) (U := U.calling g mk a) (Vm.Alike.refl U.vm) z.2.2.2.1, z.2.2.2.2.1, z.2.2.2.2.2.blind g mk a⟩, va_recv hKc hPc (ci := 1) (q0 := 0) rfl rfl, fun U hU hW => ⟨rfl, by rw [hU], by rw [hU]; exact hPc, va_K.moved hW.alike hKc, hDc.weaken (fun _ _ _ _ => trivial), hE.at hS hU hW hFc⟩⟩ rfl rfl hl.1 rfl (lv_room (Nat.le_of_ble_eq_true rfl)) dX1_join_53 ⟨(Nat.zero_le _), (Nat.zero_le _)⟩) hS (fun q _ h => hFc q h) hFc (fun u9 t8 H1 locs ht hvm hw hB hz1 hk1 hS => ?_)
      obtain ⟨hP1, hD1⟩ := hB
      rw [ht] at hP1
      obtain ⟨hP, hD⟩ := va_join (wr := []) (w1 := (wB q cq T ((fX1_recordState T R n).1) S X M P (nI (fX1_recordState T R n).2) h k w f d v z)) hP hD [0, 1, 2, 3, 4, 5, 6, 7] [] rfl rfl (by decide) (by decide) hk1 hFc hP1 hD1
      have hP := hP.sub (ws' := (wB q cq T ((fX1_recordState T R n).1) S X M P (nI (fX1_recordState T R n).2) h k w f d v z)) [0, 1, 2, 3, 4, 5, 6, 7] rfl
      have hD := hD.sub (ws' := (wB q cq T ((fX1_recordState T R n).1) S X M P (nI (fX1_recordState T R n).2) h k w f d v z)) [0, 1, 2, 3, 4, 5, 6, 7] (by decide) rfl
      generalize H1 = H at hP hS ⊢
      refine lv_aload_n hx hb dX1_join_56 rfl (lv_at hl 1 rfl) ?_
      refine va_get (D := D) (ci := 1) (v := .ref (q 1)) (C := RX1) (T := TX1) (N := 11) hx hb hts in_X1_join_X1 hown hK hP 0 rfl rfl 0 (by decide) (hts (.fieldLink RX1 9 "ZhegalkinBench" "tables" "[I") (List.mem_of_getElem? (i := 3) rfl)) (fun _ h9 => h9) rfl dX1_join_57 ?_
      refine lv_iload_n hx hb dX1_join_60 rfl (lv_at hl 2 rfl) ?_
      refine lv_iload hx hb dX1_join_61 (lv_at hl 0 rfl) ?_
      refine vz_iast hx hb hK hP hD hS 1 0 rfl rfl x (by omega) (by decide) dX1_join_63 (fun H locs hP hD hS => ?_)
      have hP : va_P D vwCl (wB q cq (upd T x (fX1_joinTables (T x2) (T x3) (nI x4))) ((fX1_recordState T R n).1) S X M P (nI (fX1_recordState T R n).2) h k w f d v z) H := hP
      have hD : va_D A (wB q cq (upd T x (fX1_joinTables (T x2) (T x3) (nI x4))) ((fX1_recordState T R n).1) S X M P (nI (fX1_recordState T R n).2) h k w f d v z) := hD
      refine lv_iload hx hb dX1_join_64 (lv_at hl 0 rfl) ?_
      have hq : (fX1_join T R n x x2 x3 x4) = ((fX1_joinTables (T x2) (T x3) (nI x4)), (upd T x (fX1_joinTables (T x2) (T x3) (nI x4))), (fX1_recordState T R n).1, ((fX1_recordState T R n).2)) := Eq.symm (by first | ((rw [fX1_join]); first | done | rfl) | rfl)
      exact W.iret (v := (fX1_joinTables (T x2) (T x3) (nI x4))) hx hb hr (fun t9 ht hW => ⟨⟨(fX1_joinTables (T x2) (T x3) (nI x4)), (), rfl, by rw [hq], by rw [hq]; exact ⟨by rw [ht]; exact hP, hD⟩⟩, hS.F ht⟩) hS.2.2 dX1_join_66
    · exact absurd (nI_le (a := x4) (b := 3) (by omega) (by omega)) c_2
theorem in_X1_fix_X1 : ∀ w ∈ wsX10, w ∈ wsX1_fix := by decide +kernel
def fX1_fix (T : Nat → Int32) (R : Nat → Int32) (n : Nat) (x : Nat) (x2 : Nat) (x3 : Int32) : Int32 × (Nat → Int32) × (Nat → Int32) × Nat := (((upd T x (fX1_half (T x) (nI x2) x3)) x), (upd T x (fX1_half (T x) (nI x2) x3)), (fX1_recordState T R n).1, ((fX1_recordState T R n).2))
set_option maxHeartbeats 4000000 in
set_option maxRecDepth 100000 in
theorem c_X1_fix (l : Launch) (D : va_G) (q : Nat → Nat) (cq : Nat → ClassId) (sz : Nat) (T : Nat → Int32) (R : Nat → Int32) (S : Nat → Int32) (X : Nat → Int32) (M : Nat → Int32) (P : Nat → Int32) (n : Nat) (h : Int32) (k : Int32) (w : Int32) (f : Int32) (d : Int32) (v : Int32) (z : Int32) (x : Nat) (x2 : Nat) (x3 : Int32) (hn : n ≤ 4) (hx6 : x < 6) (hx24 : x2 < 4) : Met l yX1_fix wsX1_fix ({ frames := 2, cells := 0, slots := 0, locals := 60 }) (va_Pc [.ref (q 0), .int (nI x), .int (nI x2), .int x3] (fun U => U.heap.size = sz ∧ va_P D vwCl (wB q cq T R S X M P (nI n) h k w f d v z) U.heap ∧ va_K D vwCl (tyB cq) U ∧ va_D (fun _ => True) (wB q cq T R S X M P (nI n) h k w f d v z) ∧ envE (va_A (wB q cq T R S X M P (nI n) h k w f d v z) sz) U)) (va_Qi (fun r9 (_ : Unit) => r9 = (fX1_fix T R n x x2 x3).1) (fun _ t9 => va_P D vwCl (wB q cq ((fX1_fix T R n x x2 x3).2.1) ((fX1_fix T R n x x2 x3).2.2.1) S X M P (nI (fX1_fix T R n x x2 x3).2.2.2) h k w f d v z) t9.heap ∧ va_D (va_A (wB q cq T R S X M P (nI n) h k w f d v z) sz) (wB q cq ((fX1_fix T R n x x2 x3).2.1) ((fX1_fix T R n x x2 x3).2.2.1) S X M P (nI (fX1_fix T R n x x2 x3).2.2.2) h k w f d v z)) (va_A (wB q cq T R S X M P (nI n) h k w f d v z) sz)) 0 0 (va_A (wB q cq T R S X M P (nI n) h k w f d v z) sz) := by
  refine Met.ofW (cc := cX1_fix) (maxL := 4) (ret := (some .int)) (by decide) rfl ?_
  intro p e s m args below meth c s₁ B hml hv
  obtain ⟨rfl, hsz, hP, hK, hD0, hE⟩ := hv
  have hx := B.exec
  have hb := B.bytes
  have hr := B.returns
  have hts := atoms_spec (ws := wsX1_fix) B.pre
  have hown : s.vm.findClass RX1 = some m.cls := findClass_of_methodNamed B.named
  have hlocks := B.notSynchronized
  subst hsz
  have hD := hD0.self (sz := s.heap.size)
  generalize hAe : va_A (wB q cq T R S X M P (nI n) h k w f d v z) s.heap.size = A at hD hE ⊢
  have hA : ∀ q : Nat, s.heap.size ≤ q → A q := fun q h => by rw [← hAe]; exact Or.inr h
  have hS : va_S A s.heap s.heap [] := va_S.rf
  have hP : va_P D vwCl (wB q cq T R S X M P (nI n) h k w f d v z) s.heap := hP
  have hl := lv_entry ([.ref (q 0), .int (nI x), .int (nI x2), .int x3]) (n := 4) (Nat.le_of_ble_eq_true rfl)
  rw [lg_entry_eq]
  generalize (lg_sl ([.ref (q 0), .int (nI x), .int (nI x2), .int x3]) ++ List.replicate (4 - (lg_sl ([.ref (q 0), .int (nI x), .int (nI x2), .int x3])).length) Slot.unset).toArray = ls at hl ⊢
  have hl : lv_has ls 4 [(0, .ref (q 0)), (1, .int (nI x)), (2, .int (nI x2)), (3, .int x3)] := hl
  refine lv_iload_n hx hb dX1_fix_0 rfl (lv_at hl 1 rfl) ?_
  refine va_csv (va_Run.run (va_runS (As := [.int (nI x)]) (rest := []) ⟨hx, hb, hml, hown, hts⟩ (c_X1_checkFunction l x (by omega)) (va_cwS 1 hts gX1_fix_X1_checkFunction rfl rfl rfl (by decide +kernel) ⟨Nat.le_of_ble_eq_true rfl, Nat.le_of_ble_eq_true rfl⟩) ⟨fun _ _ _ _ z => z, fun _ _ _ => ⟨rfl, trivial⟩⟩ rfl rfl hl.1 rfl (lv_room (Nat.le_of_ble_eq_true rfl)) dX1_fix_1 ⟨(Nat.zero_le _), (Nat.zero_le _)⟩)) (fun _ => ?_)
  refine lv_iload_n hx hb dX1_fix_4 rfl (lv_at hl 2 rfl) ?_
  refine va_csv (va_Run.run (va_runS (As := [.int (nI x2)]) (rest := []) ⟨hx, hb, hml, hown, hts⟩ (c_X1_checkVariable l x2 (by omega)) (va_cwS 1 hts gX1_fix_X1_checkVariable rfl rfl rfl (by decide +kernel) ⟨Nat.le_of_ble_eq_true rfl, Nat.le_of_ble_eq_true rfl⟩) ⟨fun _ _ _ _ z => z, fun _ _ _ => ⟨rfl, trivial⟩⟩ rfl rfl hl.1 rfl (lv_room (Nat.le_of_ble_eq_true rfl)) dX1_fix_5 ⟨(Nat.zero_le _), (Nat.zero_le _)⟩)) (fun _ => ?_)
  refine lv_aload_n hx hb dX1_fix_8 rfl (lv_at hl 0 rfl) ?_
  have hPc := hP.sub (ws' := (wB q cq T R S X M P (nI n) h k w f d v z)) [0, 1, 2, 3, 4, 5, 6, 7] rfl
  have hKc := hK.sub (tys' := (tyB cq)) [0, 1, 2, 3, 4, 5] rfl
  have hDc := hD.sub (ws' := (wB q cq T R S X M P (nI n) h k w f d v z)) [0, 1, 2, 3, 4, 5, 6, 7] (by decide) rfl
  have hFc := va_free (wc := (wB q cq T R S X M P (nI n) h k w f d v z)) hD hS hA [0, 1, 2, 3, 4, 5, 6, 7] rfl
  refine va_callv (va_runV (As := []) (rest := []) ⟨hx, hb, hml, hown, hts⟩ (c_X1_recordState l D q cq s.heap.size T R S X M P n h k w f d v z (by omega)) (cwV 0 hts gX1_fix_X1_recordState rfl rfl rfl (by decide +kernel) ⟨Nat.le_of_ble_eq_true rfl, Nat.le_of_ble_eq_true rfl⟩) ⟨fun a U g mk z => ⟨z.1, z.2.1, z.2.2.1, va_K.moved (u := U) (U := U.calling g mk a) (Vm.Alike.refl U.vm) z.2.2.2.1, z.2.2.2.2.1, z.2.2.2.2.2.blind g mk a⟩, va_recv hKc hPc (ci := 1) (q0 := 0) rfl rfl, fun U hU hW => ⟨rfl, by rw [hU], by rw [hU]; exact hPc, va_K.moved hW.alike hKc, hDc.weaken (fun _ _ _ _ => trivial), hE.at hS hU hW hFc⟩⟩ rfl rfl hl.1 rfl (lv_room (Nat.le_of_ble_eq_true rfl)) dX1_fix_9 ⟨(Nat.zero_le _), (Nat.zero_le _)⟩) hS (fun q _ h => hFc q h) hFc (fun u9 t8 H1 locs ht hvm hw hB hz1 hk1 hS => ?_)
  obtain ⟨hP1, hD1⟩ := hB
  rw [ht] at hP1
  obtain ⟨hP, hD⟩ := va_join (wr := []) (w1 := (wB q cq T ((fX1_recordState T R n).1) S X M P (nI (fX1_recordState T R n).2) h k w f d v z)) hP hD [0, 1, 2, 3, 4, 5, 6, 7] [] rfl rfl (by decide) (by decide) hk1 hFc hP1 hD1
  have hP := hP.sub (ws' := (wB q cq T ((fX1_recordState T R n).1) S X M P (nI (fX1_recordState T R n).2) h k w f d v z)) [0, 1, 2, 3, 4, 5, 6, 7] rfl
  have hD := hD.sub (ws' := (wB q cq T ((fX1_recordState T R n).1) S X M P (nI (fX1_recordState T R n).2) h k w f d v z)) [0, 1, 2, 3, 4, 5, 6, 7] (by decide) rfl
  generalize H1 = H at hP hS ⊢
  refine lv_aload_n hx hb dX1_fix_12 rfl (lv_at hl 0 rfl) ?_
  refine va_get (D := D) (ci := 1) (v := .ref (q 1)) (C := RX1) (T := TX1) (N := 11) hx hb hts in_X1_fix_X1 hown hK hP 0 rfl rfl 0 (by decide) (hts (.fieldLink RX1 9 "ZhegalkinBench" "tables" "[I") (List.mem_of_getElem? (i := 1) rfl)) (fun _ h9 => h9) rfl dX1_fix_13 ?_
  refine lv_iload_n hx hb dX1_fix_16 rfl (lv_at hl 1 rfl) ?_
  refine lv_aload_n hx hb dX1_fix_17 rfl (lv_at hl 0 rfl) ?_
  refine va_get (D := D) (ci := 1) (v := .ref (q 1)) (C := RX1) (T := TX1) (N := 11) hx hb hts in_X1_fix_X1 hown hK hP 0 rfl rfl 0 (by decide) (hts (.fieldLink RX1 9 "ZhegalkinBench" "tables" "[I") (List.mem_of_getElem? (i := 1) rfl)) (fun _ h9 => h9) rfl dX1_fix_18 ?_
  refine lv_iload_n hx hb dX1_fix_21 rfl (lv_at hl 1 rfl) ?_
  refine vz_iald hx hb hK hP 1 0 rfl rfl x (by omega) (by decide) dX1_fix_22 ?_
  refine lv_iload_n hx hb dX1_fix_23 rfl (lv_at hl 2 rfl) ?_
  refine lv_iload_n hx hb dX1_fix_24 rfl (lv_at hl 3 rfl) ?_
  refine vp_callSi (va_Run.run (va_runS (As := [.int (T x), .int (nI x2), .int x3]) (rest := [.int (nI x), .ref (q 1)]) ⟨hx, hb, hml, hown, hts⟩ (c_X1_half l (T x) (nI x2) x3 (vp_in_nI (n := x2) (by omega) (by decide))) (va_cwS 3 hts gX1_fix_X1_half rfl rfl rfl (by decide +kernel) ⟨Nat.le_of_ble_eq_true rfl, Nat.le_of_ble_eq_true rfl⟩) ⟨fun a U g mk z => ⟨z.1, z.2.blind g mk a⟩, fun U hU hW => ⟨rfl, hE.at0 hS hU hW⟩⟩ rfl rfl hl.1 rfl (lv_room (Nat.le_of_ble_eq_true rfl)) dX1_fix_25 ⟨(Nat.zero_le _), (Nat.zero_le _)⟩)) (fun r9 hr => ?_)
  subst r9
  refine vz_iast hx hb hK hP hD hS 1 0 rfl rfl x (by omega) (by decide) dX1_fix_28 (fun H locs hP hD hS => ?_)
  have hP : va_P D vwCl (wB q cq (upd T x (fX1_half (T x) (nI x2) x3)) ((fX1_recordState T R n).1) S X M P (nI (fX1_recordState T R n).2) h k w f d v z) H := hP
  have hD : va_D A (wB q cq (upd T x (fX1_half (T x) (nI x2) x3)) ((fX1_recordState T R n).1) S X M P (nI (fX1_recordState T R n).2) h k w f d v z) := hD
  refine lv_aload_n hx hb dX1_fix_29 rfl (lv_at hl 0 rfl) ?_
  refine va_get (D := D) (ci := 1) (v := .ref (q 1)) (C := RX1) (T := TX1) (N := 11) hx hb hts in_X1_fix_X1 hown hK hP 0 rfl rfl 0 (by decide) (hts (.fieldLink RX1 9 "ZhegalkinBench" "tables" "[I") (List.mem_of_getElem? (i := 1) rfl)) (fun _ h9 => h9) rfl dX1_fix_30 ?_
  refine lv_iload_n hx hb dX1_fix_33 rfl (lv_at hl 1 rfl) ?_
  refine vz_iald hx hb hK hP 1 0 rfl rfl x (by omega) (by decide) dX1_fix_34 ?_
  have hq : (fX1_fix T R n x x2 x3) = (((upd T x (fX1_half (T x) (nI x2) x3)) x), (upd T x (fX1_half (T x) (nI x2) x3)), (fX1_recordState T R n).1, ((fX1_recordState T R n).2)) := Eq.symm (by first | ((rw [fX1_fix]); first | done | rfl) | rfl)
  exact W.iret (v := ((upd T x (fX1_half (T x) (nI x2) x3)) x)) hx hb hr (fun t9 ht hW => ⟨⟨((upd T x (fX1_half (T x) (nI x2) x3)) x), (), rfl, by rw [hq], by rw [hq]; exact ⟨by rw [ht]; exact hP, hD⟩⟩, hS.F ht⟩) hS.2.2 dX1_fix_35
theorem in_X1_substitute_X1 : ∀ w ∈ wsX10, w ∈ wsX1_substitute := by decide +kernel
def fX1_substitute (T : Nat → Int32) (R : Nat → Int32) (n : Nat) (x : Nat) (x2 : Nat) (x3 : Nat) : Int32 × (Nat → Int32) × (Nat → Int32) × Nat := (((upd T x (((T x3) &&& (fX1_half (T x) (nI x2) 1)) ||| (((T x3) ^^^ (-1)) &&& (fX1_half (T x) (nI x2) 0)))) x), (upd T x (((T x3) &&& (fX1_half (T x) (nI x2) 1)) ||| (((T x3) ^^^ (-1)) &&& (fX1_half (T x) (nI x2) 0)))), (fX1_recordState T R n).1, ((fX1_recordState T R n).2))
set_option maxHeartbeats 4000000 in
set_option maxRecDepth 100000 in
theorem c_X1_substitute (l : Launch) (D : va_G) (q : Nat → Nat) (cq : Nat → ClassId) (sz : Nat) (T : Nat → Int32) (R : Nat → Int32) (S : Nat → Int32) (X : Nat → Int32) (M : Nat → Int32) (P : Nat → Int32) (n : Nat) (h : Int32) (k : Int32) (w : Int32) (f : Int32) (d : Int32) (v : Int32) (z : Int32) (x : Nat) (x2 : Nat) (x3 : Nat) (hn : n ≤ 4) (hx6 : x < 6) (hx24 : x2 < 4) (hx36 : x3 < 6) : Met l yX1_substitute wsX1_substitute ({ frames := 2, cells := 0, slots := 0, locals := 60 }) (va_Pc [.ref (q 0), .int (nI x), .int (nI x2), .int (nI x3)] (fun U => U.heap.size = sz ∧ va_P D vwCl (wB q cq T R S X M P (nI n) h k w f d v z) U.heap ∧ va_K D vwCl (tyB cq) U ∧ va_D (fun _ => True) (wB q cq T R S X M P (nI n) h k w f d v z) ∧ envE (va_A (wB q cq T R S X M P (nI n) h k w f d v z) sz) U)) (va_Qi (fun r9 (_ : Unit) => r9 = (fX1_substitute T R n x x2 x3).1) (fun _ t9 => va_P D vwCl (wB q cq ((fX1_substitute T R n x x2 x3).2.1) ((fX1_substitute T R n x x2 x3).2.2.1) S X M P (nI (fX1_substitute T R n x x2 x3).2.2.2) h k w f d v z) t9.heap ∧ va_D (va_A (wB q cq T R S X M P (nI n) h k w f d v z) sz) (wB q cq ((fX1_substitute T R n x x2 x3).2.1) ((fX1_substitute T R n x x2 x3).2.2.1) S X M P (nI (fX1_substitute T R n x x2 x3).2.2.2) h k w f d v z)) (va_A (wB q cq T R S X M P (nI n) h k w f d v z) sz)) 0 0 (va_A (wB q cq T R S X M P (nI n) h k w f d v z) sz) := by
  refine Met.ofW (cc := cX1_substitute) (maxL := 7) (ret := (some .int)) (by decide) rfl ?_
  intro p e s m args below meth c s₁ B hml hv
  obtain ⟨rfl, hsz, hP, hK, hD0, hE⟩ := hv
  have hx := B.exec
  have hb := B.bytes
  have hr := B.returns
  have hts := atoms_spec (ws := wsX1_substitute) B.pre
  have hown : s.vm.findClass RX1 = some m.cls := findClass_of_methodNamed B.named
  have hlocks := B.notSynchronized
  subst hsz
  have hD := hD0.self (sz := s.heap.size)
  generalize hAe : va_A (wB q cq T R S X M P (nI n) h k w f d v z) s.heap.size = A at hD hE ⊢
  have hA : ∀ q : Nat, s.heap.size ≤ q → A q := fun q h => by rw [← hAe]; exact Or.inr h
  have hS : va_S A s.heap s.heap [] := va_S.rf
  have hP : va_P D vwCl (wB q cq T R S X M P (nI n) h k w f d v z) s.heap := hP
  have hl := lv_entry ([.ref (q 0), .int (nI x), .int (nI x2), .int (nI x3)]) (n := 7) (Nat.le_of_ble_eq_true rfl)
  rw [lg_entry_eq]
  generalize (lg_sl ([.ref (q 0), .int (nI x), .int (nI x2), .int (nI x3)]) ++ List.replicate (7 - (lg_sl ([.ref (q 0), .int (nI x), .int (nI x2), .int (nI x3)])).length) Slot.unset).toArray = ls at hl ⊢
  have hl : lv_has ls 7 [(0, .ref (q 0)), (1, .int (nI x)), (2, .int (nI x2)), (3, .int (nI x3))] := hl
  refine lv_iload_n hx hb dX1_substitute_0 rfl (lv_at hl 1 rfl) ?_
  refine va_csv (va_Run.run (va_runS (As := [.int (nI x)]) (rest := []) ⟨hx, hb, hml, hown, hts⟩ (c_X1_checkFunction l x (by omega)) (va_cwS 1 hts gX1_substitute_X1_checkFunction rfl rfl rfl (by decide +kernel) ⟨Nat.le_of_ble_eq_true rfl, Nat.le_of_ble_eq_true rfl⟩) ⟨fun _ _ _ _ z => z, fun _ _ _ => ⟨rfl, trivial⟩⟩ rfl rfl hl.1 rfl (lv_room (Nat.le_of_ble_eq_true rfl)) dX1_substitute_1 ⟨(Nat.zero_le _), (Nat.zero_le _)⟩)) (fun _ => ?_)
  refine lv_iload_n hx hb dX1_substitute_4 rfl (lv_at hl 2 rfl) ?_
  refine va_csv (va_Run.run (va_runS (As := [.int (nI x2)]) (rest := []) ⟨hx, hb, hml, hown, hts⟩ (c_X1_checkVariable l x2 (by omega)) (va_cwS 1 hts gX1_substitute_X1_checkVariable rfl rfl rfl (by decide +kernel) ⟨Nat.le_of_ble_eq_true rfl, Nat.le_of_ble_eq_true rfl⟩) ⟨fun _ _ _ _ z => z, fun _ _ _ => ⟨rfl, trivial⟩⟩ rfl rfl hl.1 rfl (lv_room (Nat.le_of_ble_eq_true rfl)) dX1_substitute_5 ⟨(Nat.zero_le _), (Nat.zero_le _)⟩)) (fun _ => ?_)
  refine lv_iload_n hx hb dX1_substitute_8 rfl (lv_at hl 3 rfl) ?_
  refine va_csv (va_Run.run (va_runS (As := [.int (nI x3)]) (rest := []) ⟨hx, hb, hml, hown, hts⟩ (c_X1_checkFunction l x3 (by omega)) (va_cwS 1 hts gX1_substitute_X1_checkFunction rfl rfl rfl (by decide +kernel) ⟨Nat.le_of_ble_eq_true rfl, Nat.le_of_ble_eq_true rfl⟩) ⟨fun _ _ _ _ z => z, fun _ _ _ => ⟨rfl, trivial⟩⟩ rfl rfl hl.1 rfl (lv_room (Nat.le_of_ble_eq_true rfl)) dX1_substitute_9 ⟨(Nat.zero_le _), (Nat.zero_le _)⟩)) (fun _ => ?_)
  refine lv_aload_n hx hb dX1_substitute_12 rfl (lv_at hl 0 rfl) ?_
  refine va_get (D := D) (ci := 1) (v := .ref (q 1)) (C := RX1) (T := TX1) (N := 11) hx hb hts in_X1_substitute_X1 hown hK hP 0 rfl rfl 0 (by decide) (hts (.fieldLink RX1 9 "ZhegalkinBench" "tables" "[I") (List.mem_of_getElem? (i := 1) rfl)) (fun _ h9 => h9) rfl dX1_substitute_13 ?_
  refine lv_iload_n hx hb dX1_substitute_16 rfl (lv_at hl 1 rfl) ?_
  refine vz_iald hx hb hK hP 1 0 rfl rfl x (by omega) (by decide) dX1_substitute_17 ?_
  refine lv_iload_n hx hb dX1_substitute_18 rfl (lv_at hl 2 rfl) ?_
  refine lv_iconst (v := 1) hx hb dX1_substitute_19 (by decide) ?_
  refine vp_callSi (va_Run.run (va_runS (As := [.int (T x), .int (nI x2), .int 1]) (rest := []) ⟨hx, hb, hml, hown, hts⟩ (c_X1_half l (T x) (nI x2) 1 (vp_in_nI (n := x2) (by omega) (by decide))) (va_cwS 3 hts gX1_substitute_X1_half rfl rfl rfl (by decide +kernel) ⟨Nat.le_of_ble_eq_true rfl, Nat.le_of_ble_eq_true rfl⟩) ⟨fun a U g mk z => ⟨z.1, z.2.blind g mk a⟩, fun U hU hW => ⟨rfl, hE.at0 hS hU hW⟩⟩ rfl rfl hl.1 rfl (lv_room (Nat.le_of_ble_eq_true rfl)) dX1_substitute_20 ⟨(Nat.zero_le _), (Nat.zero_le _)⟩)) (fun r9 hr => ?_)
  subst r9
  refine lv_istore (lv' := [(4, .int (fX1_half (T x) (nI x2) 1)), (0, .ref (q 0)), (1, .int (nI x)), (2, .int (nI x2)), (3, .int (nI x3))]) hx hb dX1_substitute_23 hl (by decide) rfl (fun ls hl => ?_)
  refine lv_aload_n hx hb dX1_substitute_25 rfl (lv_at hl 1 rfl) ?_
  refine va_get (D := D) (ci := 1) (v := .ref (q 1)) (C := RX1) (T := TX1) (N := 11) hx hb hts in_X1_substitute_X1 hown hK hP 0 rfl rfl 0 (by decide) (hts (.fieldLink RX1 9 "ZhegalkinBench" "tables" "[I") (List.mem_of_getElem? (i := 1) rfl)) (fun _ h9 => h9) rfl dX1_substitute_26 ?_
  refine lv_iload_n hx hb dX1_substitute_29 rfl (lv_at hl 2 rfl) ?_
  refine vz_iald hx hb hK hP 1 0 rfl rfl x (by omega) (by decide) dX1_substitute_30 ?_
  refine lv_iload_n hx hb dX1_substitute_31 rfl (lv_at hl 3 rfl) ?_
  refine lv_iconst (v := 0) hx hb dX1_substitute_32 (by decide) ?_
  refine vp_callSi (va_Run.run (va_runS (As := [.int (T x), .int (nI x2), .int 0]) (rest := []) ⟨hx, hb, hml, hown, hts⟩ (c_X1_half l (T x) (nI x2) 0 (vp_in_nI (n := x2) (by omega) (by decide))) (va_cwS 3 hts gX1_substitute_X1_half rfl rfl rfl (by decide +kernel) ⟨Nat.le_of_ble_eq_true rfl, Nat.le_of_ble_eq_true rfl⟩) ⟨fun a U g mk z => ⟨z.1, z.2.blind g mk a⟩, fun U hU hW => ⟨rfl, hE.at0 hS hU hW⟩⟩ rfl rfl hl.1 rfl (lv_room (Nat.le_of_ble_eq_true rfl)) dX1_substitute_33 ⟨(Nat.zero_le _), (Nat.zero_le _)⟩)) (fun r9 hr => ?_)
  subst r9
  refine lv_istore (lv' := [(5, .int (fX1_half (T x) (nI x2) 0)), (4, .int (fX1_half (T x) (nI x2) 1)), (0, .ref (q 0)), (1, .int (nI x)), (2, .int (nI x2)), (3, .int (nI x3))]) hx hb dX1_substitute_36 hl (by decide) rfl (fun ls hl => ?_)
  refine lv_aload_n hx hb dX1_substitute_38 rfl (lv_at hl 2 rfl) ?_
  refine va_get (D := D) (ci := 1) (v := .ref (q 1)) (C := RX1) (T := TX1) (N := 11) hx hb hts in_X1_substitute_X1 hown hK hP 0 rfl rfl 0 (by decide) (hts (.fieldLink RX1 9 "ZhegalkinBench" "tables" "[I") (List.mem_of_getElem? (i := 1) rfl)) (fun _ h9 => h9) rfl dX1_substitute_39 ?_
  refine lv_iload_n hx hb dX1_substitute_42 rfl (lv_at hl 5 rfl) ?_
  refine vz_iald hx hb hK hP 1 0 rfl rfl x3 (by omega) (by decide) dX1_substitute_43 ?_
  refine lv_istore (lv' := [(6, .int (T x3)), (5, .int (fX1_half (T x) (nI x2) 0)), (4, .int (fX1_half (T x) (nI x2) 1)), (0, .ref (q 0)), (1, .int (nI x)), (2, .int (nI x2)), (3, .int (nI x3))]) hx hb dX1_substitute_44 hl (by decide) rfl (fun ls hl => ?_)
  refine lv_aload_n hx hb dX1_substitute_46 rfl (lv_at hl 3 rfl) ?_
  have hPc := hP.sub (ws' := (wB q cq T R S X M P (nI n) h k w f d v z)) [0, 1, 2, 3, 4, 5, 6, 7] rfl
  have hKc := hK.sub (tys' := (tyB cq)) [0, 1, 2, 3, 4, 5] rfl
  have hDc := hD.sub (ws' := (wB q cq T R S X M P (nI n) h k w f d v z)) [0, 1, 2, 3, 4, 5, 6, 7] (by decide) rfl
  have hFc := va_free (wc := (wB q cq T R S X M P (nI n) h k w f d v z)) hD hS hA [0, 1, 2, 3, 4, 5, 6, 7] rfl
  refine va_callv (va_runV (As := []) (rest := []) ⟨hx, hb, hml, hown, hts⟩ (c_X1_recordState l D q cq s.heap.size T R S X M P n h k w f d v z (by omega)) (cwV 0 hts gX1_substitute_X1_recordState rfl rfl rfl (by decide +kernel) ⟨Nat.le_of_ble_eq_true rfl, Nat.le_of_ble_eq_true rfl⟩) ⟨fun a U g mk z => ⟨z.1, z.2.1, z.2.2.1, va_K.moved (u := U) (U := U.calling g mk a) (Vm.Alike.refl U.vm) z.2.2.2.1, z.2.2.2.2.1, z.2.2.2.2.2.blind g mk a⟩, va_recv hKc hPc (ci := 1) (q0 := 0) rfl rfl, fun U hU hW => ⟨rfl, by rw [hU], by rw [hU]; exact hPc, va_K.moved hW.alike hKc, hDc.weaken (fun _ _ _ _ => trivial), hE.at hS hU hW hFc⟩⟩ rfl rfl hl.1 rfl (lv_room (Nat.le_of_ble_eq_true rfl)) dX1_substitute_47 ⟨(Nat.zero_le _), (Nat.zero_le _)⟩) hS (fun q _ h => hFc q h) hFc (fun u9 t8 H1 locs ht hvm hw hB hz1 hk1 hS => ?_)
  obtain ⟨hP1, hD1⟩ := hB
  rw [ht] at hP1
  obtain ⟨hP, hD⟩ := va_join (wr := []) (w1 := (wB q cq T ((fX1_recordState T R n).1) S X M P (nI (fX1_recordState T R n).2) h k w f d v z)) hP hD [0, 1, 2, 3, 4, 5, 6, 7] [] rfl rfl (by decide) (by decide) hk1 hFc hP1 hD1
  have hP := hP.sub (ws' := (wB q cq T ((fX1_recordState T R n).1) S X M P (nI (fX1_recordState T R n).2) h k w f d v z)) [0, 1, 2, 3, 4, 5, 6, 7] rfl
  have hD := hD.sub (ws' := (wB q cq T ((fX1_recordState T R n).1) S X M P (nI (fX1_recordState T R n).2) h k w f d v z)) [0, 1, 2, 3, 4, 5, 6, 7] (by decide) rfl
  generalize H1 = H at hP hS ⊢
  refine lv_aload_n hx hb dX1_substitute_50 rfl (lv_at hl 3 rfl) ?_
  refine va_get (D := D) (ci := 1) (v := .ref (q 1)) (C := RX1) (T := TX1) (N := 11) hx hb hts in_X1_substitute_X1 hown hK hP 0 rfl rfl 0 (by decide) (hts (.fieldLink RX1 9 "ZhegalkinBench" "tables" "[I") (List.mem_of_getElem? (i := 1) rfl)) (fun _ h9 => h9) rfl dX1_substitute_51 ?_
  refine lv_iload_n hx hb dX1_substitute_54 rfl (lv_at hl 4 rfl) ?_
  refine lv_iload hx hb dX1_substitute_55 (lv_at hl 0 rfl) ?_
  refine lv_iload hx hb dX1_substitute_57 (lv_at hl 2 rfl) ?_
  refine lv_iand hx hb dX1_substitute_59 ?_
  refine lv_iload hx hb dX1_substitute_60 (lv_at hl 0 rfl) ?_
  refine lv_iconst (v := (-1)) hx hb dX1_substitute_62 (by decide) ?_
  refine lv_ixor hx hb dX1_substitute_63 ?_
  refine lv_iload hx hb dX1_substitute_64 (lv_at hl 1 rfl) ?_
  refine lv_iand hx hb dX1_substitute_66 ?_
  refine lv_ior hx hb dX1_substitute_67 ?_
  refine vz_iast hx hb hK hP hD hS 1 0 rfl rfl x (by omega) (by decide) dX1_substitute_68 (fun H locs hP hD hS => ?_)
  have hP : va_P D vwCl (wB q cq (upd T x (((T x3) &&& (fX1_half (T x) (nI x2) 1)) ||| (((T x3) ^^^ (-1)) &&& (fX1_half (T x) (nI x2) 0)))) ((fX1_recordState T R n).1) S X M P (nI (fX1_recordState T R n).2) h k w f d v z) H := hP
  have hD : va_D A (wB q cq (upd T x (((T x3) &&& (fX1_half (T x) (nI x2) 1)) ||| (((T x3) ^^^ (-1)) &&& (fX1_half (T x) (nI x2) 0)))) ((fX1_recordState T R n).1) S X M P (nI (fX1_recordState T R n).2) h k w f d v z) := hD
  refine lv_aload_n hx hb dX1_substitute_69 rfl (lv_at hl 3 rfl) ?_
  refine va_get (D := D) (ci := 1) (v := .ref (q 1)) (C := RX1) (T := TX1) (N := 11) hx hb hts in_X1_substitute_X1 hown hK hP 0 rfl rfl 0 (by decide) (hts (.fieldLink RX1 9 "ZhegalkinBench" "tables" "[I") (List.mem_of_getElem? (i := 1) rfl)) (fun _ h9 => h9) rfl dX1_substitute_70 ?_
  refine lv_iload_n hx hb dX1_substitute_73 rfl (lv_at hl 4 rfl) ?_
  refine vz_iald hx hb hK hP 1 0 rfl rfl x (by omega) (by decide) dX1_substitute_74 ?_
  have hq : (fX1_substitute T R n x x2 x3) = (((upd T x (((T x3) &&& (fX1_half (T x) (nI x2) 1)) ||| (((T x3) ^^^ (-1)) &&& (fX1_half (T x) (nI x2) 0)))) x), (upd T x (((T x3) &&& (fX1_half (T x) (nI x2) 1)) ||| (((T x3) ^^^ (-1)) &&& (fX1_half (T x) (nI x2) 0)))), (fX1_recordState T R n).1, ((fX1_recordState T R n).2)) := Eq.symm (by first | ((rw [fX1_substitute]); first | done | rfl) | rfl)
  exact W.iret (v := ((upd T x (((T x3) &&& (fX1_half (T x) (nI x2) 1)) ||| (((T x3) ^^^ (-1)) &&& (fX1_half (T x) (nI x2) 0)))) x)) hx hb hr (fun t9 ht hW => ⟨⟨((upd T x (((T x3) &&& (fX1_half (T x) (nI x2) 1)) ||| (((T x3) ^^^ (-1)) &&& (fX1_half (T x) (nI x2) 0)))) x), (), rfl, by rw [hq], by rw [hq]; exact ⟨by rw [ht]; exact hP, hD⟩⟩, hS.F ht⟩) hS.2.2 dX1_substitute_75
theorem in_X1_type_X1 : ∀ w ∈ wsX10, w ∈ wsX1_type := by decide +kernel
def fX1_type (X : Nat → Int32) (k : Nat) (x : Int32) : Int32 × (Nat → Int32) × Nat := ((nI (k + 1)), (upd X k x), (k + 1))
set_option maxHeartbeats 4000000 in
set_option maxRecDepth 100000 in
theorem c_X1_type (l : Launch) (D : va_G) (q : Nat → Nat) (cq : Nat → ClassId) (sz : Nat) (T : Nat → Int32) (R : Nat → Int32) (S : Nat → Int32) (X : Nat → Int32) (M : Nat → Int32) (P : Nat → Int32) (n : Int32) (h : Int32) (k : Nat) (w : Int32) (f : Int32) (d : Int32) (v : Int32) (z : Int32) (x : Int32) (hk8 : k < 80) (hx9 : vp_nar .char x = x) : Met l yX1_type wsX1_type ({ frames := 0, cells := 0, slots := 0, locals := 0 }) (va_Pc [.ref (q 0), .int x] (fun U => U.heap.size = sz ∧ va_P D vwCl (wB q cq T R S X M P n h (nI k) w f d v z) U.heap ∧ va_K D vwCl (tyB cq) U ∧ va_D (fun _ => True) (wB q cq T R S X M P n h (nI k) w f d v z) ∧ envE (va_A (wB q cq T R S X M P n h (nI k) w f d v z) sz) U)) (va_Qi (fun r9 (_ : Unit) => r9 = (fX1_type X k x).1) (fun _ t9 => va_P D vwCl (wB q cq T R S ((fX1_type X k x).2.1) M P n h (nI (fX1_type X k x).2.2) w f d v z) t9.heap ∧ va_D (va_A (wB q cq T R S X M P n h (nI k) w f d v z) sz) (wB q cq T R S ((fX1_type X k x).2.1) M P n h (nI (fX1_type X k x).2.2) w f d v z)) (va_A (wB q cq T R S X M P n h (nI k) w f d v z) sz)) 0 0 (va_A (wB q cq T R S X M P n h (nI k) w f d v z) sz) := by
  refine Met.ofW (cc := cX1_type) (maxL := 2) (ret := (some .int)) (by decide) rfl ?_
  intro p e s m args below meth c s₁ B hml hv
  obtain ⟨rfl, hsz, hP, hK, hD0, hE⟩ := hv
  have hx := B.exec
  have hb := B.bytes
  have hr := B.returns
  have hts := atoms_spec (ws := wsX1_type) B.pre
  have hown : s.vm.findClass RX1 = some m.cls := findClass_of_methodNamed B.named
  have hlocks := B.notSynchronized
  subst hsz
  have hD := hD0.self (sz := s.heap.size)
  generalize hAe : va_A (wB q cq T R S X M P n h (nI k) w f d v z) s.heap.size = A at hD hE ⊢
  have hA : ∀ q : Nat, s.heap.size ≤ q → A q := fun q h => by rw [← hAe]; exact Or.inr h
  have hS : va_S A s.heap s.heap [] := va_S.rf
  have hP : va_P D vwCl (wB q cq T R S X M P n h (nI k) w f d v z) s.heap := hP
  have hl := lv_entry ([.ref (q 0), .int x]) (n := 2) (Nat.le_of_ble_eq_true rfl)
  rw [lg_entry_eq]
  generalize (lg_sl ([.ref (q 0), .int x]) ++ List.replicate (2 - (lg_sl ([.ref (q 0), .int x])).length) Slot.unset).toArray = ls at hl ⊢
  have hl : lv_has ls 2 [(0, .ref (q 0)), (1, .int x)] := hl
  refine lv_aload_n hx hb dX1_type_0 rfl (lv_at hl 0 rfl) ?_
  refine va_get (D := D) (ci := 1) (v := .int (nI k)) (C := RX1) (T := TX1) (N := 11) hx hb hts in_X1_type_X1 hown hK hP 0 rfl rfl 6 (by decide) (hts (.fieldLink RX1 31 "ZhegalkinBench" "textLength" "I") (List.mem_of_getElem? (i := 3) rfl)) (fun _ h9 => h9) rfl dX1_type_1 ?_
  refine lv_bipush (v := 80) hx hb dX1_type_4 (by decide) ?_
  refine lv_icmp_lt (tgt := 19) hx hb dX1_type_6 (by decide) (fun c_1 => ?_) (fun c_1 => ?_)
  · refine lv_aload_n hx hb dX1_type_19 rfl (lv_at hl 0 rfl) ?_
    refine va_get (D := D) (ci := 1) (v := .ref (q 4)) (C := RX1) (T := TX1) (N := 11) hx hb hts in_X1_type_X1 hown hK hP 0 rfl rfl 5 (by decide) (hts (.fieldLink RX1 27 "ZhegalkinBench" "text" "[C") (List.mem_of_getElem? (i := 4) rfl)) (fun _ h9 => h9) rfl dX1_type_20 ?_
    refine lv_aload_n hx hb dX1_type_23 rfl (lv_at hl 0 rfl) ?_
    refine va_get (D := D) (ci := 1) (v := .int (nI k)) (C := RX1) (T := TX1) (N := 11) hx hb hts in_X1_type_X1 hown hK hP 0 rfl rfl 6 (by decide) (hts (.fieldLink RX1 31 "ZhegalkinBench" "textLength" "I") (List.mem_of_getElem? (i := 3) rfl)) (fun _ h9 => h9) rfl dX1_type_24 ?_
    refine lv_iload_n hx hb dX1_type_27 rfl (lv_at hl 1 rfl) ?_
    refine vz_cast hx hb hK hP hD hS 4 3 rfl rfl hx9 k (by omega) (by decide) dX1_type_28 (fun H locs hP hD hS => ?_)
    have hP : va_P D vwCl (wB q cq T R S (upd X k x) M P n h (nI k) w f d v z) H := hP
    have hD : va_D A (wB q cq T R S (upd X k x) M P n h (nI k) w f d v z) := hD
    refine lv_aload_n hx hb dX1_type_29 rfl (lv_at hl 0 rfl) ?_
    refine lv_dup hx hb dX1_type_30 rfl ?_
    refine va_get (D := D) (ci := 1) (v := .int (nI k)) (C := RX1) (T := TX1) (N := 11) hx hb hts in_X1_type_X1 hown hK hP 0 rfl rfl 6 (by decide) (hts (.fieldLink RX1 31 "ZhegalkinBench" "textLength" "I") (List.mem_of_getElem? (i := 3) rfl)) (fun _ h9 => h9) rfl dX1_type_31 ?_
    refine lv_iconst (v := 1) hx hb dX1_type_34 (by decide) ?_
    refine lv_iadd hx hb dX1_type_35 ?_
    refine lv_is (nI (k + 1)) (by first | exact nI_add _ _ | rfl) ?_
    refine va_put (D := D) (ci := 1) (v := .int (nI (k + 1))) (ty := .int) (C := RX1) (T := TX1) (N := 11) hx hb hts in_X1_type_X1 tyX1 tyX1_ok nmX1 hown hK hP hD hS 0 rfl rfl 6 (by decide) (hts (.fieldLink RX1 31 "ZhegalkinBench" "textLength" "I") (List.mem_of_getElem? (i := 3) rfl)) (fun _ h9 => h9) rfl (by decide +kernel) rfl rfl (Nat.le_of_ble_eq_true rfl) dX1_type_36 (fun H locs hP hD hS => ?_)
    have hP : va_P D vwCl (wB q cq T R S (upd X k x) M P n h (nI (k + 1)) w f d v z) H := hP
    have hD : va_D A (wB q cq T R S (upd X k x) M P n h (nI (k + 1)) w f d v z) := hD
    refine lv_aload_n hx hb dX1_type_39 rfl (lv_at hl 0 rfl) ?_
    refine va_get (D := D) (ci := 1) (v := .int (nI (k + 1))) (C := RX1) (T := TX1) (N := 11) hx hb hts in_X1_type_X1 hown hK hP 0 rfl rfl 6 (by decide) (hts (.fieldLink RX1 31 "ZhegalkinBench" "textLength" "I") (List.mem_of_getElem? (i := 3) rfl)) (fun _ h9 => h9) rfl dX1_type_40 ?_
    have hq : (fX1_type X k x) = ((nI (k + 1)), (upd X k x), (k + 1)) := Eq.symm (by first | ((rw [fX1_type]); first | done | rfl) | rfl)
    exact W.iret (v := (nI (k + 1))) hx hb hr (fun t9 ht hW => ⟨⟨(nI (k + 1)), (), rfl, by rw [hq], by rw [hq]; exact ⟨by rw [ht]; exact hP, hD⟩⟩, hS.F ht⟩) hS.2.2 dX1_type_43
  · exact absurd (nI_lt (a := k) (b := 80) (by omega) (by omega)) c_1
theorem in_X1_clearText_X1 : ∀ w ∈ wsX10, w ∈ wsX1_clearText := by decide +kernel
def fX1_clearText (k : Nat) : Int32 × Nat := ((nI k), 0)
set_option maxHeartbeats 4000000 in
set_option maxRecDepth 100000 in
theorem c_X1_clearText (l : Launch) (D : va_G) (q : Nat → Nat) (cq : Nat → ClassId) (sz : Nat) (T : Nat → Int32) (R : Nat → Int32) (S : Nat → Int32) (X : Nat → Int32) (M : Nat → Int32) (P : Nat → Int32) (n : Int32) (h : Int32) (k : Nat) (w : Int32) (f : Int32) (d : Int32) (v : Int32) (z : Int32) : Met l yX1_clearText wsX1_clearText ({ frames := 0, cells := 0, slots := 0, locals := 0 }) (va_Pc [.ref (q 0)] (fun U => U.heap.size = sz ∧ va_P D vwCl (wB q cq T R S X M P n h (nI k) w f d v z) U.heap ∧ va_K D vwCl (tyB cq) U ∧ va_D (fun _ => True) (wB q cq T R S X M P n h (nI k) w f d v z) ∧ envE (va_A (wB q cq T R S X M P n h (nI k) w f d v z) sz) U)) (va_Qi (fun r9 (_ : Unit) => r9 = (fX1_clearText k).1) (fun _ t9 => va_P D vwCl (wB q cq T R S X M P n h (nI (fX1_clearText k).2) w f d v z) t9.heap ∧ va_D (va_A (wB q cq T R S X M P n h (nI k) w f d v z) sz) (wB q cq T R S X M P n h (nI (fX1_clearText k).2) w f d v z)) (va_A (wB q cq T R S X M P n h (nI k) w f d v z) sz)) 0 0 (va_A (wB q cq T R S X M P n h (nI k) w f d v z) sz) := by
  refine Met.ofW (cc := cX1_clearText) (maxL := 2) (ret := (some .int)) (by decide) rfl ?_
  intro p e s m args below meth c s₁ B hml hv
  obtain ⟨rfl, hsz, hP, hK, hD0, hE⟩ := hv
  have hx := B.exec
  have hb := B.bytes
  have hr := B.returns
  have hts := atoms_spec (ws := wsX1_clearText) B.pre
  have hown : s.vm.findClass RX1 = some m.cls := findClass_of_methodNamed B.named
  have hlocks := B.notSynchronized
  subst hsz
  have hD := hD0.self (sz := s.heap.size)
  generalize hAe : va_A (wB q cq T R S X M P n h (nI k) w f d v z) s.heap.size = A at hD hE ⊢
  have hA : ∀ q : Nat, s.heap.size ≤ q → A q := fun q h => by rw [← hAe]; exact Or.inr h
  have hS : va_S A s.heap s.heap [] := va_S.rf
  have hP : va_P D vwCl (wB q cq T R S X M P n h (nI k) w f d v z) s.heap := hP
  have hl := lv_entry ([.ref (q 0)]) (n := 2) (Nat.le_of_ble_eq_true rfl)
  rw [lg_entry_eq]
  generalize (lg_sl ([.ref (q 0)]) ++ List.replicate (2 - (lg_sl ([.ref (q 0)])).length) Slot.unset).toArray = ls at hl ⊢
  have hl : lv_has ls 2 [(0, .ref (q 0))] := hl
  refine lv_aload_n hx hb dX1_clearText_0 rfl (lv_at hl 0 rfl) ?_
  refine va_get (D := D) (ci := 1) (v := .int (nI k)) (C := RX1) (T := TX1) (N := 11) hx hb hts in_X1_clearText_X1 hown hK hP 0 rfl rfl 6 (by decide) (hts (.fieldLink RX1 31 "ZhegalkinBench" "textLength" "I") (List.mem_of_getElem? (i := 1) rfl)) (fun _ h9 => h9) rfl dX1_clearText_1 ?_
  refine lv_istore_n (lv' := [(1, .int (nI k)), (0, .ref (q 0))]) hx hb dX1_clearText_4 rfl hl (by decide) rfl (fun ls hl => ?_)
  refine lv_aload_n hx hb dX1_clearText_5 rfl (lv_at hl 1 rfl) ?_
  refine lv_iconst (v := 0) hx hb dX1_clearText_6 (by decide) ?_
  refine va_put (D := D) (ci := 1) (v := .int 0) (ty := .int) (C := RX1) (T := TX1) (N := 11) hx hb hts in_X1_clearText_X1 tyX1 tyX1_ok nmX1 hown hK hP hD hS 0 rfl rfl 6 (by decide) (hts (.fieldLink RX1 31 "ZhegalkinBench" "textLength" "I") (List.mem_of_getElem? (i := 1) rfl)) (fun _ h9 => h9) rfl (by decide +kernel) rfl rfl (Nat.le_of_ble_eq_true rfl) dX1_clearText_7 (fun H locs hP hD hS => ?_)
  have hP : va_P D vwCl (wB q cq T R S X M P n h 0 w f d v z) H := hP
  have hD : va_D A (wB q cq T R S X M P n h 0 w f d v z) := hD
  refine lv_iload_n hx hb dX1_clearText_10 rfl (lv_at hl 0 rfl) ?_
  have hq : (fX1_clearText k) = ((nI k), 0) := Eq.symm (by first | ((rw [fX1_clearText]); first | done | rfl) | rfl)
  exact W.iret (v := (nI k)) hx hb hr (fun t9 ht hW => ⟨⟨(nI k), (), rfl, by rw [hq], by rw [hq]; exact ⟨by rw [ht]; exact hP, hD⟩⟩, hS.F ht⟩) hS.2.2 dX1_clearText_11
theorem in_X1_textError_X1 : ∀ w ∈ wsX10, w ∈ wsX1_textError := by decide +kernel
def fX1_textError (X : Nat → Int32) (k : Nat) : Int32 × Int32 × Int32 × Int32 × Int32 := ((fX0_firstError X k).1, (fX0_firstError X k).2.1, (fX0_firstError X k).2.2.1, (fX0_firstError X k).2.2.2.1, (fX0_firstError X k).2.2.2.2)
set_option maxHeartbeats 4000000 in
set_option maxRecDepth 100000 in
theorem c_X1_textError (l : Launch) (D : va_G) (q : Nat → Nat) (cq : Nat → ClassId) (sz : Nat) (T : Nat → Int32) (R : Nat → Int32) (S : Nat → Int32) (X : Nat → Int32) (M : Nat → Int32) (P : Nat → Int32) (n : Int32) (h : Int32) (k : Nat) (w : Int32) (f : Int32) (d : Int32) (v : Int32) (z : Int32) (hk9 : k ≤ 80) : Met l yX1_textError wsX1_textError ({ frames := 5, cells := 0, slots := 0, locals := 111 }) (va_Pc [.ref (q 0)] (fun U => U.heap.size = sz ∧ va_P D vwCl (wB q cq T R S X M P n h (nI k) w f d v z) U.heap ∧ va_K D vwCl (tyB cq) U ∧ va_D (fun _ => True) (wB q cq T R S X M P n h (nI k) w f d v z) ∧ envE (va_A (wB q cq T R S X M P n h (nI k) w f d v z) sz) U)) (va_Qi (fun r9 (_ : Unit) => r9 = (fX1_textError X k).1) (fun _ t9 => va_P D vwCl (wB q cq T R S X M P n h (nI k) ((fX1_textError X k).2.1) ((fX1_textError X k).2.2.1) ((fX1_textError X k).2.2.2.1) ((fX1_textError X k).2.2.2.2) z) t9.heap ∧ va_D (va_A (wB q cq T R S X M P n h (nI k) w f d v z) sz) (wB q cq T R S X M P n h (nI k) ((fX1_textError X k).2.1) ((fX1_textError X k).2.2.1) ((fX1_textError X k).2.2.2.1) ((fX1_textError X k).2.2.2.2) z)) (va_A (wB q cq T R S X M P n h (nI k) w f d v z) sz)) 0 0 (va_A (wB q cq T R S X M P n h (nI k) w f d v z) sz) := by
  refine Met.ofW (cc := cX1_textError) (maxL := 1) (ret := (some .int)) (by decide) rfl ?_
  intro p e s m args below meth c s₁ B hml hv
  obtain ⟨rfl, hsz, hP, hK, hD0, hE⟩ := hv
  have hx := B.exec
  have hb := B.bytes
  have hr := B.returns
  have hts := atoms_spec (ws := wsX1_textError) B.pre
  have hown : s.vm.findClass RX1 = some m.cls := findClass_of_methodNamed B.named
  have hlocks := B.notSynchronized
  subst hsz
  have hD := hD0.self (sz := s.heap.size)
  generalize hAe : va_A (wB q cq T R S X M P n h (nI k) w f d v z) s.heap.size = A at hD hE ⊢
  have hA : ∀ q : Nat, s.heap.size ≤ q → A q := fun q h => by rw [← hAe]; exact Or.inr h
  have hS : va_S A s.heap s.heap [] := va_S.rf
  have hP : va_P D vwCl (wB q cq T R S X M P n h (nI k) w f d v z) s.heap := hP
  have hl := lv_entry ([.ref (q 0)]) (n := 1) (Nat.le_of_ble_eq_true rfl)
  rw [lg_entry_eq]
  generalize (lg_sl ([.ref (q 0)]) ++ List.replicate (1 - (lg_sl ([.ref (q 0)])).length) Slot.unset).toArray = ls at hl ⊢
  have hl : lv_has ls 1 [(0, .ref (q 0))] := hl
  refine lv_aload_n hx hb dX1_textError_0 rfl (lv_at hl 0 rfl) ?_
  refine va_get (D := D) (ci := 1) (v := .ref (q 5)) (C := RX1) (T := TX1) (N := 11) hx hb hts in_X1_textError_X1 hown hK hP 0 rfl rfl 7 (by decide) (hts (.fieldLink RX1 37 "ZhegalkinBench" "reader" "LZhegalkinBench$TextReader;") (List.mem_of_getElem? (i := 1) rfl)) (fun _ h9 => h9) rfl dX1_textError_1 ?_
  refine lv_aload_n hx hb dX1_textError_4 rfl (lv_at hl 0 rfl) ?_
  refine va_get (D := D) (ci := 1) (v := .ref (q 4)) (C := RX1) (T := TX1) (N := 11) hx hb hts in_X1_textError_X1 hown hK hP 0 rfl rfl 5 (by decide) (hts (.fieldLink RX1 27 "ZhegalkinBench" "text" "[C") (List.mem_of_getElem? (i := 2) rfl)) (fun _ h9 => h9) rfl dX1_textError_5 ?_
  refine lv_aload_n hx hb dX1_textError_8 rfl (lv_at hl 0 rfl) ?_
  refine va_get (D := D) (ci := 1) (v := .int (nI k)) (C := RX1) (T := TX1) (N := 11) hx hb hts in_X1_textError_X1 hown hK hP 0 rfl rfl 6 (by decide) (hts (.fieldLink RX1 31 "ZhegalkinBench" "textLength" "I") (List.mem_of_getElem? (i := 3) rfl)) (fun _ h9 => h9) rfl dX1_textError_9 ?_
  have hPc := hP.sub (ws' := (wF (q 4) (cq 3) (q 5) X w f d v)) [4, 5] rfl
  have hKc := hK.sub (tys' := [(cq 3, .char)]) [3] rfl
  have hDc := hD.sub (ws' := (wF (q 4) (cq 3) (q 5) X w f d v)) [4, 5] (by decide) rfl
  have hFc := va_free (wc := (wF (q 4) (cq 3) (q 5) X w f d v)) hD hS hA [4, 5] rfl
  refine va_calli (va_runVN (As := [.ref (q 4), .int (nI k)]) (rest := []) ⟨hx, hb, hml, hown, hts⟩ (c_X0_firstError l D (q 4) (cq 3) (q 5) s.heap.size X w f d v k (by omega)) ⟨(va_cnB 2 hts gX1_textError_X0_firstError_n99 rfl rfl rfl hE.1.2.2 (hts (.initialized RX0) (List.mem_of_getElem? (i := 5) rfl)) (by decide +kernel) ⟨Nat.le_of_ble_eq_true rfl, Nat.le_of_ble_eq_true rfl⟩), (hts (.instanceMethod yX0_firstError) (List.mem_of_getElem? (i := 4) rfl)), (hts (.selects RX0 yX0_firstError yX0_firstError) (List.mem_of_getElem? (i := 6) rfl))⟩ ⟨fun a U g mk z => ⟨z.1, z.2.1, z.2.2.1, va_K.moved (u := U) (U := U.calling g mk a) (Vm.Alike.refl U.vm) z.2.2.2.1, z.2.2.2.2.1, z.2.2.2.2.2.blind g mk a⟩, va_recv hKc hPc (ci := 0) (q0 := 1) rfl rfl, fun U hU hW => ⟨rfl, by rw [hU], by rw [hU]; exact hPc, va_K.moved hW.alike hKc, hDc.weaken (fun _ _ _ _ => trivial), hE.at hS hU hW hFc⟩⟩ rfl rfl hl.1 rfl (lv_room (Nat.le_of_ble_eq_true rfl)) dX1_textError_12 ⟨(Nat.zero_le _), (Nat.zero_le _)⟩) hS (fun q _ h => hFc q h) hFc (fun r9 u9 t8 H1 locs ht hvm hw hB hz1 hk1 hS => ?_)
  obtain ⟨hP1, hD1⟩ := hB
  rw [ht] at hP1
  obtain ⟨hP, hD⟩ := va_join (wr := [((q 0), .inr (1, [.ref (q 1), .ref (q 2), .int n, .ref (q 3), .int h, .ref (q 4), .int (nI k), .ref (q 5), .ref (q 6), .ref (q 7), .int z])), ((q 1), .inl ((cq 0), (6, .inl T))), ((q 2), .inl ((cq 1), (24, .inl R))), ((q 3), .inl ((cq 2), (6, .inl S))), ((q 6), .inl ((cq 4), (16, .inl M))), ((q 7), .inl ((cq 5), (48, .inl P)))]) (w1 := (wF (q 4) (cq 3) (q 5) X ((fX0_firstError X k).2.1) ((fX0_firstError X k).2.2.1) ((fX0_firstError X k).2.2.2.1) ((fX0_firstError X k).2.2.2.2))) hP hD [4, 5] [0, 1, 2, 3, 6, 7] rfl rfl (by decide) (by decide) hk1 hFc hP1 hD1
  have hP := hP.sub (ws' := (wB q cq T R S X M P n h (nI k) ((fX0_firstError X k).2.1) ((fX0_firstError X k).2.2.1) ((fX0_firstError X k).2.2.2.1) ((fX0_firstError X k).2.2.2.2) z)) [0, 1, 2, 3, 6, 7, 4, 5] rfl
  have hD := hD.sub (ws' := (wB q cq T R S X M P n h (nI k) ((fX0_firstError X k).2.1) ((fX0_firstError X k).2.2.1) ((fX0_firstError X k).2.2.2.1) ((fX0_firstError X k).2.2.2.2) z)) [0, 1, 2, 3, 6, 7, 4, 5] (by decide) rfl
  generalize H1 = H at hP hS ⊢
  subst r9
  have hq : (fX1_textError X k) = ((fX0_firstError X k).1, (fX0_firstError X k).2.1, (fX0_firstError X k).2.2.1, (fX0_firstError X k).2.2.2.1, (fX0_firstError X k).2.2.2.2) := Eq.symm (by first | ((rw [fX1_textError]); first | done | rfl) | rfl)
  exact W.iret (v := (fX0_firstError X k).1) hx hb hr (fun t9 ht hW => ⟨⟨(fX0_firstError X k).1, (), rfl, by rw [hq], by rw [hq]; exact ⟨by rw [ht]; exact hP, hD⟩⟩, hS.F ht⟩) hS.2.2 dX1_textError_15
theorem in_X1_undo_X1 : ∀ w ∈ wsX10, w ∈ wsX1_undo := by decide +kernel
def fX1_undo (T : Nat → Int32) (R : Nat → Int32) (n : Nat) : Int32 × (Nat → Int32) × Nat := if 0 < (nI n) then ((nI (n - 1)), (va_cpy R T ((n - 1) * 6) 0 6), (n - 1)) else (0, T, n)
def kX1_undo (n : Nat) : Nat := if 0 < (nI n) then 0 else 2
set_option maxHeartbeats 4000000 in
set_option maxRecDepth 100000 in
theorem c_X1_undo (l : Launch) (hst : l.stackTraces = false) (D : va_G) (q : Nat → Nat) (cq : Nat → ClassId) (sz : Nat) (T : Nat → Int32) (R : Nat → Int32) (S : Nat → Int32) (X : Nat → Int32) (M : Nat → Int32) (P : Nat → Int32) (n : Nat) (h : Int32) (k : Int32) (w : Int32) (f : Int32) (d : Int32) (v : Int32) (z : Int32) (hn : n ≤ 4) : vx_Met l yX1_undo wsX1_undo ({ frames := 6, cells := 1, slots := 6, locals := 82 }) (va_Pc [.ref (q 0)] (fun U => U.heap.size = sz ∧ va_P D vwCl (wB q cq T R S X M P (nI n) h k w f d v z) U.heap ∧ va_K D vwCl (tyB cq) U ∧ va_D (fun _ => True) (wB q cq T R S X M P (nI n) h k w f d v z) ∧ envE (va_A (wB q cq T R S X M P (nI n) h k w f d v z) sz) U)) (va_Qi (fun r9 (_ : Unit) => (kX1_undo n) = 0 ∧ r9 = (fX1_undo T R n).1) (fun _ t9 => va_P D vwCl (wB q cq ((fX1_undo T R n).2.1) R S X M P (nI (fX1_undo T R n).2.2) h k w f d v z) t9.heap ∧ va_D (va_A (wB q cq T R S X M P (nI n) h k w f d v z) sz) (wB q cq ((fX1_undo T R n).2.1) R S X M P (nI (fX1_undo T R n).2.2) h k w f d v z)) (va_A (wB q cq T R S X M P (nI n) h k w f d v z) sz)) (vx_X (fun (u9 : Nat) => (kX1_undo n) = u9 ∧ ¬ u9 = 0) (fun E9 u9 t9 => E9 = exn u9 ∧ va_P D vwCl (wB q cq ((fX1_undo T R n).2.1) R S X M P (nI (fX1_undo T R n).2.2) h k w f d v z) t9.heap ∧ va_D (va_A (wB q cq T R S X M P (nI n) h k w f d v z) sz) (wB q cq ((fX1_undo T R n).2.1) R S X M P (nI (fX1_undo T R n).2.2) h k w f d v z)) (va_A (wB q cq T R S X M P (nI n) h k w f d v z) sz)) 1 6 (va_A (wB q cq T R S X M P (nI n) h k w f d v z) sz) := by
  refine vx_ofW (cc := cX1_undo) (maxL := 1) (ret := (some .int)) (by decide) rfl ?_
  intro p e s m args below meth c s₁ B hml htab hv
  obtain ⟨rfl, hsz, hP, hK, hD0, hE⟩ := hv
  have hx := B.exec
  have hb := B.bytes
  have hr := B.returns
  have hts := atoms_spec (ws := wsX1_undo) B.pre
  have hown : s.vm.findClass RX1 = some m.cls := findClass_of_methodNamed B.named
  have hlocks := B.notSynchronized
  subst hsz
  have hD := hD0.self (sz := s.heap.size)
  generalize hAe : va_A (wB q cq T R S X M P (nI n) h k w f d v z) s.heap.size = A at hD hE ⊢
  have hA : ∀ q : Nat, s.heap.size ≤ q → A q := fun q h => by rw [← hAe]; exact Or.inr h
  have hS : va_S A s.heap s.heap [] := va_S.rf
  have hP : va_P D vwCl (wB q cq T R S X M P (nI n) h k w f d v z) s.heap := hP
  have hl := lv_entry ([.ref (q 0)]) (n := 1) (Nat.le_of_ble_eq_true rfl)
  rw [lg_entry_eq]
  generalize (lg_sl ([.ref (q 0)]) ++ List.replicate (1 - (lg_sl ([.ref (q 0)])).length) Slot.unset).toArray = ls at hl ⊢
  have hl : lv_has ls 1 [(0, .ref (q 0))] := hl
  refine lv_aload_n hx hb dX1_undo_0 rfl (lv_at hl 0 rfl) ?_
  refine va_get (D := D) (ci := 1) (v := .int (nI n)) (C := RX1) (T := TX1) (N := 11) hx hb hts in_X1_undo_X1 hown hK hP 0 rfl rfl 2 (by decide) (hts (.fieldLink RX1 16 "ZhegalkinBench" "recordedCount" "I") (List.mem_of_getElem? (i := 3) rfl)) (fun _ h9 => h9) rfl dX1_undo_1 ?_
  refine lv_if_gt (tgt := 17) hx hb dX1_undo_4 (by decide) (fun c_1 => ?_) (fun c_1 => ?_)
  · have hlt : 1 ≤ n := Nat.pos_of_ne_zero (fun q9 => absurd c_1 (by rw [q9]; decide))
    refine lv_aload_n hx hb dX1_undo_17 rfl (lv_at hl 0 rfl) ?_
    refine lv_dup hx hb dX1_undo_18 rfl ?_
    refine va_get (D := D) (ci := 1) (v := .int (nI n)) (C := RX1) (T := TX1) (N := 11) hx hb hts in_X1_undo_X1 hown hK hP 0 rfl rfl 2 (by decide) (hts (.fieldLink RX1 16 "ZhegalkinBench" "recordedCount" "I") (List.mem_of_getElem? (i := 3) rfl)) (fun _ h9 => h9) rfl dX1_undo_19 ?_
    refine lv_iconst (v := 1) hx hb dX1_undo_22 (by decide) ?_
    refine lv_isub hx hb dX1_undo_23 ?_
    refine lv_is (nI (n - 1)) (by first | exact pk_sub (a := n) (b := 1) (by omega) | rfl) ?_
    refine va_put (D := D) (ci := 1) (v := .int (nI (n - 1))) (ty := .int) (C := RX1) (T := TX1) (N := 11) hx hb hts in_X1_undo_X1 tyX1 tyX1_ok nmX1 hown hK hP hD hS 0 rfl rfl 2 (by decide) (hts (.fieldLink RX1 16 "ZhegalkinBench" "recordedCount" "I") (List.mem_of_getElem? (i := 3) rfl)) (fun _ h9 => h9) rfl (by decide +kernel) rfl rfl (Nat.le_of_ble_eq_true rfl) dX1_undo_24 (fun H locs hP hD hS => ?_)
    have hP : va_P D vwCl (wB q cq T R S X M P (nI (n - 1)) h k w f d v z) H := hP
    have hD : va_D A (wB q cq T R S X M P (nI (n - 1)) h k w f d v z) := hD
    refine lv_aload_n hx hb dX1_undo_27 rfl (lv_at hl 0 rfl) ?_
    refine va_get (D := D) (ci := 1) (v := .ref (q 2)) (C := RX1) (T := TX1) (N := 11) hx hb hts in_X1_undo_X1 hown hK hP 0 rfl rfl 1 (by decide) (hts (.fieldLink RX1 13 "ZhegalkinBench" "recorded" "[I") (List.mem_of_getElem? (i := 4) rfl)) (fun _ h9 => h9) rfl dX1_undo_28 ?_
    refine lv_aload_n hx hb dX1_undo_31 rfl (lv_at hl 0 rfl) ?_
    refine va_get (D := D) (ci := 1) (v := .int (nI (n - 1))) (C := RX1) (T := TX1) (N := 11) hx hb hts in_X1_undo_X1 hown hK hP 0 rfl rfl 2 (by decide) (hts (.fieldLink RX1 16 "ZhegalkinBench" "recordedCount" "I") (List.mem_of_getElem? (i := 3) rfl)) (fun _ h9 => h9) rfl dX1_undo_32 ?_
    refine lv_bipush (v := 6) hx hb dX1_undo_35 (by decide) ?_
    refine lv_imul hx hb dX1_undo_37 ?_
    refine lv_is (nI ((n - 1) * 6)) (by first | exact pk_mul _ _ | rfl) ?_
    refine lv_aload_n hx hb dX1_undo_38 rfl (lv_at hl 0 rfl) ?_
    refine va_get (D := D) (ci := 1) (v := .ref (q 1)) (C := RX1) (T := TX1) (N := 11) hx hb hts in_X1_undo_X1 hown hK hP 0 rfl rfl 0 (by decide) (hts (.fieldLink RX1 9 "ZhegalkinBench" "tables" "[I") (List.mem_of_getElem? (i := 5) rfl)) (fun _ h9 => h9) rfl dX1_undo_39 ?_
    refine lv_iconst (v := 0) hx hb dX1_undo_42 (by decide) ?_
    refine lv_bipush (v := 6) hx hb dX1_undo_43 (by decide) ?_
    refine vz_copyi hx hb (by rw [hml]; exact hl.1.symm) hown (hts (.methodLink RX1 105 arraycopyName) (List.mem_of_getElem? (i := 6) rfl)) (hts (.native arraycopyName) (List.mem_of_getElem? (i := 7) rfl)) (hts (.static arraycopyName) (List.mem_of_getElem? (i := 8) rfl)) (hts (.initialized "java/lang/System") (List.mem_of_getElem? (i := 9) rfl)) hK hP hD hS 2 1 1 0 rfl rfl rfl rfl ((n - 1) * 6) 0 6 (by omega) (by omega) (by decide) (by decide) (Nat.le_of_ble_eq_true rfl) (Nat.le_of_ble_eq_true rfl) dX1_undo_45 (fun H locs hP hD hS => ?_)
    have hP : va_P D vwCl (wB q cq (va_cpy R T ((n - 1) * 6) 0 6) R S X M P (nI (n - 1)) h k w f d v z) H := hP
    have hD : va_D A (wB q cq (va_cpy R T ((n - 1) * 6) 0 6) R S X M P (nI (n - 1)) h k w f d v z) := hD
    refine lv_aload_n hx hb dX1_undo_48 rfl (lv_at hl 0 rfl) ?_
    refine va_get (D := D) (ci := 1) (v := .int (nI (n - 1))) (C := RX1) (T := TX1) (N := 11) hx hb hts in_X1_undo_X1 hown hK hP 0 rfl rfl 2 (by decide) (hts (.fieldLink RX1 16 "ZhegalkinBench" "recordedCount" "I") (List.mem_of_getElem? (i := 3) rfl)) (fun _ h9 => h9) rfl dX1_undo_49 ?_
    refine vx_ret (W.widen (k := 1) (n := 6) (Nat.le_of_ble_eq_true rfl) (Nat.le_of_ble_eq_true rfl) ?_)
    have hq : (fX1_undo T R n) = ((nI (n - 1)), (va_cpy R T ((n - 1) * 6) 0 6), (n - 1)) := Eq.symm (by first | ((rw [fX1_undo, if_pos c_1]); first | done | rfl) | rfl)
    exact W.iret (v := (nI (n - 1))) hx hb hr (fun t9 ht hW => ⟨⟨(nI (n - 1)), (), rfl, ⟨(by first | ((rw [kX1_undo, if_pos c_1]); first | done | rfl) | rfl), by rw [hq]⟩, by rw [hq]; exact ⟨by rw [ht]; exact hP, hD⟩⟩, hS.F ht⟩) hS.2.2 dX1_undo_52
  · obtain ⟨sa, hstr⟩ := hE.2.2.1
    have hq : (fX1_undo T R n) = (0, T, n) := Eq.symm (by first | ((rw [fX1_undo, if_neg c_1]); first | done | rfl) | rfl)
    exact vx_throwS (A := A) (names := ["java/lang/RuntimeException", "java/lang/Exception"]) hx hb hst hown (by decide +kernel) (by decide +kernel) (hts (.classLink RX1 94 "java/lang/IllegalStateException") (List.mem_of_getElem? (i := 1) rfl)) (hts (.initialized "java/lang/IllegalStateException") (List.mem_of_getElem? (i := 2) rfl)) hstr (vx_hat (B := [.castable "java/lang/IllegalStateException" "java/lang/IllegalStateException", .declares (Bundle.initS "java/lang/RuntimeException"), .declares (Bundle.initS "java/lang/Exception"), .declares (Bundle.initS "java/lang/Throwable")]) (fun w hw => hts w (List.mem_cons_of_mem _ (List.mem_append_right _ hw))) (by decide +kernel) (vx_c (va_Nw.use rfl hE.2.1.1) (vx_c (va_Nw.use rfl hE.2.1.2.1) (vx_c (va_Nw.use rfl hE.2.1.2.2.1) (vx_c (va_Nw.use rfl hE.2.1.2.2.2) vx_n))))) (by decide +kernel) hE.2.2.2.2.1 hE.2.2.2.2.2 hS (by rw [hml]; exact hl.1) dX1_undo_7 dX1_undo_10 dX1_undo_11 dX1_undo_13 dX1_undo_16 (fun x9 h9 => (htab x9 h9).elim) (Nat.le_of_ble_eq_true rfl) (Nat.le_of_ble_eq_true rfl) (Nat.le_of_ble_eq_true rfl) (Nat.le_of_ble_eq_true rfl) hlocks (fun t9 ha hz hk => ⟨2, ⟨(by first | ((rw [kX1_undo, if_neg c_1]); first | done | rfl) | rfl), by decide⟩, ⟨rfl, by rw [hq]; exact ⟨hP.grown hk, hD⟩⟩, va_F.thr hS hz hk⟩) hS.2.2 (Nat.le_of_ble_eq_true rfl) (Nat.le_of_ble_eq_true rfl)
theorem in_X1_tableOf_X1 : ∀ w ∈ wsX10, w ∈ wsX1_tableOf := by decide +kernel
def fX1_tableOf (T : Nat → Int32) (x : Nat) : Int32 := (T x)
set_option maxHeartbeats 4000000 in
set_option maxRecDepth 100000 in
theorem c_X1_tableOf (l : Launch) (D : va_G) (q : Nat → Nat) (cq : Nat → ClassId) (T : Nat → Int32) (R : Nat → Int32) (S : Nat → Int32) (X : Nat → Int32) (M : Nat → Int32) (P : Nat → Int32) (n : Int32) (h : Int32) (k : Int32) (w : Int32) (f : Int32) (d : Int32) (v : Int32) (z : Int32) (x : Nat) (hx6 : x < 6) : Met l yX1_tableOf wsX1_tableOf ({ frames := 1, cells := 0, slots := 0, locals := 20 }) (va_Pc [.ref (q 0), .int (nI x)] (fun U => va_P D vwCl (wB q cq T R S X M P n h k w f d v z) U.heap ∧ va_K D vwCl (tyB cq) U ∧ env0 U)) (vp_Si (fun r9 => r9 = (fX1_tableOf T x))) 0 0 (fun _ => False) := by
  refine Met.ofW (cc := cX1_tableOf) (maxL := 2) (ret := (some .int)) (by decide) rfl ?_
  intro p e s m args below meth c s₁ B hml hv
  obtain ⟨rfl, hP, hK, hE⟩ := hv
  have hx := B.exec
  have hb := B.bytes
  have hr := B.returns
  have hts := atoms_spec (ws := wsX1_tableOf) B.pre
  have hown : s.vm.findClass RX1 = some m.cls := findClass_of_methodNamed B.named
  have hlocks := B.notSynchronized
  have hS : va_S (fun _ => False) s.heap s.heap [] := va_S.rf
  have hP : va_P D vwCl (wB q cq T R S X M P n h k w f d v z) s.heap := hP
  have hl := lv_entry ([.ref (q 0), .int (nI x)]) (n := 2) (Nat.le_of_ble_eq_true rfl)
  rw [lg_entry_eq]
  generalize (lg_sl ([.ref (q 0), .int (nI x)]) ++ List.replicate (2 - (lg_sl ([.ref (q 0), .int (nI x)])).length) Slot.unset).toArray = ls at hl ⊢
  have hl : lv_has ls 2 [(0, .ref (q 0)), (1, .int (nI x))] := hl
  refine lv_iload_n hx hb dX1_tableOf_0 rfl (lv_at hl 1 rfl) ?_
  refine va_csv (va_Run.run (va_runS (As := [.int (nI x)]) (rest := []) ⟨hx, hb, hml, hown, hts⟩ (c_X1_checkFunction l x (by omega)) (va_cwS 1 hts gX1_tableOf_X1_checkFunction rfl rfl rfl (by decide +kernel) ⟨Nat.le_of_ble_eq_true rfl, Nat.le_of_ble_eq_true rfl⟩) ⟨fun _ _ _ _ z => z, fun _ _ _ => ⟨rfl, trivial⟩⟩ rfl rfl hl.1 rfl (lv_room (Nat.le_of_ble_eq_true rfl)) dX1_tableOf_1 ⟨(Nat.zero_le _), (Nat.zero_le _)⟩)) (fun _ => ?_)
  refine lv_aload_n hx hb dX1_tableOf_4 rfl (lv_at hl 0 rfl) ?_
  refine va_get (D := D) (ci := 1) (v := .ref (q 1)) (C := RX1) (T := TX1) (N := 11) hx hb hts in_X1_tableOf_X1 hown hK hP 0 rfl rfl 0 (by decide) (hts (.fieldLink RX1 9 "ZhegalkinBench" "tables" "[I") (List.mem_of_getElem? (i := 1) rfl)) (fun _ h9 => h9) rfl dX1_tableOf_5 ?_
  refine lv_iload_n hx hb dX1_tableOf_8 rfl (lv_at hl 1 rfl) ?_
  refine vz_iald hx hb hK hP 1 0 rfl rfl x (by omega) (by decide) dX1_tableOf_9 ?_
  exact W.iret (v := (T x)) hx hb hr (fun t9 ht hW => ⟨(T x), rfl, (by first | ((rw [fX1_tableOf]); first | done | rfl) | rfl), ht⟩) (fun q h => nomatch h) dX1_tableOf_10
theorem in_X1_valueAt_X1 : ∀ w ∈ wsX10, w ∈ wsX1_valueAt := by decide +kernel
def fX1_valueAt (T : Nat → Int32) (x : Nat) (x2 : Nat) : Int32 := (fX1_bit (T x) (nI x2))
set_option maxHeartbeats 4000000 in
set_option maxRecDepth 100000 in
theorem c_X1_valueAt (l : Launch) (D : va_G) (q : Nat → Nat) (cq : Nat → ClassId) (T : Nat → Int32) (R : Nat → Int32) (S : Nat → Int32) (X : Nat → Int32) (M : Nat → Int32) (P : Nat → Int32) (n : Int32) (h : Int32) (k : Int32) (w : Int32) (f : Int32) (d : Int32) (v : Int32) (z : Int32) (x : Nat) (x2 : Nat) (hx6 : x < 6) (hx216 : x2 < 16) : Met l yX1_valueAt wsX1_valueAt ({ frames := 1, cells := 0, slots := 0, locals := 21 }) (va_Pc [.ref (q 0), .int (nI x), .int (nI x2)] (fun U => va_P D vwCl (wB q cq T R S X M P n h k w f d v z) U.heap ∧ va_K D vwCl (tyB cq) U ∧ env0 U)) (vp_Si (fun r9 => r9 = (fX1_valueAt T x x2))) 0 0 (fun _ => False) := by
  refine Met.ofW (cc := cX1_valueAt) (maxL := 3) (ret := (some .int)) (by decide) rfl ?_
  intro p e s m args below meth c s₁ B hml hv
  obtain ⟨rfl, hP, hK, hE⟩ := hv
  have hx := B.exec
  have hb := B.bytes
  have hr := B.returns
  have hts := atoms_spec (ws := wsX1_valueAt) B.pre
  have hown : s.vm.findClass RX1 = some m.cls := findClass_of_methodNamed B.named
  have hlocks := B.notSynchronized
  have hS : va_S (fun _ => False) s.heap s.heap [] := va_S.rf
  have hP : va_P D vwCl (wB q cq T R S X M P n h k w f d v z) s.heap := hP
  have hl := lv_entry ([.ref (q 0), .int (nI x), .int (nI x2)]) (n := 3) (Nat.le_of_ble_eq_true rfl)
  rw [lg_entry_eq]
  generalize (lg_sl ([.ref (q 0), .int (nI x), .int (nI x2)]) ++ List.replicate (3 - (lg_sl ([.ref (q 0), .int (nI x), .int (nI x2)])).length) Slot.unset).toArray = ls at hl ⊢
  have hl : lv_has ls 3 [(0, .ref (q 0)), (1, .int (nI x)), (2, .int (nI x2))] := hl
  refine lv_iload_n hx hb dX1_valueAt_0 rfl (lv_at hl 1 rfl) ?_
  refine va_csv (va_Run.run (va_runS (As := [.int (nI x)]) (rest := []) ⟨hx, hb, hml, hown, hts⟩ (c_X1_checkFunction l x (by omega)) (va_cwS 1 hts gX1_valueAt_X1_checkFunction rfl rfl rfl (by decide +kernel) ⟨Nat.le_of_ble_eq_true rfl, Nat.le_of_ble_eq_true rfl⟩) ⟨fun _ _ _ _ z => z, fun _ _ _ => ⟨rfl, trivial⟩⟩ rfl rfl hl.1 rfl (lv_room (Nat.le_of_ble_eq_true rfl)) dX1_valueAt_1 ⟨(Nat.zero_le _), (Nat.zero_le _)⟩)) (fun _ => ?_)
  refine lv_iload_n hx hb dX1_valueAt_4 rfl (lv_at hl 2 rfl) ?_
  refine lv_if_lt (tgt := 14) hx hb dX1_valueAt_5 (by decide) (fun c_1 => ?_) (fun c_1 => ?_)
  · exact absurd c_1 (nI_pos (by omega))
  · refine lv_iload_n hx hb dX1_valueAt_8 rfl (lv_at hl 2 rfl) ?_
    refine lv_bipush (v := 16) hx hb dX1_valueAt_9 (by decide) ?_
    refine lv_icmp_lt (tgt := 24) hx hb dX1_valueAt_11 (by decide) (fun c_2 => ?_) (fun c_2 => ?_)
    · refine lv_aload_n hx hb dX1_valueAt_24 rfl (lv_at hl 0 rfl) ?_
      refine va_get (D := D) (ci := 1) (v := .ref (q 1)) (C := RX1) (T := TX1) (N := 11) hx hb hts in_X1_valueAt_X1 hown hK hP 0 rfl rfl 0 (by decide) (hts (.fieldLink RX1 9 "ZhegalkinBench" "tables" "[I") (List.mem_of_getElem? (i := 3) rfl)) (fun _ h9 => h9) rfl dX1_valueAt_25 ?_
      refine lv_iload_n hx hb dX1_valueAt_28 rfl (lv_at hl 1 rfl) ?_
      refine vz_iald hx hb hK hP 1 0 rfl rfl x (by omega) (by decide) dX1_valueAt_29 ?_
      refine lv_iload_n hx hb dX1_valueAt_30 rfl (lv_at hl 2 rfl) ?_
      refine vp_callSi (va_Run.run (va_runS (As := [.int (T x), .int (nI x2)]) (rest := []) ⟨hx, hb, hml, hown, hts⟩ (c_X1_bit l (T x) (nI x2)) (va_cwS 2 hts gX1_valueAt_X1_bit rfl rfl rfl (by decide +kernel) ⟨Nat.le_of_ble_eq_true rfl, Nat.le_of_ble_eq_true rfl⟩) ⟨fun _ _ _ _ z => z, fun _ _ _ => ⟨rfl, trivial⟩⟩ rfl rfl hl.1 rfl (lv_room (Nat.le_of_ble_eq_true rfl)) dX1_valueAt_31 ⟨(Nat.zero_le _), (Nat.zero_le _)⟩)) (fun r9 hr => ?_)
      subst r9
      exact W.iret (v := (fX1_bit (T x) (nI x2))) hx hb hr (fun t9 ht hW => ⟨(fX1_bit (T x) (nI x2)), rfl, (by first | ((rw [fX1_valueAt]); first | done | rfl) | rfl), ht⟩) (fun q h => nomatch h) dX1_valueAt_34
    · exact absurd (nI_lt (a := x2) (b := 16) (by omega) (by omega)) c_2
theorem in_X1_weightOf_X1 : ∀ w ∈ wsX10, w ∈ wsX1_weightOf := by decide +kernel
def fX1_weightOf (T : Nat → Int32) (x : Nat) : Int32 := (fJ6_bitCount_0f7a4 (T x))
set_option maxHeartbeats 4000000 in
set_option maxRecDepth 100000 in
theorem c_X1_weightOf (l : Launch) (D : va_G) (q : Nat → Nat) (cq : Nat → ClassId) (T : Nat → Int32) (R : Nat → Int32) (S : Nat → Int32) (X : Nat → Int32) (M : Nat → Int32) (P : Nat → Int32) (n : Int32) (h : Int32) (k : Int32) (w : Int32) (f : Int32) (d : Int32) (v : Int32) (z : Int32) (x : Nat) (hx6 : x < 6) : Met l yX1_weightOf wsX1_weightOf ({ frames := 1, cells := 0, slots := 0, locals := 20 }) (va_Pc [.ref (q 0), .int (nI x)] (fun U => va_P D vwCl (wB q cq T R S X M P n h k w f d v z) U.heap ∧ va_K D vwCl (tyB cq) U ∧ env0 U)) (vp_Si (fun r9 => r9 = (fX1_weightOf T x))) 0 0 (fun _ => False) := by
  refine Met.ofW (cc := cX1_weightOf) (maxL := 2) (ret := (some .int)) (by decide) rfl ?_
  intro p e s m args below meth c s₁ B hml hv
  obtain ⟨rfl, hP, hK, hE⟩ := hv
  have hx := B.exec
  have hb := B.bytes
  have hr := B.returns
  have hts := atoms_spec (ws := wsX1_weightOf) B.pre
  have hown : s.vm.findClass RX1 = some m.cls := findClass_of_methodNamed B.named
  have hlocks := B.notSynchronized
  have hS : va_S (fun _ => False) s.heap s.heap [] := va_S.rf
  have hP : va_P D vwCl (wB q cq T R S X M P n h k w f d v z) s.heap := hP
  have hl := lv_entry ([.ref (q 0), .int (nI x)]) (n := 2) (Nat.le_of_ble_eq_true rfl)
  rw [lg_entry_eq]
  generalize (lg_sl ([.ref (q 0), .int (nI x)]) ++ List.replicate (2 - (lg_sl ([.ref (q 0), .int (nI x)])).length) Slot.unset).toArray = ls at hl ⊢
  have hl : lv_has ls 2 [(0, .ref (q 0)), (1, .int (nI x))] := hl
  refine lv_iload_n hx hb dX1_weightOf_0 rfl (lv_at hl 1 rfl) ?_
  refine va_csv (va_Run.run (va_runS (As := [.int (nI x)]) (rest := []) ⟨hx, hb, hml, hown, hts⟩ (c_X1_checkFunction l x (by omega)) (va_cwS 1 hts gX1_weightOf_X1_checkFunction rfl rfl rfl (by decide +kernel) ⟨Nat.le_of_ble_eq_true rfl, Nat.le_of_ble_eq_true rfl⟩) ⟨fun _ _ _ _ z => z, fun _ _ _ => ⟨rfl, trivial⟩⟩ rfl rfl hl.1 rfl (lv_room (Nat.le_of_ble_eq_true rfl)) dX1_weightOf_1 ⟨(Nat.zero_le _), (Nat.zero_le _)⟩)) (fun _ => ?_)
  refine lv_aload_n hx hb dX1_weightOf_4 rfl (lv_at hl 0 rfl) ?_
  refine va_get (D := D) (ci := 1) (v := .ref (q 1)) (C := RX1) (T := TX1) (N := 11) hx hb hts in_X1_weightOf_X1 hown hK hP 0 rfl rfl 0 (by decide) (hts (.fieldLink RX1 9 "ZhegalkinBench" "tables" "[I") (List.mem_of_getElem? (i := 1) rfl)) (fun _ h9 => h9) rfl dX1_weightOf_5 ?_
  refine lv_iload_n hx hb dX1_weightOf_8 rfl (lv_at hl 1 rfl) ?_
  refine vz_iald hx hb hK hP 1 0 rfl rfl x (by omega) (by decide) dX1_weightOf_9 ?_
  refine vp_callSi (va_Run.run (va_runS (As := [.int (T x)]) (rest := []) ⟨hx, hb, hml, hown, hts⟩ (c_J6_bitCount_0f7a4 l (T x)) (va_cwS 1 hts gX1_weightOf_J6_bitCount_0f7a4 rfl rfl rfl (by decide +kernel) ⟨Nat.le_of_ble_eq_true rfl, Nat.le_of_ble_eq_true rfl⟩) ⟨fun _ _ _ _ z => z, fun _ _ _ => ⟨rfl, trivial⟩⟩ rfl rfl hl.1 rfl (lv_room (Nat.le_of_ble_eq_true rfl)) dX1_weightOf_10 ⟨(Nat.zero_le _), (Nat.zero_le _)⟩)) (fun r9 hr => ?_)
  subst r9
  exact W.iret (v := (fJ6_bitCount_0f7a4 (T x))) hx hb hr (fun t9 ht hW => ⟨(fJ6_bitCount_0f7a4 (T x)), rfl, (by first | ((rw [fX1_weightOf]); first | done | rfl) | rfl), ht⟩) (fun q h => nomatch h) dX1_weightOf_13
theorem in_X1_dependsOn_X1 : ∀ w ∈ wsX10, w ∈ wsX1_dependsOn := by decide +kernel
def fX1_dependsOn (T : Nat → Int32) (x : Nat) (x2 : Nat) : Int32 := if (fX1_half (T x) (nI x2) 1) = (fX1_half (T x) (nI x2) 0) then 0 else 1
set_option maxHeartbeats 4000000 in
set_option maxRecDepth 100000 in
theorem c_X1_dependsOn (l : Launch) (D : va_G) (q : Nat → Nat) (cq : Nat → ClassId) (T : Nat → Int32) (R : Nat → Int32) (S : Nat → Int32) (X : Nat → Int32) (M : Nat → Int32) (P : Nat → Int32) (n : Int32) (h : Int32) (k : Int32) (w : Int32) (f : Int32) (d : Int32) (v : Int32) (z : Int32) (x : Nat) (x2 : Nat) (hx6 : x < 6) (hx24 : x2 < 4) : Met l yX1_dependsOn wsX1_dependsOn ({ frames := 1, cells := 0, slots := 0, locals := 24 }) (va_Pc [.ref (q 0), .int (nI x), .int (nI x2)] (fun U => va_P D vwCl (wB q cq T R S X M P n h k w f d v z) U.heap ∧ va_K D vwCl (tyB cq) U ∧ env0 U)) (vp_Si (fun r9 => r9 = (fX1_dependsOn T x x2))) 0 0 (fun _ => False) := by
  refine Met.ofW (cc := cX1_dependsOn) (maxL := 3) (ret := (some .boolean)) (by decide) rfl ?_
  intro p e s m args below meth c s₁ B hml hv
  obtain ⟨rfl, hP, hK, hE⟩ := hv
  have hx := B.exec
  have hb := B.bytes
  have hr := B.returns
  have hts := atoms_spec (ws := wsX1_dependsOn) B.pre
  have hown : s.vm.findClass RX1 = some m.cls := findClass_of_methodNamed B.named
  have hlocks := B.notSynchronized
  have hS : va_S (fun _ => False) s.heap s.heap [] := va_S.rf
  have hP : va_P D vwCl (wB q cq T R S X M P n h k w f d v z) s.heap := hP
  have hl := lv_entry ([.ref (q 0), .int (nI x), .int (nI x2)]) (n := 3) (Nat.le_of_ble_eq_true rfl)
  rw [lg_entry_eq]
  generalize (lg_sl ([.ref (q 0), .int (nI x), .int (nI x2)]) ++ List.replicate (3 - (lg_sl ([.ref (q 0), .int (nI x), .int (nI x2)])).length) Slot.unset).toArray = ls at hl ⊢
  have hl : lv_has ls 3 [(0, .ref (q 0)), (1, .int (nI x)), (2, .int (nI x2))] := hl
  refine lv_iload_n hx hb dX1_dependsOn_0 rfl (lv_at hl 1 rfl) ?_
  refine va_csv (va_Run.run (va_runS (As := [.int (nI x)]) (rest := []) ⟨hx, hb, hml, hown, hts⟩ (c_X1_checkFunction l x (by omega)) (va_cwS 1 hts gX1_dependsOn_X1_checkFunction rfl rfl rfl (by decide +kernel) ⟨Nat.le_of_ble_eq_true rfl, Nat.le_of_ble_eq_true rfl⟩) ⟨fun _ _ _ _ z => z, fun _ _ _ => ⟨rfl, trivial⟩⟩ rfl rfl hl.1 rfl (lv_room (Nat.le_of_ble_eq_true rfl)) dX1_dependsOn_1 ⟨(Nat.zero_le _), (Nat.zero_le _)⟩)) (fun _ => ?_)
  refine lv_iload_n hx hb dX1_dependsOn_4 rfl (lv_at hl 2 rfl) ?_
  refine va_csv (va_Run.run (va_runS (As := [.int (nI x2)]) (rest := []) ⟨hx, hb, hml, hown, hts⟩ (c_X1_checkVariable l x2 (by omega)) (va_cwS 1 hts gX1_dependsOn_X1_checkVariable rfl rfl rfl (by decide +kernel) ⟨Nat.le_of_ble_eq_true rfl, Nat.le_of_ble_eq_true rfl⟩) ⟨fun _ _ _ _ z => z, fun _ _ _ => ⟨rfl, trivial⟩⟩ rfl rfl hl.1 rfl (lv_room (Nat.le_of_ble_eq_true rfl)) dX1_dependsOn_5 ⟨(Nat.zero_le _), (Nat.zero_le _)⟩)) (fun _ => ?_)
  refine lv_aload_n hx hb dX1_dependsOn_8 rfl (lv_at hl 0 rfl) ?_
  refine va_get (D := D) (ci := 1) (v := .ref (q 1)) (C := RX1) (T := TX1) (N := 11) hx hb hts in_X1_dependsOn_X1 hown hK hP 0 rfl rfl 0 (by decide) (hts (.fieldLink RX1 9 "ZhegalkinBench" "tables" "[I") (List.mem_of_getElem? (i := 1) rfl)) (fun _ h9 => h9) rfl dX1_dependsOn_9 ?_
  refine lv_iload_n hx hb dX1_dependsOn_12 rfl (lv_at hl 1 rfl) ?_
  refine vz_iald hx hb hK hP 1 0 rfl rfl x (by omega) (by decide) dX1_dependsOn_13 ?_
  refine lv_iload_n hx hb dX1_dependsOn_14 rfl (lv_at hl 2 rfl) ?_
  refine lv_iconst (v := 1) hx hb dX1_dependsOn_15 (by decide) ?_
  refine vp_callSi (va_Run.run (va_runS (As := [.int (T x), .int (nI x2), .int 1]) (rest := []) ⟨hx, hb, hml, hown, hts⟩ (c_X1_half l (T x) (nI x2) 1 (vp_in_nI (n := x2) (by omega) (by decide))) (va_cwS 3 hts gX1_dependsOn_X1_half rfl rfl rfl (by decide +kernel) ⟨Nat.le_of_ble_eq_true rfl, Nat.le_of_ble_eq_true rfl⟩) ⟨fun a U g mk z => ⟨z.1, z.2.blind g mk a⟩, fun U hU hW => ⟨rfl, hE.at0 hS hU hW⟩⟩ rfl rfl hl.1 rfl (lv_room (Nat.le_of_ble_eq_true rfl)) dX1_dependsOn_16 ⟨(Nat.zero_le _), (Nat.zero_le _)⟩)) (fun r9 hr => ?_)
  subst r9
  refine lv_aload_n hx hb dX1_dependsOn_19 rfl (lv_at hl 0 rfl) ?_
  refine va_get (D := D) (ci := 1) (v := .ref (q 1)) (C := RX1) (T := TX1) (N := 11) hx hb hts in_X1_dependsOn_X1 hown hK hP 0 rfl rfl 0 (by decide) (hts (.fieldLink RX1 9 "ZhegalkinBench" "tables" "[I") (List.mem_of_getElem? (i := 1) rfl)) (fun _ h9 => h9) rfl dX1_dependsOn_20 ?_
  refine lv_iload_n hx hb dX1_dependsOn_23 rfl (lv_at hl 1 rfl) ?_
  refine vz_iald hx hb hK hP 1 0 rfl rfl x (by omega) (by decide) dX1_dependsOn_24 ?_
  refine lv_iload_n hx hb dX1_dependsOn_25 rfl (lv_at hl 2 rfl) ?_
  refine lv_iconst (v := 0) hx hb dX1_dependsOn_26 (by decide) ?_
  refine vp_callSi (va_Run.run (va_runS (As := [.int (T x), .int (nI x2), .int 0]) (rest := [.int (fX1_half (T x) (nI x2) 1)]) ⟨hx, hb, hml, hown, hts⟩ (c_X1_half l (T x) (nI x2) 0 (vp_in_nI (n := x2) (by omega) (by decide))) (va_cwS 3 hts gX1_dependsOn_X1_half rfl rfl rfl (by decide +kernel) ⟨Nat.le_of_ble_eq_true rfl, Nat.le_of_ble_eq_true rfl⟩) ⟨fun a U g mk z => ⟨z.1, z.2.blind g mk a⟩, fun U hU hW => ⟨rfl, hE.at0 hS hU hW⟩⟩ rfl rfl hl.1 rfl (lv_room (Nat.le_of_ble_eq_true rfl)) dX1_dependsOn_27 ⟨(Nat.zero_le _), (Nat.zero_le _)⟩)) (fun r9 hr => ?_)
  subst r9
  refine lv_icmp_eq (tgt := 37) hx hb dX1_dependsOn_30 (by decide) (fun c_1 => ?_) (fun c_1 => ?_)
  · refine lv_iconst (v := 0) hx hb dX1_dependsOn_37 (by decide) ?_
    exact W.zret (v := 0) hx hb hr rfl (fun t9 ht hW => ⟨0, rfl, (by first | ((rw [fX1_dependsOn, if_pos c_1]); first | done | rfl) | rfl), ht⟩) (fun q h => nomatch h) dX1_dependsOn_38
  · refine lv_iconst (v := 1) hx hb dX1_dependsOn_33 (by decide) ?_
    refine lv_goto (tgt := 38) hx hb dX1_dependsOn_34 (by decide) ?_
    exact W.zret (v := 1) hx hb hr rfl (fun t9 ht hW => ⟨1, rfl, (by first | ((rw [fX1_dependsOn, if_neg c_1]); first | done | rfl) | rfl), ht⟩) (fun q h => nomatch h) dX1_dependsOn_38
theorem in_X1_productsByHalves_X1 : ∀ w ∈ wsX10, w ∈ wsX1_productsByHalves := by decide +kernel
def fX1_productsByHalves (T : Nat → Int32) (x : Nat) : Int32 := (fX1_addHalves (T x))
set_option maxHeartbeats 4000000 in
set_option maxRecDepth 100000 in
theorem c_X1_productsByHalves (l : Launch) (D : va_G) (q : Nat → Nat) (cq : Nat → ClassId) (T : Nat → Int32) (R : Nat → Int32) (S : Nat → Int32) (X : Nat → Int32) (M : Nat → Int32) (P : Nat → Int32) (n : Int32) (h : Int32) (k : Int32) (w : Int32) (f : Int32) (d : Int32) (v : Int32) (z : Int32) (x : Nat) (hx6 : x < 6) : Met l yX1_productsByHalves wsX1_productsByHalves ({ frames := 1, cells := 0, slots := 0, locals := 23 }) (va_Pc [.ref (q 0), .int (nI x)] (fun U => va_P D vwCl (wB q cq T R S X M P n h k w f d v z) U.heap ∧ va_K D vwCl (tyB cq) U ∧ env0 U)) (vp_Si (fun r9 => r9 = (fX1_productsByHalves T x))) 0 0 (fun _ => False) := by
  refine Met.ofW (cc := cX1_productsByHalves) (maxL := 2) (ret := (some .int)) (by decide) rfl ?_
  intro p e s m args below meth c s₁ B hml hv
  obtain ⟨rfl, hP, hK, hE⟩ := hv
  have hx := B.exec
  have hb := B.bytes
  have hr := B.returns
  have hts := atoms_spec (ws := wsX1_productsByHalves) B.pre
  have hown : s.vm.findClass RX1 = some m.cls := findClass_of_methodNamed B.named
  have hlocks := B.notSynchronized
  have hS : va_S (fun _ => False) s.heap s.heap [] := va_S.rf
  have hP : va_P D vwCl (wB q cq T R S X M P n h k w f d v z) s.heap := hP
  have hl := lv_entry ([.ref (q 0), .int (nI x)]) (n := 2) (Nat.le_of_ble_eq_true rfl)
  rw [lg_entry_eq]
  generalize (lg_sl ([.ref (q 0), .int (nI x)]) ++ List.replicate (2 - (lg_sl ([.ref (q 0), .int (nI x)])).length) Slot.unset).toArray = ls at hl ⊢
  have hl : lv_has ls 2 [(0, .ref (q 0)), (1, .int (nI x))] := hl
  refine lv_iload_n hx hb dX1_productsByHalves_0 rfl (lv_at hl 1 rfl) ?_
  refine va_csv (va_Run.run (va_runS (As := [.int (nI x)]) (rest := []) ⟨hx, hb, hml, hown, hts⟩ (c_X1_checkFunction l x (by omega)) (va_cwS 1 hts gX1_productsByHalves_X1_checkFunction rfl rfl rfl (by decide +kernel) ⟨Nat.le_of_ble_eq_true rfl, Nat.le_of_ble_eq_true rfl⟩) ⟨fun _ _ _ _ z => z, fun _ _ _ => ⟨rfl, trivial⟩⟩ rfl rfl hl.1 rfl (lv_room (Nat.le_of_ble_eq_true rfl)) dX1_productsByHalves_1 ⟨(Nat.zero_le _), (Nat.zero_le _)⟩)) (fun _ => ?_)
  refine lv_aload_n hx hb dX1_productsByHalves_4 rfl (lv_at hl 0 rfl) ?_
  refine va_get (D := D) (ci := 1) (v := .ref (q 1)) (C := RX1) (T := TX1) (N := 11) hx hb hts in_X1_productsByHalves_X1 hown hK hP 0 rfl rfl 0 (by decide) (hts (.fieldLink RX1 9 "ZhegalkinBench" "tables" "[I") (List.mem_of_getElem? (i := 1) rfl)) (fun _ h9 => h9) rfl dX1_productsByHalves_5 ?_
  refine lv_iload_n hx hb dX1_productsByHalves_8 rfl (lv_at hl 1 rfl) ?_
  refine vz_iald hx hb hK hP 1 0 rfl rfl x (by omega) (by decide) dX1_productsByHalves_9 ?_
  refine vp_callSi (va_Run.run (va_runS (As := [.int (T x)]) (rest := []) ⟨hx, hb, hml, hown, hts⟩ (c_X1_addHalves l (T x)) (va_cwS 1 hts gX1_productsByHalves_X1_addHalves rfl rfl rfl (by decide +kernel) ⟨Nat.le_of_ble_eq_true rfl, Nat.le_of_ble_eq_true rfl⟩) ⟨fun a U g mk z => ⟨z.1, z.2.blind g mk a⟩, fun U hU hW => ⟨rfl, hE.at0 hS hU hW⟩⟩ rfl rfl hl.1 rfl (lv_room (Nat.le_of_ble_eq_true rfl)) dX1_productsByHalves_10 ⟨(Nat.zero_le _), (Nat.zero_le _)⟩)) (fun r9 hr => ?_)
  subst r9
  exact W.iret (v := (fX1_addHalves (T x))) hx hb hr (fun t9 ht hW => ⟨(fX1_addHalves (T x)), rfl, (by first | ((rw [fX1_productsByHalves]); first | done | rfl) | rfl), ht⟩) (fun q h => nomatch h) dX1_productsByHalves_13
theorem in_X1_productsBySums_X1 : ∀ w ∈ wsX10, w ∈ wsX1_productsBySums := by decide +kernel
def sX1_productsBySums_8 (T : Nat → Int32) (x : Nat) (i1 : Nat) (a1 : Int32) : Int32 := (a1 ||| ((fX1_sumBelow (T x) i1) <<< ((nI i1) &&& 31)))
def fX1_productsBySums (T : Nat → Int32) (x : Nat) : Int32 := (lp (sX1_productsBySums_8 T x) 16 0 0)
set_option maxHeartbeats 4000000 in
set_option maxRecDepth 100000 in
theorem c_X1_productsBySums (l : Launch) (D : va_G) (q : Nat → Nat) (cq : Nat → ClassId) (T : Nat → Int32) (R : Nat → Int32) (S : Nat → Int32) (X : Nat → Int32) (M : Nat → Int32) (P : Nat → Int32) (n : Int32) (h : Int32) (k : Int32) (w : Int32) (f : Int32) (d : Int32) (v : Int32) (z : Int32) (x : Nat) (hx6 : x < 6) : Met l yX1_productsBySums wsX1_productsBySums ({ frames := 2, cells := 0, slots := 0, locals := 44 }) (va_Pc [.ref (q 0), .int (nI x)] (fun U => va_P D vwCl (wB q cq T R S X M P n h k w f d v z) U.heap ∧ va_K D vwCl (tyB cq) U ∧ env0 U)) (vp_Si (fun r9 => r9 = (fX1_productsBySums T x))) 0 0 (fun _ => False) := by
  refine Met.ofW (cc := cX1_productsBySums) (maxL := 4) (ret := (some .int)) (by decide) rfl ?_
  intro p e s m args below meth c s₁ B hml hv
  obtain ⟨rfl, hP, hK, hE⟩ := hv
  have hx := B.exec
  have hb := B.bytes
  have hr := B.returns
  have hts := atoms_spec (ws := wsX1_productsBySums) B.pre
  have hown : s.vm.findClass RX1 = some m.cls := findClass_of_methodNamed B.named
  have hlocks := B.notSynchronized
  have hS : va_S (fun _ => False) s.heap s.heap [] := va_S.rf
  have hP : va_P D vwCl (wB q cq T R S X M P n h k w f d v z) s.heap := hP
  have hl := lv_entry ([.ref (q 0), .int (nI x)]) (n := 4) (Nat.le_of_ble_eq_true rfl)
  rw [lg_entry_eq]
  generalize (lg_sl ([.ref (q 0), .int (nI x)]) ++ List.replicate (4 - (lg_sl ([.ref (q 0), .int (nI x)])).length) Slot.unset).toArray = ls at hl ⊢
  have hl : lv_has ls 4 [(0, .ref (q 0)), (1, .int (nI x))] := hl
  refine lv_iload_n hx hb dX1_productsBySums_0 rfl (lv_at hl 1 rfl) ?_
  refine va_csv (va_Run.run (va_runS (As := [.int (nI x)]) (rest := []) ⟨hx, hb, hml, hown, hts⟩ (c_X1_checkFunction l x (by omega)) (va_cwS 1 hts gX1_productsBySums_X1_checkFunction rfl rfl rfl (by decide +kernel) ⟨Nat.le_of_ble_eq_true rfl, Nat.le_of_ble_eq_true rfl⟩) ⟨fun _ _ _ _ z => z, fun _ _ _ => ⟨rfl, trivial⟩⟩ rfl rfl hl.1 rfl (lv_room (Nat.le_of_ble_eq_true rfl)) dX1_productsBySums_1 ⟨(Nat.zero_le _), (Nat.zero_le _)⟩)) (fun _ => ?_)
  refine lv_iconst (v := 0) hx hb dX1_productsBySums_4 (by decide) ?_
  refine lv_istore_n (lv' := [(2, .int 0), (0, .ref (q 0)), (1, .int (nI x))]) hx hb dX1_productsBySums_5 rfl hl (by decide) rfl (fun ls hl => ?_)
  refine lv_iconst (v := 0) hx hb dX1_productsBySums_6 (by decide) ?_
  refine lv_istore_n (lv' := [(3, .int 0), (2, .int 0), (0, .ref (q 0)), (1, .int (nI x))]) hx hb dX1_productsBySums_7 rfl hl (by decide) rfl (fun ls hl => ?_)
  obtain ⟨F1, hF1⟩ : ∃ z9, z9 = (lp (sX1_productsBySums_8 T x) 16 0 0) := ⟨_, rfl⟩
  refine vz_cut (fun H1 l1 g1 => ∃ (n1 i1 : Nat) (a1 : Int32) (ls : Array Slot), i1 + n1 = 16 ∧ lp (sX1_productsBySums_8 T x) n1 i1 a1 = F1 ∧ lv_has ls 4 [(3, .int (nI i1)), (2, .int a1), (0, .ref (q 0)), (1, .int (nI x))] ∧ (s.heap = H1 ∧ [] = l1) ∧ g1 = F0 m 8 ls []) (fun hj => hj _ _ _ ⟨16, 0, 0, ls, (by omega), hF1.symm, lv_sub hl [0, 1, 2, 3] rfl, ⟨rfl, rfl⟩, rfl⟩) ?_
  rintro H1 l1 g1 ⟨n1, i1, a1, ls, hi1, hf1, hl, ⟨rfl, rfl⟩, rfl⟩
  revert i1 a1 ls
  induction n1 with
  | zero =>
    intro i1 a1 ls hi1 hf1 hl
    obtain rfl : 16 = i1 := by omega
    have hf1 : F1 = a1 := hf1.symm
    subst hf1
    refine lv_iload_n hx hb dX1_productsBySums_8 rfl (lv_at hl 0 rfl) ?_
    refine lv_bipush (v := 16) hx hb dX1_productsBySums_9 (by decide) ?_
    refine lv_icmp_ge (tgt := 35) hx hb dX1_productsBySums_11 (by decide) (fun c_1 => ?_) (fun c_1 => ?_)
    · refine lv_iload_n hx hb dX1_productsBySums_35 rfl (lv_at hl 1 rfl) ?_
      exact W.iret (v := F1) hx hb hr (fun t9 ht hW => ⟨F1, rfl, (by first | ((rw [fX1_productsBySums]); (try rw [← hF1]); first | done | rfl) | rfl), ht⟩) (fun q h => nomatch h) dX1_productsBySums_36
    · exact absurd (nI_le (a := 16) (b := 16) (by omega) (by omega)) c_1
  | succ n1 ih1 =>
    intro i1 a1 ls hi1 hf1 hl
    refine lv_iload_n hx hb dX1_productsBySums_8 rfl (lv_at hl 0 rfl) ?_
    refine lv_bipush (v := 16) hx hb dX1_productsBySums_9 (by decide) ?_
    refine lv_icmp_ge (tgt := 35) hx hb dX1_productsBySums_11 (by decide) (fun c_2 => ?_) (fun c_2 => ?_)
    · exact absurd c_2 (nI_ge (a := i1) (b := 16) (by omega) (by omega))
    · refine lv_iload_n hx hb dX1_productsBySums_14 rfl (lv_at hl 1 rfl) ?_
      refine lv_aload_n hx hb dX1_productsBySums_15 rfl (lv_at hl 2 rfl) ?_
      refine va_get (D := D) (ci := 1) (v := .ref (q 1)) (C := RX1) (T := TX1) (N := 11) hx hb hts in_X1_productsBySums_X1 hown hK hP 0 rfl rfl 0 (by decide) (hts (.fieldLink RX1 9 "ZhegalkinBench" "tables" "[I") (List.mem_of_getElem? (i := 1) rfl)) (fun _ h9 => h9) rfl dX1_productsBySums_16 ?_
      refine lv_iload_n hx hb dX1_productsBySums_19 rfl (lv_at hl 3 rfl) ?_
      refine vz_iald hx hb hK hP 1 0 rfl rfl x (by omega) (by decide) dX1_productsBySums_20 ?_
      refine lv_iload_n hx hb dX1_productsBySums_21 rfl (lv_at hl 0 rfl) ?_
      refine vp_callSi (va_Run.run (va_runS (As := [.int (T x), .int (nI i1)]) (rest := [.int a1]) ⟨hx, hb, hml, hown, hts⟩ (c_X1_sumBelow l (T x) i1 (by omega)) (va_cwS 2 hts gX1_productsBySums_X1_sumBelow rfl rfl rfl (by decide +kernel) ⟨Nat.le_of_ble_eq_true rfl, Nat.le_of_ble_eq_true rfl⟩) ⟨fun _ _ _ _ z => z, fun _ _ _ => ⟨rfl, trivial⟩⟩ rfl rfl hl.1 rfl (lv_room (Nat.le_of_ble_eq_true rfl)) dX1_productsBySums_22 ⟨(Nat.zero_le _), (Nat.zero_le _)⟩)) (fun r9 hr => ?_)
      subst r9
      refine lv_iload_n hx hb dX1_productsBySums_25 rfl (lv_at hl 0 rfl) ?_
      refine lv_ishl hx hb dX1_productsBySums_26 ?_
      refine lv_ior hx hb dX1_productsBySums_27 ?_
      refine lv_istore_n (lv' := [(2, .int (a1 ||| ((fX1_sumBelow (T x) i1) <<< ((nI i1) &&& 31)))), (3, .int (nI i1)), (0, .ref (q 0)), (1, .int (nI x))]) hx hb dX1_productsBySums_28 rfl hl (by decide) rfl (fun ls hl => ?_)
      refine lv_iinc (v := (nI (i1 + 1))) (lv' := [(3, .int (nI (i1 + 1))), (2, .int (a1 ||| ((fX1_sumBelow (T x) i1) <<< ((nI i1) &&& 31)))), (0, .ref (q 0)), (1, .int (nI x))]) hx hb dX1_productsBySums_29 hl (k := 1) rfl (by first | exact nI_add _ _ | rfl) (by decide) rfl (fun ls hl => ?_)
      refine lv_goto (tgt := 8) hx hb dX1_productsBySums_32 (by decide) ?_
      exact ih1 (i1 + 1) (a1 ||| ((fX1_sumBelow (T x) i1) <<< ((nI i1) &&& 31))) ls (by omega) ((congrArg (lp (sX1_productsBySums_8 T x) n1 (i1 + 1)) (show (a1 ||| ((fX1_sumBelow (T x) i1) <<< ((nI i1) &&& 31))) = (sX1_productsBySums_8 T x) i1 a1 from by first | ((rw [sX1_productsBySums_8]); first | done | rfl) | rfl)).trans hf1) (lv_sub hl [0, 1, 2, 3] rfl)
theorem in_X1_degreeOf_X1 : ∀ w ∈ wsX10, w ∈ wsX1_degreeOf := by decide +kernel
def fX1_degreeOf (T : Nat → Int32) (x : Nat) : Int32 := (fX1_degree (T x))
set_option maxHeartbeats 4000000 in
set_option maxRecDepth 100000 in
theorem c_X1_degreeOf (l : Launch) (D : va_G) (q : Nat → Nat) (cq : Nat → ClassId) (T : Nat → Int32) (R : Nat → Int32) (S : Nat → Int32) (X : Nat → Int32) (M : Nat → Int32) (P : Nat → Int32) (n : Int32) (h : Int32) (k : Int32) (w : Int32) (f : Int32) (d : Int32) (v : Int32) (z : Int32) (x : Nat) (hx6 : x < 6) : Met l yX1_degreeOf wsX1_degreeOf ({ frames := 2, cells := 0, slots := 0, locals := 46 }) (va_Pc [.ref (q 0), .int (nI x)] (fun U => va_P D vwCl (wB q cq T R S X M P n h k w f d v z) U.heap ∧ va_K D vwCl (tyB cq) U ∧ env0 U)) (vp_Si (fun r9 => r9 = (fX1_degreeOf T x))) 0 0 (fun _ => False) := by
  refine Met.ofW (cc := cX1_degreeOf) (maxL := 2) (ret := (some .int)) (by decide) rfl ?_
  intro p e s m args below meth c s₁ B hml hv
  obtain ⟨rfl, hP, hK, hE⟩ := hv
  have hx := B.exec
  have hb := B.bytes
  have hr := B.returns
  have hts := atoms_spec (ws := wsX1_degreeOf) B.pre
  have hown : s.vm.findClass RX1 = some m.cls := findClass_of_methodNamed B.named
  have hlocks := B.notSynchronized
  have hS : va_S (fun _ => False) s.heap s.heap [] := va_S.rf
  have hP : va_P D vwCl (wB q cq T R S X M P n h k w f d v z) s.heap := hP
  have hl := lv_entry ([.ref (q 0), .int (nI x)]) (n := 2) (Nat.le_of_ble_eq_true rfl)
  rw [lg_entry_eq]
  generalize (lg_sl ([.ref (q 0), .int (nI x)]) ++ List.replicate (2 - (lg_sl ([.ref (q 0), .int (nI x)])).length) Slot.unset).toArray = ls at hl ⊢
  have hl : lv_has ls 2 [(0, .ref (q 0)), (1, .int (nI x))] := hl
  refine lv_iload_n hx hb dX1_degreeOf_0 rfl (lv_at hl 1 rfl) ?_
  refine va_csv (va_Run.run (va_runS (As := [.int (nI x)]) (rest := []) ⟨hx, hb, hml, hown, hts⟩ (c_X1_checkFunction l x (by omega)) (va_cwS 1 hts gX1_degreeOf_X1_checkFunction rfl rfl rfl (by decide +kernel) ⟨Nat.le_of_ble_eq_true rfl, Nat.le_of_ble_eq_true rfl⟩) ⟨fun _ _ _ _ z => z, fun _ _ _ => ⟨rfl, trivial⟩⟩ rfl rfl hl.1 rfl (lv_room (Nat.le_of_ble_eq_true rfl)) dX1_degreeOf_1 ⟨(Nat.zero_le _), (Nat.zero_le _)⟩)) (fun _ => ?_)
  refine lv_aload_n hx hb dX1_degreeOf_4 rfl (lv_at hl 0 rfl) ?_
  refine va_get (D := D) (ci := 1) (v := .ref (q 1)) (C := RX1) (T := TX1) (N := 11) hx hb hts in_X1_degreeOf_X1 hown hK hP 0 rfl rfl 0 (by decide) (hts (.fieldLink RX1 9 "ZhegalkinBench" "tables" "[I") (List.mem_of_getElem? (i := 1) rfl)) (fun _ h9 => h9) rfl dX1_degreeOf_5 ?_
  refine lv_iload_n hx hb dX1_degreeOf_8 rfl (lv_at hl 1 rfl) ?_
  refine vz_iald hx hb hK hP 1 0 rfl rfl x (by omega) (by decide) dX1_degreeOf_9 ?_
  refine vp_callSi (va_Run.run (va_runS (As := [.int (T x)]) (rest := []) ⟨hx, hb, hml, hown, hts⟩ (c_X1_degree l (T x)) (va_cwS 1 hts gX1_degreeOf_X1_degree rfl rfl rfl (by decide +kernel) ⟨Nat.le_of_ble_eq_true rfl, Nat.le_of_ble_eq_true rfl⟩) ⟨fun a U g mk z => ⟨z.1, z.2.blind g mk a⟩, fun U hU hW => ⟨rfl, hE.at0 hS hU hW⟩⟩ rfl rfl hl.1 rfl (lv_room (Nat.le_of_ble_eq_true rfl)) dX1_degreeOf_10 ⟨(Nat.zero_le _), (Nat.zero_le _)⟩)) (fun r9 hr => ?_)
  subst r9
  exact W.iret (v := (fX1_degree (T x))) hx hb hr (fun t9 ht hW => ⟨(fX1_degree (T x)), rfl, (by first | ((rw [fX1_degreeOf]); first | done | rfl) | rfl), ht⟩) (fun q h => nomatch h) dX1_degreeOf_13
theorem in_X1_printedLength_X1 : ∀ w ∈ wsX10, w ∈ wsX1_printedLength := by decide +kernel
def fX1_printedLength (T : Nat → Int32) (P : Nat → Int32) (x : Nat) : Int32 × (Nat → Int32) × Nat := ((nI (fX1_print P (fX1_addHalves (T x))).2), (fX1_print P (fX1_addHalves (T x))).1, ((fX1_print P (fX1_addHalves (T x))).2))
set_option maxHeartbeats 4000000 in
set_option maxRecDepth 100000 in
theorem c_X1_printedLength (l : Launch) (D : va_G) (q : Nat → Nat) (cq : Nat → ClassId) (sz : Nat) (T : Nat → Int32) (R : Nat → Int32) (S : Nat → Int32) (X : Nat → Int32) (M : Nat → Int32) (P : Nat → Int32) (n : Int32) (h : Int32) (k : Int32) (w : Int32) (f : Int32) (d : Int32) (v : Int32) (z : Nat) (x : Nat) (hx6 : x < 6) : Met l yX1_printedLength wsX1_printedLength ({ frames := 3, cells := 0, slots := 0, locals := 65 }) (va_Pc [.ref (q 0), .int (nI x)] (fun U => U.heap.size = sz ∧ va_P D vwCl (wB q cq T R S X M P n h k w f d v (nI z)) U.heap ∧ va_K D vwCl (tyB cq) U ∧ va_D (fun _ => True) (wB q cq T R S X M P n h k w f d v (nI z)) ∧ envE (va_A (wB q cq T R S X M P n h k w f d v (nI z)) sz) U)) (va_Qi (fun r9 (_ : Unit) => r9 = (fX1_printedLength T P x).1) (fun _ t9 => va_P D vwCl (wB q cq T R S X M ((fX1_printedLength T P x).2.1) n h k w f d v (nI (fX1_printedLength T P x).2.2)) t9.heap ∧ va_D (va_A (wB q cq T R S X M P n h k w f d v (nI z)) sz) (wB q cq T R S X M ((fX1_printedLength T P x).2.1) n h k w f d v (nI (fX1_printedLength T P x).2.2))) (va_A (wB q cq T R S X M P n h k w f d v (nI z)) sz)) 0 0 (va_A (wB q cq T R S X M P n h k w f d v (nI z)) sz) := by
  refine Met.ofW (cc := cX1_printedLength) (maxL := 2) (ret := (some .int)) (by decide) rfl ?_
  intro p e s m args below meth c s₁ B hml hv
  obtain ⟨rfl, hsz, hP, hK, hD0, hE⟩ := hv
  have hx := B.exec
  have hb := B.bytes
  have hr := B.returns
  have hts := atoms_spec (ws := wsX1_printedLength) B.pre
  have hown : s.vm.findClass RX1 = some m.cls := findClass_of_methodNamed B.named
  have hlocks := B.notSynchronized
  subst hsz
  have hD := hD0.self (sz := s.heap.size)
  generalize hAe : va_A (wB q cq T R S X M P n h k w f d v (nI z)) s.heap.size = A at hD hE ⊢
  have hA : ∀ q : Nat, s.heap.size ≤ q → A q := fun q h => by rw [← hAe]; exact Or.inr h
  have hS : va_S A s.heap s.heap [] := va_S.rf
  have hP : va_P D vwCl (wB q cq T R S X M P n h k w f d v (nI z)) s.heap := hP
  have hl := lv_entry ([.ref (q 0), .int (nI x)]) (n := 2) (Nat.le_of_ble_eq_true rfl)
  rw [lg_entry_eq]
  generalize (lg_sl ([.ref (q 0), .int (nI x)]) ++ List.replicate (2 - (lg_sl ([.ref (q 0), .int (nI x)])).length) Slot.unset).toArray = ls at hl ⊢
  have hl : lv_has ls 2 [(0, .ref (q 0)), (1, .int (nI x))] := hl
  refine lv_iload_n hx hb dX1_printedLength_0 rfl (lv_at hl 1 rfl) ?_
  refine va_csv (va_Run.run (va_runS (As := [.int (nI x)]) (rest := []) ⟨hx, hb, hml, hown, hts⟩ (c_X1_checkFunction l x (by omega)) (va_cwS 1 hts gX1_printedLength_X1_checkFunction rfl rfl rfl (by decide +kernel) ⟨Nat.le_of_ble_eq_true rfl, Nat.le_of_ble_eq_true rfl⟩) ⟨fun _ _ _ _ z => z, fun _ _ _ => ⟨rfl, trivial⟩⟩ rfl rfl hl.1 rfl (lv_room (Nat.le_of_ble_eq_true rfl)) dX1_printedLength_1 ⟨(Nat.zero_le _), (Nat.zero_le _)⟩)) (fun _ => ?_)
  refine lv_aload_n hx hb dX1_printedLength_4 rfl (lv_at hl 0 rfl) ?_
  refine lv_aload_n hx hb dX1_printedLength_5 rfl (lv_at hl 0 rfl) ?_
  refine va_get (D := D) (ci := 1) (v := .ref (q 1)) (C := RX1) (T := TX1) (N := 11) hx hb hts in_X1_printedLength_X1 hown hK hP 0 rfl rfl 0 (by decide) (hts (.fieldLink RX1 9 "ZhegalkinBench" "tables" "[I") (List.mem_of_getElem? (i := 1) rfl)) (fun _ h9 => h9) rfl dX1_printedLength_6 ?_
  refine lv_iload_n hx hb dX1_printedLength_9 rfl (lv_at hl 1 rfl) ?_
  refine vz_iald hx hb hK hP 1 0 rfl rfl x (by omega) (by decide) dX1_printedLength_10 ?_
  refine vp_callSi (va_Run.run (va_runS (As := [.int (T x)]) (rest := [.ref (q 0)]) ⟨hx, hb, hml, hown, hts⟩ (c_X1_addHalves l (T x)) (va_cwS 1 hts gX1_printedLength_X1_addHalves rfl rfl rfl (by decide +kernel) ⟨Nat.le_of_ble_eq_true rfl, Nat.le_of_ble_eq_true rfl⟩) ⟨fun a U g mk z => ⟨z.1, z.2.blind g mk a⟩, fun U hU hW => ⟨rfl, hE.at0 hS hU hW⟩⟩ rfl rfl hl.1 rfl (lv_room (Nat.le_of_ble_eq_true rfl)) dX1_printedLength_11 ⟨(Nat.zero_le _), (Nat.zero_le _)⟩)) (fun r9 hr => ?_)
  subst r9
  have hPc := hP.sub (ws' := (wB q cq T R S X M P n h k w f d v (nI z))) [0, 1, 2, 3, 4, 5, 6, 7] rfl
  have hKc := hK.sub (tys' := (tyB cq)) [0, 1, 2, 3, 4, 5] rfl
  have hDc := hD.sub (ws' := (wB q cq T R S X M P n h k w f d v (nI z))) [0, 1, 2, 3, 4, 5, 6, 7] (by decide) rfl
  have hFc := va_free (wc := (wB q cq T R S X M P n h k w f d v (nI z))) hD hS hA [0, 1, 2, 3, 4, 5, 6, 7] rfl
  refine va_callv (va_runV (As := [.int (fX1_addHalves (T x))]) (rest := []) ⟨hx, hb, hml, hown, hts⟩ (c_X1_print l D q cq s.heap.size T R S X M P n h k w f d v z (fX1_addHalves (T x))) (cwV 1 hts gX1_printedLength_X1_print rfl rfl rfl (by decide +kernel) ⟨Nat.le_of_ble_eq_true rfl, Nat.le_of_ble_eq_true rfl⟩) ⟨fun a U g mk z => ⟨z.1, z.2.1, z.2.2.1, va_K.moved (u := U) (U := U.calling g mk a) (Vm.Alike.refl U.vm) z.2.2.2.1, z.2.2.2.2.1, z.2.2.2.2.2.blind g mk a⟩, va_recv hKc hPc (ci := 1) (q0 := 0) rfl rfl, fun U hU hW => ⟨rfl, by rw [hU], by rw [hU]; exact hPc, va_K.moved hW.alike hKc, hDc.weaken (fun _ _ _ _ => trivial), hE.at hS hU hW hFc⟩⟩ rfl rfl hl.1 rfl (lv_room (Nat.le_of_ble_eq_true rfl)) dX1_printedLength_14 ⟨(Nat.zero_le _), (Nat.zero_le _)⟩) hS (fun q _ h => hFc q h) hFc (fun u9 t8 H1 locs ht hvm hw hB hz1 hk1 hS => ?_)
  obtain ⟨hP1, hD1⟩ := hB
  rw [ht] at hP1
  obtain ⟨hP, hD⟩ := va_join (wr := []) (w1 := (wB q cq T R S X M ((fX1_print P (fX1_addHalves (T x))).1) n h k w f d v (nI (fX1_print P (fX1_addHalves (T x))).2))) hP hD [0, 1, 2, 3, 4, 5, 6, 7] [] rfl rfl (by decide) (by decide) hk1 hFc hP1 hD1
  have hP := hP.sub (ws' := (wB q cq T R S X M ((fX1_print P (fX1_addHalves (T x))).1) n h k w f d v (nI (fX1_print P (fX1_addHalves (T x))).2))) [0, 1, 2, 3, 4, 5, 6, 7] rfl
  have hD := hD.sub (ws' := (wB q cq T R S X M ((fX1_print P (fX1_addHalves (T x))).1) n h k w f d v (nI (fX1_print P (fX1_addHalves (T x))).2))) [0, 1, 2, 3, 4, 5, 6, 7] (by decide) rfl
  generalize H1 = H at hP hS ⊢
  refine lv_aload_n hx hb dX1_printedLength_17 rfl (lv_at hl 0 rfl) ?_
  refine va_get (D := D) (ci := 1) (v := .int (nI (fX1_print P (fX1_addHalves (T x))).2)) (C := RX1) (T := TX1) (N := 11) hx hb hts in_X1_printedLength_X1 hown hK hP 0 rfl rfl 10 (by decide) (hts (.fieldLink RX1 47 "ZhegalkinBench" "printedCount" "I") (List.mem_of_getElem? (i := 2) rfl)) (fun _ h9 => h9) rfl dX1_printedLength_18 ?_
  have hq : (fX1_printedLength T P x) = ((nI (fX1_print P (fX1_addHalves (T x))).2), (fX1_print P (fX1_addHalves (T x))).1, ((fX1_print P (fX1_addHalves (T x))).2)) := Eq.symm (by first | ((rw [fX1_printedLength]); first | done | rfl) | rfl)
  exact W.iret (v := (nI (fX1_print P (fX1_addHalves (T x))).2)) hx hb hr (fun t9 ht hW => ⟨⟨(nI (fX1_print P (fX1_addHalves (T x))).2), (), rfl, by rw [hq], by rw [hq]; exact ⟨by rw [ht]; exact hP, hD⟩⟩, hS.F ht⟩) hS.2.2 dX1_printedLength_21
theorem in_X1_printedLetter_X1 : ∀ w ∈ wsX10, w ∈ wsX1_printedLetter := by decide +kernel
def fX1_printedLetter (T : Nat → Int32) (P : Nat → Int32) (x : Nat) (x2 : Nat) : Int32 × (Nat → Int32) × Nat := ((((fX1_print P (fX1_addHalves (T x))).1) x2), (fX1_print P (fX1_addHalves (T x))).1, ((fX1_print P (fX1_addHalves (T x))).2))
set_option maxHeartbeats 4000000 in
set_option maxRecDepth 100000 in
theorem c_X1_printedLetter (l : Launch) (D : va_G) (q : Nat → Nat) (cq : Nat → ClassId) (sz : Nat) (T : Nat → Int32) (R : Nat → Int32) (S : Nat → Int32) (X : Nat → Int32) (M : Nat → Int32) (P : Nat → Int32) (n : Int32) (h : Int32) (k : Int32) (w : Int32) (f : Int32) (d : Int32) (v : Int32) (z : Nat) (x : Nat) (x2 : Nat) (hx6 : x < 6) (hpl : x2 < (fX1_print P (fX1_addHalves (T x))).2) (hP9 : ∀ j, vp_nar .char (P j) = P j) : Met l yX1_printedLetter wsX1_printedLetter ({ frames := 3, cells := 0, slots := 0, locals := 65 }) (va_Pc [.ref (q 0), .int (nI x), .int (nI x2)] (fun U => U.heap.size = sz ∧ va_P D vwCl (wB q cq T R S X M P n h k w f d v (nI z)) U.heap ∧ va_K D vwCl (tyB cq) U ∧ va_D (fun _ => True) (wB q cq T R S X M P n h k w f d v (nI z)) ∧ envE (va_A (wB q cq T R S X M P n h k w f d v (nI z)) sz) U)) (va_Qi (fun r9 (_ : Unit) => r9 = (fX1_printedLetter T P x x2).1) (fun _ t9 => va_P D vwCl (wB q cq T R S X M ((fX1_printedLetter T P x x2).2.1) n h k w f d v (nI (fX1_printedLetter T P x x2).2.2)) t9.heap ∧ va_D (va_A (wB q cq T R S X M P n h k w f d v (nI z)) sz) (wB q cq T R S X M ((fX1_printedLetter T P x x2).2.1) n h k w f d v (nI (fX1_printedLetter T P x x2).2.2))) (va_A (wB q cq T R S X M P n h k w f d v (nI z)) sz)) 0 0 (va_A (wB q cq T R S X M P n h k w f d v (nI z)) sz) := by
  refine Met.ofW (cc := cX1_printedLetter) (maxL := 3) (ret := (some .char)) (by decide) rfl ?_
  intro p e s m args below meth c s₁ B hml hv
  obtain ⟨rfl, hsz, hP, hK, hD0, hE⟩ := hv
  have hx := B.exec
  have hb := B.bytes
  have hr := B.returns
  have hts := atoms_spec (ws := wsX1_printedLetter) B.pre
  have hown : s.vm.findClass RX1 = some m.cls := findClass_of_methodNamed B.named
  have hlocks := B.notSynchronized
  subst hsz
  have hD := hD0.self (sz := s.heap.size)
  generalize hAe : va_A (wB q cq T R S X M P n h k w f d v (nI z)) s.heap.size = A at hD hE ⊢
  have hA : ∀ q : Nat, s.heap.size ≤ q → A q := fun q h => by rw [← hAe]; exact Or.inr h
  have hS : va_S A s.heap s.heap [] := va_S.rf
  have hP : va_P D vwCl (wB q cq T R S X M P n h k w f d v (nI z)) s.heap := hP
  have hl := lv_entry ([.ref (q 0), .int (nI x), .int (nI x2)]) (n := 3) (Nat.le_of_ble_eq_true rfl)
  rw [lg_entry_eq]
  generalize (lg_sl ([.ref (q 0), .int (nI x), .int (nI x2)]) ++ List.replicate (3 - (lg_sl ([.ref (q 0), .int (nI x), .int (nI x2)])).length) Slot.unset).toArray = ls at hl ⊢
  have hl : lv_has ls 3 [(0, .ref (q 0)), (1, .int (nI x)), (2, .int (nI x2))] := hl
  have hz9 : x2 < 48 := Nat.lt_of_lt_of_le hpl fX1_print_le
  refine lv_iload_n hx hb dX1_printedLetter_0 rfl (lv_at hl 1 rfl) ?_
  refine va_csv (va_Run.run (va_runS (As := [.int (nI x)]) (rest := []) ⟨hx, hb, hml, hown, hts⟩ (c_X1_checkFunction l x (by omega)) (va_cwS 1 hts gX1_printedLetter_X1_checkFunction rfl rfl rfl (by decide +kernel) ⟨Nat.le_of_ble_eq_true rfl, Nat.le_of_ble_eq_true rfl⟩) ⟨fun _ _ _ _ z => z, fun _ _ _ => ⟨rfl, trivial⟩⟩ rfl rfl hl.1 rfl (lv_room (Nat.le_of_ble_eq_true rfl)) dX1_printedLetter_1 ⟨(Nat.zero_le _), (Nat.zero_le _)⟩)) (fun _ => ?_)
  refine lv_aload_n hx hb dX1_printedLetter_4 rfl (lv_at hl 0 rfl) ?_
  refine lv_aload_n hx hb dX1_printedLetter_5 rfl (lv_at hl 0 rfl) ?_
  refine va_get (D := D) (ci := 1) (v := .ref (q 1)) (C := RX1) (T := TX1) (N := 11) hx hb hts in_X1_printedLetter_X1 hown hK hP 0 rfl rfl 0 (by decide) (hts (.fieldLink RX1 9 "ZhegalkinBench" "tables" "[I") (List.mem_of_getElem? (i := 3) rfl)) (fun _ h9 => h9) rfl dX1_printedLetter_6 ?_
  refine lv_iload_n hx hb dX1_printedLetter_9 rfl (lv_at hl 1 rfl) ?_
  refine vz_iald hx hb hK hP 1 0 rfl rfl x (by omega) (by decide) dX1_printedLetter_10 ?_
  refine vp_callSi (va_Run.run (va_runS (As := [.int (T x)]) (rest := [.ref (q 0)]) ⟨hx, hb, hml, hown, hts⟩ (c_X1_addHalves l (T x)) (va_cwS 1 hts gX1_printedLetter_X1_addHalves rfl rfl rfl (by decide +kernel) ⟨Nat.le_of_ble_eq_true rfl, Nat.le_of_ble_eq_true rfl⟩) ⟨fun a U g mk z => ⟨z.1, z.2.blind g mk a⟩, fun U hU hW => ⟨rfl, hE.at0 hS hU hW⟩⟩ rfl rfl hl.1 rfl (lv_room (Nat.le_of_ble_eq_true rfl)) dX1_printedLetter_11 ⟨(Nat.zero_le _), (Nat.zero_le _)⟩)) (fun r9 hr => ?_)
  subst r9
  have hPc := hP.sub (ws' := (wB q cq T R S X M P n h k w f d v (nI z))) [0, 1, 2, 3, 4, 5, 6, 7] rfl
  have hKc := hK.sub (tys' := (tyB cq)) [0, 1, 2, 3, 4, 5] rfl
  have hDc := hD.sub (ws' := (wB q cq T R S X M P n h k w f d v (nI z))) [0, 1, 2, 3, 4, 5, 6, 7] (by decide) rfl
  have hFc := va_free (wc := (wB q cq T R S X M P n h k w f d v (nI z))) hD hS hA [0, 1, 2, 3, 4, 5, 6, 7] rfl
  refine va_callv (va_runV (As := [.int (fX1_addHalves (T x))]) (rest := []) ⟨hx, hb, hml, hown, hts⟩ (c_X1_print l D q cq s.heap.size T R S X M P n h k w f d v z (fX1_addHalves (T x))) (cwV 1 hts gX1_printedLetter_X1_print rfl rfl rfl (by decide +kernel) ⟨Nat.le_of_ble_eq_true rfl, Nat.le_of_ble_eq_true rfl⟩) ⟨fun a U g mk z => ⟨z.1, z.2.1, z.2.2.1, va_K.moved (u := U) (U := U.calling g mk a) (Vm.Alike.refl U.vm) z.2.2.2.1, z.2.2.2.2.1, z.2.2.2.2.2.blind g mk a⟩, va_recv hKc hPc (ci := 1) (q0 := 0) rfl rfl, fun U hU hW => ⟨rfl, by rw [hU], by rw [hU]; exact hPc, va_K.moved hW.alike hKc, hDc.weaken (fun _ _ _ _ => trivial), hE.at hS hU hW hFc⟩⟩ rfl rfl hl.1 rfl (lv_room (Nat.le_of_ble_eq_true rfl)) dX1_printedLetter_14 ⟨(Nat.zero_le _), (Nat.zero_le _)⟩) hS (fun q _ h => hFc q h) hFc (fun u9 t8 H1 locs ht hvm hw hB hz1 hk1 hS => ?_)
  obtain ⟨hP1, hD1⟩ := hB
  rw [ht] at hP1
  obtain ⟨hP, hD⟩ := va_join (wr := []) (w1 := (wB q cq T R S X M ((fX1_print P (fX1_addHalves (T x))).1) n h k w f d v (nI (fX1_print P (fX1_addHalves (T x))).2))) hP hD [0, 1, 2, 3, 4, 5, 6, 7] [] rfl rfl (by decide) (by decide) hk1 hFc hP1 hD1
  have hP := hP.sub (ws' := (wB q cq T R S X M ((fX1_print P (fX1_addHalves (T x))).1) n h k w f d v (nI (fX1_print P (fX1_addHalves (T x))).2))) [0, 1, 2, 3, 4, 5, 6, 7] rfl
  have hD := hD.sub (ws' := (wB q cq T R S X M ((fX1_print P (fX1_addHalves (T x))).1) n h k w f d v (nI (fX1_print P (fX1_addHalves (T x))).2))) [0, 1, 2, 3, 4, 5, 6, 7] (by decide) rfl
  generalize H1 = H at hP hS ⊢
  refine lv_iload_n hx hb dX1_printedLetter_17 rfl (lv_at hl 2 rfl) ?_
  refine lv_if_lt (tgt := 29) hx hb dX1_printedLetter_18 (by decide) (fun c_1 => ?_) (fun c_1 => ?_)
  · exact absurd c_1 (nI_pos (by omega))
  · refine lv_iload_n hx hb dX1_printedLetter_21 rfl (lv_at hl 2 rfl) ?_
    refine lv_aload_n hx hb dX1_printedLetter_22 rfl (lv_at hl 0 rfl) ?_
    refine va_get (D := D) (ci := 1) (v := .int (nI (fX1_print P (fX1_addHalves (T x))).2)) (C := RX1) (T := TX1) (N := 11) hx hb hts in_X1_printedLetter_X1 hown hK hP 0 rfl rfl 10 (by decide) (hts (.fieldLink RX1 47 "ZhegalkinBench" "printedCount" "I") (List.mem_of_getElem? (i := 4) rfl)) (fun _ h9 => h9) rfl dX1_printedLetter_23 ?_
    refine lv_icmp_lt (tgt := 39) hx hb dX1_printedLetter_26 (by decide) (fun c_2 => ?_) (fun c_2 => ?_)
    · refine lv_aload_n hx hb dX1_printedLetter_39 rfl (lv_at hl 0 rfl) ?_
      refine va_get (D := D) (ci := 1) (v := .ref (q 7)) (C := RX1) (T := TX1) (N := 11) hx hb hts in_X1_printedLetter_X1 hown hK hP 0 rfl rfl 9 (by decide) (hts (.fieldLink RX1 44 "ZhegalkinBench" "printed" "[C") (List.mem_of_getElem? (i := 5) rfl)) (fun _ h9 => h9) rfl dX1_printedLetter_40 ?_
      refine lv_iload_n hx hb dX1_printedLetter_43 rfl (lv_at hl 2 rfl) ?_
      refine vz_cald hx hb hK hP 7 5 rfl rfl x2 (by omega) (by decide) dX1_printedLetter_44 ?_
      have hq : (fX1_printedLetter T P x x2) = ((((fX1_print P (fX1_addHalves (T x))).1) x2), (fX1_print P (fX1_addHalves (T x))).1, ((fX1_print P (fX1_addHalves (T x))).2)) := Eq.symm (by first | ((rw [fX1_printedLetter]); first | done | rfl) | rfl)
      exact W.zret (v := (((fX1_print P (fX1_addHalves (T x))).1) x2)) hx hb hr (chr_nar (fX1_print_ch hP9 _)) (fun t9 ht hW => ⟨⟨(((fX1_print P (fX1_addHalves (T x))).1) x2), (), rfl, by rw [hq], by rw [hq]; exact ⟨by rw [ht]; exact hP, hD⟩⟩, hS.F ht⟩) hS.2.2 dX1_printedLetter_45
    · exact absurd (nI_lt (a := x2) hpl (Nat.lt_of_le_of_lt fX1_print_le (by decide))) c_2
theorem in_X1_distanceByTrying_X1 : ∀ w ∈ wsX10, w ∈ wsX1_distanceByTrying := by decide +kernel
def sX1_distanceByTrying_9 (T : Nat → Int32) (x : Nat) (i1 : Nat) (a1 : Int32) : Int32 := (if (fJ6_bitCount_0f7a4 ((T x) ^^^ (fX1_linearTable (nI i1)))) < a1 then (fJ6_bitCount_0f7a4 ((T x) ^^^ (fX1_linearTable (nI i1)))) else a1)
def fX1_distanceByTrying (T : Nat → Int32) (x : Nat) : Int32 := (lp (sX1_distanceByTrying_9 T x) 32 0 16)
set_option maxHeartbeats 4000000 in
set_option maxRecDepth 100000 in
theorem c_X1_distanceByTrying (l : Launch) (D : va_G) (q : Nat → Nat) (cq : Nat → ClassId) (T : Nat → Int32) (R : Nat → Int32) (S : Nat → Int32) (X : Nat → Int32) (M : Nat → Int32) (P : Nat → Int32) (n : Int32) (h : Int32) (k : Int32) (w : Int32) (f : Int32) (d : Int32) (v : Int32) (z : Int32) (x : Nat) (hx6 : x < 6) : Met l yX1_distanceByTrying wsX1_distanceByTrying ({ frames := 2, cells := 0, slots := 0, locals := 43 }) (va_Pc [.ref (q 0), .int (nI x)] (fun U => va_P D vwCl (wB q cq T R S X M P n h k w f d v z) U.heap ∧ va_K D vwCl (tyB cq) U ∧ env0 U)) (vp_Si (fun r9 => r9 = (fX1_distanceByTrying T x))) 0 0 (fun _ => False) := by
  refine Met.ofW (cc := cX1_distanceByTrying) (maxL := 5) (ret := (some .int)) (by decide) rfl ?_
  intro p e s m args below meth c s₁ B hml hv
  obtain ⟨rfl, hP, hK, hE⟩ := hv
  have hx := B.exec
  have hb := B.bytes
  have hr := B.returns
  have hts := atoms_spec (ws := wsX1_distanceByTrying) B.pre
  have hown : s.vm.findClass RX1 = some m.cls := findClass_of_methodNamed B.named
  have hlocks := B.notSynchronized
  have hS : va_S (fun _ => False) s.heap s.heap [] := va_S.rf
  have hP : va_P D vwCl (wB q cq T R S X M P n h k w f d v z) s.heap := hP
  have hl := lv_entry ([.ref (q 0), .int (nI x)]) (n := 5) (Nat.le_of_ble_eq_true rfl)
  rw [lg_entry_eq]
  generalize (lg_sl ([.ref (q 0), .int (nI x)]) ++ List.replicate (5 - (lg_sl ([.ref (q 0), .int (nI x)])).length) Slot.unset).toArray = ls at hl ⊢
  have hl : lv_has ls 5 [(0, .ref (q 0)), (1, .int (nI x))] := hl
  refine lv_iload_n hx hb dX1_distanceByTrying_0 rfl (lv_at hl 1 rfl) ?_
  refine va_csv (va_Run.run (va_runS (As := [.int (nI x)]) (rest := []) ⟨hx, hb, hml, hown, hts⟩ (c_X1_checkFunction l x (by omega)) (va_cwS 1 hts gX1_distanceByTrying_X1_checkFunction rfl rfl rfl (by decide +kernel) ⟨Nat.le_of_ble_eq_true rfl, Nat.le_of_ble_eq_true rfl⟩) ⟨fun _ _ _ _ z => z, fun _ _ _ => ⟨rfl, trivial⟩⟩ rfl rfl hl.1 rfl (lv_room (Nat.le_of_ble_eq_true rfl)) dX1_distanceByTrying_1 ⟨(Nat.zero_le _), (Nat.zero_le _)⟩)) (fun _ => ?_)
  refine lv_bipush (v := 16) hx hb dX1_distanceByTrying_4 (by decide) ?_
  refine lv_istore_n (lv' := [(2, .int 16), (0, .ref (q 0)), (1, .int (nI x))]) hx hb dX1_distanceByTrying_6 rfl hl (by decide) rfl (fun ls hl => ?_)
  refine lv_iconst (v := 0) hx hb dX1_distanceByTrying_7 (by decide) ?_
  refine lv_istore_n (lv' := [(3, .int 0), (2, .int 16), (0, .ref (q 0)), (1, .int (nI x))]) hx hb dX1_distanceByTrying_8 rfl hl (by decide) rfl (fun ls hl => ?_)
  obtain ⟨F1, hF1⟩ : ∃ z9, z9 = (lp (sX1_distanceByTrying_9 T x) 32 0 16) := ⟨_, rfl⟩
  refine vz_cut (fun H1 l1 g1 => ∃ (n1 i1 : Nat) (a1 : Int32) (ls : Array Slot), i1 + n1 = 32 ∧ lp (sX1_distanceByTrying_9 T x) n1 i1 a1 = F1 ∧ lv_has ls 5 [(3, .int (nI i1)), (2, .int a1), (0, .ref (q 0)), (1, .int (nI x))] ∧ (s.heap = H1 ∧ [] = l1) ∧ g1 = F0 m 9 ls []) (fun hj => hj _ _ _ ⟨32, 0, 16, ls, (by omega), hF1.symm, lv_sub hl [0, 1, 2, 3] rfl, ⟨rfl, rfl⟩, rfl⟩) ?_
  rintro H1 l1 g1 ⟨n1, i1, a1, ls, hi1, hf1, hl, ⟨rfl, rfl⟩, rfl⟩
  revert i1 a1 ls
  induction n1 with
  | zero =>
    intro i1 a1 ls hi1 hf1 hl
    obtain rfl : 32 = i1 := by omega
    have hf1 : F1 = a1 := hf1.symm
    subst hf1
    refine lv_iload_n hx hb dX1_distanceByTrying_9 rfl (lv_at hl 0 rfl) ?_
    refine lv_bipush (v := 32) hx hb dX1_distanceByTrying_10 (by decide) ?_
    refine lv_icmp_ge (tgt := 44) hx hb dX1_distanceByTrying_12 (by decide) (fun c_1 => ?_) (fun c_1 => ?_)
    · refine lv_iload_n hx hb dX1_distanceByTrying_44 rfl (lv_at hl 1 rfl) ?_
      exact W.iret (v := F1) hx hb hr (fun t9 ht hW => ⟨F1, rfl, (by first | ((rw [fX1_distanceByTrying]); (try rw [← hF1]); first | done | rfl) | rfl), ht⟩) (fun q h => nomatch h) dX1_distanceByTrying_45
    · exact absurd (nI_le (a := 32) (b := 32) (by omega) (by omega)) c_1
  | succ n1 ih1 =>
    intro i1 a1 ls hi1 hf1 hl
    refine lv_iload_n hx hb dX1_distanceByTrying_9 rfl (lv_at hl 0 rfl) ?_
    refine lv_bipush (v := 32) hx hb dX1_distanceByTrying_10 (by decide) ?_
    refine lv_icmp_ge (tgt := 44) hx hb dX1_distanceByTrying_12 (by decide) (fun c_2 => ?_) (fun c_2 => ?_)
    · exact absurd c_2 (nI_ge (a := i1) (b := 32) (by omega) (by omega))
    · refine lv_aload_n hx hb dX1_distanceByTrying_15 rfl (lv_at hl 2 rfl) ?_
      refine va_get (D := D) (ci := 1) (v := .ref (q 1)) (C := RX1) (T := TX1) (N := 11) hx hb hts in_X1_distanceByTrying_X1 hown hK hP 0 rfl rfl 0 (by decide) (hts (.fieldLink RX1 9 "ZhegalkinBench" "tables" "[I") (List.mem_of_getElem? (i := 1) rfl)) (fun _ h9 => h9) rfl dX1_distanceByTrying_16 ?_
      refine lv_iload_n hx hb dX1_distanceByTrying_19 rfl (lv_at hl 3 rfl) ?_
      refine vz_iald hx hb hK hP 1 0 rfl rfl x (by omega) (by decide) dX1_distanceByTrying_20 ?_
      refine lv_iload_n hx hb dX1_distanceByTrying_21 rfl (lv_at hl 0 rfl) ?_
      refine vp_callSi (va_Run.run (va_runS (As := [.int (nI i1)]) (rest := [.int (T x)]) ⟨hx, hb, hml, hown, hts⟩ (c_X1_linearTable l (nI i1)) (va_cwS 1 hts gX1_distanceByTrying_X1_linearTable rfl rfl rfl (by decide +kernel) ⟨Nat.le_of_ble_eq_true rfl, Nat.le_of_ble_eq_true rfl⟩) ⟨fun a U g mk z => ⟨z.1, z.2.blind g mk a⟩, fun U hU hW => ⟨rfl, hE.at0 hS hU hW⟩⟩ rfl rfl hl.1 rfl (lv_room (Nat.le_of_ble_eq_true rfl)) dX1_distanceByTrying_22 ⟨(Nat.zero_le _), (Nat.zero_le _)⟩)) (fun r9 hr => ?_)
      subst r9
      refine lv_ixor hx hb dX1_distanceByTrying_25 ?_
      refine lv_istore (lv' := [(4, .int ((T x) ^^^ (fX1_linearTable (nI i1)))), (3, .int (nI i1)), (2, .int a1), (0, .ref (q 0)), (1, .int (nI x))]) hx hb dX1_distanceByTrying_26 hl (by decide) rfl (fun ls hl => ?_)
      refine lv_iload_n hx hb dX1_distanceByTrying_28 rfl (lv_at hl 2 rfl) ?_
      refine lv_iload hx hb dX1_distanceByTrying_29 (lv_at hl 0 rfl) ?_
      refine vp_callSi (va_Run.run (va_runS (As := [.int ((T x) ^^^ (fX1_linearTable (nI i1)))]) (rest := [.int a1]) ⟨hx, hb, hml, hown, hts⟩ (c_J6_bitCount_0f7a4 l ((T x) ^^^ (fX1_linearTable (nI i1)))) (va_cwS 1 hts gX1_distanceByTrying_J6_bitCount_0f7a4 rfl rfl rfl (by decide +kernel) ⟨Nat.le_of_ble_eq_true rfl, Nat.le_of_ble_eq_true rfl⟩) ⟨fun _ _ _ _ z => z, fun _ _ _ => ⟨rfl, trivial⟩⟩ rfl rfl hl.1 rfl (lv_room (Nat.le_of_ble_eq_true rfl)) dX1_distanceByTrying_31 ⟨(Nat.zero_le _), (Nat.zero_le _)⟩)) (fun r9 hr => ?_)
      subst r9
      refine va_mmin hx hb (by rw [hml]; exact hl.1.symm) hown (hts (.methodLink RX1 139 Lib.Math.min.name) (List.mem_of_getElem? (i := 2) rfl)) (hts (.static Lib.Math.min.name) (List.mem_of_getElem? (i := 3) rfl)) (hts (.initialized "java/lang/Math") (List.mem_of_getElem? (i := 4) rfl)) (hts (.code Lib.Math.min.name Lib.Math.min.code 2 (some .int)) (List.mem_of_getElem? (i := 5) rfl)) (Nat.le_of_ble_eq_true rfl) (Nat.le_of_ble_eq_true rfl) (Nat.zero_le _) (Nat.zero_le _) dX1_distanceByTrying_34 ?_
      refine lv_istore_n (lv' := [(2, .int (if (fJ6_bitCount_0f7a4 ((T x) ^^^ (fX1_linearTable (nI i1)))) < a1 then (fJ6_bitCount_0f7a4 ((T x) ^^^ (fX1_linearTable (nI i1)))) else a1)), (4, .int ((T x) ^^^ (fX1_linearTable (nI i1)))), (3, .int (nI i1)), (0, .ref (q 0)), (1, .int (nI x))]) hx hb dX1_distanceByTrying_37 rfl hl (by decide) rfl (fun ls hl => ?_)
      refine lv_iinc (v := (nI (i1 + 1))) (lv' := [(3, .int (nI (i1 + 1))), (2, .int (if (fJ6_bitCount_0f7a4 ((T x) ^^^ (fX1_linearTable (nI i1)))) < a1 then (fJ6_bitCount_0f7a4 ((T x) ^^^ (fX1_linearTable (nI i1)))) else a1)), (4, .int ((T x) ^^^ (fX1_linearTable (nI i1)))), (0, .ref (q 0)), (1, .int (nI x))]) hx hb dX1_distanceByTrying_38 hl (k := 2) rfl (by first | exact nI_add _ _ | rfl) (by decide) rfl (fun ls hl => ?_)
      refine lv_goto (tgt := 9) hx hb dX1_distanceByTrying_41 (by decide) ?_
      exact ih1 (i1 + 1) (if (fJ6_bitCount_0f7a4 ((T x) ^^^ (fX1_linearTable (nI i1)))) < a1 then (fJ6_bitCount_0f7a4 ((T x) ^^^ (fX1_linearTable (nI i1)))) else a1) ls (by omega) ((congrArg (lp (sX1_distanceByTrying_9 T x) n1 (i1 + 1)) (show (if (fJ6_bitCount_0f7a4 ((T x) ^^^ (fX1_linearTable (nI i1)))) < a1 then (fJ6_bitCount_0f7a4 ((T x) ^^^ (fX1_linearTable (nI i1)))) else a1) = (sX1_distanceByTrying_9 T x) i1 a1 from by first | ((rw [sX1_distanceByTrying_9]); first | done | rfl) | rfl)).trans hf1) (lv_sub hl [0, 1, 3, 4] rfl)
theorem in_X1_distanceBySums_X1 : ∀ w ∈ wsX10, w ∈ wsX1_distanceBySums := by decide +kernel
def sX1_distanceBySums_60 (F2 : (Nat → Int32)) (i3 : Nat) (a3 : Int32) : Int32 := (if a3 < (if 0 ≤ (F2 i3) then (F2 i3) else 0 - (F2 i3)) then (if 0 ≤ (F2 i3) then (F2 i3) else 0 - (F2 i3)) else a3)
def sX1_distanceBySums_40 (i2 : Nat) (a2 : (Nat → Int32)) : (Nat → Int32) := (fX1_sumPairs a2 (2 ^ i2))
def sX1_distanceBySums_6 (T : Nat → Int32) (x : Nat) (i1 : Nat) (a1 : (Nat → Int32)) : (Nat → Int32) := (upd a1 i1 (1 - (2 * (fX1_bit (T x) (nI i1)))))
def fX1_distanceBySums (T : Nat → Int32) (M : Nat → Int32) (x : Nat) : Int32 × (Nat → Int32) := (((16 - (lp (sX1_distanceBySums_60 (lp sX1_distanceBySums_40 4 0 (lp (sX1_distanceBySums_6 T x) 16 0 M))) 16 0 0)) / 2), (lp sX1_distanceBySums_40 4 0 (lp (sX1_distanceBySums_6 T x) 16 0 M)))
set_option maxHeartbeats 4000000 in
set_option maxRecDepth 100000 in
theorem c_X1_distanceBySums (l : Launch) (D : va_G) (q : Nat → Nat) (cq : Nat → ClassId) (sz : Nat) (T : Nat → Int32) (R : Nat → Int32) (S : Nat → Int32) (X : Nat → Int32) (M : Nat → Int32) (P : Nat → Int32) (n : Int32) (h : Int32) (k : Int32) (w : Int32) (f : Int32) (d : Int32) (v : Int32) (z : Int32) (x : Nat) (hx6 : x < 6) : Met l yX1_distanceBySums wsX1_distanceBySums ({ frames := 1, cells := 0, slots := 0, locals := 25 }) (va_Pc [.ref (q 0), .int (nI x)] (fun U => U.heap.size = sz ∧ va_P D vwCl (wB q cq T R S X M P n h k w f d v z) U.heap ∧ va_K D vwCl (tyB cq) U ∧ va_D (fun _ => True) (wB q cq T R S X M P n h k w f d v z) ∧ envE (va_A (wB q cq T R S X M P n h k w f d v z) sz) U)) (va_Qi (fun r9 (_ : Unit) => r9 = (fX1_distanceBySums T M x).1) (fun _ t9 => va_P D vwCl (wB q cq T R S X ((fX1_distanceBySums T M x).2) P n h k w f d v z) t9.heap ∧ va_D (va_A (wB q cq T R S X M P n h k w f d v z) sz) (wB q cq T R S X ((fX1_distanceBySums T M x).2) P n h k w f d v z)) (va_A (wB q cq T R S X M P n h k w f d v z) sz)) 0 0 (va_A (wB q cq T R S X M P n h k w f d v z) sz) := by
  refine Met.ofW (cc := cX1_distanceBySums) (maxL := 4) (ret := (some .int)) (by decide) rfl ?_
  intro p e s m args below meth c s₁ B hml hv
  obtain ⟨rfl, hsz, hP, hK, hD0, hE⟩ := hv
  have hx := B.exec
  have hb := B.bytes
  have hr := B.returns
  have hts := atoms_spec (ws := wsX1_distanceBySums) B.pre
  have hown : s.vm.findClass RX1 = some m.cls := findClass_of_methodNamed B.named
  have hlocks := B.notSynchronized
  subst hsz
  have hD := hD0.self (sz := s.heap.size)
  generalize hAe : va_A (wB q cq T R S X M P n h k w f d v z) s.heap.size = A at hD hE ⊢
  have hA : ∀ q : Nat, s.heap.size ≤ q → A q := fun q h => by rw [← hAe]; exact Or.inr h
  have hS : va_S A s.heap s.heap [] := va_S.rf
  have hP : va_P D vwCl (wB q cq T R S X M P n h k w f d v z) s.heap := hP
  have hl := lv_entry ([.ref (q 0), .int (nI x)]) (n := 4) (Nat.le_of_ble_eq_true rfl)
  rw [lg_entry_eq]
  generalize (lg_sl ([.ref (q 0), .int (nI x)]) ++ List.replicate (4 - (lg_sl ([.ref (q 0), .int (nI x)])).length) Slot.unset).toArray = ls at hl ⊢
  have hl : lv_has ls 4 [(0, .ref (q 0)), (1, .int (nI x))] := hl
  refine lv_iload_n hx hb dX1_distanceBySums_0 rfl (lv_at hl 1 rfl) ?_
  refine va_csv (va_Run.run (va_runS (As := [.int (nI x)]) (rest := []) ⟨hx, hb, hml, hown, hts⟩ (c_X1_checkFunction l x (by omega)) (va_cwS 1 hts gX1_distanceBySums_X1_checkFunction rfl rfl rfl (by decide +kernel) ⟨Nat.le_of_ble_eq_true rfl, Nat.le_of_ble_eq_true rfl⟩) ⟨fun _ _ _ _ z => z, fun _ _ _ => ⟨rfl, trivial⟩⟩ rfl rfl hl.1 rfl (lv_room (Nat.le_of_ble_eq_true rfl)) dX1_distanceBySums_1 ⟨(Nat.zero_le _), (Nat.zero_le _)⟩)) (fun _ => ?_)
  refine lv_iconst (v := 0) hx hb dX1_distanceBySums_4 (by decide) ?_
  refine lv_istore_n (lv' := [(2, .int 0), (0, .ref (q 0)), (1, .int (nI x))]) hx hb dX1_distanceBySums_5 rfl hl (by decide) rfl (fun ls hl => ?_)
  obtain ⟨F1, hF1⟩ : ∃ z9, z9 = (lp (sX1_distanceBySums_6 T x) 16 0 M) := ⟨_, rfl⟩
  refine vz_cut (fun H1 l1 g1 => ∃ (n1 i1 : Nat) (a1 : (Nat → Int32)) (ls : Array Slot), i1 + n1 = 16 ∧ lp (sX1_distanceBySums_6 T x) n1 i1 a1 = F1 ∧ lv_has ls 4 [(2, .int (nI i1)), (0, .ref (q 0)), (1, .int (nI x))] ∧ va_P D vwCl (wB q cq T R S X a1 P n h k w f d v z) H1 ∧ va_D A (wB q cq T R S X a1 P n h k w f d v z) ∧ va_S A s.heap H1 l1 ∧ g1 = F0 m 6 ls []) (fun hj => hj _ _ _ ⟨16, 0, M, ls, (by omega), hF1.symm, lv_sub hl [0, 1, 2] rfl, hP, hD, hS, rfl⟩) ?_
  rintro H locs g1 ⟨n1, i1, a1, ls, hi1, hf1, hl, hP, hD, hS, rfl⟩
  revert H locs i1 a1 ls
  induction n1 with
  | zero =>
    intro H locs i1 a1 ls hi1 hf1 hl hP hD hS
    obtain rfl : 16 = i1 := by omega
    have hf1 : F1 = a1 := hf1.symm
    subst hf1
    refine lv_iload_n hx hb dX1_distanceBySums_6 rfl (lv_at hl 0 rfl) ?_
    refine lv_bipush (v := 16) hx hb dX1_distanceBySums_7 (by decide) ?_
    refine lv_icmp_ge (tgt := 38) hx hb dX1_distanceBySums_9 (by decide) (fun c_1 => ?_) (fun c_1 => ?_)
    · refine lv_iconst (v := 0) hx hb dX1_distanceBySums_38 (by decide) ?_
      refine lv_istore_n (lv' := [(2, .int 0), (0, .ref (q 0)), (1, .int (nI x))]) hx hb dX1_distanceBySums_39 rfl hl (by decide) rfl (fun ls hl => ?_)
      obtain ⟨F2, hF2⟩ : ∃ z9, z9 = (lp sX1_distanceBySums_40 4 0 F1) := ⟨_, rfl⟩
      refine vz_cut (fun H1 l1 g1 => ∃ (n2 i2 : Nat) (a2 : (Nat → Int32)) (ls : Array Slot), i2 + n2 = 4 ∧ lp sX1_distanceBySums_40 n2 i2 a2 = F2 ∧ lv_has ls 4 [(2, .int (nI i2)), (0, .ref (q 0)), (1, .int (nI x))] ∧ va_P D vwCl (wB q cq T R S X a2 P n h k w f d v z) H1 ∧ va_D A (wB q cq T R S X a2 P n h k w f d v z) ∧ va_S A s.heap H1 l1 ∧ g1 = F0 m 40 ls []) (fun hj => hj _ _ _ ⟨4, 0, F1, ls, (by omega), hF2.symm, lv_sub hl [0, 1, 2] rfl, hP, hD, hS, rfl⟩) ?_
      rintro H locs g1 ⟨n2, i2, a2, ls, hi2, hf2, hl, hP, hD, hS, rfl⟩
      revert H locs i2 a2 ls
      induction n2 with
      | zero =>
        intro H locs i2 a2 ls hi2 hf2 hl hP hD hS
        obtain rfl : 4 = i2 := by omega
        have hf2 : F2 = a2 := hf2.symm
        subst hf2
        refine lv_iload_n hx hb dX1_distanceBySums_40 rfl (lv_at hl 0 rfl) ?_
        refine lv_iconst (v := 4) hx hb dX1_distanceBySums_41 (by decide) ?_
        refine lv_icmp_ge (tgt := 56) hx hb dX1_distanceBySums_42 (by decide) (fun c_2 => ?_) (fun c_2 => ?_)
        · refine lv_iconst (v := 0) hx hb dX1_distanceBySums_56 (by decide) ?_
          refine lv_istore_n (lv' := [(2, .int 0), (0, .ref (q 0)), (1, .int (nI x))]) hx hb dX1_distanceBySums_57 rfl hl (by decide) rfl (fun ls hl => ?_)
          refine lv_iconst (v := 0) hx hb dX1_distanceBySums_58 (by decide) ?_
          refine lv_istore_n (lv' := [(3, .int 0), (2, .int 0), (0, .ref (q 0)), (1, .int (nI x))]) hx hb dX1_distanceBySums_59 rfl hl (by decide) rfl (fun ls hl => ?_)
          obtain ⟨F3, hF3⟩ : ∃ z9, z9 = (lp (sX1_distanceBySums_60 F2) 16 0 0) := ⟨_, rfl⟩
          refine vz_cut (fun H1 l1 g1 => ∃ (n3 i3 : Nat) (a3 : Int32) (ls : Array Slot), i3 + n3 = 16 ∧ lp (sX1_distanceBySums_60 F2) n3 i3 a3 = F3 ∧ lv_has ls 4 [(3, .int (nI i3)), (2, .int a3), (0, .ref (q 0)), (1, .int (nI x))] ∧ (H = H1 ∧ locs = l1) ∧ g1 = F0 m 60 ls []) (fun hj => hj _ _ _ ⟨16, 0, 0, ls, (by omega), hF3.symm, lv_sub hl [0, 1, 2, 3] rfl, ⟨rfl, rfl⟩, rfl⟩) ?_
          rintro H1 l1 g1 ⟨n3, i3, a3, ls, hi3, hf3, hl, ⟨rfl, rfl⟩, rfl⟩
          revert i3 a3 ls
          induction n3 with
          | zero =>
            intro i3 a3 ls hi3 hf3 hl
            obtain rfl : 16 = i3 := by omega
            have hf3 : F3 = a3 := hf3.symm
            subst hf3
            refine lv_iload_n hx hb dX1_distanceBySums_60 rfl (lv_at hl 0 rfl) ?_
            refine lv_bipush (v := 16) hx hb dX1_distanceBySums_61 (by decide) ?_
            refine lv_icmp_ge (tgt := 86) hx hb dX1_distanceBySums_63 (by decide) (fun c_3 => ?_) (fun c_3 => ?_)
            · refine lv_bipush (v := 16) hx hb dX1_distanceBySums_86 (by decide) ?_
              refine lv_iload_n hx hb dX1_distanceBySums_88 rfl (lv_at hl 1 rfl) ?_
              refine lv_isub hx hb dX1_distanceBySums_89 ?_
              refine lv_iconst (v := 2) hx hb dX1_distanceBySums_90 (by decide) ?_
              refine lv_idiv hx hb dX1_distanceBySums_91 (by decide) ?_
              have hq : (fX1_distanceBySums T M x) = (((16 - F3) / 2), F2) := Eq.symm (by first | ((rw [fX1_distanceBySums]); (try rw [← hF1]); (try rw [← hF2]); (try rw [← hF3]); first | done | rfl) | rfl)
              exact W.iret (v := ((16 - F3) / 2)) hx hb hr (fun t9 ht hW => ⟨⟨((16 - F3) / 2), (), rfl, by rw [hq], by rw [hq]; exact ⟨by rw [ht]; exact hP, hD⟩⟩, hS.F ht⟩) hS.2.2 dX1_distanceBySums_92
            · exact absurd (nI_le (a := 16) (b := 16) (by omega) (by omega)) c_3
          | succ n3 ih3 =>
            intro i3 a3 ls hi3 hf3 hl
            refine lv_iload_n hx hb dX1_distanceBySums_60 rfl (lv_at hl 0 rfl) ?_
            refine lv_bipush (v := 16) hx hb dX1_distanceBySums_61 (by decide) ?_
            refine lv_icmp_ge (tgt := 86) hx hb dX1_distanceBySums_63 (by decide) (fun c_4 => ?_) (fun c_4 => ?_)
            · exact absurd c_4 (nI_ge (a := i3) (b := 16) (by omega) (by omega))
            · refine lv_iload_n hx hb dX1_distanceBySums_66 rfl (lv_at hl 1 rfl) ?_
              refine lv_aload_n hx hb dX1_distanceBySums_67 rfl (lv_at hl 2 rfl) ?_
              refine va_get (D := D) (ci := 1) (v := .ref (q 6)) (C := RX1) (T := TX1) (N := 11) hx hb hts in_X1_distanceBySums_X1 hown hK hP 0 rfl rfl 8 (by decide) (hts (.fieldLink RX1 41 "ZhegalkinBench" "sums" "[I") (List.mem_of_getElem? (i := 1) rfl)) (fun _ h9 => h9) rfl dX1_distanceBySums_68 ?_
              refine lv_iload_n hx hb dX1_distanceBySums_71 rfl (lv_at hl 0 rfl) ?_
              refine vz_iald hx hb hK hP 6 4 rfl rfl i3 (by omega) (by decide) dX1_distanceBySums_72 ?_
              refine va_mabs hx hb (by rw [hml]; exact hl.1.symm) hown (hts (.methodLink RX1 147 Lib.Math.abs.name) (List.mem_of_getElem? (i := 3) rfl)) (hts (.static Lib.Math.abs.name) (List.mem_of_getElem? (i := 4) rfl)) (hts (.initialized "java/lang/Math") (List.mem_of_getElem? (i := 5) rfl)) (hts (.code Lib.Math.abs.name Lib.Math.abs.code 1 (some .int)) (List.mem_of_getElem? (i := 6) rfl)) (Nat.le_of_ble_eq_true rfl) (Nat.le_of_ble_eq_true rfl) (Nat.zero_le _) (Nat.zero_le _) dX1_distanceBySums_73 ?_
              refine va_mmax hx hb (by rw [hml]; exact hl.1.symm) hown (hts (.methodLink RX1 150 Lib.Math.max.name) (List.mem_of_getElem? (i := 7) rfl)) (hts (.static Lib.Math.max.name) (List.mem_of_getElem? (i := 8) rfl)) (hts (.initialized "java/lang/Math") (List.mem_of_getElem? (i := 5) rfl)) (hts (.code Lib.Math.max.name Lib.Math.max.code 2 (some .int)) (List.mem_of_getElem? (i := 9) rfl)) (Nat.le_of_ble_eq_true rfl) (Nat.le_of_ble_eq_true rfl) (Nat.zero_le _) (Nat.zero_le _) dX1_distanceBySums_76 ?_
              refine lv_istore_n (lv' := [(2, .int (if a3 < (if 0 ≤ (F2 i3) then (F2 i3) else 0 - (F2 i3)) then (if 0 ≤ (F2 i3) then (F2 i3) else 0 - (F2 i3)) else a3)), (3, .int (nI i3)), (0, .ref (q 0)), (1, .int (nI x))]) hx hb dX1_distanceBySums_79 rfl hl (by decide) rfl (fun ls hl => ?_)
              refine lv_iinc (v := (nI (i3 + 1))) (lv' := [(3, .int (nI (i3 + 1))), (2, .int (if a3 < (if 0 ≤ (F2 i3) then (F2 i3) else 0 - (F2 i3)) then (if 0 ≤ (F2 i3) then (F2 i3) else 0 - (F2 i3)) else a3)), (0, .ref (q 0)), (1, .int (nI x))]) hx hb dX1_distanceBySums_80 hl (k := 1) rfl (by first | exact nI_add _ _ | rfl) (by decide) rfl (fun ls hl => ?_)
              refine lv_goto (tgt := 60) hx hb dX1_distanceBySums_83 (by decide) ?_
              exact ih3 (i3 + 1) (if a3 < (if 0 ≤ (F2 i3) then (F2 i3) else 0 - (F2 i3)) then (if 0 ≤ (F2 i3) then (F2 i3) else 0 - (F2 i3)) else a3) ls (by omega) ((congrArg (lp (sX1_distanceBySums_60 F2) n3 (i3 + 1)) (show (if a3 < (if 0 ≤ (F2 i3) then (F2 i3) else 0 - (F2 i3)) then (if 0 ≤ (F2 i3) then (F2 i3) else 0 - (F2 i3)) else a3) = (sX1_distanceBySums_60 F2) i3 a3 from by first | ((rw [sX1_distanceBySums_60]); first | done | rfl) | rfl)).trans hf3) (lv_sub hl [0, 1, 2, 3] rfl)
        · exact absurd (nI_le (a := 4) (b := 4) (by omega) (by omega)) c_2
      | succ n2 ih2 =>
        intro H locs i2 a2 ls hi2 hf2 hl hP hD hS
        refine lv_iload_n hx hb dX1_distanceBySums_40 rfl (lv_at hl 0 rfl) ?_
        refine lv_iconst (v := 4) hx hb dX1_distanceBySums_41 (by decide) ?_
        refine lv_icmp_ge (tgt := 56) hx hb dX1_distanceBySums_42 (by decide) (fun c_5 => ?_) (fun c_5 => ?_)
        · exact absurd c_5 (nI_ge (a := i2) (b := 4) (by omega) (by omega))
        · refine lv_aload_n hx hb dX1_distanceBySums_45 rfl (lv_at hl 1 rfl) ?_
          refine lv_iload_n hx hb dX1_distanceBySums_46 rfl (lv_at hl 0 rfl) ?_
          have hPc := hP.sub (ws' := (wB q cq T R S X a2 P n h k w f d v z)) [0, 1, 2, 3, 4, 5, 6, 7] rfl
          have hKc := hK.sub (tys' := (tyB cq)) [0, 1, 2, 3, 4, 5] rfl
          have hDc := hD.sub (ws' := (wB q cq T R S X a2 P n h k w f d v z)) [0, 1, 2, 3, 4, 5, 6, 7] (by decide) rfl
          have hFc := va_free (wc := (wB q cq T R S X a2 P n h k w f d v z)) hD hS hA [0, 1, 2, 3, 4, 5, 6, 7] rfl
          refine va_callv (va_runV (As := [.int (nI i2)]) (rest := []) ⟨hx, hb, hml, hown, hts⟩ (c_X1_sumPairs l D q cq H.size T R S X a2 P n h k w f d v z i2 (2 ^ i2) (two_pow_i (by omega)).1 (two_pow_i (by omega)).2) (cwV 1 hts gX1_distanceBySums_X1_sumPairs rfl rfl rfl (by decide +kernel) ⟨Nat.le_of_ble_eq_true rfl, Nat.le_of_ble_eq_true rfl⟩) ⟨fun a U g mk z => ⟨z.1, z.2.1, z.2.2.1, va_K.moved (u := U) (U := U.calling g mk a) (Vm.Alike.refl U.vm) z.2.2.2.1, z.2.2.2.2.1, z.2.2.2.2.2.blind g mk a⟩, va_recv hKc hPc (ci := 1) (q0 := 0) rfl rfl, fun U hU hW => ⟨rfl, by rw [hU], by rw [hU]; exact hPc, va_K.moved hW.alike hKc, hDc.weaken (fun _ _ _ _ => trivial), hE.at hS hU hW hFc⟩⟩ rfl rfl hl.1 rfl (lv_room (Nat.le_of_ble_eq_true rfl)) dX1_distanceBySums_47 ⟨(Nat.zero_le _), (Nat.zero_le _)⟩) hS (fun q _ h => hFc q h) hFc (fun u9 t8 H1 locs ht hvm hw hB hz1 hk1 hS => ?_)
          obtain ⟨hP1, hD1⟩ := hB
          rw [ht] at hP1
          obtain ⟨hP, hD⟩ := va_join (wr := []) (w1 := (wB q cq T R S X (fX1_sumPairs a2 (2 ^ i2)) P n h k w f d v z)) hP hD [0, 1, 2, 3, 4, 5, 6, 7] [] rfl rfl (by decide) (by decide) hk1 hFc hP1 hD1
          have hP := hP.sub (ws' := (wB q cq T R S X (fX1_sumPairs a2 (2 ^ i2)) P n h k w f d v z)) [0, 1, 2, 3, 4, 5, 6, 7] rfl
          have hD := hD.sub (ws' := (wB q cq T R S X (fX1_sumPairs a2 (2 ^ i2)) P n h k w f d v z)) [0, 1, 2, 3, 4, 5, 6, 7] (by decide) rfl
          generalize H1 = H at hP hS ⊢
          refine lv_iinc (v := (nI (i2 + 1))) (lv' := [(2, .int (nI (i2 + 1))), (0, .ref (q 0)), (1, .int (nI x))]) hx hb dX1_distanceBySums_50 hl (k := 0) rfl (by first | exact nI_add _ _ | rfl) (by decide) rfl (fun ls hl => ?_)
          refine lv_goto (tgt := 40) hx hb dX1_distanceBySums_53 (by decide) ?_
          exact ih2 H locs (i2 + 1) (fX1_sumPairs a2 (2 ^ i2)) ls (by omega) ((congrArg (lp sX1_distanceBySums_40 n2 (i2 + 1)) (show (fX1_sumPairs a2 (2 ^ i2)) = sX1_distanceBySums_40 i2 a2 from by first | ((rw [sX1_distanceBySums_40]); first | done | rfl) | rfl)).trans hf2) (lv_sub hl [0, 1, 2] rfl) hP hD hS
    · exact absurd (nI_le (a := 16) (b := 16) (by omega) (by omega)) c_1
  | succ n1 ih1 =>
    intro H locs i1 a1 ls hi1 hf1 hl hP hD hS
    refine lv_iload_n hx hb dX1_distanceBySums_6 rfl (lv_at hl 0 rfl) ?_
    refine lv_bipush (v := 16) hx hb dX1_distanceBySums_7 (by decide) ?_
    refine lv_icmp_ge (tgt := 38) hx hb dX1_distanceBySums_9 (by decide) (fun c_6 => ?_) (fun c_6 => ?_)
    · exact absurd c_6 (nI_ge (a := i1) (b := 16) (by omega) (by omega))
    · refine lv_aload_n hx hb dX1_distanceBySums_12 rfl (lv_at hl 1 rfl) ?_
      refine va_get (D := D) (ci := 1) (v := .ref (q 6)) (C := RX1) (T := TX1) (N := 11) hx hb hts in_X1_distanceBySums_X1 hown hK hP 0 rfl rfl 8 (by decide) (hts (.fieldLink RX1 41 "ZhegalkinBench" "sums" "[I") (List.mem_of_getElem? (i := 1) rfl)) (fun _ h9 => h9) rfl dX1_distanceBySums_13 ?_
      refine lv_iload_n hx hb dX1_distanceBySums_16 rfl (lv_at hl 0 rfl) ?_
      refine lv_iconst (v := 1) hx hb dX1_distanceBySums_17 (by decide) ?_
      refine lv_iconst (v := 2) hx hb dX1_distanceBySums_18 (by decide) ?_
      refine lv_aload_n hx hb dX1_distanceBySums_19 rfl (lv_at hl 1 rfl) ?_
      refine va_get (D := D) (ci := 1) (v := .ref (q 1)) (C := RX1) (T := TX1) (N := 11) hx hb hts in_X1_distanceBySums_X1 hown hK hP 0 rfl rfl 0 (by decide) (hts (.fieldLink RX1 9 "ZhegalkinBench" "tables" "[I") (List.mem_of_getElem? (i := 2) rfl)) (fun _ h9 => h9) rfl dX1_distanceBySums_20 ?_
      refine lv_iload_n hx hb dX1_distanceBySums_23 rfl (lv_at hl 2 rfl) ?_
      refine vz_iald hx hb hK hP 1 0 rfl rfl x (by omega) (by decide) dX1_distanceBySums_24 ?_
      refine lv_iload_n hx hb dX1_distanceBySums_25 rfl (lv_at hl 0 rfl) ?_
      refine vp_callSi (va_Run.run (va_runS (As := [.int (T x), .int (nI i1)]) (rest := [.int 2, .int 1, .int (nI i1), .ref (q 6)]) ⟨hx, hb, hml, hown, hts⟩ (c_X1_bit l (T x) (nI i1)) (va_cwS 2 hts gX1_distanceBySums_X1_bit rfl rfl rfl (by decide +kernel) ⟨Nat.le_of_ble_eq_true rfl, Nat.le_of_ble_eq_true rfl⟩) ⟨fun _ _ _ _ z => z, fun _ _ _ => ⟨rfl, trivial⟩⟩ rfl rfl hl.1 rfl (lv_room (Nat.le_of_ble_eq_true rfl)) dX1_distanceBySums_26 ⟨(Nat.zero_le _), (Nat.zero_le _)⟩)) (fun r9 hr => ?_)
      subst r9
      refine lv_imul hx hb dX1_distanceBySums_29 ?_
      refine lv_isub hx hb dX1_distanceBySums_30 ?_
      refine vz_iast hx hb hK hP hD hS 6 4 rfl rfl i1 (by omega) (by decide) dX1_distanceBySums_31 (fun H locs hP hD hS => ?_)
      have hP : va_P D vwCl (wB q cq T R S X (upd a1 i1 (1 - (2 * (fX1_bit (T x) (nI i1))))) P n h k w f d v z) H := hP
      have hD : va_D A (wB q cq T R S X (upd a1 i1 (1 - (2 * (fX1_bit (T x) (nI i1))))) P n h k w f d v z) := hD
      refine lv_iinc (v := (nI (i1 + 1))) (lv' := [(2, .int (nI (i1 + 1))), (0, .ref (q 0)), (1, .int (nI x))]) hx hb dX1_distanceBySums_32 hl (k := 0) rfl (by first | exact nI_add _ _ | rfl) (by decide) rfl (fun ls hl => ?_)
      refine lv_goto (tgt := 6) hx hb dX1_distanceBySums_35 (by decide) ?_
      exact ih1 H locs (i1 + 1) (upd a1 i1 (1 - (2 * (fX1_bit (T x) (nI i1))))) ls (by omega) ((congrArg (lp (sX1_distanceBySums_6 T x) n1 (i1 + 1)) (show (upd a1 i1 (1 - (2 * (fX1_bit (T x) (nI i1))))) = (sX1_distanceBySums_6 T x) i1 a1 from by first | ((rw [sX1_distanceBySums_6]); first | done | rfl) | rfl)).trans hf1) (lv_sub hl [0, 1, 2] rfl) hP hD hS
theorem in_X1_isSelfDual_X1 : ∀ w ∈ wsX10, w ∈ wsX1_isSelfDual := by decide +kernel
def fX1_isSelfDual (T : Nat → Int32) (x : Nat) : Int32 := (fX1_hasOppositeEnds (T x))
set_option maxHeartbeats 4000000 in
set_option maxRecDepth 100000 in
theorem c_X1_isSelfDual (l : Launch) (D : va_G) (q : Nat → Nat) (cq : Nat → ClassId) (T : Nat → Int32) (R : Nat → Int32) (S : Nat → Int32) (X : Nat → Int32) (M : Nat → Int32) (P : Nat → Int32) (n : Int32) (h : Int32) (k : Int32) (w : Int32) (f : Int32) (d : Int32) (v : Int32) (z : Int32) (x : Nat) (hx6 : x < 6) : Met l yX1_isSelfDual wsX1_isSelfDual ({ frames := 2, cells := 0, slots := 0, locals := 42 }) (va_Pc [.ref (q 0), .int (nI x)] (fun U => va_P D vwCl (wB q cq T R S X M P n h k w f d v z) U.heap ∧ va_K D vwCl (tyB cq) U ∧ env0 U)) (vp_Si (fun r9 => r9 = (fX1_isSelfDual T x))) 0 0 (fun _ => False) := by
  refine Met.ofW (cc := cX1_isSelfDual) (maxL := 2) (ret := (some .boolean)) (by decide) rfl ?_
  intro p e s m args below meth c s₁ B hml hv
  obtain ⟨rfl, hP, hK, hE⟩ := hv
  have hx := B.exec
  have hb := B.bytes
  have hr := B.returns
  have hts := atoms_spec (ws := wsX1_isSelfDual) B.pre
  have hown : s.vm.findClass RX1 = some m.cls := findClass_of_methodNamed B.named
  have hlocks := B.notSynchronized
  have hS : va_S (fun _ => False) s.heap s.heap [] := va_S.rf
  have hP : va_P D vwCl (wB q cq T R S X M P n h k w f d v z) s.heap := hP
  have hl := lv_entry ([.ref (q 0), .int (nI x)]) (n := 2) (Nat.le_of_ble_eq_true rfl)
  rw [lg_entry_eq]
  generalize (lg_sl ([.ref (q 0), .int (nI x)]) ++ List.replicate (2 - (lg_sl ([.ref (q 0), .int (nI x)])).length) Slot.unset).toArray = ls at hl ⊢
  have hl : lv_has ls 2 [(0, .ref (q 0)), (1, .int (nI x))] := hl
  refine lv_iload_n hx hb dX1_isSelfDual_0 rfl (lv_at hl 1 rfl) ?_
  refine va_csv (va_Run.run (va_runS (As := [.int (nI x)]) (rest := []) ⟨hx, hb, hml, hown, hts⟩ (c_X1_checkFunction l x (by omega)) (va_cwS 1 hts gX1_isSelfDual_X1_checkFunction rfl rfl rfl (by decide +kernel) ⟨Nat.le_of_ble_eq_true rfl, Nat.le_of_ble_eq_true rfl⟩) ⟨fun _ _ _ _ z => z, fun _ _ _ => ⟨rfl, trivial⟩⟩ rfl rfl hl.1 rfl (lv_room (Nat.le_of_ble_eq_true rfl)) dX1_isSelfDual_1 ⟨(Nat.zero_le _), (Nat.zero_le _)⟩)) (fun _ => ?_)
  refine lv_aload_n hx hb dX1_isSelfDual_4 rfl (lv_at hl 0 rfl) ?_
  refine va_get (D := D) (ci := 1) (v := .ref (q 1)) (C := RX1) (T := TX1) (N := 11) hx hb hts in_X1_isSelfDual_X1 hown hK hP 0 rfl rfl 0 (by decide) (hts (.fieldLink RX1 9 "ZhegalkinBench" "tables" "[I") (List.mem_of_getElem? (i := 1) rfl)) (fun _ h9 => h9) rfl dX1_isSelfDual_5 ?_
  refine lv_iload_n hx hb dX1_isSelfDual_8 rfl (lv_at hl 1 rfl) ?_
  refine vz_iald hx hb hK hP 1 0 rfl rfl x (by omega) (by decide) dX1_isSelfDual_9 ?_
  refine vp_callSi (va_Run.run (va_runS (As := [.int (T x)]) (rest := []) ⟨hx, hb, hml, hown, hts⟩ (c_X1_hasOppositeEnds l (T x)) (va_cwS 1 hts gX1_isSelfDual_X1_hasOppositeEnds rfl rfl rfl (by decide +kernel) ⟨Nat.le_of_ble_eq_true rfl, Nat.le_of_ble_eq_true rfl⟩) ⟨fun _ _ _ _ z => z, fun _ _ _ => ⟨rfl, trivial⟩⟩ rfl rfl hl.1 rfl (lv_room (Nat.le_of_ble_eq_true rfl)) dX1_isSelfDual_10 ⟨(Nat.zero_le _), (Nat.zero_le _)⟩)) (fun r9 hr => ?_)
  subst r9
  exact W.zret (v := (fX1_hasOppositeEnds (T x))) hx hb hr (nar_b (bX1_hasOppositeEnds _ _ _ _)) (fun t9 ht hW => ⟨(fX1_hasOppositeEnds (T x)), rfl, (by first | ((rw [fX1_isSelfDual]); first | done | rfl) | rfl), ht⟩) (fun q h => nomatch h) dX1_isSelfDual_13
theorem in_X1_isMonotone_X1 : ∀ w ∈ wsX10, w ∈ wsX1_isMonotone := by decide +kernel
def fX1_isMonotone (T : Nat → Int32) (x : Nat) : Int32 := (fX1_neverFalls (T x))
set_option maxHeartbeats 4000000 in
set_option maxRecDepth 100000 in
theorem c_X1_isMonotone (l : Launch) (D : va_G) (q : Nat → Nat) (cq : Nat → ClassId) (T : Nat → Int32) (R : Nat → Int32) (S : Nat → Int32) (X : Nat → Int32) (M : Nat → Int32) (P : Nat → Int32) (n : Int32) (h : Int32) (k : Int32) (w : Int32) (f : Int32) (d : Int32) (v : Int32) (z : Int32) (x : Nat) (hx6 : x < 6) : Met l yX1_isMonotone wsX1_isMonotone ({ frames := 2, cells := 0, slots := 0, locals := 45 }) (va_Pc [.ref (q 0), .int (nI x)] (fun U => va_P D vwCl (wB q cq T R S X M P n h k w f d v z) U.heap ∧ va_K D vwCl (tyB cq) U ∧ env0 U)) (vp_Si (fun r9 => r9 = (fX1_isMonotone T x))) 0 0 (fun _ => False) := by
  refine Met.ofW (cc := cX1_isMonotone) (maxL := 2) (ret := (some .boolean)) (by decide) rfl ?_
  intro p e s m args below meth c s₁ B hml hv
  obtain ⟨rfl, hP, hK, hE⟩ := hv
  have hx := B.exec
  have hb := B.bytes
  have hr := B.returns
  have hts := atoms_spec (ws := wsX1_isMonotone) B.pre
  have hown : s.vm.findClass RX1 = some m.cls := findClass_of_methodNamed B.named
  have hlocks := B.notSynchronized
  have hS : va_S (fun _ => False) s.heap s.heap [] := va_S.rf
  have hP : va_P D vwCl (wB q cq T R S X M P n h k w f d v z) s.heap := hP
  have hl := lv_entry ([.ref (q 0), .int (nI x)]) (n := 2) (Nat.le_of_ble_eq_true rfl)
  rw [lg_entry_eq]
  generalize (lg_sl ([.ref (q 0), .int (nI x)]) ++ List.replicate (2 - (lg_sl ([.ref (q 0), .int (nI x)])).length) Slot.unset).toArray = ls at hl ⊢
  have hl : lv_has ls 2 [(0, .ref (q 0)), (1, .int (nI x))] := hl
  refine lv_iload_n hx hb dX1_isMonotone_0 rfl (lv_at hl 1 rfl) ?_
  refine va_csv (va_Run.run (va_runS (As := [.int (nI x)]) (rest := []) ⟨hx, hb, hml, hown, hts⟩ (c_X1_checkFunction l x (by omega)) (va_cwS 1 hts gX1_isMonotone_X1_checkFunction rfl rfl rfl (by decide +kernel) ⟨Nat.le_of_ble_eq_true rfl, Nat.le_of_ble_eq_true rfl⟩) ⟨fun _ _ _ _ z => z, fun _ _ _ => ⟨rfl, trivial⟩⟩ rfl rfl hl.1 rfl (lv_room (Nat.le_of_ble_eq_true rfl)) dX1_isMonotone_1 ⟨(Nat.zero_le _), (Nat.zero_le _)⟩)) (fun _ => ?_)
  refine lv_aload_n hx hb dX1_isMonotone_4 rfl (lv_at hl 0 rfl) ?_
  refine va_get (D := D) (ci := 1) (v := .ref (q 1)) (C := RX1) (T := TX1) (N := 11) hx hb hts in_X1_isMonotone_X1 hown hK hP 0 rfl rfl 0 (by decide) (hts (.fieldLink RX1 9 "ZhegalkinBench" "tables" "[I") (List.mem_of_getElem? (i := 1) rfl)) (fun _ h9 => h9) rfl dX1_isMonotone_5 ?_
  refine lv_iload_n hx hb dX1_isMonotone_8 rfl (lv_at hl 1 rfl) ?_
  refine vz_iald hx hb hK hP 1 0 rfl rfl x (by omega) (by decide) dX1_isMonotone_9 ?_
  refine vp_callSi (va_Run.run (va_runS (As := [.int (T x)]) (rest := []) ⟨hx, hb, hml, hown, hts⟩ (c_X1_neverFalls l (T x)) (va_cwS 1 hts gX1_isMonotone_X1_neverFalls rfl rfl rfl (by decide +kernel) ⟨Nat.le_of_ble_eq_true rfl, Nat.le_of_ble_eq_true rfl⟩) ⟨fun a U g mk z => ⟨z.1, z.2.blind g mk a⟩, fun U hU hW => ⟨rfl, hE.at0 hS hU hW⟩⟩ rfl rfl hl.1 rfl (lv_room (Nat.le_of_ble_eq_true rfl)) dX1_isMonotone_10 ⟨(Nat.zero_le _), (Nat.zero_le _)⟩)) (fun r9 hr => ?_)
  subst r9
  exact W.zret (v := (fX1_neverFalls (T x))) hx hb hr (nar_b (bX1_neverFalls _ _ _ _)) (fun t9 ht hW => ⟨(fX1_neverFalls (T x)), rfl, (by first | ((rw [fX1_isMonotone]); first | done | rfl) | rfl), ht⟩) (fun q h => nomatch h) dX1_isMonotone_13
def fX1_areEnough (T : Nat → Int32) (x : Nat) : Int32 := if (fX1_sharedClasses T (nI x)) = 0 then 1 else 0
set_option maxHeartbeats 4000000 in
set_option maxRecDepth 100000 in
theorem c_X1_areEnough (l : Launch) (D : va_G) (q : Nat → Nat) (cq : Nat → ClassId) (T : Nat → Int32) (R : Nat → Int32) (S : Nat → Int32) (X : Nat → Int32) (M : Nat → Int32) (P : Nat → Int32) (n : Int32) (h : Int32) (k : Int32) (w : Int32) (f : Int32) (d : Int32) (v : Int32) (z : Int32) (x : Nat) (h19 : 1 ≤ x) (hx64 : x < 64) : Met l yX1_areEnough wsX1_areEnough ({ frames := 4, cells := 0, slots := 0, locals := 90 }) (va_Pc [.ref (q 0), .int (nI x)] (fun U => va_P D vwCl (wB q cq T R S X M P n h k w f d v z) U.heap ∧ va_K D vwCl (tyB cq) U ∧ env0 U)) (vp_Si (fun r9 => r9 = (fX1_areEnough T x))) 0 0 (fun _ => False) := by
  refine Met.ofW (cc := cX1_areEnough) (maxL := 2) (ret := (some .boolean)) (by decide) rfl ?_
  intro p e s m args below meth c s₁ B hml hv
  obtain ⟨rfl, hP, hK, hE⟩ := hv
  have hx := B.exec
  have hb := B.bytes
  have hr := B.returns
  have hts := atoms_spec (ws := wsX1_areEnough) B.pre
  have hown : s.vm.findClass RX1 = some m.cls := findClass_of_methodNamed B.named
  have hlocks := B.notSynchronized
  have hS : va_S (fun _ => False) s.heap s.heap [] := va_S.rf
  have hP : va_P D vwCl (wB q cq T R S X M P n h k w f d v z) s.heap := hP
  have hl := lv_entry ([.ref (q 0), .int (nI x)]) (n := 2) (Nat.le_of_ble_eq_true rfl)
  rw [lg_entry_eq]
  generalize (lg_sl ([.ref (q 0), .int (nI x)]) ++ List.replicate (2 - (lg_sl ([.ref (q 0), .int (nI x)])).length) Slot.unset).toArray = ls at hl ⊢
  have hl : lv_has ls 2 [(0, .ref (q 0)), (1, .int (nI x))] := hl
  refine lv_iload_n hx hb dX1_areEnough_0 rfl (lv_at hl 1 rfl) ?_
  refine lv_iconst (v := 1) hx hb dX1_areEnough_1 (by decide) ?_
  refine lv_icmp_lt (tgt := 11) hx hb dX1_areEnough_2 (by decide) (fun c_1 => ?_) (fun c_1 => ?_)
  · exact absurd c_1 (nI_nlt (a := x) (b := 1) (by omega) (by omega))
  · refine lv_iload_n hx hb dX1_areEnough_5 rfl (lv_at hl 1 rfl) ?_
    refine lv_bipush (v := 64) hx hb dX1_areEnough_6 (by decide) ?_
    refine lv_icmp_lt (tgt := 21) hx hb dX1_areEnough_8 (by decide) (fun c_2 => ?_) (fun c_2 => ?_)
    · refine lv_aload_n hx hb dX1_areEnough_21 rfl (lv_at hl 0 rfl) ?_
      refine lv_iload_n hx hb dX1_areEnough_22 rfl (lv_at hl 1 rfl) ?_
      have hPc := hP.sub (ws' := (wB q cq T R S X M P n h k w f d v z)) [0, 1, 2, 3, 4, 5, 6, 7] rfl
      have hKc := hK.sub (tys' := (tyB cq)) [0, 1, 2, 3, 4, 5] rfl
      refine vp_callSi (va_Run.run (va_runV (As := [.int (nI x)]) (rest := []) ⟨hx, hb, hml, hown, hts⟩ (c_X1_sharedClasses l D q cq T R S X M P n h k w f d v z (nI x)) (cwV 1 hts gX1_areEnough_X1_sharedClasses rfl rfl rfl (by decide +kernel) ⟨Nat.le_of_ble_eq_true rfl, Nat.le_of_ble_eq_true rfl⟩) ⟨fun a U g mk z => ⟨z.1, z.2.1, va_K.moved (u := U) (U := U.calling g mk a) (Vm.Alike.refl U.vm) z.2.2.1, z.2.2.2.blind g mk a⟩, va_recv hKc hPc (ci := 1) (q0 := 0) rfl rfl, fun U hU hW => ⟨rfl, by rw [hU]; exact hPc, va_K.moved hW.alike hKc, hE.at0 hS hU hW⟩⟩ rfl rfl hl.1 rfl (lv_room (Nat.le_of_ble_eq_true rfl)) dX1_areEnough_23 ⟨(Nat.zero_le _), (Nat.zero_le _)⟩)) (fun r9 hr => ?_)
      subst r9
      refine lv_if_ne (tgt := 33) hx hb dX1_areEnough_26 (by decide) (fun c_3 => ?_) (fun c_3 => ?_)
      · refine lv_iconst (v := 0) hx hb dX1_areEnough_33 (by decide) ?_
        exact W.zret (v := 0) hx hb hr rfl (fun t9 ht hW => ⟨0, rfl, (by first | ((rw [fX1_areEnough, if_neg c_3]); first | done | rfl) | rfl), ht⟩) (fun q h => nomatch h) dX1_areEnough_34
      · refine lv_iconst (v := 1) hx hb dX1_areEnough_29 (by decide) ?_
        refine lv_goto (tgt := 34) hx hb dX1_areEnough_30 (by decide) ?_
        exact W.zret (v := 1) hx hb hr rfl (fun t9 ht hW => ⟨1, rfl, (by first | ((rw [fX1_areEnough, if_pos c_3]); first | done | rfl) | rfl), ht⟩) (fun q h => nomatch h) dX1_areEnough_34
    · exact absurd (nI_lt (a := x) (b := 64) (by omega) (by omega)) c_2
def sX1_fewestEnough_4 (T : Nat → Int32) (i1 : Nat) (a1 : Int32) : Int32 := if a1 = (-1) then (if (fX1_sharedClasses T (nI i1)) = 0 then (fJ6_bitCount_0f7a4 (nI i1)) else a1) else (if a1 ≤ (fJ6_bitCount_0f7a4 (nI i1)) then a1 else (if (fX1_sharedClasses T (nI i1)) = 0 then (fJ6_bitCount_0f7a4 (nI i1)) else a1))
def fX1_fewestEnough (T : Nat → Int32) : Int32 := (lp (sX1_fewestEnough_4 T) 63 1 (-1))
set_option maxHeartbeats 4000000 in
set_option maxRecDepth 100000 in
theorem c_X1_fewestEnough (l : Launch) (D : va_G) (q : Nat → Nat) (cq : Nat → ClassId) (T : Nat → Int32) (R : Nat → Int32) (S : Nat → Int32) (X : Nat → Int32) (M : Nat → Int32) (P : Nat → Int32) (n : Int32) (h : Int32) (k : Int32) (w : Int32) (f : Int32) (d : Int32) (v : Int32) (z : Int32) : Met l yX1_fewestEnough wsX1_fewestEnough ({ frames := 4, cells := 0, slots := 0, locals := 90 }) (va_Pc [.ref (q 0)] (fun U => va_P D vwCl (wB q cq T R S X M P n h k w f d v z) U.heap ∧ va_K D vwCl (tyB cq) U ∧ env0 U)) (vp_Si (fun r9 => r9 = (fX1_fewestEnough T))) 0 0 (fun _ => False) := by
  refine Met.ofW (cc := cX1_fewestEnough) (maxL := 5) (ret := (some .int)) (by decide) rfl ?_
  intro p e s m args below meth c s₁ B hml hv
  obtain ⟨rfl, hP, hK, hE⟩ := hv
  have hx := B.exec
  have hb := B.bytes
  have hr := B.returns
  have hts := atoms_spec (ws := wsX1_fewestEnough) B.pre
  have hown : s.vm.findClass RX1 = some m.cls := findClass_of_methodNamed B.named
  have hlocks := B.notSynchronized
  have hS : va_S (fun _ => False) s.heap s.heap [] := va_S.rf
  have hP : va_P D vwCl (wB q cq T R S X M P n h k w f d v z) s.heap := hP
  have hl := lv_entry ([.ref (q 0)]) (n := 5) (Nat.le_of_ble_eq_true rfl)
  rw [lg_entry_eq]
  generalize (lg_sl ([.ref (q 0)]) ++ List.replicate (5 - (lg_sl ([.ref (q 0)])).length) Slot.unset).toArray = ls at hl ⊢
  have hl : lv_has ls 5 [(0, .ref (q 0))] := hl
  refine lv_iconst (v := (-1)) hx hb dX1_fewestEnough_0 (by decide) ?_
  refine lv_istore_n (lv' := [(1, .int (-1)), (0, .ref (q 0))]) hx hb dX1_fewestEnough_1 rfl hl (by decide) rfl (fun ls hl => ?_)
  refine lv_iconst (v := 1) hx hb dX1_fewestEnough_2 (by decide) ?_
  refine lv_istore_n (lv' := [(2, .int 1), (1, .int (-1)), (0, .ref (q 0))]) hx hb dX1_fewestEnough_3 rfl hl (by decide) rfl (fun ls hl => ?_)
  obtain ⟨F1, hF1⟩ : ∃ z9, z9 = (lp (sX1_fewestEnough_4 T) 63 1 (-1)) := ⟨_, rfl⟩
  refine vz_cut (fun H1 l1 g1 => ∃ (n1 i1 : Nat) (a1 : Int32) (ls : Array Slot), i1 + n1 = 64 ∧ lp (sX1_fewestEnough_4 T) n1 i1 a1 = F1 ∧ lv_has ls 5 [(2, .int (nI i1)), (1, .int a1), (0, .ref (q 0))] ∧ (s.heap = H1 ∧ [] = l1) ∧ g1 = F0 m 4 ls []) (fun hj => hj _ _ _ ⟨64 - 1, 1, (-1), ls, (by omega), hF1.symm, lv_sub hl [0, 1, 2] rfl, ⟨rfl, rfl⟩, rfl⟩) ?_
  rintro H1 l1 g1 ⟨n1, i1, a1, ls, hi1, hf1, hl, ⟨rfl, rfl⟩, rfl⟩
  revert i1 a1 ls
  induction n1 with
  | zero =>
    intro i1 a1 ls hi1 hf1 hl
    obtain rfl : 64 = i1 := by omega
    have hf1 : F1 = a1 := hf1.symm
    subst hf1
    refine lv_iload_n hx hb dX1_fewestEnough_4 rfl (lv_at hl 0 rfl) ?_
    refine lv_bipush (v := 64) hx hb dX1_fewestEnough_5 (by decide) ?_
    refine lv_icmp_ge (tgt := 53) hx hb dX1_fewestEnough_7 (by decide) (fun c_1 => ?_) (fun c_1 => ?_)
    · refine lv_iload_n hx hb dX1_fewestEnough_53 rfl (lv_at hl 1 rfl) ?_
      exact W.iret (v := F1) hx hb hr (fun t9 ht hW => ⟨F1, rfl, (by first | ((rw [fX1_fewestEnough]); (try rw [← hF1]); first | done | rfl) | rfl), ht⟩) (fun q h => nomatch h) dX1_fewestEnough_54
    · exact absurd (nI_le (a := 64) (b := 64) (by omega) (by omega)) c_1
  | succ n1 ih1 =>
    intro i1 a1 ls hi1 hf1 hl
    refine lv_iload_n hx hb dX1_fewestEnough_4 rfl (lv_at hl 0 rfl) ?_
    refine lv_bipush (v := 64) hx hb dX1_fewestEnough_5 (by decide) ?_
    refine lv_icmp_ge (tgt := 53) hx hb dX1_fewestEnough_7 (by decide) (fun c_2 => ?_) (fun c_2 => ?_)
    · exact absurd c_2 (nI_ge (a := i1) (b := 64) (by omega) (by omega))
    · refine lv_iload_n hx hb dX1_fewestEnough_10 rfl (lv_at hl 0 rfl) ?_
      refine vp_callSi (va_Run.run (va_runS (As := [.int (nI i1)]) (rest := []) ⟨hx, hb, hml, hown, hts⟩ (c_J6_bitCount_0f7a4 l (nI i1)) (va_cwS 1 hts gX1_fewestEnough_J6_bitCount_0f7a4 rfl rfl rfl (by decide +kernel) ⟨Nat.le_of_ble_eq_true rfl, Nat.le_of_ble_eq_true rfl⟩) ⟨fun _ _ _ _ z => z, fun _ _ _ => ⟨rfl, trivial⟩⟩ rfl rfl hl.1 rfl (lv_room (Nat.le_of_ble_eq_true rfl)) dX1_fewestEnough_11 ⟨(Nat.zero_le _), (Nat.zero_le _)⟩)) (fun r9 hr => ?_)
      subst r9
      refine lv_istore_n (lv' := [(3, .int (fJ6_bitCount_0f7a4 (nI i1))), (2, .int (nI i1)), (1, .int a1), (0, .ref (q 0))]) hx hb dX1_fewestEnough_14 rfl hl (by decide) rfl (fun ls hl => ?_)
      refine lv_iload_n hx hb dX1_fewestEnough_15 rfl (lv_at hl 2 rfl) ?_
      refine lv_iconst (v := (-1)) hx hb dX1_fewestEnough_16 (by decide) ?_
      refine lv_icmp_eq (tgt := 25) hx hb dX1_fewestEnough_17 (by decide) (fun c_3 => ?_) (fun c_3 => ?_)
      · refine lv_iconst (v := 1) hx hb dX1_fewestEnough_25 (by decide) ?_
        refine lv_goto (tgt := 30) hx hb dX1_fewestEnough_26 (by decide) ?_
        refine lv_istore (lv' := [(4, .int 1), (3, .int (fJ6_bitCount_0f7a4 (nI i1))), (2, .int (nI i1)), (1, .int a1), (0, .ref (q 0))]) hx hb dX1_fewestEnough_30 hl (by decide) rfl (fun ls hl => ?_)
        refine lv_iload hx hb dX1_fewestEnough_32 (lv_at hl 0 rfl) ?_
        refine lv_if_eq (tgt := 47) hx hb dX1_fewestEnough_34 (by decide) (fun c_4 => ?_) (fun c_4 => ?_)
        · exact absurd c_4 (by decide)
        · refine lv_aload_n hx hb dX1_fewestEnough_37 rfl (lv_at hl 4 rfl) ?_
          refine lv_iload_n hx hb dX1_fewestEnough_38 rfl (lv_at hl 2 rfl) ?_
          have hPc := hP.sub (ws' := (wB q cq T R S X M P n h k w f d v z)) [0, 1, 2, 3, 4, 5, 6, 7] rfl
          have hKc := hK.sub (tys' := (tyB cq)) [0, 1, 2, 3, 4, 5] rfl
          refine vp_callSi (va_Run.run (va_runV (As := [.int (nI i1)]) (rest := []) ⟨hx, hb, hml, hown, hts⟩ (c_X1_sharedClasses l D q cq T R S X M P n h k w f d v z (nI i1)) (cwV 1 hts gX1_fewestEnough_X1_sharedClasses rfl rfl rfl (by decide +kernel) ⟨Nat.le_of_ble_eq_true rfl, Nat.le_of_ble_eq_true rfl⟩) ⟨fun a U g mk z => ⟨z.1, z.2.1, va_K.moved (u := U) (U := U.calling g mk a) (Vm.Alike.refl U.vm) z.2.2.1, z.2.2.2.blind g mk a⟩, va_recv hKc hPc (ci := 1) (q0 := 0) rfl rfl, fun U hU hW => ⟨rfl, by rw [hU]; exact hPc, va_K.moved hW.alike hKc, hE.at0 hS hU hW⟩⟩ rfl rfl hl.1 rfl (lv_room (Nat.le_of_ble_eq_true rfl)) dX1_fewestEnough_39 ⟨(Nat.zero_le _), (Nat.zero_le _)⟩)) (fun r9 hr => ?_)
          subst r9
          refine lv_if_ne (tgt := 47) hx hb dX1_fewestEnough_42 (by decide) (fun c_5 => ?_) (fun c_5 => ?_)
          · refine lv_iinc (v := (nI (i1 + 1))) (lv' := [(2, .int (nI (i1 + 1))), (4, .int 1), (3, .int (fJ6_bitCount_0f7a4 (nI i1))), (1, .int a1), (0, .ref (q 0))]) hx hb dX1_fewestEnough_47 hl (k := 2) rfl (by first | exact nI_add _ _ | rfl) (by decide) rfl (fun ls hl => ?_)
            refine lv_goto (tgt := 4) hx hb dX1_fewestEnough_50 (by decide) ?_
            exact ih1 (i1 + 1) a1 ls (by omega) ((congrArg (lp (sX1_fewestEnough_4 T) n1 (i1 + 1)) (show a1 = (sX1_fewestEnough_4 T) i1 a1 from by first | ((rw [sX1_fewestEnough_4, if_pos c_3, if_neg c_5]); first | done | rfl) | rfl)).trans hf1) (lv_sub hl [0, 3, 4] rfl)
          · refine lv_iload_n hx hb dX1_fewestEnough_45 rfl (lv_at hl 1 rfl) ?_
            refine lv_istore_n (lv' := [(1, .int (fJ6_bitCount_0f7a4 (nI i1))), (4, .int 1), (3, .int (fJ6_bitCount_0f7a4 (nI i1))), (2, .int (nI i1)), (0, .ref (q 0))]) hx hb dX1_fewestEnough_46 rfl hl (by decide) rfl (fun ls hl => ?_)
            refine lv_iinc (v := (nI (i1 + 1))) (lv' := [(2, .int (nI (i1 + 1))), (1, .int (fJ6_bitCount_0f7a4 (nI i1))), (4, .int 1), (3, .int (fJ6_bitCount_0f7a4 (nI i1))), (0, .ref (q 0))]) hx hb dX1_fewestEnough_47 hl (k := 3) rfl (by first | exact nI_add _ _ | rfl) (by decide) rfl (fun ls hl => ?_)
            refine lv_goto (tgt := 4) hx hb dX1_fewestEnough_50 (by decide) ?_
            exact ih1 (i1 + 1) (fJ6_bitCount_0f7a4 (nI i1)) ls (by omega) ((congrArg (lp (sX1_fewestEnough_4 T) n1 (i1 + 1)) (show (fJ6_bitCount_0f7a4 (nI i1)) = (sX1_fewestEnough_4 T) i1 a1 from by first | ((rw [sX1_fewestEnough_4, if_pos c_3, if_pos c_5]); first | done | rfl) | rfl)).trans hf1) (lv_sub hl [0, 1, 4] rfl)
      · refine lv_iload_n hx hb dX1_fewestEnough_20 rfl (lv_at hl 0 rfl) ?_
        refine lv_iload_n hx hb dX1_fewestEnough_21 rfl (lv_at hl 2 rfl) ?_
        refine lv_icmp_ge (tgt := 29) hx hb dX1_fewestEnough_22 (by decide) (fun c_6 => ?_) (fun c_6 => ?_)
        · refine lv_iconst (v := 0) hx hb dX1_fewestEnough_29 (by decide) ?_
          refine lv_istore (lv' := [(4, .int 0), (3, .int (fJ6_bitCount_0f7a4 (nI i1))), (2, .int (nI i1)), (1, .int a1), (0, .ref (q 0))]) hx hb dX1_fewestEnough_30 hl (by decide) rfl (fun ls hl => ?_)
          refine lv_iload hx hb dX1_fewestEnough_32 (lv_at hl 0 rfl) ?_
          refine lv_if_eq (tgt := 47) hx hb dX1_fewestEnough_34 (by decide) (fun c_7 => ?_) (fun c_7 => ?_)
          · refine lv_iinc (v := (nI (i1 + 1))) (lv' := [(2, .int (nI (i1 + 1))), (4, .int 0), (3, .int (fJ6_bitCount_0f7a4 (nI i1))), (1, .int a1), (0, .ref (q 0))]) hx hb dX1_fewestEnough_47 hl (k := 2) rfl (by first | exact nI_add _ _ | rfl) (by decide) rfl (fun ls hl => ?_)
            refine lv_goto (tgt := 4) hx hb dX1_fewestEnough_50 (by decide) ?_
            exact ih1 (i1 + 1) a1 ls (by omega) ((congrArg (lp (sX1_fewestEnough_4 T) n1 (i1 + 1)) (show a1 = (sX1_fewestEnough_4 T) i1 a1 from by first | ((rw [sX1_fewestEnough_4, if_neg c_3, if_pos c_6]); first | done | rfl) | rfl)).trans hf1) (lv_sub hl [0, 3, 4] rfl)
          · exact absurd (by decide) c_7
        · refine lv_iconst (v := 1) hx hb dX1_fewestEnough_25 (by decide) ?_
          refine lv_goto (tgt := 30) hx hb dX1_fewestEnough_26 (by decide) ?_
          refine lv_istore (lv' := [(4, .int 1), (3, .int (fJ6_bitCount_0f7a4 (nI i1))), (2, .int (nI i1)), (1, .int a1), (0, .ref (q 0))]) hx hb dX1_fewestEnough_30 hl (by decide) rfl (fun ls hl => ?_)
          refine lv_iload hx hb dX1_fewestEnough_32 (lv_at hl 0 rfl) ?_
          refine lv_if_eq (tgt := 47) hx hb dX1_fewestEnough_34 (by decide) (fun c_8 => ?_) (fun c_8 => ?_)
          · exact absurd c_8 (by decide)
          · refine lv_aload_n hx hb dX1_fewestEnough_37 rfl (lv_at hl 4 rfl) ?_
            refine lv_iload_n hx hb dX1_fewestEnough_38 rfl (lv_at hl 2 rfl) ?_
            have hPc := hP.sub (ws' := (wB q cq T R S X M P n h k w f d v z)) [0, 1, 2, 3, 4, 5, 6, 7] rfl
            have hKc := hK.sub (tys' := (tyB cq)) [0, 1, 2, 3, 4, 5] rfl
            refine vp_callSi (va_Run.run (va_runV (As := [.int (nI i1)]) (rest := []) ⟨hx, hb, hml, hown, hts⟩ (c_X1_sharedClasses l D q cq T R S X M P n h k w f d v z (nI i1)) (cwV 1 hts gX1_fewestEnough_X1_sharedClasses rfl rfl rfl (by decide +kernel) ⟨Nat.le_of_ble_eq_true rfl, Nat.le_of_ble_eq_true rfl⟩) ⟨fun a U g mk z => ⟨z.1, z.2.1, va_K.moved (u := U) (U := U.calling g mk a) (Vm.Alike.refl U.vm) z.2.2.1, z.2.2.2.blind g mk a⟩, va_recv hKc hPc (ci := 1) (q0 := 0) rfl rfl, fun U hU hW => ⟨rfl, by rw [hU]; exact hPc, va_K.moved hW.alike hKc, hE.at0 hS hU hW⟩⟩ rfl rfl hl.1 rfl (lv_room (Nat.le_of_ble_eq_true rfl)) dX1_fewestEnough_39 ⟨(Nat.zero_le _), (Nat.zero_le _)⟩)) (fun r9 hr => ?_)
            subst r9
            refine lv_if_ne (tgt := 47) hx hb dX1_fewestEnough_42 (by decide) (fun c_9 => ?_) (fun c_9 => ?_)
            · refine lv_iinc (v := (nI (i1 + 1))) (lv' := [(2, .int (nI (i1 + 1))), (4, .int 1), (3, .int (fJ6_bitCount_0f7a4 (nI i1))), (1, .int a1), (0, .ref (q 0))]) hx hb dX1_fewestEnough_47 hl (k := 2) rfl (by first | exact nI_add _ _ | rfl) (by decide) rfl (fun ls hl => ?_)
              refine lv_goto (tgt := 4) hx hb dX1_fewestEnough_50 (by decide) ?_
              exact ih1 (i1 + 1) a1 ls (by omega) ((congrArg (lp (sX1_fewestEnough_4 T) n1 (i1 + 1)) (show a1 = (sX1_fewestEnough_4 T) i1 a1 from by first | ((rw [sX1_fewestEnough_4, if_neg c_3, if_neg c_6, if_neg c_9]); first | done | rfl) | rfl)).trans hf1) (lv_sub hl [0, 3, 4] rfl)
            · refine lv_iload_n hx hb dX1_fewestEnough_45 rfl (lv_at hl 1 rfl) ?_
              refine lv_istore_n (lv' := [(1, .int (fJ6_bitCount_0f7a4 (nI i1))), (4, .int 1), (3, .int (fJ6_bitCount_0f7a4 (nI i1))), (2, .int (nI i1)), (0, .ref (q 0))]) hx hb dX1_fewestEnough_46 rfl hl (by decide) rfl (fun ls hl => ?_)
              refine lv_iinc (v := (nI (i1 + 1))) (lv' := [(2, .int (nI (i1 + 1))), (1, .int (fJ6_bitCount_0f7a4 (nI i1))), (4, .int 1), (3, .int (fJ6_bitCount_0f7a4 (nI i1))), (0, .ref (q 0))]) hx hb dX1_fewestEnough_47 hl (k := 3) rfl (by first | exact nI_add _ _ | rfl) (by decide) rfl (fun ls hl => ?_)
              refine lv_goto (tgt := 4) hx hb dX1_fewestEnough_50 (by decide) ?_
              exact ih1 (i1 + 1) (fJ6_bitCount_0f7a4 (nI i1)) ls (by omega) ((congrArg (lp (sX1_fewestEnough_4 T) n1 (i1 + 1)) (show (fJ6_bitCount_0f7a4 (nI i1)) = (sX1_fewestEnough_4 T) i1 a1 from by first | ((rw [sX1_fewestEnough_4, if_neg c_3, if_neg c_6, if_pos c_9]); first | done | rfl) | rfl)).trans hf1) (lv_sub hl [0, 1, 4] rfl)
theorem in_X1_recordedStates_X1 : ∀ w ∈ wsX10, w ∈ wsX1_recordedStates := by decide +kernel
def fX1_recordedStates (n : Nat) : Int32 := (nI n)
set_option maxHeartbeats 4000000 in
set_option maxRecDepth 100000 in
theorem c_X1_recordedStates (l : Launch) (D : va_G) (q : Nat → Nat) (cq : Nat → ClassId) (T : Nat → Int32) (R : Nat → Int32) (S : Nat → Int32) (X : Nat → Int32) (M : Nat → Int32) (P : Nat → Int32) (n : Nat) (h : Int32) (k : Int32) (w : Int32) (f : Int32) (d : Int32) (v : Int32) (z : Int32) : Met l yX1_recordedStates wsX1_recordedStates ({ frames := 0, cells := 0, slots := 0, locals := 0 }) (va_Pc [.ref (q 0)] (fun U => va_P D vwCl (wB q cq T R S X M P (nI n) h k w f d v z) U.heap ∧ va_K D vwCl (tyB cq) U ∧ env0 U)) (vp_Si (fun r9 => r9 = (fX1_recordedStates n))) 0 0 (fun _ => False) := by
  refine Met.ofW (cc := cX1_recordedStates) (maxL := 1) (ret := (some .int)) (by decide) rfl ?_
  intro p e s m args below meth c s₁ B hml hv
  obtain ⟨rfl, hP, hK, hE⟩ := hv
  have hx := B.exec
  have hb := B.bytes
  have hr := B.returns
  have hts := atoms_spec (ws := wsX1_recordedStates) B.pre
  have hown : s.vm.findClass RX1 = some m.cls := findClass_of_methodNamed B.named
  have hlocks := B.notSynchronized
  have hS : va_S (fun _ => False) s.heap s.heap [] := va_S.rf
  have hP : va_P D vwCl (wB q cq T R S X M P (nI n) h k w f d v z) s.heap := hP
  have hl := lv_entry ([.ref (q 0)]) (n := 1) (Nat.le_of_ble_eq_true rfl)
  rw [lg_entry_eq]
  generalize (lg_sl ([.ref (q 0)]) ++ List.replicate (1 - (lg_sl ([.ref (q 0)])).length) Slot.unset).toArray = ls at hl ⊢
  have hl : lv_has ls 1 [(0, .ref (q 0))] := hl
  refine lv_aload_n hx hb dX1_recordedStates_0 rfl (lv_at hl 0 rfl) ?_
  refine va_get (D := D) (ci := 1) (v := .int (nI n)) (C := RX1) (T := TX1) (N := 11) hx hb hts in_X1_recordedStates_X1 hown hK hP 0 rfl rfl 2 (by decide) (hts (.fieldLink RX1 16 "ZhegalkinBench" "recordedCount" "I") (List.mem_of_getElem? (i := 1) rfl)) (fun _ h9 => h9) rfl dX1_recordedStates_1 ?_
  exact W.iret (v := (nI n)) hx hb hr (fun t9 ht hW => ⟨(nI n), rfl, (by first | ((rw [fX1_recordedStates]); first | done | rfl) | rfl), ht⟩) (fun q h => nomatch h) dX1_recordedStates_4
