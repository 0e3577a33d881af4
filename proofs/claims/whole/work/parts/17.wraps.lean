/-! The law's own methods: each calls one method of the bench, puts the answer into a row of one long, and tells by a number what was thrown. -/
theorem vw_ofWH {l : Launch} {y : MethodName} {ws ws' : List Cond} {rm : Room} {Pc : Array Value → State → Prop} {Qc : Array Value → State → Outcome → State → Prop} {mc ms : Nat} {free : Addr → Prop} {cc : ByteArray} {maxL : Nat} {ret : Option FieldType} {hh : List (Nat × Nat × Nat × Nat)}
    (hy : plainName y.cls = true) (hw : ws = Cond.codeWith y cc maxL ret hh :: ws')
    (body : ∀ p e s m args below meth c s₁, BodyLoose p l y (headSpec ws rm) cc maxL ret e s m args below meth c s₁ → c.maxLocals = maxL → Pc args s →
      W p l e (headSpec ws rm).room s m args below meth c s.heap [] 0 0 (MQ below Qc args s mc ms free) (entryFrame m args maxL)) : Met l y ws rm Pc Qc mc ms free := by
  refine MetFree.of_bodyS (code := cc) (maxLocals := maxL) (ret := ret) hy ?_ ?_
  · intro args s m h hn
    obtain ⟨m9, meth, c, hn9, h1, h2, h3, h4, -, h5, h6, -⟩ := Cond.codeWith_spec (atoms_spec (ws := ws) h _ (by rw [hw]; exact List.mem_cons_self))
    cases hn.symm.trans hn9
    exact ⟨meth, c, h1, h2, h3, h4, h5, h6⟩
  · intro p e s m args below meth c s₁ B hml hP _
    have hh0 : s₁.heap = s.heap := by rw [B.state]; rfl
    obtain ⟨t, a1, o, b1, b2, b3⟩ := body p e s m args below meth c s₁ B hml hP s₁ hh0 (Stand.of_body B)
    exact ⟨t, o, a1, b1, b2, ⟨b3.1, b3.2⟩⟩
/-- the bench beside the row for the answer -/
abbrev wL (q : Nat → Nat) (cq : Nat → ClassId) (o9 : Nat) (co : ClassId) (V : Nat → Int64) (T R S X M P : Nat → Int32) (n h k w f d v z : Int32) : va_W := (o9, .inl (co, (1, .inr (.inl V)))) :: wB q cq T R S X M P n h k w f d v z
abbrev tyL (cq : Nat → ClassId) (co : ClassId) : List (ClassId × FieldType) := (co, .long) :: tyB cq
/-- what lies in that row afterwards -/
def VO (k : Nat) (V : Nat → Int64) (y : Int64) : Nat → Int64 := if k = 0 then vp_updL V 0 y else V
def cd1 (k : Nat) : Int32 := if k = 0 then 0 else 1
def cd2 (k : Nat) : Int32 := if k = 0 then 0 else if k = 1 then 1 else 2
theorem kr_define (X : Nat → Int32) (k : Nat) (x : Int32) : (kX1_define X k x) = 0 ∨ (kX1_define X k x) = 1 ∨ (kX1_define X k x) = 2 := by
  unfold kX1_define
  try unfold kX1_checkFunction
  try unfold kX1_checkVariable
  try unfold kX1_validTextProducts
  repeat' split
  all_goals (first | (simp; done) | (simp_all; done) | omega)
set_option maxHeartbeats 4000000 in
set_option maxRecDepth 100000 in
theorem c_L_define (l : Launch) (hst : l.stackTraces = false) (D : va_G) (q : Nat → Nat) (cq : Nat → ClassId) (o9 : Nat) (co : ClassId) (V9 : Nat → Int64) (sz : Nat) (T : Nat → Int32) (R : Nat → Int32) (S : Nat → Int32) (X : Nat → Int32) (M : Nat → Int32) (P : Nat → Int32) (n : Nat) (h : Int32) (k : Nat) (w : Int32) (f : Int32) (d : Int32) (v : Int32) (z : Int32) (x : Int32) (hn : n ≤ 4) (hk9 : k ≤ 80) : Met l yL_define wsL_define ({ frames := 8, cells := 1, slots := 6, locals := 200 }) (va_Pc [.ref (q 0), .int x, .ref o9] (fun U => U.heap.size = sz ∧ va_P D vwCl (wL q cq o9 co V9 T R S X M P (nI n) h (nI k) w f d v z) U.heap ∧ va_K D vwCl (tyL cq co) U ∧ va_D (fun _ => True) (wL q cq o9 co V9 T R S X M P (nI n) h (nI k) w f d v z) ∧ envE (va_A (wL q cq o9 co V9 T R S X M P (nI n) h (nI k) w f d v z) sz) U)) (va_Qi (fun r9 (_ : Unit) => r9 = cd2 (kX1_define X k x)) (fun _ t9 => va_P D vwCl (wL q cq o9 co (VO (kX1_define X k x) V9 ((fX1_define T R X n k w f d v x).1).toInt64) ((fX1_define T R X n k w f d v x).2.1) ((fX1_define T R X n k w f d v x).2.2.1) S X M P (nI (fX1_define T R X n k w f d v x).2.2.2.1) h (nI k) ((fX1_define T R X n k w f d v x).2.2.2.2.1) ((fX1_define T R X n k w f d v x).2.2.2.2.2.1) ((fX1_define T R X n k w f d v x).2.2.2.2.2.2.1) ((fX1_define T R X n k w f d v x).2.2.2.2.2.2.2) z) t9.heap ∧ va_D (va_A (wL q cq o9 co V9 T R S X M P (nI n) h (nI k) w f d v z) sz) (wL q cq o9 co (VO (kX1_define X k x) V9 ((fX1_define T R X n k w f d v x).1).toInt64) ((fX1_define T R X n k w f d v x).2.1) ((fX1_define T R X n k w f d v x).2.2.1) S X M P (nI (fX1_define T R X n k w f d v x).2.2.2.1) h (nI k) ((fX1_define T R X n k w f d v x).2.2.2.2.1) ((fX1_define T R X n k w f d v x).2.2.2.2.2.1) ((fX1_define T R X n k w f d v x).2.2.2.2.2.2.1) ((fX1_define T R X n k w f d v x).2.2.2.2.2.2.2) z)) (va_A (wL q cq o9 co V9 T R S X M P (nI n) h (nI k) w f d v z) sz)) 1 6 (va_A (wL q cq o9 co V9 T R S X M P (nI n) h (nI k) w f d v z) sz) := by
  refine vw_ofWH (cc := cL_define) (maxL := 4) (ret := (some .int)) (hh := [(0, 9, 12, 13), (0, 9, 15, 15)]) (by decide) rfl ?_
  intro p e s m args below meth c s₁ B hml hv
  obtain ⟨rfl, hsz, hP, hK, hD0, hE⟩ := hv
  have hx := B.exec
  have hb := B.bytes
  have hr := B.returns
  have hts := atoms_spec (ws := wsL_define) B.pre
  have hown : s.vm.findClass RL = some m.cls := findClass_of_methodNamed B.named
  have hlocks := B.notSynchronized
  have htab := vx_table B (x := yL_define) (y := yL_define) (bytes := cL_define) (maxL' := 4) (ret' := (some .int)) (hh := [(0, 9, 12, 13), (0, 9, 15, 15)]) (hts _ List.mem_cons_self)
  subst hsz
  have hD := hD0.self (sz := s.heap.size)
  generalize hAe : va_A (wL q cq o9 co V9 T R S X M P (nI n) h (nI k) w f d v z) s.heap.size = A at hD hE ⊢
  have hA : ∀ q : Nat, s.heap.size ≤ q → A q := fun q h => by rw [← hAe]; exact Or.inr h
  have hS : va_S A s.heap s.heap [] := va_S.rf
  have hP : va_P D vwCl (wL q cq o9 co V9 T R S X M P (nI n) h (nI k) w f d v z) s.heap := hP
  have hl := lv_entry ([.ref (q 0), .int x, .ref o9]) (n := 4) (Nat.le_of_ble_eq_true rfl)
  rw [lg_entry_eq]
  generalize (lg_sl ([.ref (q 0), .int x, .ref o9]) ++ List.replicate (4 - (lg_sl ([.ref (q 0), .int x, .ref o9])).length) Slot.unset).toArray = ls at hl ⊢
  have hl : lv_has ls 4 [(0, .ref (q 0)), (1, .int x), (2, .ref o9)] := hl
  refine lv_aload_n hx hb dL_define_0 rfl (lv_at hl 2 rfl) ?_
  refine lv_iconst (v := 0) hx hb dL_define_1 (by decide) ?_
  refine lv_aload_n hx hb dL_define_2 rfl (lv_at hl 0 rfl) ?_
  refine lv_iload_n hx hb dL_define_3 rfl (lv_at hl 1 rfl) ?_
  have hPc := hP.sub (ws' := (wB q cq T R S X M P (nI n) h (nI k) w f d v z)) [1, 2, 3, 4, 5, 6, 7, 8] rfl
  have hKc := hK.sub (tys' := (tyB cq)) [1, 2, 3, 4, 5, 6] rfl
  have hDc := hD.sub (ws' := (wB q cq T R S X M P (nI n) h (nI k) w f d v z)) [1, 2, 3, 4, 5, 6, 7, 8] (by decide) rfl
  have hFc := va_free (wc := (wB q cq T R S X M P (nI n) h (nI k) w f d v z)) hD hS hA [1, 2, 3, 4, 5, 6, 7, 8] rfl
  refine vx_calli (vx_runV (As := [.int x]) (rest := [.int 0, .ref o9]) ⟨hx, hb, hml, hown, hts⟩ (c_X1_define l hst D q cq s.heap.size T R S X M P n h k w f d v z x hn hk9) (cwV 1 hts gL_define_X1_define rfl rfl rfl (by decide +kernel) ⟨Nat.le_of_ble_eq_true rfl, Nat.le_of_ble_eq_true rfl⟩) ⟨fun a U g mk z => ⟨z.1, z.2.1, z.2.2.1, va_K.moved (u := U) (U := U.calling g mk a) (Vm.Alike.refl U.vm) z.2.2.2.1, z.2.2.2.2.1, z.2.2.2.2.2.blind g mk a⟩, va_recv hKc hPc (ci := 1) (q0 := 0) rfl rfl, fun U hU hW => ⟨rfl, by rw [hU], by rw [hU]; exact hPc, va_K.moved hW.alike hKc, hDc.weaken (fun _ _ _ _ => trivial), hE.at hS hU hW hFc⟩⟩ rfl rfl hl.1 rfl (lv_room (Nat.le_of_ble_eq_true rfl)) dL_define_4 ⟨Nat.le_of_ble_eq_true rfl, Nat.le_of_ble_eq_true rfl⟩) hS (fun q _ h => hFc q h) hFc (fun q _ h => hFc q h) (fun E9 ce q9 u9 t8 H1 locs ht hvm hu hB0 hz1 hk1 hS hce hcv hcl => ?_) (fun r9 u9 t8 H1 locs ht hvm hw hB hz1 hk1 hS => ?_)
  · obtain ⟨hE9, hP1, hD1⟩ := hB0
    rw [ht] at hP1
    obtain ⟨hP, hD⟩ := va_join (wr := [(o9, .inl (co, (1, .inr (.inl V9))))]) (w1 := (wB q cq ((fX1_define T R X n k w f d v x).2.1) ((fX1_define T R X n k w f d v x).2.2.1) S X M P (nI (fX1_define T R X n k w f d v x).2.2.2.1) h (nI k) ((fX1_define T R X n k w f d v x).2.2.2.2.1) ((fX1_define T R X n k w f d v x).2.2.2.2.2.1) ((fX1_define T R X n k w f d v x).2.2.2.2.2.2.1) ((fX1_define T R X n k w f d v x).2.2.2.2.2.2.2) z)) hP hD [1, 2, 3, 4, 5, 6, 7, 8] [0] rfl rfl (by decide) (by decide) hk1 hFc hP1 hD1
    have hP : va_P D vwCl (wL q cq o9 co V9 ((fX1_define T R X n k w f d v x).2.1) ((fX1_define T R X n k w f d v x).2.2.1) S X M P (nI (fX1_define T R X n k w f d v x).2.2.2.1) h (nI k) ((fX1_define T R X n k w f d v x).2.2.2.2.1) ((fX1_define T R X n k w f d v x).2.2.2.2.2.1) ((fX1_define T R X n k w f d v x).2.2.2.2.2.2.1) ((fX1_define T R X n k w f d v x).2.2.2.2.2.2.2) z) H1 := hP
    have hD : va_D A (wL q cq o9 co V9 ((fX1_define T R X n k w f d v x).2.1) ((fX1_define T R X n k w f d v x).2.2.1) S X M P (nI (fX1_define T R X n k w f d v x).2.2.2.1) h (nI k) ((fX1_define T R X n k w f d v x).2.2.2.2.1) ((fX1_define T R X n k w f d v x).2.2.2.2.2.1) ((fX1_define T R X n k w f d v x).2.2.2.2.2.2.1) ((fX1_define T R X n k w f d v x).2.2.2.2.2.2.2) z) := hD
    generalize H1 = H at hP hS hce ⊢
    have hn : ¬ (kX1_define X k x) = 0 := fun z => hu.2 (hu.1.symm.trans z)
    have hv : VO (kX1_define X k x) V9 ((fX1_define T R X n k w f d v x).1).toInt64 = V9 := if_neg hn
    have hkr := kr_define X k x
    rw [hu.1] at hkr
    rcases hkr with h0 | h1 | h2
    · exact absurd h0 hu.2
    · subst h1
      have hE9 : E9 = "java/lang/IndexOutOfBoundsException" := hE9
      subst hE9
      refine vx_catch hown [] _ _ (htab.trans rfl) (fun z hz => absurd hz List.not_mem_nil) rfl (by decide) (hts (.classLink RL 13 "java/lang/IndexOutOfBoundsException") (List.mem_of_getElem? (i := 1) rfl)) (va_Nw.use rfl hE.2.1.1) hce hcv hcl ?_
      refine lv_astore_n (lv' := [(3, .ref q9), (0, .ref (q 0)), (1, .int x), (2, .ref o9)]) hx hb dL_define_12 rfl hl (by decide) rfl (fun ls hl => ?_)
      refine lv_iconst (v := 1) hx hb dL_define_13 (by decide) ?_
      exact W.iret (v := 1) hx hb hr (fun t9 ht9 hW => ⟨⟨1, (), rfl, (by rw [hu.1]; rfl), ⟨by rw [ht9, hv]; exact hP, by rw [hv]; exact hD⟩⟩, hS.F ht9⟩) hS.2.2 dL_define_14
    · subst h2
      have hE9 : E9 = "java/lang/IllegalStateException" := hE9
      subst hE9
      refine vx_catch hown [_] _ _ (htab.trans rfl) (fun z hz => by rw [List.mem_singleton] at hz; subst hz; exact Or.inr ⟨by decide, "java/lang/IndexOutOfBoundsException", hts (.classLink RL 13 "java/lang/IndexOutOfBoundsException") (List.mem_of_getElem? (i := 1) rfl), hE.2.1.2.2.2.1⟩) rfl (by decide) (hts (.classLink RL 15 "java/lang/IllegalStateException") (List.mem_of_getElem? (i := 2) rfl)) (va_Nw.use rfl hE.2.1.2.1) hce hcv hcl ?_
      refine lv_astore_n (lv' := [(3, .ref q9), (0, .ref (q 0)), (1, .int x), (2, .ref o9)]) hx hb dL_define_15 rfl hl (by decide) rfl (fun ls hl => ?_)
      refine lv_iconst (v := 2) hx hb dL_define_16 (by decide) ?_
      exact W.iret (v := 2) hx hb hr (fun t9 ht9 hW => ⟨⟨2, (), rfl, (by rw [hu.1]; rfl), ⟨by rw [ht9, hv]; exact hP, by rw [hv]; exact hD⟩⟩, hS.F ht9⟩) hS.2.2 dL_define_17
  · obtain ⟨hP1, hD1⟩ := hB
    rw [ht] at hP1
    obtain ⟨hP, hD⟩ := va_join (wr := [(o9, .inl (co, (1, .inr (.inl V9))))]) (w1 := (wB q cq ((fX1_define T R X n k w f d v x).2.1) ((fX1_define T R X n k w f d v x).2.2.1) S X M P (nI (fX1_define T R X n k w f d v x).2.2.2.1) h (nI k) ((fX1_define T R X n k w f d v x).2.2.2.2.1) ((fX1_define T R X n k w f d v x).2.2.2.2.2.1) ((fX1_define T R X n k w f d v x).2.2.2.2.2.2.1) ((fX1_define T R X n k w f d v x).2.2.2.2.2.2.2) z)) hP hD [1, 2, 3, 4, 5, 6, 7, 8] [0] rfl rfl (by decide) (by decide) hk1 hFc hP1 hD1
    have hP : va_P D vwCl (wL q cq o9 co V9 ((fX1_define T R X n k w f d v x).2.1) ((fX1_define T R X n k w f d v x).2.2.1) S X M P (nI (fX1_define T R X n k w f d v x).2.2.2.1) h (nI k) ((fX1_define T R X n k w f d v x).2.2.2.2.1) ((fX1_define T R X n k w f d v x).2.2.2.2.2.1) ((fX1_define T R X n k w f d v x).2.2.2.2.2.2.1) ((fX1_define T R X n k w f d v x).2.2.2.2.2.2.2) z) H1 := hP
    have hD : va_D A (wL q cq o9 co V9 ((fX1_define T R X n k w f d v x).2.1) ((fX1_define T R X n k w f d v x).2.2.1) S X M P (nI (fX1_define T R X n k w f d v x).2.2.2.1) h (nI k) ((fX1_define T R X n k w f d v x).2.2.2.2.1) ((fX1_define T R X n k w f d v x).2.2.2.2.2.1) ((fX1_define T R X n k w f d v x).2.2.2.2.2.2.1) ((fX1_define T R X n k w f d v x).2.2.2.2.2.2.2) z) := hD
    generalize H1 = H at hP hS ⊢
    obtain ⟨hk, hw⟩ := hw
    have hv : VO (kX1_define X k x) V9 ((fX1_define T R X n k w f d v x).1).toInt64 = vp_updL V9 0 ((fX1_define T R X n k w f d v x).1).toInt64 := if_pos hk
    subst r9
    refine lv_i2l hx hb dL_define_7 rfl ?_
    refine va_last hx hb hK hP hD hS 0 0 rfl rfl (i := 0) (vp_in_nI (n := 0) (N := 1) (by decide) (by decide)) dL_define_8 (fun H locs hP hD hS => ?_)
    have hP : va_P D vwCl (wL q cq o9 co (vp_updL V9 0 ((fX1_define T R X n k w f d v x).1).toInt64) ((fX1_define T R X n k w f d v x).2.1) ((fX1_define T R X n k w f d v x).2.2.1) S X M P (nI (fX1_define T R X n k w f d v x).2.2.2.1) h (nI k) ((fX1_define T R X n k w f d v x).2.2.2.2.1) ((fX1_define T R X n k w f d v x).2.2.2.2.2.1) ((fX1_define T R X n k w f d v x).2.2.2.2.2.2.1) ((fX1_define T R X n k w f d v x).2.2.2.2.2.2.2) z) H := hP
    have hD : va_D A (wL q cq o9 co (vp_updL V9 0 ((fX1_define T R X n k w f d v x).1).toInt64) ((fX1_define T R X n k w f d v x).2.1) ((fX1_define T R X n k w f d v x).2.2.1) S X M P (nI (fX1_define T R X n k w f d v x).2.2.2.1) h (nI k) ((fX1_define T R X n k w f d v x).2.2.2.2.1) ((fX1_define T R X n k w f d v x).2.2.2.2.2.1) ((fX1_define T R X n k w f d v x).2.2.2.2.2.2.1) ((fX1_define T R X n k w f d v x).2.2.2.2.2.2.2) z) := hD
    refine lv_goto (tgt := 18) hx hb dL_define_9 (by decide) ?_
    refine lv_iconst (v := 0) hx hb dL_define_18 (by decide) ?_
    exact W.iret (v := 0) hx hb hr (fun t9 ht9 hW => ⟨⟨0, (), rfl, (by rw [hk]; rfl), ⟨by rw [ht9, hv]; exact hP, by rw [hv]; exact hD⟩⟩, hS.F ht9⟩) hS.2.2 dL_define_19
theorem kr_setTable (x : Int32) (x2 : Int32) : (kX1_setTable x x2) = 0 ∨ (kX1_setTable x x2) = 1 ∨ (kX1_setTable x x2) = 3 := by
  unfold kX1_setTable
  try unfold kX1_checkFunction
  try unfold kX1_checkVariable
  try unfold kX1_validTextProducts
  repeat' split
  all_goals (first | (simp; done) | (simp_all; done) | omega)
set_option maxHeartbeats 4000000 in
set_option maxRecDepth 100000 in
theorem c_L_setTable (l : Launch) (hst : l.stackTraces = false) (D : va_G) (q : Nat → Nat) (cq : Nat → ClassId) (o9 : Nat) (co : ClassId) (V9 : Nat → Int64) (sz : Nat) (T : Nat → Int32) (R : Nat → Int32) (S : Nat → Int32) (X : Nat → Int32) (M : Nat → Int32) (P : Nat → Int32) (n : Nat) (h : Int32) (k : Int32) (w : Int32) (f : Int32) (d : Int32) (v : Int32) (z : Int32) (x : Int32) (x2 : Int32) (hn : n ≤ 4) : Met l yL_setTable wsL_setTable ({ frames := 8, cells := 1, slots := 6, locals := 200 }) (va_Pc [.ref (q 0), .int x, .int x2, .ref o9] (fun U => U.heap.size = sz ∧ va_P D vwCl (wL q cq o9 co V9 T R S X M P (nI n) h k w f d v z) U.heap ∧ va_K D vwCl (tyL cq co) U ∧ va_D (fun _ => True) (wL q cq o9 co V9 T R S X M P (nI n) h k w f d v z) ∧ envE (va_A (wL q cq o9 co V9 T R S X M P (nI n) h k w f d v z) sz) U)) (va_Qi (fun r9 (_ : Unit) => r9 = cd2 (kX1_setTable x x2)) (fun _ t9 => va_P D vwCl (wL q cq o9 co (VO (kX1_setTable x x2) V9 ((fX1_setTable T R n x x2).1).toInt64) ((fX1_setTable T R n x x2).2.1) ((fX1_setTable T R n x x2).2.2.1) S X M P (nI (fX1_setTable T R n x x2).2.2.2) h k w f d v z) t9.heap ∧ va_D (va_A (wL q cq o9 co V9 T R S X M P (nI n) h k w f d v z) sz) (wL q cq o9 co (VO (kX1_setTable x x2) V9 ((fX1_setTable T R n x x2).1).toInt64) ((fX1_setTable T R n x x2).2.1) ((fX1_setTable T R n x x2).2.2.1) S X M P (nI (fX1_setTable T R n x x2).2.2.2) h k w f d v z)) (va_A (wL q cq o9 co V9 T R S X M P (nI n) h k w f d v z) sz)) 1 6 (va_A (wL q cq o9 co V9 T R S X M P (nI n) h k w f d v z) sz) := by
  refine vw_ofWH (cc := cL_setTable) (maxL := 5) (ret := (some .int)) (hh := [(0, 10, 13, 13), (0, 10, 17, 21)]) (by decide) rfl ?_
  intro p e s m args below meth c s₁ B hml hv
  obtain ⟨rfl, hsz, hP, hK, hD0, hE⟩ := hv
  have hx := B.exec
  have hb := B.bytes
  have hr := B.returns
  have hts := atoms_spec (ws := wsL_setTable) B.pre
  have hown : s.vm.findClass RL = some m.cls := findClass_of_methodNamed B.named
  have hlocks := B.notSynchronized
  have htab := vx_table B (x := yL_setTable) (y := yL_setTable) (bytes := cL_setTable) (maxL' := 5) (ret' := (some .int)) (hh := [(0, 10, 13, 13), (0, 10, 17, 21)]) (hts _ List.mem_cons_self)
  subst hsz
  have hD := hD0.self (sz := s.heap.size)
  generalize hAe : va_A (wL q cq o9 co V9 T R S X M P (nI n) h k w f d v z) s.heap.size = A at hD hE ⊢
  have hA : ∀ q : Nat, s.heap.size ≤ q → A q := fun q h => by rw [← hAe]; exact Or.inr h
  have hS : va_S A s.heap s.heap [] := va_S.rf
  have hP : va_P D vwCl (wL q cq o9 co V9 T R S X M P (nI n) h k w f d v z) s.heap := hP
  have hl := lv_entry ([.ref (q 0), .int x, .int x2, .ref o9]) (n := 5) (Nat.le_of_ble_eq_true rfl)
  rw [lg_entry_eq]
  generalize (lg_sl ([.ref (q 0), .int x, .int x2, .ref o9]) ++ List.replicate (5 - (lg_sl ([.ref (q 0), .int x, .int x2, .ref o9])).length) Slot.unset).toArray = ls at hl ⊢
  have hl : lv_has ls 5 [(0, .ref (q 0)), (1, .int x), (2, .int x2), (3, .ref o9)] := hl
  refine lv_aload_n hx hb dL_setTable_0 rfl (lv_at hl 3 rfl) ?_
  refine lv_iconst (v := 0) hx hb dL_setTable_1 (by decide) ?_
  refine lv_aload_n hx hb dL_setTable_2 rfl (lv_at hl 0 rfl) ?_
  refine lv_iload_n hx hb dL_setTable_3 rfl (lv_at hl 1 rfl) ?_
  refine lv_iload_n hx hb dL_setTable_4 rfl (lv_at hl 2 rfl) ?_
  have hPc := hP.sub (ws' := (wB q cq T R S X M P (nI n) h k w f d v z)) [1, 2, 3, 4, 5, 6, 7, 8] rfl
  have hKc := hK.sub (tys' := (tyB cq)) [1, 2, 3, 4, 5, 6] rfl
  have hDc := hD.sub (ws' := (wB q cq T R S X M P (nI n) h k w f d v z)) [1, 2, 3, 4, 5, 6, 7, 8] (by decide) rfl
  have hFc := va_free (wc := (wB q cq T R S X M P (nI n) h k w f d v z)) hD hS hA [1, 2, 3, 4, 5, 6, 7, 8] rfl
  refine vx_calli (vx_runV (As := [.int x, .int x2]) (rest := [.int 0, .ref o9]) ⟨hx, hb, hml, hown, hts⟩ (c_X1_setTable l hst D q cq s.heap.size T R S X M P n h k w f d v z x x2 hn) (cwV 2 hts gL_setTable_X1_setTable rfl rfl rfl (by decide +kernel) ⟨Nat.le_of_ble_eq_true rfl, Nat.le_of_ble_eq_true rfl⟩) ⟨fun a U g mk z => ⟨z.1, z.2.1, z.2.2.1, va_K.moved (u := U) (U := U.calling g mk a) (Vm.Alike.refl U.vm) z.2.2.2.1, z.2.2.2.2.1, z.2.2.2.2.2.blind g mk a⟩, va_recv hKc hPc (ci := 1) (q0 := 0) rfl rfl, fun U hU hW => ⟨rfl, by rw [hU], by rw [hU]; exact hPc, va_K.moved hW.alike hKc, hDc.weaken (fun _ _ _ _ => trivial), hE.at hS hU hW hFc⟩⟩ rfl rfl hl.1 rfl (lv_room (Nat.le_of_ble_eq_true rfl)) dL_setTable_5 ⟨Nat.le_of_ble_eq_true rfl, Nat.le_of_ble_eq_true rfl⟩) hS (fun q _ h => hFc q h) hFc (fun q _ h => hFc q h) (fun E9 ce q9 u9 t8 H1 locs ht hvm hu hB0 hz1 hk1 hS hce hcv hcl => ?_) (fun r9 u9 t8 H1 locs ht hvm hw hB hz1 hk1 hS => ?_)
  · obtain ⟨hE9, hP1, hD1⟩ := hB0
    rw [ht] at hP1
    obtain ⟨hP, hD⟩ := va_join (wr := [(o9, .inl (co, (1, .inr (.inl V9))))]) (w1 := (wB q cq ((fX1_setTable T R n x x2).2.1) ((fX1_setTable T R n x x2).2.2.1) S X M P (nI (fX1_setTable T R n x x2).2.2.2) h k w f d v z)) hP hD [1, 2, 3, 4, 5, 6, 7, 8] [0] rfl rfl (by decide) (by decide) hk1 hFc hP1 hD1
    have hP : va_P D vwCl (wL q cq o9 co V9 ((fX1_setTable T R n x x2).2.1) ((fX1_setTable T R n x x2).2.2.1) S X M P (nI (fX1_setTable T R n x x2).2.2.2) h k w f d v z) H1 := hP
    have hD : va_D A (wL q cq o9 co V9 ((fX1_setTable T R n x x2).2.1) ((fX1_setTable T R n x x2).2.2.1) S X M P (nI (fX1_setTable T R n x x2).2.2.2) h k w f d v z) := hD
    generalize H1 = H at hP hS hce ⊢
    have hn : ¬ (kX1_setTable x x2) = 0 := fun z => hu.2 (hu.1.symm.trans z)
    have hv : VO (kX1_setTable x x2) V9 ((fX1_setTable T R n x x2).1).toInt64 = V9 := if_neg hn
    have hkr := kr_setTable x x2
    rw [hu.1] at hkr
    rcases hkr with h0 | h1 | h3
    · exact absurd h0 hu.2
    · subst h1
      have hE9 : E9 = "java/lang/IndexOutOfBoundsException" := hE9
      subst hE9
      refine vx_catch hown [] _ _ (htab.trans rfl) (fun z hz => absurd hz List.not_mem_nil) rfl (by decide) (hts (.classLink RL 13 "java/lang/IndexOutOfBoundsException") (List.mem_of_getElem? (i := 1) rfl)) (va_Nw.use rfl hE.2.1.1) hce hcv hcl ?_
      refine lv_astore (lv' := [(4, .ref q9), (0, .ref (q 0)), (1, .int x), (2, .int x2), (3, .ref o9)]) hx hb dL_setTable_13 hl (by decide) rfl (fun ls hl => ?_)
      refine lv_iconst (v := 1) hx hb dL_setTable_15 (by decide) ?_
      exact W.iret (v := 1) hx hb hr (fun t9 ht9 hW => ⟨⟨1, (), rfl, (by rw [hu.1]; rfl), ⟨by rw [ht9, hv]; exact hP, by rw [hv]; exact hD⟩⟩, hS.F ht9⟩) hS.2.2 dL_setTable_16
    · subst h3
      have hE9 : E9 = "java/lang/IllegalArgumentException" := hE9
      subst hE9
      refine vx_catch hown [_] _ _ (htab.trans rfl) (fun z hz => by rw [List.mem_singleton] at hz; subst hz; exact Or.inr ⟨by decide, "java/lang/IndexOutOfBoundsException", hts (.classLink RL 13 "java/lang/IndexOutOfBoundsException") (List.mem_of_getElem? (i := 1) rfl), hE.2.1.2.2.2.2.1⟩) rfl (by decide) (hts (.classLink RL 21 "java/lang/IllegalArgumentException") (List.mem_of_getElem? (i := 2) rfl)) (va_Nw.use rfl hE.2.1.2.2.1) hce hcv hcl ?_
      refine lv_astore (lv' := [(4, .ref q9), (0, .ref (q 0)), (1, .int x), (2, .int x2), (3, .ref o9)]) hx hb dL_setTable_17 hl (by decide) rfl (fun ls hl => ?_)
      refine lv_iconst (v := 2) hx hb dL_setTable_19 (by decide) ?_
      exact W.iret (v := 2) hx hb hr (fun t9 ht9 hW => ⟨⟨2, (), rfl, (by rw [hu.1]; rfl), ⟨by rw [ht9, hv]; exact hP, by rw [hv]; exact hD⟩⟩, hS.F ht9⟩) hS.2.2 dL_setTable_20
  · obtain ⟨hP1, hD1⟩ := hB
    rw [ht] at hP1
    obtain ⟨hP, hD⟩ := va_join (wr := [(o9, .inl (co, (1, .inr (.inl V9))))]) (w1 := (wB q cq ((fX1_setTable T R n x x2).2.1) ((fX1_setTable T R n x x2).2.2.1) S X M P (nI (fX1_setTable T R n x x2).2.2.2) h k w f d v z)) hP hD [1, 2, 3, 4, 5, 6, 7, 8] [0] rfl rfl (by decide) (by decide) hk1 hFc hP1 hD1
    have hP : va_P D vwCl (wL q cq o9 co V9 ((fX1_setTable T R n x x2).2.1) ((fX1_setTable T R n x x2).2.2.1) S X M P (nI (fX1_setTable T R n x x2).2.2.2) h k w f d v z) H1 := hP
    have hD : va_D A (wL q cq o9 co V9 ((fX1_setTable T R n x x2).2.1) ((fX1_setTable T R n x x2).2.2.1) S X M P (nI (fX1_setTable T R n x x2).2.2.2) h k w f d v z) := hD
    generalize H1 = H at hP hS ⊢
    obtain ⟨hk, hw⟩ := hw
    have hv : VO (kX1_setTable x x2) V9 ((fX1_setTable T R n x x2).1).toInt64 = vp_updL V9 0 ((fX1_setTable T R n x x2).1).toInt64 := if_pos hk
    subst r9
    refine lv_i2l hx hb dL_setTable_8 rfl ?_
    refine va_last hx hb hK hP hD hS 0 0 rfl rfl (i := 0) (vp_in_nI (n := 0) (N := 1) (by decide) (by decide)) dL_setTable_9 (fun H locs hP hD hS => ?_)
    have hP : va_P D vwCl (wL q cq o9 co (vp_updL V9 0 ((fX1_setTable T R n x x2).1).toInt64) ((fX1_setTable T R n x x2).2.1) ((fX1_setTable T R n x x2).2.2.1) S X M P (nI (fX1_setTable T R n x x2).2.2.2) h k w f d v z) H := hP
    have hD : va_D A (wL q cq o9 co (vp_updL V9 0 ((fX1_setTable T R n x x2).1).toInt64) ((fX1_setTable T R n x x2).2.1) ((fX1_setTable T R n x x2).2.2.1) S X M P (nI (fX1_setTable T R n x x2).2.2.2) h k w f d v z) := hD
    refine lv_goto (tgt := 21) hx hb dL_setTable_10 (by decide) ?_
    refine lv_iconst (v := 0) hx hb dL_setTable_21 (by decide) ?_
    exact W.iret (v := 0) hx hb hr (fun t9 ht9 hW => ⟨⟨0, (), rfl, (by rw [hk]; rfl), ⟨by rw [ht9, hv]; exact hP, by rw [hv]; exact hD⟩⟩, hS.F ht9⟩) hS.2.2 dL_setTable_22
theorem kr_join (x : Int32) (x2 : Int32) (x3 : Int32) (x4 : Int32) : (kX1_join x x2 x3 x4) = 0 ∨ (kX1_join x x2 x3 x4) = 1 ∨ (kX1_join x x2 x3 x4) = 3 := by
  unfold kX1_join
  try unfold kX1_checkFunction
  try unfold kX1_checkVariable
  try unfold kX1_validTextProducts
  repeat' split
  all_goals (first | (simp; done) | (simp_all; done) | omega)
set_option maxHeartbeats 4000000 in
set_option maxRecDepth 100000 in
theorem c_L_join (l : Launch) (hst : l.stackTraces = false) (D : va_G) (q : Nat → Nat) (cq : Nat → ClassId) (o9 : Nat) (co : ClassId) (V9 : Nat → Int64) (sz : Nat) (T : Nat → Int32) (R : Nat → Int32) (S : Nat → Int32) (X : Nat → Int32) (M : Nat → Int32) (P : Nat → Int32) (n : Nat) (h : Int32) (k : Int32) (w : Int32) (f : Int32) (d : Int32) (v : Int32) (z : Int32) (x : Int32) (x2 : Int32) (x3 : Int32) (x4 : Int32) (hn : n ≤ 4) : Met l yL_join wsL_join ({ frames := 8, cells := 1, slots := 6, locals := 200 }) (va_Pc [.ref (q 0), .int x, .int x2, .int x3, .int x4, .ref o9] (fun U => U.heap.size = sz ∧ va_P D vwCl (wL q cq o9 co V9 T R S X M P (nI n) h k w f d v z) U.heap ∧ va_K D vwCl (tyL cq co) U ∧ va_D (fun _ => True) (wL q cq o9 co V9 T R S X M P (nI n) h k w f d v z) ∧ envE (va_A (wL q cq o9 co V9 T R S X M P (nI n) h k w f d v z) sz) U)) (va_Qi (fun r9 (_ : Unit) => r9 = cd2 (kX1_join x x2 x3 x4)) (fun _ t9 => va_P D vwCl (wL q cq o9 co (VO (kX1_join x x2 x3 x4) V9 ((fX1_join T R n x x2 x3 x4).1).toInt64) ((fX1_join T R n x x2 x3 x4).2.1) ((fX1_join T R n x x2 x3 x4).2.2.1) S X M P (nI (fX1_join T R n x x2 x3 x4).2.2.2) h k w f d v z) t9.heap ∧ va_D (va_A (wL q cq o9 co V9 T R S X M P (nI n) h k w f d v z) sz) (wL q cq o9 co (VO (kX1_join x x2 x3 x4) V9 ((fX1_join T R n x x2 x3 x4).1).toInt64) ((fX1_join T R n x x2 x3 x4).2.1) ((fX1_join T R n x x2 x3 x4).2.2.1) S X M P (nI (fX1_join T R n x x2 x3 x4).2.2.2) h k w f d v z)) (va_A (wL q cq o9 co V9 T R S X M P (nI n) h k w f d v z) sz)) 1 6 (va_A (wL q cq o9 co V9 T R S X M P (nI n) h k w f d v z) sz) := by
  refine vw_ofWH (cc := cL_join) (maxL := 7) (ret := (some .int)) (hh := [(0, 14, 17, 13), (0, 14, 21, 21)]) (by decide) rfl ?_
  intro p e s m args below meth c s₁ B hml hv
  obtain ⟨rfl, hsz, hP, hK, hD0, hE⟩ := hv
  have hx := B.exec
  have hb := B.bytes
  have hr := B.returns
  have hts := atoms_spec (ws := wsL_join) B.pre
  have hown : s.vm.findClass RL = some m.cls := findClass_of_methodNamed B.named
  have hlocks := B.notSynchronized
  have htab := vx_table B (x := yL_join) (y := yL_join) (bytes := cL_join) (maxL' := 7) (ret' := (some .int)) (hh := [(0, 14, 17, 13), (0, 14, 21, 21)]) (hts _ List.mem_cons_self)
  subst hsz
  have hD := hD0.self (sz := s.heap.size)
  generalize hAe : va_A (wL q cq o9 co V9 T R S X M P (nI n) h k w f d v z) s.heap.size = A at hD hE ⊢
  have hA : ∀ q : Nat, s.heap.size ≤ q → A q := fun q h => by rw [← hAe]; exact Or.inr h
  have hS : va_S A s.heap s.heap [] := va_S.rf
  have hP : va_P D vwCl (wL q cq o9 co V9 T R S X M P (nI n) h k w f d v z) s.heap := hP
  have hl := lv_entry ([.ref (q 0), .int x, .int x2, .int x3, .int x4, .ref o9]) (n := 7) (Nat.le_of_ble_eq_true rfl)
  rw [lg_entry_eq]
  generalize (lg_sl ([.ref (q 0), .int x, .int x2, .int x3, .int x4, .ref o9]) ++ List.replicate (7 - (lg_sl ([.ref (q 0), .int x, .int x2, .int x3, .int x4, .ref o9])).length) Slot.unset).toArray = ls at hl ⊢
  have hl : lv_has ls 7 [(0, .ref (q 0)), (1, .int x), (2, .int x2), (3, .int x3), (4, .int x4), (5, .ref o9)] := hl
  refine lv_aload hx hb dL_join_0 (lv_at hl 5 rfl) ?_
  refine lv_iconst (v := 0) hx hb dL_join_2 (by decide) ?_
  refine lv_aload_n hx hb dL_join_3 rfl (lv_at hl 0 rfl) ?_
  refine lv_iload_n hx hb dL_join_4 rfl (lv_at hl 1 rfl) ?_
  refine lv_iload_n hx hb dL_join_5 rfl (lv_at hl 2 rfl) ?_
  refine lv_iload_n hx hb dL_join_6 rfl (lv_at hl 3 rfl) ?_
  refine lv_iload hx hb dL_join_7 (lv_at hl 4 rfl) ?_
  have hPc := hP.sub (ws' := (wB q cq T R S X M P (nI n) h k w f d v z)) [1, 2, 3, 4, 5, 6, 7, 8] rfl
  have hKc := hK.sub (tys' := (tyB cq)) [1, 2, 3, 4, 5, 6] rfl
  have hDc := hD.sub (ws' := (wB q cq T R S X M P (nI n) h k w f d v z)) [1, 2, 3, 4, 5, 6, 7, 8] (by decide) rfl
  have hFc := va_free (wc := (wB q cq T R S X M P (nI n) h k w f d v z)) hD hS hA [1, 2, 3, 4, 5, 6, 7, 8] rfl
  refine vx_calli (vx_runV (As := [.int x, .int x2, .int x3, .int x4]) (rest := [.int 0, .ref o9]) ⟨hx, hb, hml, hown, hts⟩ (c_X1_join l hst D q cq s.heap.size T R S X M P n h k w f d v z x x2 x3 x4 hn) (cwV 4 hts gL_join_X1_join rfl rfl rfl (by decide +kernel) ⟨Nat.le_of_ble_eq_true rfl, Nat.le_of_ble_eq_true rfl⟩) ⟨fun a U g mk z => ⟨z.1, z.2.1, z.2.2.1, va_K.moved (u := U) (U := U.calling g mk a) (Vm.Alike.refl U.vm) z.2.2.2.1, z.2.2.2.2.1, z.2.2.2.2.2.blind g mk a⟩, va_recv hKc hPc (ci := 1) (q0 := 0) rfl rfl, fun U hU hW => ⟨rfl, by rw [hU], by rw [hU]; exact hPc, va_K.moved hW.alike hKc, hDc.weaken (fun _ _ _ _ => trivial), hE.at hS hU hW hFc⟩⟩ rfl rfl hl.1 rfl (lv_room (Nat.le_of_ble_eq_true rfl)) dL_join_9 ⟨Nat.le_of_ble_eq_true rfl, Nat.le_of_ble_eq_true rfl⟩) hS (fun q _ h => hFc q h) hFc (fun q _ h => hFc q h) (fun E9 ce q9 u9 t8 H1 locs ht hvm hu hB0 hz1 hk1 hS hce hcv hcl => ?_) (fun r9 u9 t8 H1 locs ht hvm hw hB hz1 hk1 hS => ?_)
  · obtain ⟨hE9, hP1, hD1⟩ := hB0
    rw [ht] at hP1
    obtain ⟨hP, hD⟩ := va_join (wr := [(o9, .inl (co, (1, .inr (.inl V9))))]) (w1 := (wB q cq ((fX1_join T R n x x2 x3 x4).2.1) ((fX1_join T R n x x2 x3 x4).2.2.1) S X M P (nI (fX1_join T R n x x2 x3 x4).2.2.2) h k w f d v z)) hP hD [1, 2, 3, 4, 5, 6, 7, 8] [0] rfl rfl (by decide) (by decide) hk1 hFc hP1 hD1
    have hP : va_P D vwCl (wL q cq o9 co V9 ((fX1_join T R n x x2 x3 x4).2.1) ((fX1_join T R n x x2 x3 x4).2.2.1) S X M P (nI (fX1_join T R n x x2 x3 x4).2.2.2) h k w f d v z) H1 := hP
    have hD : va_D A (wL q cq o9 co V9 ((fX1_join T R n x x2 x3 x4).2.1) ((fX1_join T R n x x2 x3 x4).2.2.1) S X M P (nI (fX1_join T R n x x2 x3 x4).2.2.2) h k w f d v z) := hD
    generalize H1 = H at hP hS hce ⊢
    have hn : ¬ (kX1_join x x2 x3 x4) = 0 := fun z => hu.2 (hu.1.symm.trans z)
    have hv : VO (kX1_join x x2 x3 x4) V9 ((fX1_join T R n x x2 x3 x4).1).toInt64 = V9 := if_neg hn
    have hkr := kr_join x x2 x3 x4
    rw [hu.1] at hkr
    rcases hkr with h0 | h1 | h3
    · exact absurd h0 hu.2
    · subst h1
      have hE9 : E9 = "java/lang/IndexOutOfBoundsException" := hE9
      subst hE9
      refine vx_catch hown [] _ _ (htab.trans rfl) (fun z hz => absurd hz List.not_mem_nil) rfl (by decide) (hts (.classLink RL 13 "java/lang/IndexOutOfBoundsException") (List.mem_of_getElem? (i := 1) rfl)) (va_Nw.use rfl hE.2.1.1) hce hcv hcl ?_
      refine lv_astore (lv' := [(6, .ref q9), (0, .ref (q 0)), (1, .int x), (2, .int x2), (3, .int x3), (4, .int x4), (5, .ref o9)]) hx hb dL_join_17 hl (by decide) rfl (fun ls hl => ?_)
      refine lv_iconst (v := 1) hx hb dL_join_19 (by decide) ?_
      exact W.iret (v := 1) hx hb hr (fun t9 ht9 hW => ⟨⟨1, (), rfl, (by rw [hu.1]; rfl), ⟨by rw [ht9, hv]; exact hP, by rw [hv]; exact hD⟩⟩, hS.F ht9⟩) hS.2.2 dL_join_20
    · subst h3
      have hE9 : E9 = "java/lang/IllegalArgumentException" := hE9
      subst hE9
      refine vx_catch hown [_] _ _ (htab.trans rfl) (fun z hz => by rw [List.mem_singleton] at hz; subst hz; exact Or.inr ⟨by decide, "java/lang/IndexOutOfBoundsException", hts (.classLink RL 13 "java/lang/IndexOutOfBoundsException") (List.mem_of_getElem? (i := 1) rfl), hE.2.1.2.2.2.2.1⟩) rfl (by decide) (hts (.classLink RL 21 "java/lang/IllegalArgumentException") (List.mem_of_getElem? (i := 2) rfl)) (va_Nw.use rfl hE.2.1.2.2.1) hce hcv hcl ?_
      refine lv_astore (lv' := [(6, .ref q9), (0, .ref (q 0)), (1, .int x), (2, .int x2), (3, .int x3), (4, .int x4), (5, .ref o9)]) hx hb dL_join_21 hl (by decide) rfl (fun ls hl => ?_)
      refine lv_iconst (v := 2) hx hb dL_join_23 (by decide) ?_
      exact W.iret (v := 2) hx hb hr (fun t9 ht9 hW => ⟨⟨2, (), rfl, (by rw [hu.1]; rfl), ⟨by rw [ht9, hv]; exact hP, by rw [hv]; exact hD⟩⟩, hS.F ht9⟩) hS.2.2 dL_join_24
  · obtain ⟨hP1, hD1⟩ := hB
    rw [ht] at hP1
    obtain ⟨hP, hD⟩ := va_join (wr := [(o9, .inl (co, (1, .inr (.inl V9))))]) (w1 := (wB q cq ((fX1_join T R n x x2 x3 x4).2.1) ((fX1_join T R n x x2 x3 x4).2.2.1) S X M P (nI (fX1_join T R n x x2 x3 x4).2.2.2) h k w f d v z)) hP hD [1, 2, 3, 4, 5, 6, 7, 8] [0] rfl rfl (by decide) (by decide) hk1 hFc hP1 hD1
    have hP : va_P D vwCl (wL q cq o9 co V9 ((fX1_join T R n x x2 x3 x4).2.1) ((fX1_join T R n x x2 x3 x4).2.2.1) S X M P (nI (fX1_join T R n x x2 x3 x4).2.2.2) h k w f d v z) H1 := hP
    have hD : va_D A (wL q cq o9 co V9 ((fX1_join T R n x x2 x3 x4).2.1) ((fX1_join T R n x x2 x3 x4).2.2.1) S X M P (nI (fX1_join T R n x x2 x3 x4).2.2.2) h k w f d v z) := hD
    generalize H1 = H at hP hS ⊢
    obtain ⟨hk, hw⟩ := hw
    have hv : VO (kX1_join x x2 x3 x4) V9 ((fX1_join T R n x x2 x3 x4).1).toInt64 = vp_updL V9 0 ((fX1_join T R n x x2 x3 x4).1).toInt64 := if_pos hk
    subst r9
    refine lv_i2l hx hb dL_join_12 rfl ?_
    refine va_last hx hb hK hP hD hS 0 0 rfl rfl (i := 0) (vp_in_nI (n := 0) (N := 1) (by decide) (by decide)) dL_join_13 (fun H locs hP hD hS => ?_)
    have hP : va_P D vwCl (wL q cq o9 co (vp_updL V9 0 ((fX1_join T R n x x2 x3 x4).1).toInt64) ((fX1_join T R n x x2 x3 x4).2.1) ((fX1_join T R n x x2 x3 x4).2.2.1) S X M P (nI (fX1_join T R n x x2 x3 x4).2.2.2) h k w f d v z) H := hP
    have hD : va_D A (wL q cq o9 co (vp_updL V9 0 ((fX1_join T R n x x2 x3 x4).1).toInt64) ((fX1_join T R n x x2 x3 x4).2.1) ((fX1_join T R n x x2 x3 x4).2.2.1) S X M P (nI (fX1_join T R n x x2 x3 x4).2.2.2) h k w f d v z) := hD
    refine lv_goto (tgt := 25) hx hb dL_join_14 (by decide) ?_
    refine lv_iconst (v := 0) hx hb dL_join_25 (by decide) ?_
    exact W.iret (v := 0) hx hb hr (fun t9 ht9 hW => ⟨⟨0, (), rfl, (by rw [hk]; rfl), ⟨by rw [ht9, hv]; exact hP, by rw [hv]; exact hD⟩⟩, hS.F ht9⟩) hS.2.2 dL_join_26
theorem kr_fix (x : Int32) (x2 : Int32) : (kX1_fix x x2) = 0 ∨ (kX1_fix x x2) = 1 := by
  unfold kX1_fix
  try unfold kX1_checkFunction
  try unfold kX1_checkVariable
  try unfold kX1_validTextProducts
  repeat' split
  all_goals (first | (simp; done) | (simp_all; done) | omega)
set_option maxHeartbeats 4000000 in
set_option maxRecDepth 100000 in
theorem c_L_fix (l : Launch) (hst : l.stackTraces = false) (D : va_G) (q : Nat → Nat) (cq : Nat → ClassId) (o9 : Nat) (co : ClassId) (V9 : Nat → Int64) (sz : Nat) (T : Nat → Int32) (R : Nat → Int32) (S : Nat → Int32) (X : Nat → Int32) (M : Nat → Int32) (P : Nat → Int32) (n : Nat) (h : Int32) (k : Int32) (w : Int32) (f : Int32) (d : Int32) (v : Int32) (z : Int32) (x : Int32) (x2 : Int32) (x3 : Int32) (hn : n ≤ 4) : Met l yL_fix wsL_fix ({ frames := 8, cells := 1, slots := 6, locals := 200 }) (va_Pc [.ref (q 0), .int x, .int x2, .int x3, .ref o9] (fun U => U.heap.size = sz ∧ va_P D vwCl (wL q cq o9 co V9 T R S X M P (nI n) h k w f d v z) U.heap ∧ va_K D vwCl (tyL cq co) U ∧ va_D (fun _ => True) (wL q cq o9 co V9 T R S X M P (nI n) h k w f d v z) ∧ envE (va_A (wL q cq o9 co V9 T R S X M P (nI n) h k w f d v z) sz) U)) (va_Qi (fun r9 (_ : Unit) => r9 = cd1 (kX1_fix x x2)) (fun _ t9 => va_P D vwCl (wL q cq o9 co (VO (kX1_fix x x2) V9 ((fX1_fix T R n x x2 x3).1).toInt64) ((fX1_fix T R n x x2 x3).2.1) ((fX1_fix T R n x x2 x3).2.2.1) S X M P (nI (fX1_fix T R n x x2 x3).2.2.2) h k w f d v z) t9.heap ∧ va_D (va_A (wL q cq o9 co V9 T R S X M P (nI n) h k w f d v z) sz) (wL q cq o9 co (VO (kX1_fix x x2) V9 ((fX1_fix T R n x x2 x3).1).toInt64) ((fX1_fix T R n x x2 x3).2.1) ((fX1_fix T R n x x2 x3).2.2.1) S X M P (nI (fX1_fix T R n x x2 x3).2.2.2) h k w f d v z)) (va_A (wL q cq o9 co V9 T R S X M P (nI n) h k w f d v z) sz)) 1 6 (va_A (wL q cq o9 co V9 T R S X M P (nI n) h k w f d v z) sz) := by
  refine vw_ofWH (cc := cL_fix) (maxL := 6) (ret := (some .int)) (hh := [(0, 12, 15, 13)]) (by decide) rfl ?_
  intro p e s m args below meth c s₁ B hml hv
  obtain ⟨rfl, hsz, hP, hK, hD0, hE⟩ := hv
  have hx := B.exec
  have hb := B.bytes
  have hr := B.returns
  have hts := atoms_spec (ws := wsL_fix) B.pre
  have hown : s.vm.findClass RL = some m.cls := findClass_of_methodNamed B.named
  have hlocks := B.notSynchronized
  have htab := vx_table B (x := yL_fix) (y := yL_fix) (bytes := cL_fix) (maxL' := 6) (ret' := (some .int)) (hh := [(0, 12, 15, 13)]) (hts _ List.mem_cons_self)
  subst hsz
  have hD := hD0.self (sz := s.heap.size)
  generalize hAe : va_A (wL q cq o9 co V9 T R S X M P (nI n) h k w f d v z) s.heap.size = A at hD hE ⊢
  have hA : ∀ q : Nat, s.heap.size ≤ q → A q := fun q h => by rw [← hAe]; exact Or.inr h
  have hS : va_S A s.heap s.heap [] := va_S.rf
  have hP : va_P D vwCl (wL q cq o9 co V9 T R S X M P (nI n) h k w f d v z) s.heap := hP
  have hl := lv_entry ([.ref (q 0), .int x, .int x2, .int x3, .ref o9]) (n := 6) (Nat.le_of_ble_eq_true rfl)
  rw [lg_entry_eq]
  generalize (lg_sl ([.ref (q 0), .int x, .int x2, .int x3, .ref o9]) ++ List.replicate (6 - (lg_sl ([.ref (q 0), .int x, .int x2, .int x3, .ref o9])).length) Slot.unset).toArray = ls at hl ⊢
  have hl : lv_has ls 6 [(0, .ref (q 0)), (1, .int x), (2, .int x2), (3, .int x3), (4, .ref o9)] := hl
  refine lv_aload hx hb dL_fix_0 (lv_at hl 4 rfl) ?_
  refine lv_iconst (v := 0) hx hb dL_fix_2 (by decide) ?_
  refine lv_aload_n hx hb dL_fix_3 rfl (lv_at hl 0 rfl) ?_
  refine lv_iload_n hx hb dL_fix_4 rfl (lv_at hl 1 rfl) ?_
  refine lv_iload_n hx hb dL_fix_5 rfl (lv_at hl 2 rfl) ?_
  refine lv_iload_n hx hb dL_fix_6 rfl (lv_at hl 3 rfl) ?_
  have hPc := hP.sub (ws' := (wB q cq T R S X M P (nI n) h k w f d v z)) [1, 2, 3, 4, 5, 6, 7, 8] rfl
  have hKc := hK.sub (tys' := (tyB cq)) [1, 2, 3, 4, 5, 6] rfl
  have hDc := hD.sub (ws' := (wB q cq T R S X M P (nI n) h k w f d v z)) [1, 2, 3, 4, 5, 6, 7, 8] (by decide) rfl
  have hFc := va_free (wc := (wB q cq T R S X M P (nI n) h k w f d v z)) hD hS hA [1, 2, 3, 4, 5, 6, 7, 8] rfl
  refine vx_calli (vx_runV (As := [.int x, .int x2, .int x3]) (rest := [.int 0, .ref o9]) ⟨hx, hb, hml, hown, hts⟩ (c_X1_fix l hst D q cq s.heap.size T R S X M P n h k w f d v z x x2 x3 hn) (cwV 3 hts gL_fix_X1_fix rfl rfl rfl (by decide +kernel) ⟨Nat.le_of_ble_eq_true rfl, Nat.le_of_ble_eq_true rfl⟩) ⟨fun a U g mk z => ⟨z.1, z.2.1, z.2.2.1, va_K.moved (u := U) (U := U.calling g mk a) (Vm.Alike.refl U.vm) z.2.2.2.1, z.2.2.2.2.1, z.2.2.2.2.2.blind g mk a⟩, va_recv hKc hPc (ci := 1) (q0 := 0) rfl rfl, fun U hU hW => ⟨rfl, by rw [hU], by rw [hU]; exact hPc, va_K.moved hW.alike hKc, hDc.weaken (fun _ _ _ _ => trivial), hE.at hS hU hW hFc⟩⟩ rfl rfl hl.1 rfl (lv_room (Nat.le_of_ble_eq_true rfl)) dL_fix_7 ⟨Nat.le_of_ble_eq_true rfl, Nat.le_of_ble_eq_true rfl⟩) hS (fun q _ h => hFc q h) hFc (fun q _ h => hFc q h) (fun E9 ce q9 u9 t8 H1 locs ht hvm hu hB0 hz1 hk1 hS hce hcv hcl => ?_) (fun r9 u9 t8 H1 locs ht hvm hw hB hz1 hk1 hS => ?_)
  · obtain ⟨hE9, hP1, hD1⟩ := hB0
    rw [ht] at hP1
    obtain ⟨hP, hD⟩ := va_join (wr := [(o9, .inl (co, (1, .inr (.inl V9))))]) (w1 := (wB q cq ((fX1_fix T R n x x2 x3).2.1) ((fX1_fix T R n x x2 x3).2.2.1) S X M P (nI (fX1_fix T R n x x2 x3).2.2.2) h k w f d v z)) hP hD [1, 2, 3, 4, 5, 6, 7, 8] [0] rfl rfl (by decide) (by decide) hk1 hFc hP1 hD1
    have hP : va_P D vwCl (wL q cq o9 co V9 ((fX1_fix T R n x x2 x3).2.1) ((fX1_fix T R n x x2 x3).2.2.1) S X M P (nI (fX1_fix T R n x x2 x3).2.2.2) h k w f d v z) H1 := hP
    have hD : va_D A (wL q cq o9 co V9 ((fX1_fix T R n x x2 x3).2.1) ((fX1_fix T R n x x2 x3).2.2.1) S X M P (nI (fX1_fix T R n x x2 x3).2.2.2) h k w f d v z) := hD
    generalize H1 = H at hP hS hce ⊢
    have hn : ¬ (kX1_fix x x2) = 0 := fun z => hu.2 (hu.1.symm.trans z)
    have hv : VO (kX1_fix x x2) V9 ((fX1_fix T R n x x2 x3).1).toInt64 = V9 := if_neg hn
    have hkr := kr_fix x x2
    rw [hu.1] at hkr
    rcases hkr with h0 | h1
    · exact absurd h0 hu.2
    · subst h1
      have hE9 : E9 = "java/lang/IndexOutOfBoundsException" := hE9
      subst hE9
      refine vx_catch hown [] _ _ (htab.trans rfl) (fun z hz => absurd hz List.not_mem_nil) rfl (by decide) (hts (.classLink RL 13 "java/lang/IndexOutOfBoundsException") (List.mem_of_getElem? (i := 1) rfl)) (va_Nw.use rfl hE.2.1.1) hce hcv hcl ?_
      refine lv_astore (lv' := [(5, .ref q9), (0, .ref (q 0)), (1, .int x), (2, .int x2), (3, .int x3), (4, .ref o9)]) hx hb dL_fix_15 hl (by decide) rfl (fun ls hl => ?_)
      refine lv_iconst (v := 1) hx hb dL_fix_17 (by decide) ?_
      exact W.iret (v := 1) hx hb hr (fun t9 ht9 hW => ⟨⟨1, (), rfl, (by rw [hu.1]; rfl), ⟨by rw [ht9, hv]; exact hP, by rw [hv]; exact hD⟩⟩, hS.F ht9⟩) hS.2.2 dL_fix_18
  · obtain ⟨hP1, hD1⟩ := hB
    rw [ht] at hP1
    obtain ⟨hP, hD⟩ := va_join (wr := [(o9, .inl (co, (1, .inr (.inl V9))))]) (w1 := (wB q cq ((fX1_fix T R n x x2 x3).2.1) ((fX1_fix T R n x x2 x3).2.2.1) S X M P (nI (fX1_fix T R n x x2 x3).2.2.2) h k w f d v z)) hP hD [1, 2, 3, 4, 5, 6, 7, 8] [0] rfl rfl (by decide) (by decide) hk1 hFc hP1 hD1
    have hP : va_P D vwCl (wL q cq o9 co V9 ((fX1_fix T R n x x2 x3).2.1) ((fX1_fix T R n x x2 x3).2.2.1) S X M P (nI (fX1_fix T R n x x2 x3).2.2.2) h k w f d v z) H1 := hP
    have hD : va_D A (wL q cq o9 co V9 ((fX1_fix T R n x x2 x3).2.1) ((fX1_fix T R n x x2 x3).2.2.1) S X M P (nI (fX1_fix T R n x x2 x3).2.2.2) h k w f d v z) := hD
    generalize H1 = H at hP hS ⊢
    obtain ⟨hk, hw⟩ := hw
    have hv : VO (kX1_fix x x2) V9 ((fX1_fix T R n x x2 x3).1).toInt64 = vp_updL V9 0 ((fX1_fix T R n x x2 x3).1).toInt64 := if_pos hk
    subst r9
    refine lv_i2l hx hb dL_fix_10 rfl ?_
    refine va_last hx hb hK hP hD hS 0 0 rfl rfl (i := 0) (vp_in_nI (n := 0) (N := 1) (by decide) (by decide)) dL_fix_11 (fun H locs hP hD hS => ?_)
    have hP : va_P D vwCl (wL q cq o9 co (vp_updL V9 0 ((fX1_fix T R n x x2 x3).1).toInt64) ((fX1_fix T R n x x2 x3).2.1) ((fX1_fix T R n x x2 x3).2.2.1) S X M P (nI (fX1_fix T R n x x2 x3).2.2.2) h k w f d v z) H := hP
    have hD : va_D A (wL q cq o9 co (vp_updL V9 0 ((fX1_fix T R n x x2 x3).1).toInt64) ((fX1_fix T R n x x2 x3).2.1) ((fX1_fix T R n x x2 x3).2.2.1) S X M P (nI (fX1_fix T R n x x2 x3).2.2.2) h k w f d v z) := hD
    refine lv_goto (tgt := 19) hx hb dL_fix_12 (by decide) ?_
    refine lv_iconst (v := 0) hx hb dL_fix_19 (by decide) ?_
    exact W.iret (v := 0) hx hb hr (fun t9 ht9 hW => ⟨⟨0, (), rfl, (by rw [hk]; rfl), ⟨by rw [ht9, hv]; exact hP, by rw [hv]; exact hD⟩⟩, hS.F ht9⟩) hS.2.2 dL_fix_20
theorem kr_substitute (x : Int32) (x2 : Int32) (x3 : Int32) : (kX1_substitute x x2 x3) = 0 ∨ (kX1_substitute x x2 x3) = 1 := by
  unfold kX1_substitute
  try unfold kX1_checkFunction
  try unfold kX1_checkVariable
  try unfold kX1_validTextProducts
  repeat' split
  all_goals (first | (simp; done) | (simp_all; done) | omega)
set_option maxHeartbeats 4000000 in
set_option maxRecDepth 100000 in
theorem c_L_substitute (l : Launch) (hst : l.stackTraces = false) (D : va_G) (q : Nat → Nat) (cq : Nat → ClassId) (o9 : Nat) (co : ClassId) (V9 : Nat → Int64) (sz : Nat) (T : Nat → Int32) (R : Nat → Int32) (S : Nat → Int32) (X : Nat → Int32) (M : Nat → Int32) (P : Nat → Int32) (n : Nat) (h : Int32) (k : Int32) (w : Int32) (f : Int32) (d : Int32) (v : Int32) (z : Int32) (x : Int32) (x2 : Int32) (x3 : Int32) (hn : n ≤ 4) : Met l yL_substitute wsL_substitute ({ frames := 8, cells := 1, slots := 6, locals := 200 }) (va_Pc [.ref (q 0), .int x, .int x2, .int x3, .ref o9] (fun U => U.heap.size = sz ∧ va_P D vwCl (wL q cq o9 co V9 T R S X M P (nI n) h k w f d v z) U.heap ∧ va_K D vwCl (tyL cq co) U ∧ va_D (fun _ => True) (wL q cq o9 co V9 T R S X M P (nI n) h k w f d v z) ∧ envE (va_A (wL q cq o9 co V9 T R S X M P (nI n) h k w f d v z) sz) U)) (va_Qi (fun r9 (_ : Unit) => r9 = cd1 (kX1_substitute x x2 x3)) (fun _ t9 => va_P D vwCl (wL q cq o9 co (VO (kX1_substitute x x2 x3) V9 ((fX1_substitute T R n x x2 x3).1).toInt64) ((fX1_substitute T R n x x2 x3).2.1) ((fX1_substitute T R n x x2 x3).2.2.1) S X M P (nI (fX1_substitute T R n x x2 x3).2.2.2) h k w f d v z) t9.heap ∧ va_D (va_A (wL q cq o9 co V9 T R S X M P (nI n) h k w f d v z) sz) (wL q cq o9 co (VO (kX1_substitute x x2 x3) V9 ((fX1_substitute T R n x x2 x3).1).toInt64) ((fX1_substitute T R n x x2 x3).2.1) ((fX1_substitute T R n x x2 x3).2.2.1) S X M P (nI (fX1_substitute T R n x x2 x3).2.2.2) h k w f d v z)) (va_A (wL q cq o9 co V9 T R S X M P (nI n) h k w f d v z) sz)) 1 6 (va_A (wL q cq o9 co V9 T R S X M P (nI n) h k w f d v z) sz) := by
  refine vw_ofWH (cc := cL_substitute) (maxL := 6) (ret := (some .int)) (hh := [(0, 12, 15, 13)]) (by decide) rfl ?_
  intro p e s m args below meth c s₁ B hml hv
  obtain ⟨rfl, hsz, hP, hK, hD0, hE⟩ := hv
  have hx := B.exec
  have hb := B.bytes
  have hr := B.returns
  have hts := atoms_spec (ws := wsL_substitute) B.pre
  have hown : s.vm.findClass RL = some m.cls := findClass_of_methodNamed B.named
  have hlocks := B.notSynchronized
  have htab := vx_table B (x := yL_substitute) (y := yL_substitute) (bytes := cL_substitute) (maxL' := 6) (ret' := (some .int)) (hh := [(0, 12, 15, 13)]) (hts _ List.mem_cons_self)
  subst hsz
  have hD := hD0.self (sz := s.heap.size)
  generalize hAe : va_A (wL q cq o9 co V9 T R S X M P (nI n) h k w f d v z) s.heap.size = A at hD hE ⊢
  have hA : ∀ q : Nat, s.heap.size ≤ q → A q := fun q h => by rw [← hAe]; exact Or.inr h
  have hS : va_S A s.heap s.heap [] := va_S.rf
  have hP : va_P D vwCl (wL q cq o9 co V9 T R S X M P (nI n) h k w f d v z) s.heap := hP
  have hl := lv_entry ([.ref (q 0), .int x, .int x2, .int x3, .ref o9]) (n := 6) (Nat.le_of_ble_eq_true rfl)
  rw [lg_entry_eq]
  generalize (lg_sl ([.ref (q 0), .int x, .int x2, .int x3, .ref o9]) ++ List.replicate (6 - (lg_sl ([.ref (q 0), .int x, .int x2, .int x3, .ref o9])).length) Slot.unset).toArray = ls at hl ⊢
  have hl : lv_has ls 6 [(0, .ref (q 0)), (1, .int x), (2, .int x2), (3, .int x3), (4, .ref o9)] := hl
  refine lv_aload hx hb dL_substitute_0 (lv_at hl 4 rfl) ?_
  refine lv_iconst (v := 0) hx hb dL_substitute_2 (by decide) ?_
  refine lv_aload_n hx hb dL_substitute_3 rfl (lv_at hl 0 rfl) ?_
  refine lv_iload_n hx hb dL_substitute_4 rfl (lv_at hl 1 rfl) ?_
  refine lv_iload_n hx hb dL_substitute_5 rfl (lv_at hl 2 rfl) ?_
  refine lv_iload_n hx hb dL_substitute_6 rfl (lv_at hl 3 rfl) ?_
  have hPc := hP.sub (ws' := (wB q cq T R S X M P (nI n) h k w f d v z)) [1, 2, 3, 4, 5, 6, 7, 8] rfl
  have hKc := hK.sub (tys' := (tyB cq)) [1, 2, 3, 4, 5, 6] rfl
  have hDc := hD.sub (ws' := (wB q cq T R S X M P (nI n) h k w f d v z)) [1, 2, 3, 4, 5, 6, 7, 8] (by decide) rfl
  have hFc := va_free (wc := (wB q cq T R S X M P (nI n) h k w f d v z)) hD hS hA [1, 2, 3, 4, 5, 6, 7, 8] rfl
  refine vx_calli (vx_runV (As := [.int x, .int x2, .int x3]) (rest := [.int 0, .ref o9]) ⟨hx, hb, hml, hown, hts⟩ (c_X1_substitute l hst D q cq s.heap.size T R S X M P n h k w f d v z x x2 x3 hn) (cwV 3 hts gL_substitute_X1_substitute rfl rfl rfl (by decide +kernel) ⟨Nat.le_of_ble_eq_true rfl, Nat.le_of_ble_eq_true rfl⟩) ⟨fun a U g mk z => ⟨z.1, z.2.1, z.2.2.1, va_K.moved (u := U) (U := U.calling g mk a) (Vm.Alike.refl U.vm) z.2.2.2.1, z.2.2.2.2.1, z.2.2.2.2.2.blind g mk a⟩, va_recv hKc hPc (ci := 1) (q0 := 0) rfl rfl, fun U hU hW => ⟨rfl, by rw [hU], by rw [hU]; exact hPc, va_K.moved hW.alike hKc, hDc.weaken (fun _ _ _ _ => trivial), hE.at hS hU hW hFc⟩⟩ rfl rfl hl.1 rfl (lv_room (Nat.le_of_ble_eq_true rfl)) dL_substitute_7 ⟨Nat.le_of_ble_eq_true rfl, Nat.le_of_ble_eq_true rfl⟩) hS (fun q _ h => hFc q h) hFc (fun q _ h => hFc q h) (fun E9 ce q9 u9 t8 H1 locs ht hvm hu hB0 hz1 hk1 hS hce hcv hcl => ?_) (fun r9 u9 t8 H1 locs ht hvm hw hB hz1 hk1 hS => ?_)
  · obtain ⟨hE9, hP1, hD1⟩ := hB0
    rw [ht] at hP1
    obtain ⟨hP, hD⟩ := va_join (wr := [(o9, .inl (co, (1, .inr (.inl V9))))]) (w1 := (wB q cq ((fX1_substitute T R n x x2 x3).2.1) ((fX1_substitute T R n x x2 x3).2.2.1) S X M P (nI (fX1_substitute T R n x x2 x3).2.2.2) h k w f d v z)) hP hD [1, 2, 3, 4, 5, 6, 7, 8] [0] rfl rfl (by decide) (by decide) hk1 hFc hP1 hD1
    have hP : va_P D vwCl (wL q cq o9 co V9 ((fX1_substitute T R n x x2 x3).2.1) ((fX1_substitute T R n x x2 x3).2.2.1) S X M P (nI (fX1_substitute T R n x x2 x3).2.2.2) h k w f d v z) H1 := hP
    have hD : va_D A (wL q cq o9 co V9 ((fX1_substitute T R n x x2 x3).2.1) ((fX1_substitute T R n x x2 x3).2.2.1) S X M P (nI (fX1_substitute T R n x x2 x3).2.2.2) h k w f d v z) := hD
    generalize H1 = H at hP hS hce ⊢
    have hn : ¬ (kX1_substitute x x2 x3) = 0 := fun z => hu.2 (hu.1.symm.trans z)
    have hv : VO (kX1_substitute x x2 x3) V9 ((fX1_substitute T R n x x2 x3).1).toInt64 = V9 := if_neg hn
    have hkr := kr_substitute x x2 x3
    rw [hu.1] at hkr
    rcases hkr with h0 | h1
    · exact absurd h0 hu.2
    · subst h1
      have hE9 : E9 = "java/lang/IndexOutOfBoundsException" := hE9
      subst hE9
      refine vx_catch hown [] _ _ (htab.trans rfl) (fun z hz => absurd hz List.not_mem_nil) rfl (by decide) (hts (.classLink RL 13 "java/lang/IndexOutOfBoundsException") (List.mem_of_getElem? (i := 1) rfl)) (va_Nw.use rfl hE.2.1.1) hce hcv hcl ?_
      refine lv_astore (lv' := [(5, .ref q9), (0, .ref (q 0)), (1, .int x), (2, .int x2), (3, .int x3), (4, .ref o9)]) hx hb dL_substitute_15 hl (by decide) rfl (fun ls hl => ?_)
      refine lv_iconst (v := 1) hx hb dL_substitute_17 (by decide) ?_
      exact W.iret (v := 1) hx hb hr (fun t9 ht9 hW => ⟨⟨1, (), rfl, (by rw [hu.1]; rfl), ⟨by rw [ht9, hv]; exact hP, by rw [hv]; exact hD⟩⟩, hS.F ht9⟩) hS.2.2 dL_substitute_18
  · obtain ⟨hP1, hD1⟩ := hB
    rw [ht] at hP1
    obtain ⟨hP, hD⟩ := va_join (wr := [(o9, .inl (co, (1, .inr (.inl V9))))]) (w1 := (wB q cq ((fX1_substitute T R n x x2 x3).2.1) ((fX1_substitute T R n x x2 x3).2.2.1) S X M P (nI (fX1_substitute T R n x x2 x3).2.2.2) h k w f d v z)) hP hD [1, 2, 3, 4, 5, 6, 7, 8] [0] rfl rfl (by decide) (by decide) hk1 hFc hP1 hD1
    have hP : va_P D vwCl (wL q cq o9 co V9 ((fX1_substitute T R n x x2 x3).2.1) ((fX1_substitute T R n x x2 x3).2.2.1) S X M P (nI (fX1_substitute T R n x x2 x3).2.2.2) h k w f d v z) H1 := hP
    have hD : va_D A (wL q cq o9 co V9 ((fX1_substitute T R n x x2 x3).2.1) ((fX1_substitute T R n x x2 x3).2.2.1) S X M P (nI (fX1_substitute T R n x x2 x3).2.2.2) h k w f d v z) := hD
    generalize H1 = H at hP hS ⊢
    obtain ⟨hk, hw⟩ := hw
    have hv : VO (kX1_substitute x x2 x3) V9 ((fX1_substitute T R n x x2 x3).1).toInt64 = vp_updL V9 0 ((fX1_substitute T R n x x2 x3).1).toInt64 := if_pos hk
    subst r9
    refine lv_i2l hx hb dL_substitute_10 rfl ?_
    refine va_last hx hb hK hP hD hS 0 0 rfl rfl (i := 0) (vp_in_nI (n := 0) (N := 1) (by decide) (by decide)) dL_substitute_11 (fun H locs hP hD hS => ?_)
    have hP : va_P D vwCl (wL q cq o9 co (vp_updL V9 0 ((fX1_substitute T R n x x2 x3).1).toInt64) ((fX1_substitute T R n x x2 x3).2.1) ((fX1_substitute T R n x x2 x3).2.2.1) S X M P (nI (fX1_substitute T R n x x2 x3).2.2.2) h k w f d v z) H := hP
    have hD : va_D A (wL q cq o9 co (vp_updL V9 0 ((fX1_substitute T R n x x2 x3).1).toInt64) ((fX1_substitute T R n x x2 x3).2.1) ((fX1_substitute T R n x x2 x3).2.2.1) S X M P (nI (fX1_substitute T R n x x2 x3).2.2.2) h k w f d v z) := hD
    refine lv_goto (tgt := 19) hx hb dL_substitute_12 (by decide) ?_
    refine lv_iconst (v := 0) hx hb dL_substitute_19 (by decide) ?_
    exact W.iret (v := 0) hx hb hr (fun t9 ht9 hW => ⟨⟨0, (), rfl, (by rw [hk]; rfl), ⟨by rw [ht9, hv]; exact hP, by rw [hv]; exact hD⟩⟩, hS.F ht9⟩) hS.2.2 dL_substitute_20
theorem kr_type (k : Nat) : (kX1_type k) = 0 ∨ (kX1_type k) = 2 := by
  unfold kX1_type
  try unfold kX1_checkFunction
  try unfold kX1_checkVariable
  try unfold kX1_validTextProducts
  repeat' split
  all_goals (first | (simp; done) | (simp_all; done) | omega)
set_option maxHeartbeats 4000000 in
set_option maxRecDepth 100000 in
theorem c_L_type (l : Launch) (hst : l.stackTraces = false) (D : va_G) (q : Nat → Nat) (cq : Nat → ClassId) (o9 : Nat) (co : ClassId) (V9 : Nat → Int64) (sz : Nat) (T : Nat → Int32) (R : Nat → Int32) (S : Nat → Int32) (X : Nat → Int32) (M : Nat → Int32) (P : Nat → Int32) (n : Int32) (h : Int32) (k : Nat) (w : Int32) (f : Int32) (d : Int32) (v : Int32) (z : Int32) (x : Int32) (hk9 : k ≤ 80) (hx9 : vp_nar .char x = x) : Met l yL_type wsL_type ({ frames := 8, cells := 1, slots := 6, locals := 200 }) (va_Pc [.ref (q 0), .int x, .ref o9] (fun U => U.heap.size = sz ∧ va_P D vwCl (wL q cq o9 co V9 T R S X M P n h (nI k) w f d v z) U.heap ∧ va_K D vwCl (tyL cq co) U ∧ va_D (fun _ => True) (wL q cq o9 co V9 T R S X M P n h (nI k) w f d v z) ∧ envE (va_A (wL q cq o9 co V9 T R S X M P n h (nI k) w f d v z) sz) U)) (va_Qi (fun r9 (_ : Unit) => r9 = cd1 (kX1_type k)) (fun _ t9 => va_P D vwCl (wL q cq o9 co (VO (kX1_type k) V9 ((fX1_type X k x).1).toInt64) T R S ((fX1_type X k x).2.1) M P n h (nI (fX1_type X k x).2.2) w f d v z) t9.heap ∧ va_D (va_A (wL q cq o9 co V9 T R S X M P n h (nI k) w f d v z) sz) (wL q cq o9 co (VO (kX1_type k) V9 ((fX1_type X k x).1).toInt64) T R S ((fX1_type X k x).2.1) M P n h (nI (fX1_type X k x).2.2) w f d v z)) (va_A (wL q cq o9 co V9 T R S X M P n h (nI k) w f d v z) sz)) 1 6 (va_A (wL q cq o9 co V9 T R S X M P n h (nI k) w f d v z) sz) := by
  refine vw_ofWH (cc := cL_type) (maxL := 4) (ret := (some .int)) (hh := [(0, 9, 12, 15)]) (by decide) rfl ?_
  intro p e s m args below meth c s₁ B hml hv
  obtain ⟨rfl, hsz, hP, hK, hD0, hE⟩ := hv
  have hx := B.exec
  have hb := B.bytes
  have hr := B.returns
  have hts := atoms_spec (ws := wsL_type) B.pre
  have hown : s.vm.findClass RL = some m.cls := findClass_of_methodNamed B.named
  have hlocks := B.notSynchronized
  have htab := vx_table B (x := yL_type) (y := yL_type) (bytes := cL_type) (maxL' := 4) (ret' := (some .int)) (hh := [(0, 9, 12, 15)]) (hts _ List.mem_cons_self)
  subst hsz
  have hD := hD0.self (sz := s.heap.size)
  generalize hAe : va_A (wL q cq o9 co V9 T R S X M P n h (nI k) w f d v z) s.heap.size = A at hD hE ⊢
  have hA : ∀ q : Nat, s.heap.size ≤ q → A q := fun q h => by rw [← hAe]; exact Or.inr h
  have hS : va_S A s.heap s.heap [] := va_S.rf
  have hP : va_P D vwCl (wL q cq o9 co V9 T R S X M P n h (nI k) w f d v z) s.heap := hP
  have hl := lv_entry ([.ref (q 0), .int x, .ref o9]) (n := 4) (Nat.le_of_ble_eq_true rfl)
  rw [lg_entry_eq]
  generalize (lg_sl ([.ref (q 0), .int x, .ref o9]) ++ List.replicate (4 - (lg_sl ([.ref (q 0), .int x, .ref o9])).length) Slot.unset).toArray = ls at hl ⊢
  have hl : lv_has ls 4 [(0, .ref (q 0)), (1, .int x), (2, .ref o9)] := hl
  refine lv_aload_n hx hb dL_type_0 rfl (lv_at hl 2 rfl) ?_
  refine lv_iconst (v := 0) hx hb dL_type_1 (by decide) ?_
  refine lv_aload_n hx hb dL_type_2 rfl (lv_at hl 0 rfl) ?_
  refine lv_iload_n hx hb dL_type_3 rfl (lv_at hl 1 rfl) ?_
  have hPc := hP.sub (ws' := (wB q cq T R S X M P n h (nI k) w f d v z)) [1, 2, 3, 4, 5, 6, 7, 8] rfl
  have hKc := hK.sub (tys' := (tyB cq)) [1, 2, 3, 4, 5, 6] rfl
  have hDc := hD.sub (ws' := (wB q cq T R S X M P n h (nI k) w f d v z)) [1, 2, 3, 4, 5, 6, 7, 8] (by decide) rfl
  have hFc := va_free (wc := (wB q cq T R S X M P n h (nI k) w f d v z)) hD hS hA [1, 2, 3, 4, 5, 6, 7, 8] rfl
  refine vx_calli (vx_runV (As := [.int x]) (rest := [.int 0, .ref o9]) ⟨hx, hb, hml, hown, hts⟩ (c_X1_type l hst D q cq s.heap.size T R S X M P n h k w f d v z x hk9 hx9) (cwV 1 hts gL_type_X1_type rfl rfl rfl (by decide +kernel) ⟨Nat.le_of_ble_eq_true rfl, Nat.le_of_ble_eq_true rfl⟩) ⟨fun a U g mk z => ⟨z.1, z.2.1, z.2.2.1, va_K.moved (u := U) (U := U.calling g mk a) (Vm.Alike.refl U.vm) z.2.2.2.1, z.2.2.2.2.1, z.2.2.2.2.2.blind g mk a⟩, va_recv hKc hPc (ci := 1) (q0 := 0) rfl rfl, fun U hU hW => ⟨rfl, by rw [hU], by rw [hU]; exact hPc, va_K.moved hW.alike hKc, hDc.weaken (fun _ _ _ _ => trivial), hE.at hS hU hW hFc⟩⟩ rfl rfl hl.1 rfl (lv_room (Nat.le_of_ble_eq_true rfl)) dL_type_4 ⟨Nat.le_of_ble_eq_true rfl, Nat.le_of_ble_eq_true rfl⟩) hS (fun q _ h => hFc q h) hFc (fun q _ h => hFc q h) (fun E9 ce q9 u9 t8 H1 locs ht hvm hu hB0 hz1 hk1 hS hce hcv hcl => ?_) (fun r9 u9 t8 H1 locs ht hvm hw hB hz1 hk1 hS => ?_)
  · obtain ⟨hE9, hP1, hD1⟩ := hB0
    rw [ht] at hP1
    obtain ⟨hP, hD⟩ := va_join (wr := [(o9, .inl (co, (1, .inr (.inl V9))))]) (w1 := (wB q cq T R S ((fX1_type X k x).2.1) M P n h (nI (fX1_type X k x).2.2) w f d v z)) hP hD [1, 2, 3, 4, 5, 6, 7, 8] [0] rfl rfl (by decide) (by decide) hk1 hFc hP1 hD1
    have hP : va_P D vwCl (wL q cq o9 co V9 T R S ((fX1_type X k x).2.1) M P n h (nI (fX1_type X k x).2.2) w f d v z) H1 := hP
    have hD : va_D A (wL q cq o9 co V9 T R S ((fX1_type X k x).2.1) M P n h (nI (fX1_type X k x).2.2) w f d v z) := hD
    generalize H1 = H at hP hS hce ⊢
    have hn : ¬ (kX1_type k) = 0 := fun z => hu.2 (hu.1.symm.trans z)
    have hv : VO (kX1_type k) V9 ((fX1_type X k x).1).toInt64 = V9 := if_neg hn
    have hkr := kr_type k
    rw [hu.1] at hkr
    rcases hkr with h0 | h2
    · exact absurd h0 hu.2
    · subst h2
      have hE9 : E9 = "java/lang/IllegalStateException" := hE9
      subst hE9
      refine vx_catch hown [] _ _ (htab.trans rfl) (fun z hz => absurd hz List.not_mem_nil) rfl (by decide) (hts (.classLink RL 15 "java/lang/IllegalStateException") (List.mem_of_getElem? (i := 1) rfl)) (va_Nw.use rfl hE.2.1.2.1) hce hcv hcl ?_
      refine lv_astore_n (lv' := [(3, .ref q9), (0, .ref (q 0)), (1, .int x), (2, .ref o9)]) hx hb dL_type_12 rfl hl (by decide) rfl (fun ls hl => ?_)
      refine lv_iconst (v := 1) hx hb dL_type_13 (by decide) ?_
      exact W.iret (v := 1) hx hb hr (fun t9 ht9 hW => ⟨⟨1, (), rfl, (by rw [hu.1]; rfl), ⟨by rw [ht9, hv]; exact hP, by rw [hv]; exact hD⟩⟩, hS.F ht9⟩) hS.2.2 dL_type_14
  · obtain ⟨hP1, hD1⟩ := hB
    rw [ht] at hP1
    obtain ⟨hP, hD⟩ := va_join (wr := [(o9, .inl (co, (1, .inr (.inl V9))))]) (w1 := (wB q cq T R S ((fX1_type X k x).2.1) M P n h (nI (fX1_type X k x).2.2) w f d v z)) hP hD [1, 2, 3, 4, 5, 6, 7, 8] [0] rfl rfl (by decide) (by decide) hk1 hFc hP1 hD1
    have hP : va_P D vwCl (wL q cq o9 co V9 T R S ((fX1_type X k x).2.1) M P n h (nI (fX1_type X k x).2.2) w f d v z) H1 := hP
    have hD : va_D A (wL q cq o9 co V9 T R S ((fX1_type X k x).2.1) M P n h (nI (fX1_type X k x).2.2) w f d v z) := hD
    generalize H1 = H at hP hS ⊢
    obtain ⟨hk, hw⟩ := hw
    have hv : VO (kX1_type k) V9 ((fX1_type X k x).1).toInt64 = vp_updL V9 0 ((fX1_type X k x).1).toInt64 := if_pos hk
    subst r9
    refine lv_i2l hx hb dL_type_7 rfl ?_
    refine va_last hx hb hK hP hD hS 0 0 rfl rfl (i := 0) (vp_in_nI (n := 0) (N := 1) (by decide) (by decide)) dL_type_8 (fun H locs hP hD hS => ?_)
    have hP : va_P D vwCl (wL q cq o9 co (vp_updL V9 0 ((fX1_type X k x).1).toInt64) T R S ((fX1_type X k x).2.1) M P n h (nI (fX1_type X k x).2.2) w f d v z) H := hP
    have hD : va_D A (wL q cq o9 co (vp_updL V9 0 ((fX1_type X k x).1).toInt64) T R S ((fX1_type X k x).2.1) M P n h (nI (fX1_type X k x).2.2) w f d v z) := hD
    refine lv_goto (tgt := 15) hx hb dL_type_9 (by decide) ?_
    refine lv_iconst (v := 0) hx hb dL_type_15 (by decide) ?_
    exact W.iret (v := 0) hx hb hr (fun t9 ht9 hW => ⟨⟨0, (), rfl, (by rw [hk]; rfl), ⟨by rw [ht9, hv]; exact hP, by rw [hv]; exact hD⟩⟩, hS.F ht9⟩) hS.2.2 dL_type_16
theorem kr_textProducts (X : Nat → Int32) (k : Nat) : (kX1_textProducts X k) = 0 ∨ (kX1_textProducts X k) = 2 := by
  unfold kX1_textProducts
  try unfold kX1_checkFunction
  try unfold kX1_checkVariable
  try unfold kX1_validTextProducts
  repeat' split
  all_goals (first | (simp; done) | (simp_all; done) | omega)
set_option maxHeartbeats 4000000 in
set_option maxRecDepth 100000 in
theorem c_L_textProducts (l : Launch) (hst : l.stackTraces = false) (D : va_G) (q : Nat → Nat) (cq : Nat → ClassId) (o9 : Nat) (co : ClassId) (V9 : Nat → Int64) (sz : Nat) (T : Nat → Int32) (R : Nat → Int32) (S : Nat → Int32) (X : Nat → Int32) (M : Nat → Int32) (P : Nat → Int32) (n : Int32) (h : Int32) (k : Nat) (w : Int32) (f : Int32) (d : Int32) (v : Int32) (z : Int32) (hk9 : k ≤ 80) : Met l yL_textProducts wsL_textProducts ({ frames := 8, cells := 1, slots := 6, locals := 200 }) (va_Pc [.ref (q 0), .ref o9] (fun U => U.heap.size = sz ∧ va_P D vwCl (wL q cq o9 co V9 T R S X M P n h (nI k) w f d v z) U.heap ∧ va_K D vwCl (tyL cq co) U ∧ va_D (fun _ => True) (wL q cq o9 co V9 T R S X M P n h (nI k) w f d v z) ∧ envE (va_A (wL q cq o9 co V9 T R S X M P n h (nI k) w f d v z) sz) U)) (va_Qi (fun r9 (_ : Unit) => r9 = cd1 (kX1_textProducts X k)) (fun _ t9 => va_P D vwCl (wL q cq o9 co (VO (kX1_textProducts X k) V9 ((fX1_textProducts X k).1).toInt64) T R S X M P n h (nI k) ((fX1_textProducts X k).2.1) ((fX1_textProducts X k).2.2.1) ((fX1_textProducts X k).2.2.2.1) ((fX1_textProducts X k).2.2.2.2) z) t9.heap ∧ va_D (va_A (wL q cq o9 co V9 T R S X M P n h (nI k) w f d v z) sz) (wL q cq o9 co (VO (kX1_textProducts X k) V9 ((fX1_textProducts X k).1).toInt64) T R S X M P n h (nI k) ((fX1_textProducts X k).2.1) ((fX1_textProducts X k).2.2.1) ((fX1_textProducts X k).2.2.2.1) ((fX1_textProducts X k).2.2.2.2) z)) (va_A (wL q cq o9 co V9 T R S X M P n h (nI k) w f d v z) sz)) 1 6 (va_A (wL q cq o9 co V9 T R S X M P n h (nI k) w f d v z) sz) := by
  refine vw_ofWH (cc := cL_textProducts) (maxL := 3) (ret := (some .int)) (hh := [(0, 8, 11, 15)]) (by decide) rfl ?_
  intro p e s m args below meth c s₁ B hml hv
  obtain ⟨rfl, hsz, hP, hK, hD0, hE⟩ := hv
  have hx := B.exec
  have hb := B.bytes
  have hr := B.returns
  have hts := atoms_spec (ws := wsL_textProducts) B.pre
  have hown : s.vm.findClass RL = some m.cls := findClass_of_methodNamed B.named
  have hlocks := B.notSynchronized
  have htab := vx_table B (x := yL_textProducts) (y := yL_textProducts) (bytes := cL_textProducts) (maxL' := 3) (ret' := (some .int)) (hh := [(0, 8, 11, 15)]) (hts _ List.mem_cons_self)
  subst hsz
  have hD := hD0.self (sz := s.heap.size)
  generalize hAe : va_A (wL q cq o9 co V9 T R S X M P n h (nI k) w f d v z) s.heap.size = A at hD hE ⊢
  have hA : ∀ q : Nat, s.heap.size ≤ q → A q := fun q h => by rw [← hAe]; exact Or.inr h
  have hS : va_S A s.heap s.heap [] := va_S.rf
  have hP : va_P D vwCl (wL q cq o9 co V9 T R S X M P n h (nI k) w f d v z) s.heap := hP
  have hl := lv_entry ([.ref (q 0), .ref o9]) (n := 3) (Nat.le_of_ble_eq_true rfl)
  rw [lg_entry_eq]
  generalize (lg_sl ([.ref (q 0), .ref o9]) ++ List.replicate (3 - (lg_sl ([.ref (q 0), .ref o9])).length) Slot.unset).toArray = ls at hl ⊢
  have hl : lv_has ls 3 [(0, .ref (q 0)), (1, .ref o9)] := hl
  refine lv_aload_n hx hb dL_textProducts_0 rfl (lv_at hl 1 rfl) ?_
  refine lv_iconst (v := 0) hx hb dL_textProducts_1 (by decide) ?_
  refine lv_aload_n hx hb dL_textProducts_2 rfl (lv_at hl 0 rfl) ?_
  have hPc := hP.sub (ws' := (wB q cq T R S X M P n h (nI k) w f d v z)) [1, 2, 3, 4, 5, 6, 7, 8] rfl
  have hKc := hK.sub (tys' := (tyB cq)) [1, 2, 3, 4, 5, 6] rfl
  have hDc := hD.sub (ws' := (wB q cq T R S X M P n h (nI k) w f d v z)) [1, 2, 3, 4, 5, 6, 7, 8] (by decide) rfl
  have hFc := va_free (wc := (wB q cq T R S X M P n h (nI k) w f d v z)) hD hS hA [1, 2, 3, 4, 5, 6, 7, 8] rfl
  refine vx_calli (vx_runV (As := []) (rest := [.int 0, .ref o9]) ⟨hx, hb, hml, hown, hts⟩ (c_X1_textProducts l hst D q cq s.heap.size T R S X M P n h k w f d v z hk9) (cwV 0 hts gL_textProducts_X1_textProducts rfl rfl rfl (by decide +kernel) ⟨Nat.le_of_ble_eq_true rfl, Nat.le_of_ble_eq_true rfl⟩) ⟨fun a U g mk z => ⟨z.1, z.2.1, z.2.2.1, va_K.moved (u := U) (U := U.calling g mk a) (Vm.Alike.refl U.vm) z.2.2.2.1, z.2.2.2.2.1, z.2.2.2.2.2.blind g mk a⟩, va_recv hKc hPc (ci := 1) (q0 := 0) rfl rfl, fun U hU hW => ⟨rfl, by rw [hU], by rw [hU]; exact hPc, va_K.moved hW.alike hKc, hDc.weaken (fun _ _ _ _ => trivial), hE.at hS hU hW hFc⟩⟩ rfl rfl hl.1 rfl (lv_room (Nat.le_of_ble_eq_true rfl)) dL_textProducts_3 ⟨Nat.le_of_ble_eq_true rfl, Nat.le_of_ble_eq_true rfl⟩) hS (fun q _ h => hFc q h) hFc (fun q _ h => hFc q h) (fun E9 ce q9 u9 t8 H1 locs ht hvm hu hB0 hz1 hk1 hS hce hcv hcl => ?_) (fun r9 u9 t8 H1 locs ht hvm hw hB hz1 hk1 hS => ?_)
  · obtain ⟨hE9, hP1, hD1⟩ := hB0
    rw [ht] at hP1
    obtain ⟨hP, hD⟩ := va_join (wr := [(o9, .inl (co, (1, .inr (.inl V9))))]) (w1 := (wB q cq T R S X M P n h (nI k) ((fX1_textProducts X k).2.1) ((fX1_textProducts X k).2.2.1) ((fX1_textProducts X k).2.2.2.1) ((fX1_textProducts X k).2.2.2.2) z)) hP hD [1, 2, 3, 4, 5, 6, 7, 8] [0] rfl rfl (by decide) (by decide) hk1 hFc hP1 hD1
    have hP : va_P D vwCl (wL q cq o9 co V9 T R S X M P n h (nI k) ((fX1_textProducts X k).2.1) ((fX1_textProducts X k).2.2.1) ((fX1_textProducts X k).2.2.2.1) ((fX1_textProducts X k).2.2.2.2) z) H1 := hP
    have hD : va_D A (wL q cq o9 co V9 T R S X M P n h (nI k) ((fX1_textProducts X k).2.1) ((fX1_textProducts X k).2.2.1) ((fX1_textProducts X k).2.2.2.1) ((fX1_textProducts X k).2.2.2.2) z) := hD
    generalize H1 = H at hP hS hce ⊢
    have hn : ¬ (kX1_textProducts X k) = 0 := fun z => hu.2 (hu.1.symm.trans z)
    have hv : VO (kX1_textProducts X k) V9 ((fX1_textProducts X k).1).toInt64 = V9 := if_neg hn
    have hkr := kr_textProducts X k
    rw [hu.1] at hkr
    rcases hkr with h0 | h2
    · exact absurd h0 hu.2
    · subst h2
      have hE9 : E9 = "java/lang/IllegalStateException" := hE9
      subst hE9
      refine vx_catch hown [] _ _ (htab.trans rfl) (fun z hz => absurd hz List.not_mem_nil) rfl (by decide) (hts (.classLink RL 15 "java/lang/IllegalStateException") (List.mem_of_getElem? (i := 1) rfl)) (va_Nw.use rfl hE.2.1.2.1) hce hcv hcl ?_
      refine lv_astore_n (lv' := [(2, .ref q9), (0, .ref (q 0)), (1, .ref o9)]) hx hb dL_textProducts_11 rfl hl (by decide) rfl (fun ls hl => ?_)
      refine lv_iconst (v := 1) hx hb dL_textProducts_12 (by decide) ?_
      exact W.iret (v := 1) hx hb hr (fun t9 ht9 hW => ⟨⟨1, (), rfl, (by rw [hu.1]; rfl), ⟨by rw [ht9, hv]; exact hP, by rw [hv]; exact hD⟩⟩, hS.F ht9⟩) hS.2.2 dL_textProducts_13
  · obtain ⟨hP1, hD1⟩ := hB
    rw [ht] at hP1
    obtain ⟨hP, hD⟩ := va_join (wr := [(o9, .inl (co, (1, .inr (.inl V9))))]) (w1 := (wB q cq T R S X M P n h (nI k) ((fX1_textProducts X k).2.1) ((fX1_textProducts X k).2.2.1) ((fX1_textProducts X k).2.2.2.1) ((fX1_textProducts X k).2.2.2.2) z)) hP hD [1, 2, 3, 4, 5, 6, 7, 8] [0] rfl rfl (by decide) (by decide) hk1 hFc hP1 hD1
    have hP : va_P D vwCl (wL q cq o9 co V9 T R S X M P n h (nI k) ((fX1_textProducts X k).2.1) ((fX1_textProducts X k).2.2.1) ((fX1_textProducts X k).2.2.2.1) ((fX1_textProducts X k).2.2.2.2) z) H1 := hP
    have hD : va_D A (wL q cq o9 co V9 T R S X M P n h (nI k) ((fX1_textProducts X k).2.1) ((fX1_textProducts X k).2.2.1) ((fX1_textProducts X k).2.2.2.1) ((fX1_textProducts X k).2.2.2.2) z) := hD
    generalize H1 = H at hP hS ⊢
    obtain ⟨hk, hw⟩ := hw
    have hv : VO (kX1_textProducts X k) V9 ((fX1_textProducts X k).1).toInt64 = vp_updL V9 0 ((fX1_textProducts X k).1).toInt64 := if_pos hk
    subst r9
    refine lv_i2l hx hb dL_textProducts_6 rfl ?_
    refine va_last hx hb hK hP hD hS 0 0 rfl rfl (i := 0) (vp_in_nI (n := 0) (N := 1) (by decide) (by decide)) dL_textProducts_7 (fun H locs hP hD hS => ?_)
    have hP : va_P D vwCl (wL q cq o9 co (vp_updL V9 0 ((fX1_textProducts X k).1).toInt64) T R S X M P n h (nI k) ((fX1_textProducts X k).2.1) ((fX1_textProducts X k).2.2.1) ((fX1_textProducts X k).2.2.2.1) ((fX1_textProducts X k).2.2.2.2) z) H := hP
    have hD : va_D A (wL q cq o9 co (vp_updL V9 0 ((fX1_textProducts X k).1).toInt64) T R S X M P n h (nI k) ((fX1_textProducts X k).2.1) ((fX1_textProducts X k).2.2.1) ((fX1_textProducts X k).2.2.2.1) ((fX1_textProducts X k).2.2.2.2) z) := hD
    refine lv_goto (tgt := 14) hx hb dL_textProducts_8 (by decide) ?_
    refine lv_iconst (v := 0) hx hb dL_textProducts_14 (by decide) ?_
    exact W.iret (v := 0) hx hb hr (fun t9 ht9 hW => ⟨⟨0, (), rfl, (by rw [hk]; rfl), ⟨by rw [ht9, hv]; exact hP, by rw [hv]; exact hD⟩⟩, hS.F ht9⟩) hS.2.2 dL_textProducts_15
theorem kr_undo (n : Nat) : (kX1_undo n) = 0 ∨ (kX1_undo n) = 2 := by
  unfold kX1_undo
  try unfold kX1_checkFunction
  try unfold kX1_checkVariable
  try unfold kX1_validTextProducts
  repeat' split
  all_goals (first | (simp; done) | (simp_all; done) | omega)
set_option maxHeartbeats 4000000 in
set_option maxRecDepth 100000 in
theorem c_L_undo (l : Launch) (hst : l.stackTraces = false) (D : va_G) (q : Nat → Nat) (cq : Nat → ClassId) (o9 : Nat) (co : ClassId) (V9 : Nat → Int64) (sz : Nat) (T : Nat → Int32) (R : Nat → Int32) (S : Nat → Int32) (X : Nat → Int32) (M : Nat → Int32) (P : Nat → Int32) (n : Nat) (h : Int32) (k : Int32) (w : Int32) (f : Int32) (d : Int32) (v : Int32) (z : Int32) (hn : n ≤ 4) : Met l yL_undo wsL_undo ({ frames := 8, cells := 1, slots := 6, locals := 200 }) (va_Pc [.ref (q 0), .ref o9] (fun U => U.heap.size = sz ∧ va_P D vwCl (wL q cq o9 co V9 T R S X M P (nI n) h k w f d v z) U.heap ∧ va_K D vwCl (tyL cq co) U ∧ va_D (fun _ => True) (wL q cq o9 co V9 T R S X M P (nI n) h k w f d v z) ∧ envE (va_A (wL q cq o9 co V9 T R S X M P (nI n) h k w f d v z) sz) U)) (va_Qi (fun r9 (_ : Unit) => r9 = cd1 (kX1_undo n)) (fun _ t9 => va_P D vwCl (wL q cq o9 co (VO (kX1_undo n) V9 ((fX1_undo T R n).1).toInt64) ((fX1_undo T R n).2.1) R S X M P (nI (fX1_undo T R n).2.2) h k w f d v z) t9.heap ∧ va_D (va_A (wL q cq o9 co V9 T R S X M P (nI n) h k w f d v z) sz) (wL q cq o9 co (VO (kX1_undo n) V9 ((fX1_undo T R n).1).toInt64) ((fX1_undo T R n).2.1) R S X M P (nI (fX1_undo T R n).2.2) h k w f d v z)) (va_A (wL q cq o9 co V9 T R S X M P (nI n) h k w f d v z) sz)) 1 6 (va_A (wL q cq o9 co V9 T R S X M P (nI n) h k w f d v z) sz) := by
  refine vw_ofWH (cc := cL_undo) (maxL := 3) (ret := (some .int)) (hh := [(0, 8, 11, 15)]) (by decide) rfl ?_
  intro p e s m args below meth c s₁ B hml hv
  obtain ⟨rfl, hsz, hP, hK, hD0, hE⟩ := hv
  have hx := B.exec
  have hb := B.bytes
  have hr := B.returns
  have hts := atoms_spec (ws := wsL_undo) B.pre
  have hown : s.vm.findClass RL = some m.cls := findClass_of_methodNamed B.named
  have hlocks := B.notSynchronized
  have htab := vx_table B (x := yL_undo) (y := yL_undo) (bytes := cL_undo) (maxL' := 3) (ret' := (some .int)) (hh := [(0, 8, 11, 15)]) (hts _ List.mem_cons_self)
  subst hsz
  have hD := hD0.self (sz := s.heap.size)
  generalize hAe : va_A (wL q cq o9 co V9 T R S X M P (nI n) h k w f d v z) s.heap.size = A at hD hE ⊢
  have hA : ∀ q : Nat, s.heap.size ≤ q → A q := fun q h => by rw [← hAe]; exact Or.inr h
  have hS : va_S A s.heap s.heap [] := va_S.rf
  have hP : va_P D vwCl (wL q cq o9 co V9 T R S X M P (nI n) h k w f d v z) s.heap := hP
  have hl := lv_entry ([.ref (q 0), .ref o9]) (n := 3) (Nat.le_of_ble_eq_true rfl)
  rw [lg_entry_eq]
  generalize (lg_sl ([.ref (q 0), .ref o9]) ++ List.replicate (3 - (lg_sl ([.ref (q 0), .ref o9])).length) Slot.unset).toArray = ls at hl ⊢
  have hl : lv_has ls 3 [(0, .ref (q 0)), (1, .ref o9)] := hl
  refine lv_aload_n hx hb dL_undo_0 rfl (lv_at hl 1 rfl) ?_
  refine lv_iconst (v := 0) hx hb dL_undo_1 (by decide) ?_
  refine lv_aload_n hx hb dL_undo_2 rfl (lv_at hl 0 rfl) ?_
  have hPc := hP.sub (ws' := (wB q cq T R S X M P (nI n) h k w f d v z)) [1, 2, 3, 4, 5, 6, 7, 8] rfl
  have hKc := hK.sub (tys' := (tyB cq)) [1, 2, 3, 4, 5, 6] rfl
  have hDc := hD.sub (ws' := (wB q cq T R S X M P (nI n) h k w f d v z)) [1, 2, 3, 4, 5, 6, 7, 8] (by decide) rfl
  have hFc := va_free (wc := (wB q cq T R S X M P (nI n) h k w f d v z)) hD hS hA [1, 2, 3, 4, 5, 6, 7, 8] rfl
  refine vx_calli (vx_runV (As := []) (rest := [.int 0, .ref o9]) ⟨hx, hb, hml, hown, hts⟩ (c_X1_undo l hst D q cq s.heap.size T R S X M P n h k w f d v z hn) (cwV 0 hts gL_undo_X1_undo rfl rfl rfl (by decide +kernel) ⟨Nat.le_of_ble_eq_true rfl, Nat.le_of_ble_eq_true rfl⟩) ⟨fun a U g mk z => ⟨z.1, z.2.1, z.2.2.1, va_K.moved (u := U) (U := U.calling g mk a) (Vm.Alike.refl U.vm) z.2.2.2.1, z.2.2.2.2.1, z.2.2.2.2.2.blind g mk a⟩, va_recv hKc hPc (ci := 1) (q0 := 0) rfl rfl, fun U hU hW => ⟨rfl, by rw [hU], by rw [hU]; exact hPc, va_K.moved hW.alike hKc, hDc.weaken (fun _ _ _ _ => trivial), hE.at hS hU hW hFc⟩⟩ rfl rfl hl.1 rfl (lv_room (Nat.le_of_ble_eq_true rfl)) dL_undo_3 ⟨Nat.le_of_ble_eq_true rfl, Nat.le_of_ble_eq_true rfl⟩) hS (fun q _ h => hFc q h) hFc (fun q _ h => hFc q h) (fun E9 ce q9 u9 t8 H1 locs ht hvm hu hB0 hz1 hk1 hS hce hcv hcl => ?_) (fun r9 u9 t8 H1 locs ht hvm hw hB hz1 hk1 hS => ?_)
  · obtain ⟨hE9, hP1, hD1⟩ := hB0
    rw [ht] at hP1
    obtain ⟨hP, hD⟩ := va_join (wr := [(o9, .inl (co, (1, .inr (.inl V9))))]) (w1 := (wB q cq ((fX1_undo T R n).2.1) R S X M P (nI (fX1_undo T R n).2.2) h k w f d v z)) hP hD [1, 2, 3, 4, 5, 6, 7, 8] [0] rfl rfl (by decide) (by decide) hk1 hFc hP1 hD1
    have hP : va_P D vwCl (wL q cq o9 co V9 ((fX1_undo T R n).2.1) R S X M P (nI (fX1_undo T R n).2.2) h k w f d v z) H1 := hP
    have hD : va_D A (wL q cq o9 co V9 ((fX1_undo T R n).2.1) R S X M P (nI (fX1_undo T R n).2.2) h k w f d v z) := hD
    generalize H1 = H at hP hS hce ⊢
    have hn : ¬ (kX1_undo n) = 0 := fun z => hu.2 (hu.1.symm.trans z)
    have hv : VO (kX1_undo n) V9 ((fX1_undo T R n).1).toInt64 = V9 := if_neg hn
    have hkr := kr_undo n
    rw [hu.1] at hkr
    rcases hkr with h0 | h2
    · exact absurd h0 hu.2
    · subst h2
      have hE9 : E9 = "java/lang/IllegalStateException" := hE9
      subst hE9
      refine vx_catch hown [] _ _ (htab.trans rfl) (fun z hz => absurd hz List.not_mem_nil) rfl (by decide) (hts (.classLink RL 15 "java/lang/IllegalStateException") (List.mem_of_getElem? (i := 1) rfl)) (va_Nw.use rfl hE.2.1.2.1) hce hcv hcl ?_
      refine lv_astore_n (lv' := [(2, .ref q9), (0, .ref (q 0)), (1, .ref o9)]) hx hb dL_undo_11 rfl hl (by decide) rfl (fun ls hl => ?_)
      refine lv_iconst (v := 1) hx hb dL_undo_12 (by decide) ?_
      exact W.iret (v := 1) hx hb hr (fun t9 ht9 hW => ⟨⟨1, (), rfl, (by rw [hu.1]; rfl), ⟨by rw [ht9, hv]; exact hP, by rw [hv]; exact hD⟩⟩, hS.F ht9⟩) hS.2.2 dL_undo_13
  · obtain ⟨hP1, hD1⟩ := hB
    rw [ht] at hP1
    obtain ⟨hP, hD⟩ := va_join (wr := [(o9, .inl (co, (1, .inr (.inl V9))))]) (w1 := (wB q cq ((fX1_undo T R n).2.1) R S X M P (nI (fX1_undo T R n).2.2) h k w f d v z)) hP hD [1, 2, 3, 4, 5, 6, 7, 8] [0] rfl rfl (by decide) (by decide) hk1 hFc hP1 hD1
    have hP : va_P D vwCl (wL q cq o9 co V9 ((fX1_undo T R n).2.1) R S X M P (nI (fX1_undo T R n).2.2) h k w f d v z) H1 := hP
    have hD : va_D A (wL q cq o9 co V9 ((fX1_undo T R n).2.1) R S X M P (nI (fX1_undo T R n).2.2) h k w f d v z) := hD
    generalize H1 = H at hP hS ⊢
    obtain ⟨hk, hw⟩ := hw
    have hv : VO (kX1_undo n) V9 ((fX1_undo T R n).1).toInt64 = vp_updL V9 0 ((fX1_undo T R n).1).toInt64 := if_pos hk
    subst r9
    refine lv_i2l hx hb dL_undo_6 rfl ?_
    refine va_last hx hb hK hP hD hS 0 0 rfl rfl (i := 0) (vp_in_nI (n := 0) (N := 1) (by decide) (by decide)) dL_undo_7 (fun H locs hP hD hS => ?_)
    have hP : va_P D vwCl (wL q cq o9 co (vp_updL V9 0 ((fX1_undo T R n).1).toInt64) ((fX1_undo T R n).2.1) R S X M P (nI (fX1_undo T R n).2.2) h k w f d v z) H := hP
    have hD : va_D A (wL q cq o9 co (vp_updL V9 0 ((fX1_undo T R n).1).toInt64) ((fX1_undo T R n).2.1) R S X M P (nI (fX1_undo T R n).2.2) h k w f d v z) := hD
    refine lv_goto (tgt := 14) hx hb dL_undo_8 (by decide) ?_
    refine lv_iconst (v := 0) hx hb dL_undo_14 (by decide) ?_
    exact W.iret (v := 0) hx hb hr (fun t9 ht9 hW => ⟨⟨0, (), rfl, (by rw [hk]; rfl), ⟨by rw [ht9, hv]; exact hP, by rw [hv]; exact hD⟩⟩, hS.F ht9⟩) hS.2.2 dL_undo_15
theorem kr_restoreSnapshot (h : Int32) : (kX1_restoreSnapshot h) = 0 ∨ (kX1_restoreSnapshot h) = 2 := by
  unfold kX1_restoreSnapshot
  try unfold kX1_checkFunction
  try unfold kX1_checkVariable
  try unfold kX1_validTextProducts
  repeat' split
  all_goals (first | (simp; done) | (simp_all; done) | omega)
set_option maxHeartbeats 4000000 in
set_option maxRecDepth 100000 in
theorem c_L_restoreSnapshot (l : Launch) (hst : l.stackTraces = false) (D : va_G) (q : Nat → Nat) (cq : Nat → ClassId) (o9 : Nat) (co : ClassId) (V9 : Nat → Int64) (sz : Nat) (T : Nat → Int32) (R : Nat → Int32) (S : Nat → Int32) (X : Nat → Int32) (M : Nat → Int32) (P : Nat → Int32) (n : Nat) (h : Int32) (k : Int32) (w : Int32) (f : Int32) (d : Int32) (v : Int32) (z : Int32) (hn : n ≤ 4) : Met l yL_restoreSnapshot wsL_restoreSnapshot ({ frames := 8, cells := 1, slots := 6, locals := 200 }) (va_Pc [.ref (q 0), .ref o9] (fun U => U.heap.size = sz ∧ va_P D vwCl (wL q cq o9 co V9 T R S X M P (nI n) h k w f d v z) U.heap ∧ va_K D vwCl (tyL cq co) U ∧ va_D (fun _ => True) (wL q cq o9 co V9 T R S X M P (nI n) h k w f d v z) ∧ envE (va_A (wL q cq o9 co V9 T R S X M P (nI n) h k w f d v z) sz) U)) (va_Qi (fun r9 (_ : Unit) => r9 = cd1 (kX1_restoreSnapshot h)) (fun _ t9 => va_P D vwCl (wL q cq o9 co (VO (kX1_restoreSnapshot h) V9 ((fX1_restoreSnapshot T R S n h).1).toInt64) ((fX1_restoreSnapshot T R S n h).2.1) ((fX1_restoreSnapshot T R S n h).2.2.1) S X M P (nI (fX1_restoreSnapshot T R S n h).2.2.2) h k w f d v z) t9.heap ∧ va_D (va_A (wL q cq o9 co V9 T R S X M P (nI n) h k w f d v z) sz) (wL q cq o9 co (VO (kX1_restoreSnapshot h) V9 ((fX1_restoreSnapshot T R S n h).1).toInt64) ((fX1_restoreSnapshot T R S n h).2.1) ((fX1_restoreSnapshot T R S n h).2.2.1) S X M P (nI (fX1_restoreSnapshot T R S n h).2.2.2) h k w f d v z)) (va_A (wL q cq o9 co V9 T R S X M P (nI n) h k w f d v z) sz)) 1 6 (va_A (wL q cq o9 co V9 T R S X M P (nI n) h k w f d v z) sz) := by
  refine vw_ofWH (cc := cL_restoreSnapshot) (maxL := 3) (ret := (some .int)) (hh := [(0, 8, 11, 15)]) (by decide) rfl ?_
  intro p e s m args below meth c s₁ B hml hv
  obtain ⟨rfl, hsz, hP, hK, hD0, hE⟩ := hv
  have hx := B.exec
  have hb := B.bytes
  have hr := B.returns
  have hts := atoms_spec (ws := wsL_restoreSnapshot) B.pre
  have hown : s.vm.findClass RL = some m.cls := findClass_of_methodNamed B.named
  have hlocks := B.notSynchronized
  have htab := vx_table B (x := yL_restoreSnapshot) (y := yL_restoreSnapshot) (bytes := cL_restoreSnapshot) (maxL' := 3) (ret' := (some .int)) (hh := [(0, 8, 11, 15)]) (hts _ List.mem_cons_self)
  subst hsz
  have hD := hD0.self (sz := s.heap.size)
  generalize hAe : va_A (wL q cq o9 co V9 T R S X M P (nI n) h k w f d v z) s.heap.size = A at hD hE ⊢
  have hA : ∀ q : Nat, s.heap.size ≤ q → A q := fun q h => by rw [← hAe]; exact Or.inr h
  have hS : va_S A s.heap s.heap [] := va_S.rf
  have hP : va_P D vwCl (wL q cq o9 co V9 T R S X M P (nI n) h k w f d v z) s.heap := hP
  have hl := lv_entry ([.ref (q 0), .ref o9]) (n := 3) (Nat.le_of_ble_eq_true rfl)
  rw [lg_entry_eq]
  generalize (lg_sl ([.ref (q 0), .ref o9]) ++ List.replicate (3 - (lg_sl ([.ref (q 0), .ref o9])).length) Slot.unset).toArray = ls at hl ⊢
  have hl : lv_has ls 3 [(0, .ref (q 0)), (1, .ref o9)] := hl
  refine lv_aload_n hx hb dL_restoreSnapshot_0 rfl (lv_at hl 1 rfl) ?_
  refine lv_iconst (v := 0) hx hb dL_restoreSnapshot_1 (by decide) ?_
  refine lv_aload_n hx hb dL_restoreSnapshot_2 rfl (lv_at hl 0 rfl) ?_
  have hPc := hP.sub (ws' := (wB q cq T R S X M P (nI n) h k w f d v z)) [1, 2, 3, 4, 5, 6, 7, 8] rfl
  have hKc := hK.sub (tys' := (tyB cq)) [1, 2, 3, 4, 5, 6] rfl
  have hDc := hD.sub (ws' := (wB q cq T R S X M P (nI n) h k w f d v z)) [1, 2, 3, 4, 5, 6, 7, 8] (by decide) rfl
  have hFc := va_free (wc := (wB q cq T R S X M P (nI n) h k w f d v z)) hD hS hA [1, 2, 3, 4, 5, 6, 7, 8] rfl
  refine vx_calli (vx_runV (As := []) (rest := [.int 0, .ref o9]) ⟨hx, hb, hml, hown, hts⟩ (c_X1_restoreSnapshot l hst D q cq s.heap.size T R S X M P n h k w f d v z hn) (cwV 0 hts gL_restoreSnapshot_X1_restoreSnapshot rfl rfl rfl (by decide +kernel) ⟨Nat.le_of_ble_eq_true rfl, Nat.le_of_ble_eq_true rfl⟩) ⟨fun a U g mk z => ⟨z.1, z.2.1, z.2.2.1, va_K.moved (u := U) (U := U.calling g mk a) (Vm.Alike.refl U.vm) z.2.2.2.1, z.2.2.2.2.1, z.2.2.2.2.2.blind g mk a⟩, va_recv hKc hPc (ci := 1) (q0 := 0) rfl rfl, fun U hU hW => ⟨rfl, by rw [hU], by rw [hU]; exact hPc, va_K.moved hW.alike hKc, hDc.weaken (fun _ _ _ _ => trivial), hE.at hS hU hW hFc⟩⟩ rfl rfl hl.1 rfl (lv_room (Nat.le_of_ble_eq_true rfl)) dL_restoreSnapshot_3 ⟨Nat.le_of_ble_eq_true rfl, Nat.le_of_ble_eq_true rfl⟩) hS (fun q _ h => hFc q h) hFc (fun q _ h => hFc q h) (fun E9 ce q9 u9 t8 H1 locs ht hvm hu hB0 hz1 hk1 hS hce hcv hcl => ?_) (fun r9 u9 t8 H1 locs ht hvm hw hB hz1 hk1 hS => ?_)
  · obtain ⟨hE9, hP1, hD1⟩ := hB0
    rw [ht] at hP1
    obtain ⟨hP, hD⟩ := va_join (wr := [(o9, .inl (co, (1, .inr (.inl V9))))]) (w1 := (wB q cq ((fX1_restoreSnapshot T R S n h).2.1) ((fX1_restoreSnapshot T R S n h).2.2.1) S X M P (nI (fX1_restoreSnapshot T R S n h).2.2.2) h k w f d v z)) hP hD [1, 2, 3, 4, 5, 6, 7, 8] [0] rfl rfl (by decide) (by decide) hk1 hFc hP1 hD1
    have hP : va_P D vwCl (wL q cq o9 co V9 ((fX1_restoreSnapshot T R S n h).2.1) ((fX1_restoreSnapshot T R S n h).2.2.1) S X M P (nI (fX1_restoreSnapshot T R S n h).2.2.2) h k w f d v z) H1 := hP
    have hD : va_D A (wL q cq o9 co V9 ((fX1_restoreSnapshot T R S n h).2.1) ((fX1_restoreSnapshot T R S n h).2.2.1) S X M P (nI (fX1_restoreSnapshot T R S n h).2.2.2) h k w f d v z) := hD
    generalize H1 = H at hP hS hce ⊢
    have hn : ¬ (kX1_restoreSnapshot h) = 0 := fun z => hu.2 (hu.1.symm.trans z)
    have hv : VO (kX1_restoreSnapshot h) V9 ((fX1_restoreSnapshot T R S n h).1).toInt64 = V9 := if_neg hn
    have hkr := kr_restoreSnapshot h
    rw [hu.1] at hkr
    rcases hkr with h0 | h2
    · exact absurd h0 hu.2
    · subst h2
      have hE9 : E9 = "java/lang/IllegalStateException" := hE9
      subst hE9
      refine vx_catch hown [] _ _ (htab.trans rfl) (fun z hz => absurd hz List.not_mem_nil) rfl (by decide) (hts (.classLink RL 15 "java/lang/IllegalStateException") (List.mem_of_getElem? (i := 1) rfl)) (va_Nw.use rfl hE.2.1.2.1) hce hcv hcl ?_
      refine lv_astore_n (lv' := [(2, .ref q9), (0, .ref (q 0)), (1, .ref o9)]) hx hb dL_restoreSnapshot_11 rfl hl (by decide) rfl (fun ls hl => ?_)
      refine lv_iconst (v := 1) hx hb dL_restoreSnapshot_12 (by decide) ?_
      exact W.iret (v := 1) hx hb hr (fun t9 ht9 hW => ⟨⟨1, (), rfl, (by rw [hu.1]; rfl), ⟨by rw [ht9, hv]; exact hP, by rw [hv]; exact hD⟩⟩, hS.F ht9⟩) hS.2.2 dL_restoreSnapshot_13
  · obtain ⟨hP1, hD1⟩ := hB
    rw [ht] at hP1
    obtain ⟨hP, hD⟩ := va_join (wr := [(o9, .inl (co, (1, .inr (.inl V9))))]) (w1 := (wB q cq ((fX1_restoreSnapshot T R S n h).2.1) ((fX1_restoreSnapshot T R S n h).2.2.1) S X M P (nI (fX1_restoreSnapshot T R S n h).2.2.2) h k w f d v z)) hP hD [1, 2, 3, 4, 5, 6, 7, 8] [0] rfl rfl (by decide) (by decide) hk1 hFc hP1 hD1
    have hP : va_P D vwCl (wL q cq o9 co V9 ((fX1_restoreSnapshot T R S n h).2.1) ((fX1_restoreSnapshot T R S n h).2.2.1) S X M P (nI (fX1_restoreSnapshot T R S n h).2.2.2) h k w f d v z) H1 := hP
    have hD : va_D A (wL q cq o9 co V9 ((fX1_restoreSnapshot T R S n h).2.1) ((fX1_restoreSnapshot T R S n h).2.2.1) S X M P (nI (fX1_restoreSnapshot T R S n h).2.2.2) h k w f d v z) := hD
    generalize H1 = H at hP hS ⊢
    obtain ⟨hk, hw⟩ := hw
    have hv : VO (kX1_restoreSnapshot h) V9 ((fX1_restoreSnapshot T R S n h).1).toInt64 = vp_updL V9 0 ((fX1_restoreSnapshot T R S n h).1).toInt64 := if_pos hk
    subst r9
    refine lv_i2l hx hb dL_restoreSnapshot_6 rfl ?_
    refine va_last hx hb hK hP hD hS 0 0 rfl rfl (i := 0) (vp_in_nI (n := 0) (N := 1) (by decide) (by decide)) dL_restoreSnapshot_7 (fun H locs hP hD hS => ?_)
    have hP : va_P D vwCl (wL q cq o9 co (vp_updL V9 0 ((fX1_restoreSnapshot T R S n h).1).toInt64) ((fX1_restoreSnapshot T R S n h).2.1) ((fX1_restoreSnapshot T R S n h).2.2.1) S X M P (nI (fX1_restoreSnapshot T R S n h).2.2.2) h k w f d v z) H := hP
    have hD : va_D A (wL q cq o9 co (vp_updL V9 0 ((fX1_restoreSnapshot T R S n h).1).toInt64) ((fX1_restoreSnapshot T R S n h).2.1) ((fX1_restoreSnapshot T R S n h).2.2.1) S X M P (nI (fX1_restoreSnapshot T R S n h).2.2.2) h k w f d v z) := hD
    refine lv_goto (tgt := 14) hx hb dL_restoreSnapshot_8 (by decide) ?_
    refine lv_iconst (v := 0) hx hb dL_restoreSnapshot_14 (by decide) ?_
    exact W.iret (v := 0) hx hb hr (fun t9 ht9 hW => ⟨⟨0, (), rfl, (by rw [hk]; rfl), ⟨by rw [ht9, hv]; exact hP, by rw [hv]; exact hD⟩⟩, hS.F ht9⟩) hS.2.2 dL_restoreSnapshot_15
theorem kr_tableOf (x : Int32) : (kX1_tableOf x) = 0 ∨ (kX1_tableOf x) = 1 := by
  unfold kX1_tableOf
  try unfold kX1_checkFunction
  try unfold kX1_checkVariable
  try unfold kX1_validTextProducts
  repeat' split
  all_goals (first | (simp; done) | (simp_all; done) | omega)
set_option maxHeartbeats 4000000 in
set_option maxRecDepth 100000 in
theorem c_L_tableOf (l : Launch) (hst : l.stackTraces = false) (D : va_G) (q : Nat → Nat) (cq : Nat → ClassId) (o9 : Nat) (co : ClassId) (V9 : Nat → Int64) (sz : Nat) (T : Nat → Int32) (R : Nat → Int32) (S : Nat → Int32) (X : Nat → Int32) (M : Nat → Int32) (P : Nat → Int32) (n : Int32) (h : Int32) (k : Int32) (w : Int32) (f : Int32) (d : Int32) (v : Int32) (z : Int32) (x : Int32)  : Met l yL_tableOf wsL_tableOf ({ frames := 8, cells := 1, slots := 6, locals := 200 }) (va_Pc [.ref (q 0), .int x, .ref o9] (fun U => U.heap.size = sz ∧ va_P D vwCl (wL q cq o9 co V9 T R S X M P n h k w f d v z) U.heap ∧ va_K D vwCl (tyL cq co) U ∧ va_D (fun _ => True) (wL q cq o9 co V9 T R S X M P n h k w f d v z) ∧ envE (va_A (wL q cq o9 co V9 T R S X M P n h k w f d v z) sz) U)) (va_Qi (fun r9 (_ : Unit) => r9 = cd1 (kX1_tableOf x)) (fun _ t9 => va_P D vwCl (wL q cq o9 co (VO (kX1_tableOf x) V9 (fX1_tableOf T x).toInt64) T R S X M P n h k w f d v z) t9.heap ∧ va_D (va_A (wL q cq o9 co V9 T R S X M P n h k w f d v z) sz) (wL q cq o9 co (VO (kX1_tableOf x) V9 (fX1_tableOf T x).toInt64) T R S X M P n h k w f d v z)) (va_A (wL q cq o9 co V9 T R S X M P n h k w f d v z) sz)) 1 6 (va_A (wL q cq o9 co V9 T R S X M P n h k w f d v z) sz) := by
  refine vw_ofWH (cc := cL_tableOf) (maxL := 4) (ret := (some .int)) (hh := [(0, 9, 12, 13)]) (by decide) rfl ?_
  intro p e s m args below meth c s₁ B hml hv
  obtain ⟨rfl, hsz, hP, hK, hD0, hE⟩ := hv
  have hx := B.exec
  have hb := B.bytes
  have hr := B.returns
  have hts := atoms_spec (ws := wsL_tableOf) B.pre
  have hown : s.vm.findClass RL = some m.cls := findClass_of_methodNamed B.named
  have hlocks := B.notSynchronized
  have htab := vx_table B (x := yL_tableOf) (y := yL_tableOf) (bytes := cL_tableOf) (maxL' := 4) (ret' := (some .int)) (hh := [(0, 9, 12, 13)]) (hts _ List.mem_cons_self)
  subst hsz
  have hD := hD0.self (sz := s.heap.size)
  generalize hAe : va_A (wL q cq o9 co V9 T R S X M P n h k w f d v z) s.heap.size = A at hD hE ⊢
  have hA : ∀ q : Nat, s.heap.size ≤ q → A q := fun q h => by rw [← hAe]; exact Or.inr h
  have hS : va_S A s.heap s.heap [] := va_S.rf
  have hP : va_P D vwCl (wL q cq o9 co V9 T R S X M P n h k w f d v z) s.heap := hP
  have hl := lv_entry ([.ref (q 0), .int x, .ref o9]) (n := 4) (Nat.le_of_ble_eq_true rfl)
  rw [lg_entry_eq]
  generalize (lg_sl ([.ref (q 0), .int x, .ref o9]) ++ List.replicate (4 - (lg_sl ([.ref (q 0), .int x, .ref o9])).length) Slot.unset).toArray = ls at hl ⊢
  have hl : lv_has ls 4 [(0, .ref (q 0)), (1, .int x), (2, .ref o9)] := hl
  refine lv_aload_n hx hb dL_tableOf_0 rfl (lv_at hl 2 rfl) ?_
  refine lv_iconst (v := 0) hx hb dL_tableOf_1 (by decide) ?_
  refine lv_aload_n hx hb dL_tableOf_2 rfl (lv_at hl 0 rfl) ?_
  refine lv_iload_n hx hb dL_tableOf_3 rfl (lv_at hl 1 rfl) ?_
  have hPc := hP.sub (ws' := (wB q cq T R S X M P n h k w f d v z)) [1, 2, 3, 4, 5, 6, 7, 8] rfl
  have hKc := hK.sub (tys' := (tyB cq)) [1, 2, 3, 4, 5, 6] rfl
  refine vy_callSi (vx_runV (As := [.int x]) (rest := [.int 0, .ref o9]) ⟨hx, hb, hml, hown, hts⟩ (c_X1_tableOf l hst D q cq T R S X M P n h k w f d v z x) (cwV 1 hts gL_tableOf_X1_tableOf rfl rfl rfl (by decide +kernel) ⟨Nat.le_of_ble_eq_true rfl, Nat.le_of_ble_eq_true rfl⟩) ⟨fun a U g mk z => ⟨z.1, z.2.1, va_K.moved (u := U) (U := U.calling g mk a) (Vm.Alike.refl U.vm) z.2.2.1, z.2.2.2.blind g mk a⟩, va_recv hKc hPc (ci := 1) (q0 := 0) rfl rfl, fun U hU hW => ⟨rfl, by rw [hU]; exact hPc, va_K.moved hW.alike hKc, hE.at0 hS hU hW⟩⟩ rfl rfl hl.1 rfl (lv_room (Nat.le_of_ble_eq_true rfl)) dL_tableOf_4 ⟨Nat.le_of_ble_eq_true rfl, Nat.le_of_ble_eq_true rfl⟩) hS (fun _ _ z => z.elim) (fun E9 ce q9 u9 t8 H locs ht hvm hu hE9 hz1 hk1 hS hce hcv hcl => ?_) (fun r9 hw => ?_)
  · skip
    have hP := hP.kept (H1 := H) (fun k q hq => hk1 q.1 ((hP k q hq).lt) (fun z => z))
    have hn : ¬ (kX1_tableOf x) = 0 := fun z => hu.2 (hu.1.symm.trans z)
    have hv : VO (kX1_tableOf x) V9 (fX1_tableOf T x).toInt64 = V9 := if_neg hn
    have hkr := kr_tableOf x
    rw [hu.1] at hkr
    rcases hkr with h0 | h1
    · exact absurd h0 hu.2
    · subst h1
      have hE9 : E9 = "java/lang/IndexOutOfBoundsException" := hE9
      subst hE9
      refine vx_catch hown [] _ _ (htab.trans rfl) (fun z hz => absurd hz List.not_mem_nil) rfl (by decide) (hts (.classLink RL 13 "java/lang/IndexOutOfBoundsException") (List.mem_of_getElem? (i := 1) rfl)) (va_Nw.use rfl hE.2.1.1) hce hcv hcl ?_
      refine lv_astore_n (lv' := [(3, .ref q9), (0, .ref (q 0)), (1, .int x), (2, .ref o9)]) hx hb dL_tableOf_12 rfl hl (by decide) rfl (fun ls hl => ?_)
      refine lv_iconst (v := 1) hx hb dL_tableOf_13 (by decide) ?_
      exact W.iret (v := 1) hx hb hr (fun t9 ht9 hW => ⟨⟨1, (), rfl, (by rw [hu.1]; rfl), ⟨by rw [ht9, hv]; exact hP, by rw [hv]; exact hD⟩⟩, hS.F ht9⟩) hS.2.2 dL_tableOf_14
  · skip
    obtain ⟨hk, hw⟩ := hw
    have hv : VO (kX1_tableOf x) V9 (fX1_tableOf T x).toInt64 = vp_updL V9 0 (fX1_tableOf T x).toInt64 := if_pos hk
    subst r9
    refine lv_i2l hx hb dL_tableOf_7 rfl ?_
    refine va_last hx hb hK hP hD hS 0 0 rfl rfl (i := 0) (vp_in_nI (n := 0) (N := 1) (by decide) (by decide)) dL_tableOf_8 (fun H locs hP hD hS => ?_)
    have hP : va_P D vwCl (wL q cq o9 co (vp_updL V9 0 (fX1_tableOf T x).toInt64) T R S X M P n h k w f d v z) H := hP
    have hD : va_D A (wL q cq o9 co (vp_updL V9 0 (fX1_tableOf T x).toInt64) T R S X M P n h k w f d v z) := hD
    refine lv_goto (tgt := 15) hx hb dL_tableOf_9 (by decide) ?_
    refine lv_iconst (v := 0) hx hb dL_tableOf_15 (by decide) ?_
    refine W.widen (k := 1) (n := 6) (Nat.le_of_ble_eq_true rfl) (Nat.le_of_ble_eq_true rfl) ?_
    exact W.iret (v := 0) hx hb hr (fun t9 ht9 hW => ⟨⟨0, (), rfl, (by rw [hk]; rfl), ⟨by rw [ht9, hv]; exact hP, by rw [hv]; exact hD⟩⟩, hS.F ht9⟩) hS.2.2 dL_tableOf_16
theorem kr_valueAt (x : Int32) (x2 : Int32) : (kX1_valueAt x x2) = 0 ∨ (kX1_valueAt x x2) = 1 := by
  unfold kX1_valueAt
  try unfold kX1_checkFunction
  try unfold kX1_checkVariable
  try unfold kX1_validTextProducts
  repeat' split
  all_goals (first | (simp; done) | (simp_all; done) | omega)
set_option maxHeartbeats 4000000 in
set_option maxRecDepth 100000 in
theorem c_L_valueAt (l : Launch) (hst : l.stackTraces = false) (D : va_G) (q : Nat → Nat) (cq : Nat → ClassId) (o9 : Nat) (co : ClassId) (V9 : Nat → Int64) (sz : Nat) (T : Nat → Int32) (R : Nat → Int32) (S : Nat → Int32) (X : Nat → Int32) (M : Nat → Int32) (P : Nat → Int32) (n : Int32) (h : Int32) (k : Int32) (w : Int32) (f : Int32) (d : Int32) (v : Int32) (z : Int32) (x : Int32) (x2 : Int32)  : Met l yL_valueAt wsL_valueAt ({ frames := 8, cells := 1, slots := 6, locals := 200 }) (va_Pc [.ref (q 0), .int x, .int x2, .ref o9] (fun U => U.heap.size = sz ∧ va_P D vwCl (wL q cq o9 co V9 T R S X M P n h k w f d v z) U.heap ∧ va_K D vwCl (tyL cq co) U ∧ va_D (fun _ => True) (wL q cq o9 co V9 T R S X M P n h k w f d v z) ∧ envE (va_A (wL q cq o9 co V9 T R S X M P n h k w f d v z) sz) U)) (va_Qi (fun r9 (_ : Unit) => r9 = cd1 (kX1_valueAt x x2)) (fun _ t9 => va_P D vwCl (wL q cq o9 co (VO (kX1_valueAt x x2) V9 (fX1_valueAt T x x2).toInt64) T R S X M P n h k w f d v z) t9.heap ∧ va_D (va_A (wL q cq o9 co V9 T R S X M P n h k w f d v z) sz) (wL q cq o9 co (VO (kX1_valueAt x x2) V9 (fX1_valueAt T x x2).toInt64) T R S X M P n h k w f d v z)) (va_A (wL q cq o9 co V9 T R S X M P n h k w f d v z) sz)) 1 6 (va_A (wL q cq o9 co V9 T R S X M P n h k w f d v z) sz) := by
  refine vw_ofWH (cc := cL_valueAt) (maxL := 5) (ret := (some .int)) (hh := [(0, 10, 13, 13)]) (by decide) rfl ?_
  intro p e s m args below meth c s₁ B hml hv
  obtain ⟨rfl, hsz, hP, hK, hD0, hE⟩ := hv
  have hx := B.exec
  have hb := B.bytes
  have hr := B.returns
  have hts := atoms_spec (ws := wsL_valueAt) B.pre
  have hown : s.vm.findClass RL = some m.cls := findClass_of_methodNamed B.named
  have hlocks := B.notSynchronized
  have htab := vx_table B (x := yL_valueAt) (y := yL_valueAt) (bytes := cL_valueAt) (maxL' := 5) (ret' := (some .int)) (hh := [(0, 10, 13, 13)]) (hts _ List.mem_cons_self)
  subst hsz
  have hD := hD0.self (sz := s.heap.size)
  generalize hAe : va_A (wL q cq o9 co V9 T R S X M P n h k w f d v z) s.heap.size = A at hD hE ⊢
  have hA : ∀ q : Nat, s.heap.size ≤ q → A q := fun q h => by rw [← hAe]; exact Or.inr h
  have hS : va_S A s.heap s.heap [] := va_S.rf
  have hP : va_P D vwCl (wL q cq o9 co V9 T R S X M P n h k w f d v z) s.heap := hP
  have hl := lv_entry ([.ref (q 0), .int x, .int x2, .ref o9]) (n := 5) (Nat.le_of_ble_eq_true rfl)
  rw [lg_entry_eq]
  generalize (lg_sl ([.ref (q 0), .int x, .int x2, .ref o9]) ++ List.replicate (5 - (lg_sl ([.ref (q 0), .int x, .int x2, .ref o9])).length) Slot.unset).toArray = ls at hl ⊢
  have hl : lv_has ls 5 [(0, .ref (q 0)), (1, .int x), (2, .int x2), (3, .ref o9)] := hl
  refine lv_aload_n hx hb dL_valueAt_0 rfl (lv_at hl 3 rfl) ?_
  refine lv_iconst (v := 0) hx hb dL_valueAt_1 (by decide) ?_
  refine lv_aload_n hx hb dL_valueAt_2 rfl (lv_at hl 0 rfl) ?_
  refine lv_iload_n hx hb dL_valueAt_3 rfl (lv_at hl 1 rfl) ?_
  refine lv_iload_n hx hb dL_valueAt_4 rfl (lv_at hl 2 rfl) ?_
  have hPc := hP.sub (ws' := (wB q cq T R S X M P n h k w f d v z)) [1, 2, 3, 4, 5, 6, 7, 8] rfl
  have hKc := hK.sub (tys' := (tyB cq)) [1, 2, 3, 4, 5, 6] rfl
  refine vy_callSi (vx_runV (As := [.int x, .int x2]) (rest := [.int 0, .ref o9]) ⟨hx, hb, hml, hown, hts⟩ (c_X1_valueAt l hst D q cq T R S X M P n h k w f d v z x x2) (cwV 2 hts gL_valueAt_X1_valueAt rfl rfl rfl (by decide +kernel) ⟨Nat.le_of_ble_eq_true rfl, Nat.le_of_ble_eq_true rfl⟩) ⟨fun a U g mk z => ⟨z.1, z.2.1, va_K.moved (u := U) (U := U.calling g mk a) (Vm.Alike.refl U.vm) z.2.2.1, z.2.2.2.blind g mk a⟩, va_recv hKc hPc (ci := 1) (q0 := 0) rfl rfl, fun U hU hW => ⟨rfl, by rw [hU]; exact hPc, va_K.moved hW.alike hKc, hE.at0 hS hU hW⟩⟩ rfl rfl hl.1 rfl (lv_room (Nat.le_of_ble_eq_true rfl)) dL_valueAt_5 ⟨Nat.le_of_ble_eq_true rfl, Nat.le_of_ble_eq_true rfl⟩) hS (fun _ _ z => z.elim) (fun E9 ce q9 u9 t8 H locs ht hvm hu hE9 hz1 hk1 hS hce hcv hcl => ?_) (fun r9 hw => ?_)
  · skip
    have hP := hP.kept (H1 := H) (fun k q hq => hk1 q.1 ((hP k q hq).lt) (fun z => z))
    have hn : ¬ (kX1_valueAt x x2) = 0 := fun z => hu.2 (hu.1.symm.trans z)
    have hv : VO (kX1_valueAt x x2) V9 (fX1_valueAt T x x2).toInt64 = V9 := if_neg hn
    have hkr := kr_valueAt x x2
    rw [hu.1] at hkr
    rcases hkr with h0 | h1
    · exact absurd h0 hu.2
    · subst h1
      have hE9 : E9 = "java/lang/IndexOutOfBoundsException" := hE9
      subst hE9
      refine vx_catch hown [] _ _ (htab.trans rfl) (fun z hz => absurd hz List.not_mem_nil) rfl (by decide) (hts (.classLink RL 13 "java/lang/IndexOutOfBoundsException") (List.mem_of_getElem? (i := 1) rfl)) (va_Nw.use rfl hE.2.1.1) hce hcv hcl ?_
      refine lv_astore (lv' := [(4, .ref q9), (0, .ref (q 0)), (1, .int x), (2, .int x2), (3, .ref o9)]) hx hb dL_valueAt_13 hl (by decide) rfl (fun ls hl => ?_)
      refine lv_iconst (v := 1) hx hb dL_valueAt_15 (by decide) ?_
      exact W.iret (v := 1) hx hb hr (fun t9 ht9 hW => ⟨⟨1, (), rfl, (by rw [hu.1]; rfl), ⟨by rw [ht9, hv]; exact hP, by rw [hv]; exact hD⟩⟩, hS.F ht9⟩) hS.2.2 dL_valueAt_16
  · skip
    obtain ⟨hk, hw⟩ := hw
    have hv : VO (kX1_valueAt x x2) V9 (fX1_valueAt T x x2).toInt64 = vp_updL V9 0 (fX1_valueAt T x x2).toInt64 := if_pos hk
    subst r9
    refine lv_i2l hx hb dL_valueAt_8 rfl ?_
    refine va_last hx hb hK hP hD hS 0 0 rfl rfl (i := 0) (vp_in_nI (n := 0) (N := 1) (by decide) (by decide)) dL_valueAt_9 (fun H locs hP hD hS => ?_)
    have hP : va_P D vwCl (wL q cq o9 co (vp_updL V9 0 (fX1_valueAt T x x2).toInt64) T R S X M P n h k w f d v z) H := hP
    have hD : va_D A (wL q cq o9 co (vp_updL V9 0 (fX1_valueAt T x x2).toInt64) T R S X M P n h k w f d v z) := hD
    refine lv_goto (tgt := 17) hx hb dL_valueAt_10 (by decide) ?_
    refine lv_iconst (v := 0) hx hb dL_valueAt_17 (by decide) ?_
    refine W.widen (k := 1) (n := 6) (Nat.le_of_ble_eq_true rfl) (Nat.le_of_ble_eq_true rfl) ?_
    exact W.iret (v := 0) hx hb hr (fun t9 ht9 hW => ⟨⟨0, (), rfl, (by rw [hk]; rfl), ⟨by rw [ht9, hv]; exact hP, by rw [hv]; exact hD⟩⟩, hS.F ht9⟩) hS.2.2 dL_valueAt_18
theorem kr_weightOf (x : Int32) : (kX1_weightOf x) = 0 ∨ (kX1_weightOf x) = 1 := by
  unfold kX1_weightOf
  try unfold kX1_checkFunction
  try unfold kX1_checkVariable
  try unfold kX1_validTextProducts
  repeat' split
  all_goals (first | (simp; done) | (simp_all; done) | omega)
set_option maxHeartbeats 4000000 in
set_option maxRecDepth 100000 in
theorem c_L_weightOf (l : Launch) (hst : l.stackTraces = false) (D : va_G) (q : Nat → Nat) (cq : Nat → ClassId) (o9 : Nat) (co : ClassId) (V9 : Nat → Int64) (sz : Nat) (T : Nat → Int32) (R : Nat → Int32) (S : Nat → Int32) (X : Nat → Int32) (M : Nat → Int32) (P : Nat → Int32) (n : Int32) (h : Int32) (k : Int32) (w : Int32) (f : Int32) (d : Int32) (v : Int32) (z : Int32) (x : Int32)  : Met l yL_weightOf wsL_weightOf ({ frames := 8, cells := 1, slots := 6, locals := 200 }) (va_Pc [.ref (q 0), .int x, .ref o9] (fun U => U.heap.size = sz ∧ va_P D vwCl (wL q cq o9 co V9 T R S X M P n h k w f d v z) U.heap ∧ va_K D vwCl (tyL cq co) U ∧ va_D (fun _ => True) (wL q cq o9 co V9 T R S X M P n h k w f d v z) ∧ envE (va_A (wL q cq o9 co V9 T R S X M P n h k w f d v z) sz) U)) (va_Qi (fun r9 (_ : Unit) => r9 = cd1 (kX1_weightOf x)) (fun _ t9 => va_P D vwCl (wL q cq o9 co (VO (kX1_weightOf x) V9 (fX1_weightOf T x).toInt64) T R S X M P n h k w f d v z) t9.heap ∧ va_D (va_A (wL q cq o9 co V9 T R S X M P n h k w f d v z) sz) (wL q cq o9 co (VO (kX1_weightOf x) V9 (fX1_weightOf T x).toInt64) T R S X M P n h k w f d v z)) (va_A (wL q cq o9 co V9 T R S X M P n h k w f d v z) sz)) 1 6 (va_A (wL q cq o9 co V9 T R S X M P n h k w f d v z) sz) := by
  refine vw_ofWH (cc := cL_weightOf) (maxL := 4) (ret := (some .int)) (hh := [(0, 9, 12, 13)]) (by decide) rfl ?_
  intro p e s m args below meth c s₁ B hml hv
  obtain ⟨rfl, hsz, hP, hK, hD0, hE⟩ := hv
  have hx := B.exec
  have hb := B.bytes
  have hr := B.returns
  have hts := atoms_spec (ws := wsL_weightOf) B.pre
  have hown : s.vm.findClass RL = some m.cls := findClass_of_methodNamed B.named
  have hlocks := B.notSynchronized
  have htab := vx_table B (x := yL_weightOf) (y := yL_weightOf) (bytes := cL_weightOf) (maxL' := 4) (ret' := (some .int)) (hh := [(0, 9, 12, 13)]) (hts _ List.mem_cons_self)
  subst hsz
  have hD := hD0.self (sz := s.heap.size)
  generalize hAe : va_A (wL q cq o9 co V9 T R S X M P n h k w f d v z) s.heap.size = A at hD hE ⊢
  have hA : ∀ q : Nat, s.heap.size ≤ q → A q := fun q h => by rw [← hAe]; exact Or.inr h
  have hS : va_S A s.heap s.heap [] := va_S.rf
  have hP : va_P D vwCl (wL q cq o9 co V9 T R S X M P n h k w f d v z) s.heap := hP
  have hl := lv_entry ([.ref (q 0), .int x, .ref o9]) (n := 4) (Nat.le_of_ble_eq_true rfl)
  rw [lg_entry_eq]
  generalize (lg_sl ([.ref (q 0), .int x, .ref o9]) ++ List.replicate (4 - (lg_sl ([.ref (q 0), .int x, .ref o9])).length) Slot.unset).toArray = ls at hl ⊢
  have hl : lv_has ls 4 [(0, .ref (q 0)), (1, .int x), (2, .ref o9)] := hl
  refine lv_aload_n hx hb dL_weightOf_0 rfl (lv_at hl 2 rfl) ?_
  refine lv_iconst (v := 0) hx hb dL_weightOf_1 (by decide) ?_
  refine lv_aload_n hx hb dL_weightOf_2 rfl (lv_at hl 0 rfl) ?_
  refine lv_iload_n hx hb dL_weightOf_3 rfl (lv_at hl 1 rfl) ?_
  have hPc := hP.sub (ws' := (wB q cq T R S X M P n h k w f d v z)) [1, 2, 3, 4, 5, 6, 7, 8] rfl
  have hKc := hK.sub (tys' := (tyB cq)) [1, 2, 3, 4, 5, 6] rfl
  refine vy_callSi (vx_runV (As := [.int x]) (rest := [.int 0, .ref o9]) ⟨hx, hb, hml, hown, hts⟩ (c_X1_weightOf l hst D q cq T R S X M P n h k w f d v z x) (cwV 1 hts gL_weightOf_X1_weightOf rfl rfl rfl (by decide +kernel) ⟨Nat.le_of_ble_eq_true rfl, Nat.le_of_ble_eq_true rfl⟩) ⟨fun a U g mk z => ⟨z.1, z.2.1, va_K.moved (u := U) (U := U.calling g mk a) (Vm.Alike.refl U.vm) z.2.2.1, z.2.2.2.blind g mk a⟩, va_recv hKc hPc (ci := 1) (q0 := 0) rfl rfl, fun U hU hW => ⟨rfl, by rw [hU]; exact hPc, va_K.moved hW.alike hKc, hE.at0 hS hU hW⟩⟩ rfl rfl hl.1 rfl (lv_room (Nat.le_of_ble_eq_true rfl)) dL_weightOf_4 ⟨Nat.le_of_ble_eq_true rfl, Nat.le_of_ble_eq_true rfl⟩) hS (fun _ _ z => z.elim) (fun E9 ce q9 u9 t8 H locs ht hvm hu hE9 hz1 hk1 hS hce hcv hcl => ?_) (fun r9 hw => ?_)
  · skip
    have hP := hP.kept (H1 := H) (fun k q hq => hk1 q.1 ((hP k q hq).lt) (fun z => z))
    have hn : ¬ (kX1_weightOf x) = 0 := fun z => hu.2 (hu.1.symm.trans z)
    have hv : VO (kX1_weightOf x) V9 (fX1_weightOf T x).toInt64 = V9 := if_neg hn
    have hkr := kr_weightOf x
    rw [hu.1] at hkr
    rcases hkr with h0 | h1
    · exact absurd h0 hu.2
    · subst h1
      have hE9 : E9 = "java/lang/IndexOutOfBoundsException" := hE9
      subst hE9
      refine vx_catch hown [] _ _ (htab.trans rfl) (fun z hz => absurd hz List.not_mem_nil) rfl (by decide) (hts (.classLink RL 13 "java/lang/IndexOutOfBoundsException") (List.mem_of_getElem? (i := 1) rfl)) (va_Nw.use rfl hE.2.1.1) hce hcv hcl ?_
      refine lv_astore_n (lv' := [(3, .ref q9), (0, .ref (q 0)), (1, .int x), (2, .ref o9)]) hx hb dL_weightOf_12 rfl hl (by decide) rfl (fun ls hl => ?_)
      refine lv_iconst (v := 1) hx hb dL_weightOf_13 (by decide) ?_
      exact W.iret (v := 1) hx hb hr (fun t9 ht9 hW => ⟨⟨1, (), rfl, (by rw [hu.1]; rfl), ⟨by rw [ht9, hv]; exact hP, by rw [hv]; exact hD⟩⟩, hS.F ht9⟩) hS.2.2 dL_weightOf_14
  · skip
    obtain ⟨hk, hw⟩ := hw
    have hv : VO (kX1_weightOf x) V9 (fX1_weightOf T x).toInt64 = vp_updL V9 0 (fX1_weightOf T x).toInt64 := if_pos hk
    subst r9
    refine lv_i2l hx hb dL_weightOf_7 rfl ?_
    refine va_last hx hb hK hP hD hS 0 0 rfl rfl (i := 0) (vp_in_nI (n := 0) (N := 1) (by decide) (by decide)) dL_weightOf_8 (fun H locs hP hD hS => ?_)
    have hP : va_P D vwCl (wL q cq o9 co (vp_updL V9 0 (fX1_weightOf T x).toInt64) T R S X M P n h k w f d v z) H := hP
    have hD : va_D A (wL q cq o9 co (vp_updL V9 0 (fX1_weightOf T x).toInt64) T R S X M P n h k w f d v z) := hD
    refine lv_goto (tgt := 15) hx hb dL_weightOf_9 (by decide) ?_
    refine lv_iconst (v := 0) hx hb dL_weightOf_15 (by decide) ?_
    refine W.widen (k := 1) (n := 6) (Nat.le_of_ble_eq_true rfl) (Nat.le_of_ble_eq_true rfl) ?_
    exact W.iret (v := 0) hx hb hr (fun t9 ht9 hW => ⟨⟨0, (), rfl, (by rw [hk]; rfl), ⟨by rw [ht9, hv]; exact hP, by rw [hv]; exact hD⟩⟩, hS.F ht9⟩) hS.2.2 dL_weightOf_16
theorem kr_dependsOn (T : Nat → Int32) (x : Int32) (x2 : Int32) : (kX1_dependsOn T x x2) = 0 ∨ (kX1_dependsOn T x x2) = 1 := by
  unfold kX1_dependsOn
  try unfold kX1_checkFunction
  try unfold kX1_checkVariable
  try unfold kX1_validTextProducts
  repeat' split
  all_goals (first | (simp; done) | (simp_all; done) | omega)
set_option maxHeartbeats 4000000 in
set_option maxRecDepth 100000 in
theorem c_L_dependsOn (l : Launch) (hst : l.stackTraces = false) (D : va_G) (q : Nat → Nat) (cq : Nat → ClassId) (o9 : Nat) (co : ClassId) (V9 : Nat → Int64) (sz : Nat) (T : Nat → Int32) (R : Nat → Int32) (S : Nat → Int32) (X : Nat → Int32) (M : Nat → Int32) (P : Nat → Int32) (n : Int32) (h : Int32) (k : Int32) (w : Int32) (f : Int32) (d : Int32) (v : Int32) (z : Int32) (x : Int32) (x2 : Int32)  : Met l yL_dependsOn wsL_dependsOn ({ frames := 8, cells := 1, slots := 6, locals := 200 }) (va_Pc [.ref (q 0), .int x, .int x2, .ref o9] (fun U => U.heap.size = sz ∧ va_P D vwCl (wL q cq o9 co V9 T R S X M P n h k w f d v z) U.heap ∧ va_K D vwCl (tyL cq co) U ∧ va_D (fun _ => True) (wL q cq o9 co V9 T R S X M P n h k w f d v z) ∧ envE (va_A (wL q cq o9 co V9 T R S X M P n h k w f d v z) sz) U)) (va_Qi (fun r9 (_ : Unit) => r9 = cd1 (kX1_dependsOn T x x2)) (fun _ t9 => va_P D vwCl (wL q cq o9 co (VO (kX1_dependsOn T x x2) V9 (if (fX1_dependsOn T x x2) = 0 then 0 else 1 : Int64)) T R S X M P n h k w f d v z) t9.heap ∧ va_D (va_A (wL q cq o9 co V9 T R S X M P n h k w f d v z) sz) (wL q cq o9 co (VO (kX1_dependsOn T x x2) V9 (if (fX1_dependsOn T x x2) = 0 then 0 else 1 : Int64)) T R S X M P n h k w f d v z)) (va_A (wL q cq o9 co V9 T R S X M P n h k w f d v z) sz)) 1 6 (va_A (wL q cq o9 co V9 T R S X M P n h k w f d v z) sz) := by
  refine vw_ofWH (cc := cL_dependsOn) (maxL := 5) (ret := (some .int)) (hh := [(0, 17, 20, 13)]) (by decide) rfl ?_
  intro p e s m args below meth c s₁ B hml hv
  obtain ⟨rfl, hsz, hP, hK, hD0, hE⟩ := hv
  have hx := B.exec
  have hb := B.bytes
  have hr := B.returns
  have hts := atoms_spec (ws := wsL_dependsOn) B.pre
  have hown : s.vm.findClass RL = some m.cls := findClass_of_methodNamed B.named
  have hlocks := B.notSynchronized
  have htab := vx_table B (x := yL_dependsOn) (y := yL_dependsOn) (bytes := cL_dependsOn) (maxL' := 5) (ret' := (some .int)) (hh := [(0, 17, 20, 13)]) (hts _ List.mem_cons_self)
  subst hsz
  have hD := hD0.self (sz := s.heap.size)
  generalize hAe : va_A (wL q cq o9 co V9 T R S X M P n h k w f d v z) s.heap.size = A at hD hE ⊢
  have hA : ∀ q : Nat, s.heap.size ≤ q → A q := fun q h => by rw [← hAe]; exact Or.inr h
  have hS : va_S A s.heap s.heap [] := va_S.rf
  have hP : va_P D vwCl (wL q cq o9 co V9 T R S X M P n h k w f d v z) s.heap := hP
  have hl := lv_entry ([.ref (q 0), .int x, .int x2, .ref o9]) (n := 5) (Nat.le_of_ble_eq_true rfl)
  rw [lg_entry_eq]
  generalize (lg_sl ([.ref (q 0), .int x, .int x2, .ref o9]) ++ List.replicate (5 - (lg_sl ([.ref (q 0), .int x, .int x2, .ref o9])).length) Slot.unset).toArray = ls at hl ⊢
  have hl : lv_has ls 5 [(0, .ref (q 0)), (1, .int x), (2, .int x2), (3, .ref o9)] := hl
  refine lv_aload_n hx hb dL_dependsOn_0 rfl (lv_at hl 3 rfl) ?_
  refine lv_iconst (v := 0) hx hb dL_dependsOn_1 (by decide) ?_
  refine lv_aload_n hx hb dL_dependsOn_2 rfl (lv_at hl 0 rfl) ?_
  refine lv_iload_n hx hb dL_dependsOn_3 rfl (lv_at hl 1 rfl) ?_
  refine lv_iload_n hx hb dL_dependsOn_4 rfl (lv_at hl 2 rfl) ?_
  have hPc := hP.sub (ws' := (wB q cq T R S X M P n h k w f d v z)) [1, 2, 3, 4, 5, 6, 7, 8] rfl
  have hKc := hK.sub (tys' := (tyB cq)) [1, 2, 3, 4, 5, 6] rfl
  refine vy_callSi (vx_runV (As := [.int x, .int x2]) (rest := [.int 0, .ref o9]) ⟨hx, hb, hml, hown, hts⟩ (c_X1_dependsOn l hst D q cq T R S X M P n h k w f d v z x x2) (cwV 2 hts gL_dependsOn_X1_dependsOn rfl rfl rfl (by decide +kernel) ⟨Nat.le_of_ble_eq_true rfl, Nat.le_of_ble_eq_true rfl⟩) ⟨fun a U g mk z => ⟨z.1, z.2.1, va_K.moved (u := U) (U := U.calling g mk a) (Vm.Alike.refl U.vm) z.2.2.1, z.2.2.2.blind g mk a⟩, va_recv hKc hPc (ci := 1) (q0 := 0) rfl rfl, fun U hU hW => ⟨rfl, by rw [hU]; exact hPc, va_K.moved hW.alike hKc, hE.at0 hS hU hW⟩⟩ rfl rfl hl.1 rfl (lv_room (Nat.le_of_ble_eq_true rfl)) dL_dependsOn_5 ⟨Nat.le_of_ble_eq_true rfl, Nat.le_of_ble_eq_true rfl⟩) hS (fun _ _ z => z.elim) (fun E9 ce q9 u9 t8 H locs ht hvm hu hE9 hz1 hk1 hS hce hcv hcl => ?_) (fun r9 hw => ?_)
  · skip
    have hP := hP.kept (H1 := H) (fun k q hq => hk1 q.1 ((hP k q hq).lt) (fun z => z))
    have hn : ¬ (kX1_dependsOn T x x2) = 0 := fun z => hu.2 (hu.1.symm.trans z)
    have hv : VO (kX1_dependsOn T x x2) V9 (if (fX1_dependsOn T x x2) = 0 then 0 else 1 : Int64) = V9 := if_neg hn
    have hkr := kr_dependsOn T x x2
    rw [hu.1] at hkr
    rcases hkr with h0 | h1
    · exact absurd h0 hu.2
    · subst h1
      have hE9 : E9 = "java/lang/IndexOutOfBoundsException" := hE9
      subst hE9
      refine vx_catch hown [] _ _ (htab.trans rfl) (fun z hz => absurd hz List.not_mem_nil) rfl (by decide) (hts (.classLink RL 13 "java/lang/IndexOutOfBoundsException") (List.mem_of_getElem? (i := 1) rfl)) (va_Nw.use rfl hE.2.1.1) hce hcv hcl ?_
      refine lv_astore (lv' := [(4, .ref q9), (0, .ref (q 0)), (1, .int x), (2, .int x2), (3, .ref o9)]) hx hb dL_dependsOn_20 hl (by decide) rfl (fun ls hl => ?_)
      refine lv_iconst (v := 1) hx hb dL_dependsOn_22 (by decide) ?_
      exact W.iret (v := 1) hx hb hr (fun t9 ht9 hW => ⟨⟨1, (), rfl, (by rw [hu.1]; rfl), ⟨by rw [ht9, hv]; exact hP, by rw [hv]; exact hD⟩⟩, hS.F ht9⟩) hS.2.2 dL_dependsOn_23
  · skip
    obtain ⟨hk, hw⟩ := hw
    have hv : VO (kX1_dependsOn T x x2) V9 (if (fX1_dependsOn T x x2) = 0 then 0 else 1 : Int64) = vp_updL V9 0 (if (fX1_dependsOn T x x2) = 0 then 0 else 1 : Int64) := if_pos hk
    subst r9
    refine lv_if_eq (tgt := 15) hx hb dL_dependsOn_8 (by decide) (fun c1 => ?_) (fun c1 => ?_)
    · have hy : (if (fX1_dependsOn T x x2) = 0 then 0 else 1 : Int64) = 0 := if_pos c1
      have hv := hv.trans (congrArg (vp_updL V9 0) hy)
      refine lv_lconst (v := 0) hx hb dL_dependsOn_15 rfl ?_
      refine va_last hx hb hK hP hD hS 0 0 rfl rfl (i := 0) (vp_in_nI (n := 0) (N := 1) (by decide) (by decide)) dL_dependsOn_16 (fun H locs hP hD hS => ?_)
      have hP : va_P D vwCl (wL q cq o9 co (vp_updL V9 0 0) T R S X M P n h k w f d v z) H := hP
      have hD : va_D A (wL q cq o9 co (vp_updL V9 0 0) T R S X M P n h k w f d v z) := hD
      refine lv_goto (tgt := 24) hx hb dL_dependsOn_17 (by decide) ?_
      refine lv_iconst (v := 0) hx hb dL_dependsOn_24 (by decide) ?_
      refine W.widen (k := 1) (n := 6) (Nat.le_of_ble_eq_true rfl) (Nat.le_of_ble_eq_true rfl) ?_
      exact W.iret (v := 0) hx hb hr (fun t9 ht9 hW => ⟨⟨0, (), rfl, (by rw [hk]; rfl), ⟨by rw [ht9, hv]; exact hP, by rw [hv]; exact hD⟩⟩, hS.F ht9⟩) hS.2.2 dL_dependsOn_25
    · have hy : (if (fX1_dependsOn T x x2) = 0 then 0 else 1 : Int64) = 1 := if_neg c1
      have hv := hv.trans (congrArg (vp_updL V9 0) hy)
      refine lv_lconst (v := 1) hx hb dL_dependsOn_11 rfl ?_
      refine lv_goto (tgt := 16) hx hb dL_dependsOn_12 (by decide) ?_
      refine va_last hx hb hK hP hD hS 0 0 rfl rfl (i := 0) (vp_in_nI (n := 0) (N := 1) (by decide) (by decide)) dL_dependsOn_16 (fun H locs hP hD hS => ?_)
      have hP : va_P D vwCl (wL q cq o9 co (vp_updL V9 0 1) T R S X M P n h k w f d v z) H := hP
      have hD : va_D A (wL q cq o9 co (vp_updL V9 0 1) T R S X M P n h k w f d v z) := hD
      refine lv_goto (tgt := 24) hx hb dL_dependsOn_17 (by decide) ?_
      refine lv_iconst (v := 0) hx hb dL_dependsOn_24 (by decide) ?_
      refine W.widen (k := 1) (n := 6) (Nat.le_of_ble_eq_true rfl) (Nat.le_of_ble_eq_true rfl) ?_
      exact W.iret (v := 0) hx hb hr (fun t9 ht9 hW => ⟨⟨0, (), rfl, (by rw [hk]; rfl), ⟨by rw [ht9, hv]; exact hP, by rw [hv]; exact hD⟩⟩, hS.F ht9⟩) hS.2.2 dL_dependsOn_25
theorem kr_productsByHalves (x : Int32) : (kX1_productsByHalves x) = 0 ∨ (kX1_productsByHalves x) = 1 := by
  unfold kX1_productsByHalves
  try unfold kX1_checkFunction
  try unfold kX1_checkVariable
  try unfold kX1_validTextProducts
  repeat' split
  all_goals (first | (simp; done) | (simp_all; done) | omega)
set_option maxHeartbeats 4000000 in
set_option maxRecDepth 100000 in
theorem c_L_productsByHalves (l : Launch) (hst : l.stackTraces = false) (D : va_G) (q : Nat → Nat) (cq : Nat → ClassId) (o9 : Nat) (co : ClassId) (V9 : Nat → Int64) (sz : Nat) (T : Nat → Int32) (R : Nat → Int32) (S : Nat → Int32) (X : Nat → Int32) (M : Nat → Int32) (P : Nat → Int32) (n : Int32) (h : Int32) (k : Int32) (w : Int32) (f : Int32) (d : Int32) (v : Int32) (z : Int32) (x : Int32)  : Met l yL_productsByHalves wsL_productsByHalves ({ frames := 8, cells := 1, slots := 6, locals := 200 }) (va_Pc [.ref (q 0), .int x, .ref o9] (fun U => U.heap.size = sz ∧ va_P D vwCl (wL q cq o9 co V9 T R S X M P n h k w f d v z) U.heap ∧ va_K D vwCl (tyL cq co) U ∧ va_D (fun _ => True) (wL q cq o9 co V9 T R S X M P n h k w f d v z) ∧ envE (va_A (wL q cq o9 co V9 T R S X M P n h k w f d v z) sz) U)) (va_Qi (fun r9 (_ : Unit) => r9 = cd1 (kX1_productsByHalves x)) (fun _ t9 => va_P D vwCl (wL q cq o9 co (VO (kX1_productsByHalves x) V9 (fX1_productsByHalves T x).toInt64) T R S X M P n h k w f d v z) t9.heap ∧ va_D (va_A (wL q cq o9 co V9 T R S X M P n h k w f d v z) sz) (wL q cq o9 co (VO (kX1_productsByHalves x) V9 (fX1_productsByHalves T x).toInt64) T R S X M P n h k w f d v z)) (va_A (wL q cq o9 co V9 T R S X M P n h k w f d v z) sz)) 1 6 (va_A (wL q cq o9 co V9 T R S X M P n h k w f d v z) sz) := by
  refine vw_ofWH (cc := cL_productsByHalves) (maxL := 4) (ret := (some .int)) (hh := [(0, 9, 12, 13)]) (by decide) rfl ?_
  intro p e s m args below meth c s₁ B hml hv
  obtain ⟨rfl, hsz, hP, hK, hD0, hE⟩ := hv
  have hx := B.exec
  have hb := B.bytes
  have hr := B.returns
  have hts := atoms_spec (ws := wsL_productsByHalves) B.pre
  have hown : s.vm.findClass RL = some m.cls := findClass_of_methodNamed B.named
  have hlocks := B.notSynchronized
  have htab := vx_table B (x := yL_productsByHalves) (y := yL_productsByHalves) (bytes := cL_productsByHalves) (maxL' := 4) (ret' := (some .int)) (hh := [(0, 9, 12, 13)]) (hts _ List.mem_cons_self)
  subst hsz
  have hD := hD0.self (sz := s.heap.size)
  generalize hAe : va_A (wL q cq o9 co V9 T R S X M P n h k w f d v z) s.heap.size = A at hD hE ⊢
  have hA : ∀ q : Nat, s.heap.size ≤ q → A q := fun q h => by rw [← hAe]; exact Or.inr h
  have hS : va_S A s.heap s.heap [] := va_S.rf
  have hP : va_P D vwCl (wL q cq o9 co V9 T R S X M P n h k w f d v z) s.heap := hP
  have hl := lv_entry ([.ref (q 0), .int x, .ref o9]) (n := 4) (Nat.le_of_ble_eq_true rfl)
  rw [lg_entry_eq]
  generalize (lg_sl ([.ref (q 0), .int x, .ref o9]) ++ List.replicate (4 - (lg_sl ([.ref (q 0), .int x, .ref o9])).length) Slot.unset).toArray = ls at hl ⊢
  have hl : lv_has ls 4 [(0, .ref (q 0)), (1, .int x), (2, .ref o9)] := hl
  refine lv_aload_n hx hb dL_productsByHalves_0 rfl (lv_at hl 2 rfl) ?_
  refine lv_iconst (v := 0) hx hb dL_productsByHalves_1 (by decide) ?_
  refine lv_aload_n hx hb dL_productsByHalves_2 rfl (lv_at hl 0 rfl) ?_
  refine lv_iload_n hx hb dL_productsByHalves_3 rfl (lv_at hl 1 rfl) ?_
  have hPc := hP.sub (ws' := (wB q cq T R S X M P n h k w f d v z)) [1, 2, 3, 4, 5, 6, 7, 8] rfl
  have hKc := hK.sub (tys' := (tyB cq)) [1, 2, 3, 4, 5, 6] rfl
  refine vy_callSi (vx_runV (As := [.int x]) (rest := [.int 0, .ref o9]) ⟨hx, hb, hml, hown, hts⟩ (c_X1_productsByHalves l hst D q cq T R S X M P n h k w f d v z x) (cwV 1 hts gL_productsByHalves_X1_productsByHalves rfl rfl rfl (by decide +kernel) ⟨Nat.le_of_ble_eq_true rfl, Nat.le_of_ble_eq_true rfl⟩) ⟨fun a U g mk z => ⟨z.1, z.2.1, va_K.moved (u := U) (U := U.calling g mk a) (Vm.Alike.refl U.vm) z.2.2.1, z.2.2.2.blind g mk a⟩, va_recv hKc hPc (ci := 1) (q0 := 0) rfl rfl, fun U hU hW => ⟨rfl, by rw [hU]; exact hPc, va_K.moved hW.alike hKc, hE.at0 hS hU hW⟩⟩ rfl rfl hl.1 rfl (lv_room (Nat.le_of_ble_eq_true rfl)) dL_productsByHalves_4 ⟨Nat.le_of_ble_eq_true rfl, Nat.le_of_ble_eq_true rfl⟩) hS (fun _ _ z => z.elim) (fun E9 ce q9 u9 t8 H locs ht hvm hu hE9 hz1 hk1 hS hce hcv hcl => ?_) (fun r9 hw => ?_)
  · skip
    have hP := hP.kept (H1 := H) (fun k q hq => hk1 q.1 ((hP k q hq).lt) (fun z => z))
    have hn : ¬ (kX1_productsByHalves x) = 0 := fun z => hu.2 (hu.1.symm.trans z)
    have hv : VO (kX1_productsByHalves x) V9 (fX1_productsByHalves T x).toInt64 = V9 := if_neg hn
    have hkr := kr_productsByHalves x
    rw [hu.1] at hkr
    rcases hkr with h0 | h1
    · exact absurd h0 hu.2
    · subst h1
      have hE9 : E9 = "java/lang/IndexOutOfBoundsException" := hE9
      subst hE9
      refine vx_catch hown [] _ _ (htab.trans rfl) (fun z hz => absurd hz List.not_mem_nil) rfl (by decide) (hts (.classLink RL 13 "java/lang/IndexOutOfBoundsException") (List.mem_of_getElem? (i := 1) rfl)) (va_Nw.use rfl hE.2.1.1) hce hcv hcl ?_
      refine lv_astore_n (lv' := [(3, .ref q9), (0, .ref (q 0)), (1, .int x), (2, .ref o9)]) hx hb dL_productsByHalves_12 rfl hl (by decide) rfl (fun ls hl => ?_)
      refine lv_iconst (v := 1) hx hb dL_productsByHalves_13 (by decide) ?_
      exact W.iret (v := 1) hx hb hr (fun t9 ht9 hW => ⟨⟨1, (), rfl, (by rw [hu.1]; rfl), ⟨by rw [ht9, hv]; exact hP, by rw [hv]; exact hD⟩⟩, hS.F ht9⟩) hS.2.2 dL_productsByHalves_14
  · skip
    obtain ⟨hk, hw⟩ := hw
    have hv : VO (kX1_productsByHalves x) V9 (fX1_productsByHalves T x).toInt64 = vp_updL V9 0 (fX1_productsByHalves T x).toInt64 := if_pos hk
    subst r9
    refine lv_i2l hx hb dL_productsByHalves_7 rfl ?_
    refine va_last hx hb hK hP hD hS 0 0 rfl rfl (i := 0) (vp_in_nI (n := 0) (N := 1) (by decide) (by decide)) dL_productsByHalves_8 (fun H locs hP hD hS => ?_)
    have hP : va_P D vwCl (wL q cq o9 co (vp_updL V9 0 (fX1_productsByHalves T x).toInt64) T R S X M P n h k w f d v z) H := hP
    have hD : va_D A (wL q cq o9 co (vp_updL V9 0 (fX1_productsByHalves T x).toInt64) T R S X M P n h k w f d v z) := hD
    refine lv_goto (tgt := 15) hx hb dL_productsByHalves_9 (by decide) ?_
    refine lv_iconst (v := 0) hx hb dL_productsByHalves_15 (by decide) ?_
    refine W.widen (k := 1) (n := 6) (Nat.le_of_ble_eq_true rfl) (Nat.le_of_ble_eq_true rfl) ?_
    exact W.iret (v := 0) hx hb hr (fun t9 ht9 hW => ⟨⟨0, (), rfl, (by rw [hk]; rfl), ⟨by rw [ht9, hv]; exact hP, by rw [hv]; exact hD⟩⟩, hS.F ht9⟩) hS.2.2 dL_productsByHalves_16
theorem kr_productsBySums (x : Int32) : (kX1_productsBySums x) = 0 ∨ (kX1_productsBySums x) = 1 := by
  unfold kX1_productsBySums
  try unfold kX1_checkFunction
  try unfold kX1_checkVariable
  try unfold kX1_validTextProducts
  repeat' split
  all_goals (first | (simp; done) | (simp_all; done) | omega)
set_option maxHeartbeats 4000000 in
set_option maxRecDepth 100000 in
theorem c_L_productsBySums (l : Launch) (hst : l.stackTraces = false) (D : va_G) (q : Nat → Nat) (cq : Nat → ClassId) (o9 : Nat) (co : ClassId) (V9 : Nat → Int64) (sz : Nat) (T : Nat → Int32) (R : Nat → Int32) (S : Nat → Int32) (X : Nat → Int32) (M : Nat → Int32) (P : Nat → Int32) (n : Int32) (h : Int32) (k : Int32) (w : Int32) (f : Int32) (d : Int32) (v : Int32) (z : Int32) (x : Int32)  : Met l yL_productsBySums wsL_productsBySums ({ frames := 8, cells := 1, slots := 6, locals := 200 }) (va_Pc [.ref (q 0), .int x, .ref o9] (fun U => U.heap.size = sz ∧ va_P D vwCl (wL q cq o9 co V9 T R S X M P n h k w f d v z) U.heap ∧ va_K D vwCl (tyL cq co) U ∧ va_D (fun _ => True) (wL q cq o9 co V9 T R S X M P n h k w f d v z) ∧ envE (va_A (wL q cq o9 co V9 T R S X M P n h k w f d v z) sz) U)) (va_Qi (fun r9 (_ : Unit) => r9 = cd1 (kX1_productsBySums x)) (fun _ t9 => va_P D vwCl (wL q cq o9 co (VO (kX1_productsBySums x) V9 (fX1_productsBySums T x).toInt64) T R S X M P n h k w f d v z) t9.heap ∧ va_D (va_A (wL q cq o9 co V9 T R S X M P n h k w f d v z) sz) (wL q cq o9 co (VO (kX1_productsBySums x) V9 (fX1_productsBySums T x).toInt64) T R S X M P n h k w f d v z)) (va_A (wL q cq o9 co V9 T R S X M P n h k w f d v z) sz)) 1 6 (va_A (wL q cq o9 co V9 T R S X M P n h k w f d v z) sz) := by
  refine vw_ofWH (cc := cL_productsBySums) (maxL := 4) (ret := (some .int)) (hh := [(0, 9, 12, 13)]) (by decide) rfl ?_
  intro p e s m args below meth c s₁ B hml hv
  obtain ⟨rfl, hsz, hP, hK, hD0, hE⟩ := hv
  have hx := B.exec
  have hb := B.bytes
  have hr := B.returns
  have hts := atoms_spec (ws := wsL_productsBySums) B.pre
  have hown : s.vm.findClass RL = some m.cls := findClass_of_methodNamed B.named
  have hlocks := B.notSynchronized
  have htab := vx_table B (x := yL_productsBySums) (y := yL_productsBySums) (bytes := cL_productsBySums) (maxL' := 4) (ret' := (some .int)) (hh := [(0, 9, 12, 13)]) (hts _ List.mem_cons_self)
  subst hsz
  have hD := hD0.self (sz := s.heap.size)
  generalize hAe : va_A (wL q cq o9 co V9 T R S X M P n h k w f d v z) s.heap.size = A at hD hE ⊢
  have hA : ∀ q : Nat, s.heap.size ≤ q → A q := fun q h => by rw [← hAe]; exact Or.inr h
  have hS : va_S A s.heap s.heap [] := va_S.rf
  have hP : va_P D vwCl (wL q cq o9 co V9 T R S X M P n h k w f d v z) s.heap := hP
  have hl := lv_entry ([.ref (q 0), .int x, .ref o9]) (n := 4) (Nat.le_of_ble_eq_true rfl)
  rw [lg_entry_eq]
  generalize (lg_sl ([.ref (q 0), .int x, .ref o9]) ++ List.replicate (4 - (lg_sl ([.ref (q 0), .int x, .ref o9])).length) Slot.unset).toArray = ls at hl ⊢
  have hl : lv_has ls 4 [(0, .ref (q 0)), (1, .int x), (2, .ref o9)] := hl
  refine lv_aload_n hx hb dL_productsBySums_0 rfl (lv_at hl 2 rfl) ?_
  refine lv_iconst (v := 0) hx hb dL_productsBySums_1 (by decide) ?_
  refine lv_aload_n hx hb dL_productsBySums_2 rfl (lv_at hl 0 rfl) ?_
  refine lv_iload_n hx hb dL_productsBySums_3 rfl (lv_at hl 1 rfl) ?_
  have hPc := hP.sub (ws' := (wB q cq T R S X M P n h k w f d v z)) [1, 2, 3, 4, 5, 6, 7, 8] rfl
  have hKc := hK.sub (tys' := (tyB cq)) [1, 2, 3, 4, 5, 6] rfl
  refine vy_callSi (vx_runV (As := [.int x]) (rest := [.int 0, .ref o9]) ⟨hx, hb, hml, hown, hts⟩ (c_X1_productsBySums l hst D q cq T R S X M P n h k w f d v z x) (cwV 1 hts gL_productsBySums_X1_productsBySums rfl rfl rfl (by decide +kernel) ⟨Nat.le_of_ble_eq_true rfl, Nat.le_of_ble_eq_true rfl⟩) ⟨fun a U g mk z => ⟨z.1, z.2.1, va_K.moved (u := U) (U := U.calling g mk a) (Vm.Alike.refl U.vm) z.2.2.1, z.2.2.2.blind g mk a⟩, va_recv hKc hPc (ci := 1) (q0 := 0) rfl rfl, fun U hU hW => ⟨rfl, by rw [hU]; exact hPc, va_K.moved hW.alike hKc, hE.at0 hS hU hW⟩⟩ rfl rfl hl.1 rfl (lv_room (Nat.le_of_ble_eq_true rfl)) dL_productsBySums_4 ⟨Nat.le_of_ble_eq_true rfl, Nat.le_of_ble_eq_true rfl⟩) hS (fun _ _ z => z.elim) (fun E9 ce q9 u9 t8 H locs ht hvm hu hE9 hz1 hk1 hS hce hcv hcl => ?_) (fun r9 hw => ?_)
  · skip
    have hP := hP.kept (H1 := H) (fun k q hq => hk1 q.1 ((hP k q hq).lt) (fun z => z))
    have hn : ¬ (kX1_productsBySums x) = 0 := fun z => hu.2 (hu.1.symm.trans z)
    have hv : VO (kX1_productsBySums x) V9 (fX1_productsBySums T x).toInt64 = V9 := if_neg hn
    have hkr := kr_productsBySums x
    rw [hu.1] at hkr
    rcases hkr with h0 | h1
    · exact absurd h0 hu.2
    · subst h1
      have hE9 : E9 = "java/lang/IndexOutOfBoundsException" := hE9
      subst hE9
      refine vx_catch hown [] _ _ (htab.trans rfl) (fun z hz => absurd hz List.not_mem_nil) rfl (by decide) (hts (.classLink RL 13 "java/lang/IndexOutOfBoundsException") (List.mem_of_getElem? (i := 1) rfl)) (va_Nw.use rfl hE.2.1.1) hce hcv hcl ?_
      refine lv_astore_n (lv' := [(3, .ref q9), (0, .ref (q 0)), (1, .int x), (2, .ref o9)]) hx hb dL_productsBySums_12 rfl hl (by decide) rfl (fun ls hl => ?_)
      refine lv_iconst (v := 1) hx hb dL_productsBySums_13 (by decide) ?_
      exact W.iret (v := 1) hx hb hr (fun t9 ht9 hW => ⟨⟨1, (), rfl, (by rw [hu.1]; rfl), ⟨by rw [ht9, hv]; exact hP, by rw [hv]; exact hD⟩⟩, hS.F ht9⟩) hS.2.2 dL_productsBySums_14
  · skip
    obtain ⟨hk, hw⟩ := hw
    have hv : VO (kX1_productsBySums x) V9 (fX1_productsBySums T x).toInt64 = vp_updL V9 0 (fX1_productsBySums T x).toInt64 := if_pos hk
    subst r9
    refine lv_i2l hx hb dL_productsBySums_7 rfl ?_
    refine va_last hx hb hK hP hD hS 0 0 rfl rfl (i := 0) (vp_in_nI (n := 0) (N := 1) (by decide) (by decide)) dL_productsBySums_8 (fun H locs hP hD hS => ?_)
    have hP : va_P D vwCl (wL q cq o9 co (vp_updL V9 0 (fX1_productsBySums T x).toInt64) T R S X M P n h k w f d v z) H := hP
    have hD : va_D A (wL q cq o9 co (vp_updL V9 0 (fX1_productsBySums T x).toInt64) T R S X M P n h k w f d v z) := hD
    refine lv_goto (tgt := 15) hx hb dL_productsBySums_9 (by decide) ?_
    refine lv_iconst (v := 0) hx hb dL_productsBySums_15 (by decide) ?_
    refine W.widen (k := 1) (n := 6) (Nat.le_of_ble_eq_true rfl) (Nat.le_of_ble_eq_true rfl) ?_
    exact W.iret (v := 0) hx hb hr (fun t9 ht9 hW => ⟨⟨0, (), rfl, (by rw [hk]; rfl), ⟨by rw [ht9, hv]; exact hP, by rw [hv]; exact hD⟩⟩, hS.F ht9⟩) hS.2.2 dL_productsBySums_16
theorem kr_degreeOf (x : Int32) : (kX1_degreeOf x) = 0 ∨ (kX1_degreeOf x) = 1 := by
  unfold kX1_degreeOf
  try unfold kX1_checkFunction
  try unfold kX1_checkVariable
  try unfold kX1_validTextProducts
  repeat' split
  all_goals (first | (simp; done) | (simp_all; done) | omega)
set_option maxHeartbeats 4000000 in
set_option maxRecDepth 100000 in
theorem c_L_degreeOf (l : Launch) (hst : l.stackTraces = false) (D : va_G) (q : Nat → Nat) (cq : Nat → ClassId) (o9 : Nat) (co : ClassId) (V9 : Nat → Int64) (sz : Nat) (T : Nat → Int32) (R : Nat → Int32) (S : Nat → Int32) (X : Nat → Int32) (M : Nat → Int32) (P : Nat → Int32) (n : Int32) (h : Int32) (k : Int32) (w : Int32) (f : Int32) (d : Int32) (v : Int32) (z : Int32) (x : Int32)  : Met l yL_degreeOf wsL_degreeOf ({ frames := 8, cells := 1, slots := 6, locals := 200 }) (va_Pc [.ref (q 0), .int x, .ref o9] (fun U => U.heap.size = sz ∧ va_P D vwCl (wL q cq o9 co V9 T R S X M P n h k w f d v z) U.heap ∧ va_K D vwCl (tyL cq co) U ∧ va_D (fun _ => True) (wL q cq o9 co V9 T R S X M P n h k w f d v z) ∧ envE (va_A (wL q cq o9 co V9 T R S X M P n h k w f d v z) sz) U)) (va_Qi (fun r9 (_ : Unit) => r9 = cd1 (kX1_degreeOf x)) (fun _ t9 => va_P D vwCl (wL q cq o9 co (VO (kX1_degreeOf x) V9 (fX1_degreeOf T x).toInt64) T R S X M P n h k w f d v z) t9.heap ∧ va_D (va_A (wL q cq o9 co V9 T R S X M P n h k w f d v z) sz) (wL q cq o9 co (VO (kX1_degreeOf x) V9 (fX1_degreeOf T x).toInt64) T R S X M P n h k w f d v z)) (va_A (wL q cq o9 co V9 T R S X M P n h k w f d v z) sz)) 1 6 (va_A (wL q cq o9 co V9 T R S X M P n h k w f d v z) sz) := by
  refine vw_ofWH (cc := cL_degreeOf) (maxL := 4) (ret := (some .int)) (hh := [(0, 9, 12, 13)]) (by decide) rfl ?_
  intro p e s m args below meth c s₁ B hml hv
  obtain ⟨rfl, hsz, hP, hK, hD0, hE⟩ := hv
  have hx := B.exec
  have hb := B.bytes
  have hr := B.returns
  have hts := atoms_spec (ws := wsL_degreeOf) B.pre
  have hown : s.vm.findClass RL = some m.cls := findClass_of_methodNamed B.named
  have hlocks := B.notSynchronized
  have htab := vx_table B (x := yL_degreeOf) (y := yL_degreeOf) (bytes := cL_degreeOf) (maxL' := 4) (ret' := (some .int)) (hh := [(0, 9, 12, 13)]) (hts _ List.mem_cons_self)
  subst hsz
  have hD := hD0.self (sz := s.heap.size)
  generalize hAe : va_A (wL q cq o9 co V9 T R S X M P n h k w f d v z) s.heap.size = A at hD hE ⊢
  have hA : ∀ q : Nat, s.heap.size ≤ q → A q := fun q h => by rw [← hAe]; exact Or.inr h
  have hS : va_S A s.heap s.heap [] := va_S.rf
  have hP : va_P D vwCl (wL q cq o9 co V9 T R S X M P n h k w f d v z) s.heap := hP
  have hl := lv_entry ([.ref (q 0), .int x, .ref o9]) (n := 4) (Nat.le_of_ble_eq_true rfl)
  rw [lg_entry_eq]
  generalize (lg_sl ([.ref (q 0), .int x, .ref o9]) ++ List.replicate (4 - (lg_sl ([.ref (q 0), .int x, .ref o9])).length) Slot.unset).toArray = ls at hl ⊢
  have hl : lv_has ls 4 [(0, .ref (q 0)), (1, .int x), (2, .ref o9)] := hl
  refine lv_aload_n hx hb dL_degreeOf_0 rfl (lv_at hl 2 rfl) ?_
  refine lv_iconst (v := 0) hx hb dL_degreeOf_1 (by decide) ?_
  refine lv_aload_n hx hb dL_degreeOf_2 rfl (lv_at hl 0 rfl) ?_
  refine lv_iload_n hx hb dL_degreeOf_3 rfl (lv_at hl 1 rfl) ?_
  have hPc := hP.sub (ws' := (wB q cq T R S X M P n h k w f d v z)) [1, 2, 3, 4, 5, 6, 7, 8] rfl
  have hKc := hK.sub (tys' := (tyB cq)) [1, 2, 3, 4, 5, 6] rfl
  refine vy_callSi (vx_runV (As := [.int x]) (rest := [.int 0, .ref o9]) ⟨hx, hb, hml, hown, hts⟩ (c_X1_degreeOf l hst D q cq T R S X M P n h k w f d v z x) (cwV 1 hts gL_degreeOf_X1_degreeOf rfl rfl rfl (by decide +kernel) ⟨Nat.le_of_ble_eq_true rfl, Nat.le_of_ble_eq_true rfl⟩) ⟨fun a U g mk z => ⟨z.1, z.2.1, va_K.moved (u := U) (U := U.calling g mk a) (Vm.Alike.refl U.vm) z.2.2.1, z.2.2.2.blind g mk a⟩, va_recv hKc hPc (ci := 1) (q0 := 0) rfl rfl, fun U hU hW => ⟨rfl, by rw [hU]; exact hPc, va_K.moved hW.alike hKc, hE.at0 hS hU hW⟩⟩ rfl rfl hl.1 rfl (lv_room (Nat.le_of_ble_eq_true rfl)) dL_degreeOf_4 ⟨Nat.le_of_ble_eq_true rfl, Nat.le_of_ble_eq_true rfl⟩) hS (fun _ _ z => z.elim) (fun E9 ce q9 u9 t8 H locs ht hvm hu hE9 hz1 hk1 hS hce hcv hcl => ?_) (fun r9 hw => ?_)
  · skip
    have hP := hP.kept (H1 := H) (fun k q hq => hk1 q.1 ((hP k q hq).lt) (fun z => z))
    have hn : ¬ (kX1_degreeOf x) = 0 := fun z => hu.2 (hu.1.symm.trans z)
    have hv : VO (kX1_degreeOf x) V9 (fX1_degreeOf T x).toInt64 = V9 := if_neg hn
    have hkr := kr_degreeOf x
    rw [hu.1] at hkr
    rcases hkr with h0 | h1
    · exact absurd h0 hu.2
    · subst h1
      have hE9 : E9 = "java/lang/IndexOutOfBoundsException" := hE9
      subst hE9
      refine vx_catch hown [] _ _ (htab.trans rfl) (fun z hz => absurd hz List.not_mem_nil) rfl (by decide) (hts (.classLink RL 13 "java/lang/IndexOutOfBoundsException") (List.mem_of_getElem? (i := 1) rfl)) (va_Nw.use rfl hE.2.1.1) hce hcv hcl ?_
      refine lv_astore_n (lv' := [(3, .ref q9), (0, .ref (q 0)), (1, .int x), (2, .ref o9)]) hx hb dL_degreeOf_12 rfl hl (by decide) rfl (fun ls hl => ?_)
      refine lv_iconst (v := 1) hx hb dL_degreeOf_13 (by decide) ?_
      exact W.iret (v := 1) hx hb hr (fun t9 ht9 hW => ⟨⟨1, (), rfl, (by rw [hu.1]; rfl), ⟨by rw [ht9, hv]; exact hP, by rw [hv]; exact hD⟩⟩, hS.F ht9⟩) hS.2.2 dL_degreeOf_14
  · skip
    obtain ⟨hk, hw⟩ := hw
    have hv : VO (kX1_degreeOf x) V9 (fX1_degreeOf T x).toInt64 = vp_updL V9 0 (fX1_degreeOf T x).toInt64 := if_pos hk
    subst r9
    refine lv_i2l hx hb dL_degreeOf_7 rfl ?_
    refine va_last hx hb hK hP hD hS 0 0 rfl rfl (i := 0) (vp_in_nI (n := 0) (N := 1) (by decide) (by decide)) dL_degreeOf_8 (fun H locs hP hD hS => ?_)
    have hP : va_P D vwCl (wL q cq o9 co (vp_updL V9 0 (fX1_degreeOf T x).toInt64) T R S X M P n h k w f d v z) H := hP
    have hD : va_D A (wL q cq o9 co (vp_updL V9 0 (fX1_degreeOf T x).toInt64) T R S X M P n h k w f d v z) := hD
    refine lv_goto (tgt := 15) hx hb dL_degreeOf_9 (by decide) ?_
    refine lv_iconst (v := 0) hx hb dL_degreeOf_15 (by decide) ?_
    refine W.widen (k := 1) (n := 6) (Nat.le_of_ble_eq_true rfl) (Nat.le_of_ble_eq_true rfl) ?_
    exact W.iret (v := 0) hx hb hr (fun t9 ht9 hW => ⟨⟨0, (), rfl, (by rw [hk]; rfl), ⟨by rw [ht9, hv]; exact hP, by rw [hv]; exact hD⟩⟩, hS.F ht9⟩) hS.2.2 dL_degreeOf_16
theorem kr_printedLength (x : Int32) : (kX1_printedLength x) = 0 ∨ (kX1_printedLength x) = 1 := by
  unfold kX1_printedLength
  try unfold kX1_checkFunction
  try unfold kX1_checkVariable
  try unfold kX1_validTextProducts
  repeat' split
  all_goals (first | (simp; done) | (simp_all; done) | omega)
set_option maxHeartbeats 4000000 in
set_option maxRecDepth 100000 in
theorem c_L_printedLength (l : Launch) (hst : l.stackTraces = false) (D : va_G) (q : Nat → Nat) (cq : Nat → ClassId) (o9 : Nat) (co : ClassId) (V9 : Nat → Int64) (sz : Nat) (T : Nat → Int32) (R : Nat → Int32) (S : Nat → Int32) (X : Nat → Int32) (M : Nat → Int32) (P : Nat → Int32) (n : Int32) (h : Int32) (k : Int32) (w : Int32) (f : Int32) (d : Int32) (v : Int32) (z : Nat) (x : Int32)  : Met l yL_printedLength wsL_printedLength ({ frames := 8, cells := 1, slots := 6, locals := 200 }) (va_Pc [.ref (q 0), .int x, .ref o9] (fun U => U.heap.size = sz ∧ va_P D vwCl (wL q cq o9 co V9 T R S X M P n h k w f d v (nI z)) U.heap ∧ va_K D vwCl (tyL cq co) U ∧ va_D (fun _ => True) (wL q cq o9 co V9 T R S X M P n h k w f d v (nI z)) ∧ envE (va_A (wL q cq o9 co V9 T R S X M P n h k w f d v (nI z)) sz) U)) (va_Qi (fun r9 (_ : Unit) => r9 = cd1 (kX1_printedLength x)) (fun _ t9 => va_P D vwCl (wL q cq o9 co (VO (kX1_printedLength x) V9 ((fX1_printedLength T P z x).1).toInt64) T R S X M ((fX1_printedLength T P z x).2.1) n h k w f d v (nI (fX1_printedLength T P z x).2.2)) t9.heap ∧ va_D (va_A (wL q cq o9 co V9 T R S X M P n h k w f d v (nI z)) sz) (wL q cq o9 co (VO (kX1_printedLength x) V9 ((fX1_printedLength T P z x).1).toInt64) T R S X M ((fX1_printedLength T P z x).2.1) n h k w f d v (nI (fX1_printedLength T P z x).2.2))) (va_A (wL q cq o9 co V9 T R S X M P n h k w f d v (nI z)) sz)) 1 6 (va_A (wL q cq o9 co V9 T R S X M P n h k w f d v (nI z)) sz) := by
  refine vw_ofWH (cc := cL_printedLength) (maxL := 4) (ret := (some .int)) (hh := [(0, 9, 12, 13)]) (by decide) rfl ?_
  intro p e s m args below meth c s₁ B hml hv
  obtain ⟨rfl, hsz, hP, hK, hD0, hE⟩ := hv
  have hx := B.exec
  have hb := B.bytes
  have hr := B.returns
  have hts := atoms_spec (ws := wsL_printedLength) B.pre
  have hown : s.vm.findClass RL = some m.cls := findClass_of_methodNamed B.named
  have hlocks := B.notSynchronized
  have htab := vx_table B (x := yL_printedLength) (y := yL_printedLength) (bytes := cL_printedLength) (maxL' := 4) (ret' := (some .int)) (hh := [(0, 9, 12, 13)]) (hts _ List.mem_cons_self)
  subst hsz
  have hD := hD0.self (sz := s.heap.size)
  generalize hAe : va_A (wL q cq o9 co V9 T R S X M P n h k w f d v (nI z)) s.heap.size = A at hD hE ⊢
  have hA : ∀ q : Nat, s.heap.size ≤ q → A q := fun q h => by rw [← hAe]; exact Or.inr h
  have hS : va_S A s.heap s.heap [] := va_S.rf
  have hP : va_P D vwCl (wL q cq o9 co V9 T R S X M P n h k w f d v (nI z)) s.heap := hP
  have hl := lv_entry ([.ref (q 0), .int x, .ref o9]) (n := 4) (Nat.le_of_ble_eq_true rfl)
  rw [lg_entry_eq]
  generalize (lg_sl ([.ref (q 0), .int x, .ref o9]) ++ List.replicate (4 - (lg_sl ([.ref (q 0), .int x, .ref o9])).length) Slot.unset).toArray = ls at hl ⊢
  have hl : lv_has ls 4 [(0, .ref (q 0)), (1, .int x), (2, .ref o9)] := hl
  refine lv_aload_n hx hb dL_printedLength_0 rfl (lv_at hl 2 rfl) ?_
  refine lv_iconst (v := 0) hx hb dL_printedLength_1 (by decide) ?_
  refine lv_aload_n hx hb dL_printedLength_2 rfl (lv_at hl 0 rfl) ?_
  refine lv_iload_n hx hb dL_printedLength_3 rfl (lv_at hl 1 rfl) ?_
  have hPc := hP.sub (ws' := (wB q cq T R S X M P n h k w f d v (nI z))) [1, 2, 3, 4, 5, 6, 7, 8] rfl
  have hKc := hK.sub (tys' := (tyB cq)) [1, 2, 3, 4, 5, 6] rfl
  have hDc := hD.sub (ws' := (wB q cq T R S X M P n h k w f d v (nI z))) [1, 2, 3, 4, 5, 6, 7, 8] (by decide) rfl
  have hFc := va_free (wc := (wB q cq T R S X M P n h k w f d v (nI z))) hD hS hA [1, 2, 3, 4, 5, 6, 7, 8] rfl
  refine vx_calli (vx_runV (As := [.int x]) (rest := [.int 0, .ref o9]) ⟨hx, hb, hml, hown, hts⟩ (c_X1_printedLength l hst D q cq s.heap.size T R S X M P n h k w f d v z x) (cwV 1 hts gL_printedLength_X1_printedLength rfl rfl rfl (by decide +kernel) ⟨Nat.le_of_ble_eq_true rfl, Nat.le_of_ble_eq_true rfl⟩) ⟨fun a U g mk z => ⟨z.1, z.2.1, z.2.2.1, va_K.moved (u := U) (U := U.calling g mk a) (Vm.Alike.refl U.vm) z.2.2.2.1, z.2.2.2.2.1, z.2.2.2.2.2.blind g mk a⟩, va_recv hKc hPc (ci := 1) (q0 := 0) rfl rfl, fun U hU hW => ⟨rfl, by rw [hU], by rw [hU]; exact hPc, va_K.moved hW.alike hKc, hDc.weaken (fun _ _ _ _ => trivial), hE.at hS hU hW hFc⟩⟩ rfl rfl hl.1 rfl (lv_room (Nat.le_of_ble_eq_true rfl)) dL_printedLength_4 ⟨Nat.le_of_ble_eq_true rfl, Nat.le_of_ble_eq_true rfl⟩) hS (fun q _ h => hFc q h) hFc (fun q _ h => hFc q h) (fun E9 ce q9 u9 t8 H1 locs ht hvm hu hB0 hz1 hk1 hS hce hcv hcl => ?_) (fun r9 u9 t8 H1 locs ht hvm hw hB hz1 hk1 hS => ?_)
  · obtain ⟨hE9, hP1, hD1⟩ := hB0
    rw [ht] at hP1
    obtain ⟨hP, hD⟩ := va_join (wr := [(o9, .inl (co, (1, .inr (.inl V9))))]) (w1 := (wB q cq T R S X M ((fX1_printedLength T P z x).2.1) n h k w f d v (nI (fX1_printedLength T P z x).2.2))) hP hD [1, 2, 3, 4, 5, 6, 7, 8] [0] rfl rfl (by decide) (by decide) hk1 hFc hP1 hD1
    have hP : va_P D vwCl (wL q cq o9 co V9 T R S X M ((fX1_printedLength T P z x).2.1) n h k w f d v (nI (fX1_printedLength T P z x).2.2)) H1 := hP
    have hD : va_D A (wL q cq o9 co V9 T R S X M ((fX1_printedLength T P z x).2.1) n h k w f d v (nI (fX1_printedLength T P z x).2.2)) := hD
    generalize H1 = H at hP hS hce ⊢
    have hn : ¬ (kX1_printedLength x) = 0 := fun z => hu.2 (hu.1.symm.trans z)
    have hv : VO (kX1_printedLength x) V9 ((fX1_printedLength T P z x).1).toInt64 = V9 := if_neg hn
    have hkr := kr_printedLength x
    rw [hu.1] at hkr
    rcases hkr with h0 | h1
    · exact absurd h0 hu.2
    · subst h1
      have hE9 : E9 = "java/lang/IndexOutOfBoundsException" := hE9
      subst hE9
      refine vx_catch hown [] _ _ (htab.trans rfl) (fun z hz => absurd hz List.not_mem_nil) rfl (by decide) (hts (.classLink RL 13 "java/lang/IndexOutOfBoundsException") (List.mem_of_getElem? (i := 1) rfl)) (va_Nw.use rfl hE.2.1.1) hce hcv hcl ?_
      refine lv_astore_n (lv' := [(3, .ref q9), (0, .ref (q 0)), (1, .int x), (2, .ref o9)]) hx hb dL_printedLength_12 rfl hl (by decide) rfl (fun ls hl => ?_)
      refine lv_iconst (v := 1) hx hb dL_printedLength_13 (by decide) ?_
      exact W.iret (v := 1) hx hb hr (fun t9 ht9 hW => ⟨⟨1, (), rfl, (by rw [hu.1]; rfl), ⟨by rw [ht9, hv]; exact hP, by rw [hv]; exact hD⟩⟩, hS.F ht9⟩) hS.2.2 dL_printedLength_14
  · obtain ⟨hP1, hD1⟩ := hB
    rw [ht] at hP1
    obtain ⟨hP, hD⟩ := va_join (wr := [(o9, .inl (co, (1, .inr (.inl V9))))]) (w1 := (wB q cq T R S X M ((fX1_printedLength T P z x).2.1) n h k w f d v (nI (fX1_printedLength T P z x).2.2))) hP hD [1, 2, 3, 4, 5, 6, 7, 8] [0] rfl rfl (by decide) (by decide) hk1 hFc hP1 hD1
    have hP : va_P D vwCl (wL q cq o9 co V9 T R S X M ((fX1_printedLength T P z x).2.1) n h k w f d v (nI (fX1_printedLength T P z x).2.2)) H1 := hP
    have hD : va_D A (wL q cq o9 co V9 T R S X M ((fX1_printedLength T P z x).2.1) n h k w f d v (nI (fX1_printedLength T P z x).2.2)) := hD
    generalize H1 = H at hP hS ⊢
    obtain ⟨hk, hw⟩ := hw
    have hv : VO (kX1_printedLength x) V9 ((fX1_printedLength T P z x).1).toInt64 = vp_updL V9 0 ((fX1_printedLength T P z x).1).toInt64 := if_pos hk
    subst r9
    refine lv_i2l hx hb dL_printedLength_7 rfl ?_
    refine va_last hx hb hK hP hD hS 0 0 rfl rfl (i := 0) (vp_in_nI (n := 0) (N := 1) (by decide) (by decide)) dL_printedLength_8 (fun H locs hP hD hS => ?_)
    have hP : va_P D vwCl (wL q cq o9 co (vp_updL V9 0 ((fX1_printedLength T P z x).1).toInt64) T R S X M ((fX1_printedLength T P z x).2.1) n h k w f d v (nI (fX1_printedLength T P z x).2.2)) H := hP
    have hD : va_D A (wL q cq o9 co (vp_updL V9 0 ((fX1_printedLength T P z x).1).toInt64) T R S X M ((fX1_printedLength T P z x).2.1) n h k w f d v (nI (fX1_printedLength T P z x).2.2)) := hD
    refine lv_goto (tgt := 15) hx hb dL_printedLength_9 (by decide) ?_
    refine lv_iconst (v := 0) hx hb dL_printedLength_15 (by decide) ?_
    exact W.iret (v := 0) hx hb hr (fun t9 ht9 hW => ⟨⟨0, (), rfl, (by rw [hk]; rfl), ⟨by rw [ht9, hv]; exact hP, by rw [hv]; exact hD⟩⟩, hS.F ht9⟩) hS.2.2 dL_printedLength_16
theorem kr_printedLetter (T : Nat → Int32) (P : Nat → Int32) (x : Int32) (x2 : Int32) : (kX1_printedLetter T P x x2) = 0 ∨ (kX1_printedLetter T P x x2) = 1 := by
  unfold kX1_printedLetter
  try unfold kX1_checkFunction
  try unfold kX1_checkVariable
  try unfold kX1_validTextProducts
  repeat' split
  all_goals (first | (simp; done) | (simp_all; done) | omega)
set_option maxHeartbeats 4000000 in
set_option maxRecDepth 100000 in
theorem c_L_printedLetter (l : Launch) (hst : l.stackTraces = false) (D : va_G) (q : Nat → Nat) (cq : Nat → ClassId) (o9 : Nat) (co : ClassId) (V9 : Nat → Int64) (sz : Nat) (T : Nat → Int32) (R : Nat → Int32) (S : Nat → Int32) (X : Nat → Int32) (M : Nat → Int32) (P : Nat → Int32) (n : Int32) (h : Int32) (k : Int32) (w : Int32) (f : Int32) (d : Int32) (v : Int32) (z : Nat) (x : Int32) (x2 : Int32) (hP9 : ∀ j, vp_nar .char (P j) = P j) : Met l yL_printedLetter wsL_printedLetter ({ frames := 8, cells := 1, slots := 6, locals := 200 }) (va_Pc [.ref (q 0), .int x, .int x2, .ref o9] (fun U => U.heap.size = sz ∧ va_P D vwCl (wL q cq o9 co V9 T R S X M P n h k w f d v (nI z)) U.heap ∧ va_K D vwCl (tyL cq co) U ∧ va_D (fun _ => True) (wL q cq o9 co V9 T R S X M P n h k w f d v (nI z)) ∧ envE (va_A (wL q cq o9 co V9 T R S X M P n h k w f d v (nI z)) sz) U)) (va_Qi (fun r9 (_ : Unit) => r9 = cd1 (kX1_printedLetter T P x x2)) (fun _ t9 => va_P D vwCl (wL q cq o9 co (VO (kX1_printedLetter T P x x2) V9 ((fX1_printedLetter T P z x x2).1).toInt64) T R S X M ((fX1_printedLetter T P z x x2).2.1) n h k w f d v (nI (fX1_printedLetter T P z x x2).2.2)) t9.heap ∧ va_D (va_A (wL q cq o9 co V9 T R S X M P n h k w f d v (nI z)) sz) (wL q cq o9 co (VO (kX1_printedLetter T P x x2) V9 ((fX1_printedLetter T P z x x2).1).toInt64) T R S X M ((fX1_printedLetter T P z x x2).2.1) n h k w f d v (nI (fX1_printedLetter T P z x x2).2.2))) (va_A (wL q cq o9 co V9 T R S X M P n h k w f d v (nI z)) sz)) 1 6 (va_A (wL q cq o9 co V9 T R S X M P n h k w f d v (nI z)) sz) := by
  refine vw_ofWH (cc := cL_printedLetter) (maxL := 5) (ret := (some .int)) (hh := [(0, 10, 13, 13)]) (by decide) rfl ?_
  intro p e s m args below meth c s₁ B hml hv
  obtain ⟨rfl, hsz, hP, hK, hD0, hE⟩ := hv
  have hx := B.exec
  have hb := B.bytes
  have hr := B.returns
  have hts := atoms_spec (ws := wsL_printedLetter) B.pre
  have hown : s.vm.findClass RL = some m.cls := findClass_of_methodNamed B.named
  have hlocks := B.notSynchronized
  have htab := vx_table B (x := yL_printedLetter) (y := yL_printedLetter) (bytes := cL_printedLetter) (maxL' := 5) (ret' := (some .int)) (hh := [(0, 10, 13, 13)]) (hts _ List.mem_cons_self)
  subst hsz
  have hD := hD0.self (sz := s.heap.size)
  generalize hAe : va_A (wL q cq o9 co V9 T R S X M P n h k w f d v (nI z)) s.heap.size = A at hD hE ⊢
  have hA : ∀ q : Nat, s.heap.size ≤ q → A q := fun q h => by rw [← hAe]; exact Or.inr h
  have hS : va_S A s.heap s.heap [] := va_S.rf
  have hP : va_P D vwCl (wL q cq o9 co V9 T R S X M P n h k w f d v (nI z)) s.heap := hP
  have hl := lv_entry ([.ref (q 0), .int x, .int x2, .ref o9]) (n := 5) (Nat.le_of_ble_eq_true rfl)
  rw [lg_entry_eq]
  generalize (lg_sl ([.ref (q 0), .int x, .int x2, .ref o9]) ++ List.replicate (5 - (lg_sl ([.ref (q 0), .int x, .int x2, .ref o9])).length) Slot.unset).toArray = ls at hl ⊢
  have hl : lv_has ls 5 [(0, .ref (q 0)), (1, .int x), (2, .int x2), (3, .ref o9)] := hl
  refine lv_aload_n hx hb dL_printedLetter_0 rfl (lv_at hl 3 rfl) ?_
  refine lv_iconst (v := 0) hx hb dL_printedLetter_1 (by decide) ?_
  refine lv_aload_n hx hb dL_printedLetter_2 rfl (lv_at hl 0 rfl) ?_
  refine lv_iload_n hx hb dL_printedLetter_3 rfl (lv_at hl 1 rfl) ?_
  refine lv_iload_n hx hb dL_printedLetter_4 rfl (lv_at hl 2 rfl) ?_
  have hPc := hP.sub (ws' := (wB q cq T R S X M P n h k w f d v (nI z))) [1, 2, 3, 4, 5, 6, 7, 8] rfl
  have hKc := hK.sub (tys' := (tyB cq)) [1, 2, 3, 4, 5, 6] rfl
  have hDc := hD.sub (ws' := (wB q cq T R S X M P n h k w f d v (nI z))) [1, 2, 3, 4, 5, 6, 7, 8] (by decide) rfl
  have hFc := va_free (wc := (wB q cq T R S X M P n h k w f d v (nI z))) hD hS hA [1, 2, 3, 4, 5, 6, 7, 8] rfl
  refine vx_calli (vx_runV (As := [.int x, .int x2]) (rest := [.int 0, .ref o9]) ⟨hx, hb, hml, hown, hts⟩ (c_X1_printedLetter l hst D q cq s.heap.size T R S X M P n h k w f d v z x x2 hP9) (cwV 2 hts gL_printedLetter_X1_printedLetter rfl rfl rfl (by decide +kernel) ⟨Nat.le_of_ble_eq_true rfl, Nat.le_of_ble_eq_true rfl⟩) ⟨fun a U g mk z => ⟨z.1, z.2.1, z.2.2.1, va_K.moved (u := U) (U := U.calling g mk a) (Vm.Alike.refl U.vm) z.2.2.2.1, z.2.2.2.2.1, z.2.2.2.2.2.blind g mk a⟩, va_recv hKc hPc (ci := 1) (q0 := 0) rfl rfl, fun U hU hW => ⟨rfl, by rw [hU], by rw [hU]; exact hPc, va_K.moved hW.alike hKc, hDc.weaken (fun _ _ _ _ => trivial), hE.at hS hU hW hFc⟩⟩ rfl rfl hl.1 rfl (lv_room (Nat.le_of_ble_eq_true rfl)) dL_printedLetter_5 ⟨Nat.le_of_ble_eq_true rfl, Nat.le_of_ble_eq_true rfl⟩) hS (fun q _ h => hFc q h) hFc (fun q _ h => hFc q h) (fun E9 ce q9 u9 t8 H1 locs ht hvm hu hB0 hz1 hk1 hS hce hcv hcl => ?_) (fun r9 u9 t8 H1 locs ht hvm hw hB hz1 hk1 hS => ?_)
  · obtain ⟨hE9, hP1, hD1⟩ := hB0
    rw [ht] at hP1
    obtain ⟨hP, hD⟩ := va_join (wr := [(o9, .inl (co, (1, .inr (.inl V9))))]) (w1 := (wB q cq T R S X M ((fX1_printedLetter T P z x x2).2.1) n h k w f d v (nI (fX1_printedLetter T P z x x2).2.2))) hP hD [1, 2, 3, 4, 5, 6, 7, 8] [0] rfl rfl (by decide) (by decide) hk1 hFc hP1 hD1
    have hP : va_P D vwCl (wL q cq o9 co V9 T R S X M ((fX1_printedLetter T P z x x2).2.1) n h k w f d v (nI (fX1_printedLetter T P z x x2).2.2)) H1 := hP
    have hD : va_D A (wL q cq o9 co V9 T R S X M ((fX1_printedLetter T P z x x2).2.1) n h k w f d v (nI (fX1_printedLetter T P z x x2).2.2)) := hD
    generalize H1 = H at hP hS hce ⊢
    have hn : ¬ (kX1_printedLetter T P x x2) = 0 := fun z => hu.2 (hu.1.symm.trans z)
    have hv : VO (kX1_printedLetter T P x x2) V9 ((fX1_printedLetter T P z x x2).1).toInt64 = V9 := if_neg hn
    have hkr := kr_printedLetter T P x x2
    rw [hu.1] at hkr
    rcases hkr with h0 | h1
    · exact absurd h0 hu.2
    · subst h1
      have hE9 : E9 = "java/lang/IndexOutOfBoundsException" := hE9
      subst hE9
      refine vx_catch hown [] _ _ (htab.trans rfl) (fun z hz => absurd hz List.not_mem_nil) rfl (by decide) (hts (.classLink RL 13 "java/lang/IndexOutOfBoundsException") (List.mem_of_getElem? (i := 1) rfl)) (va_Nw.use rfl hE.2.1.1) hce hcv hcl ?_
      refine lv_astore (lv' := [(4, .ref q9), (0, .ref (q 0)), (1, .int x), (2, .int x2), (3, .ref o9)]) hx hb dL_printedLetter_13 hl (by decide) rfl (fun ls hl => ?_)
      refine lv_iconst (v := 1) hx hb dL_printedLetter_15 (by decide) ?_
      exact W.iret (v := 1) hx hb hr (fun t9 ht9 hW => ⟨⟨1, (), rfl, (by rw [hu.1]; rfl), ⟨by rw [ht9, hv]; exact hP, by rw [hv]; exact hD⟩⟩, hS.F ht9⟩) hS.2.2 dL_printedLetter_16
  · obtain ⟨hP1, hD1⟩ := hB
    rw [ht] at hP1
    obtain ⟨hP, hD⟩ := va_join (wr := [(o9, .inl (co, (1, .inr (.inl V9))))]) (w1 := (wB q cq T R S X M ((fX1_printedLetter T P z x x2).2.1) n h k w f d v (nI (fX1_printedLetter T P z x x2).2.2))) hP hD [1, 2, 3, 4, 5, 6, 7, 8] [0] rfl rfl (by decide) (by decide) hk1 hFc hP1 hD1
    have hP : va_P D vwCl (wL q cq o9 co V9 T R S X M ((fX1_printedLetter T P z x x2).2.1) n h k w f d v (nI (fX1_printedLetter T P z x x2).2.2)) H1 := hP
    have hD : va_D A (wL q cq o9 co V9 T R S X M ((fX1_printedLetter T P z x x2).2.1) n h k w f d v (nI (fX1_printedLetter T P z x x2).2.2)) := hD
    generalize H1 = H at hP hS ⊢
    obtain ⟨hk, hw⟩ := hw
    have hv : VO (kX1_printedLetter T P x x2) V9 ((fX1_printedLetter T P z x x2).1).toInt64 = vp_updL V9 0 ((fX1_printedLetter T P z x x2).1).toInt64 := if_pos hk
    subst r9
    refine lv_i2l hx hb dL_printedLetter_8 rfl ?_
    refine va_last hx hb hK hP hD hS 0 0 rfl rfl (i := 0) (vp_in_nI (n := 0) (N := 1) (by decide) (by decide)) dL_printedLetter_9 (fun H locs hP hD hS => ?_)
    have hP : va_P D vwCl (wL q cq o9 co (vp_updL V9 0 ((fX1_printedLetter T P z x x2).1).toInt64) T R S X M ((fX1_printedLetter T P z x x2).2.1) n h k w f d v (nI (fX1_printedLetter T P z x x2).2.2)) H := hP
    have hD : va_D A (wL q cq o9 co (vp_updL V9 0 ((fX1_printedLetter T P z x x2).1).toInt64) T R S X M ((fX1_printedLetter T P z x x2).2.1) n h k w f d v (nI (fX1_printedLetter T P z x x2).2.2)) := hD
    refine lv_goto (tgt := 17) hx hb dL_printedLetter_10 (by decide) ?_
    refine lv_iconst (v := 0) hx hb dL_printedLetter_17 (by decide) ?_
    exact W.iret (v := 0) hx hb hr (fun t9 ht9 hW => ⟨⟨0, (), rfl, (by rw [hk]; rfl), ⟨by rw [ht9, hv]; exact hP, by rw [hv]; exact hD⟩⟩, hS.F ht9⟩) hS.2.2 dL_printedLetter_18
theorem kr_distanceByTrying (x : Int32) : (kX1_distanceByTrying x) = 0 ∨ (kX1_distanceByTrying x) = 1 := by
  unfold kX1_distanceByTrying
  try unfold kX1_checkFunction
  try unfold kX1_checkVariable
  try unfold kX1_validTextProducts
  repeat' split
  all_goals (first | (simp; done) | (simp_all; done) | omega)
set_option maxHeartbeats 4000000 in
set_option maxRecDepth 100000 in
theorem c_L_distanceByTrying (l : Launch) (hst : l.stackTraces = false) (D : va_G) (q : Nat → Nat) (cq : Nat → ClassId) (o9 : Nat) (co : ClassId) (V9 : Nat → Int64) (sz : Nat) (T : Nat → Int32) (R : Nat → Int32) (S : Nat → Int32) (X : Nat → Int32) (M : Nat → Int32) (P : Nat → Int32) (n : Int32) (h : Int32) (k : Int32) (w : Int32) (f : Int32) (d : Int32) (v : Int32) (z : Int32) (x : Int32)  : Met l yL_distanceByTrying wsL_distanceByTrying ({ frames := 8, cells := 1, slots := 6, locals := 200 }) (va_Pc [.ref (q 0), .int x, .ref o9] (fun U => U.heap.size = sz ∧ va_P D vwCl (wL q cq o9 co V9 T R S X M P n h k w f d v z) U.heap ∧ va_K D vwCl (tyL cq co) U ∧ va_D (fun _ => True) (wL q cq o9 co V9 T R S X M P n h k w f d v z) ∧ envE (va_A (wL q cq o9 co V9 T R S X M P n h k w f d v z) sz) U)) (va_Qi (fun r9 (_ : Unit) => r9 = cd1 (kX1_distanceByTrying x)) (fun _ t9 => va_P D vwCl (wL q cq o9 co (VO (kX1_distanceByTrying x) V9 (fX1_distanceByTrying T x).toInt64) T R S X M P n h k w f d v z) t9.heap ∧ va_D (va_A (wL q cq o9 co V9 T R S X M P n h k w f d v z) sz) (wL q cq o9 co (VO (kX1_distanceByTrying x) V9 (fX1_distanceByTrying T x).toInt64) T R S X M P n h k w f d v z)) (va_A (wL q cq o9 co V9 T R S X M P n h k w f d v z) sz)) 1 6 (va_A (wL q cq o9 co V9 T R S X M P n h k w f d v z) sz) := by
  refine vw_ofWH (cc := cL_distanceByTrying) (maxL := 4) (ret := (some .int)) (hh := [(0, 9, 12, 13)]) (by decide) rfl ?_
  intro p e s m args below meth c s₁ B hml hv
  obtain ⟨rfl, hsz, hP, hK, hD0, hE⟩ := hv
  have hx := B.exec
  have hb := B.bytes
  have hr := B.returns
  have hts := atoms_spec (ws := wsL_distanceByTrying) B.pre
  have hown : s.vm.findClass RL = some m.cls := findClass_of_methodNamed B.named
  have hlocks := B.notSynchronized
  have htab := vx_table B (x := yL_distanceByTrying) (y := yL_distanceByTrying) (bytes := cL_distanceByTrying) (maxL' := 4) (ret' := (some .int)) (hh := [(0, 9, 12, 13)]) (hts _ List.mem_cons_self)
  subst hsz
  have hD := hD0.self (sz := s.heap.size)
  generalize hAe : va_A (wL q cq o9 co V9 T R S X M P n h k w f d v z) s.heap.size = A at hD hE ⊢
  have hA : ∀ q : Nat, s.heap.size ≤ q → A q := fun q h => by rw [← hAe]; exact Or.inr h
  have hS : va_S A s.heap s.heap [] := va_S.rf
  have hP : va_P D vwCl (wL q cq o9 co V9 T R S X M P n h k w f d v z) s.heap := hP
  have hl := lv_entry ([.ref (q 0), .int x, .ref o9]) (n := 4) (Nat.le_of_ble_eq_true rfl)
  rw [lg_entry_eq]
  generalize (lg_sl ([.ref (q 0), .int x, .ref o9]) ++ List.replicate (4 - (lg_sl ([.ref (q 0), .int x, .ref o9])).length) Slot.unset).toArray = ls at hl ⊢
  have hl : lv_has ls 4 [(0, .ref (q 0)), (1, .int x), (2, .ref o9)] := hl
  refine lv_aload_n hx hb dL_distanceByTrying_0 rfl (lv_at hl 2 rfl) ?_
  refine lv_iconst (v := 0) hx hb dL_distanceByTrying_1 (by decide) ?_
  refine lv_aload_n hx hb dL_distanceByTrying_2 rfl (lv_at hl 0 rfl) ?_
  refine lv_iload_n hx hb dL_distanceByTrying_3 rfl (lv_at hl 1 rfl) ?_
  have hPc := hP.sub (ws' := (wB q cq T R S X M P n h k w f d v z)) [1, 2, 3, 4, 5, 6, 7, 8] rfl
  have hKc := hK.sub (tys' := (tyB cq)) [1, 2, 3, 4, 5, 6] rfl
  refine vy_callSi (vx_runV (As := [.int x]) (rest := [.int 0, .ref o9]) ⟨hx, hb, hml, hown, hts⟩ (c_X1_distanceByTrying l hst D q cq T R S X M P n h k w f d v z x) (cwV 1 hts gL_distanceByTrying_X1_distanceByTrying rfl rfl rfl (by decide +kernel) ⟨Nat.le_of_ble_eq_true rfl, Nat.le_of_ble_eq_true rfl⟩) ⟨fun a U g mk z => ⟨z.1, z.2.1, va_K.moved (u := U) (U := U.calling g mk a) (Vm.Alike.refl U.vm) z.2.2.1, z.2.2.2.blind g mk a⟩, va_recv hKc hPc (ci := 1) (q0 := 0) rfl rfl, fun U hU hW => ⟨rfl, by rw [hU]; exact hPc, va_K.moved hW.alike hKc, hE.at0 hS hU hW⟩⟩ rfl rfl hl.1 rfl (lv_room (Nat.le_of_ble_eq_true rfl)) dL_distanceByTrying_4 ⟨Nat.le_of_ble_eq_true rfl, Nat.le_of_ble_eq_true rfl⟩) hS (fun _ _ z => z.elim) (fun E9 ce q9 u9 t8 H locs ht hvm hu hE9 hz1 hk1 hS hce hcv hcl => ?_) (fun r9 hw => ?_)
  · skip
    have hP := hP.kept (H1 := H) (fun k q hq => hk1 q.1 ((hP k q hq).lt) (fun z => z))
    have hn : ¬ (kX1_distanceByTrying x) = 0 := fun z => hu.2 (hu.1.symm.trans z)
    have hv : VO (kX1_distanceByTrying x) V9 (fX1_distanceByTrying T x).toInt64 = V9 := if_neg hn
    have hkr := kr_distanceByTrying x
    rw [hu.1] at hkr
    rcases hkr with h0 | h1
    · exact absurd h0 hu.2
    · subst h1
      have hE9 : E9 = "java/lang/IndexOutOfBoundsException" := hE9
      subst hE9
      refine vx_catch hown [] _ _ (htab.trans rfl) (fun z hz => absurd hz List.not_mem_nil) rfl (by decide) (hts (.classLink RL 13 "java/lang/IndexOutOfBoundsException") (List.mem_of_getElem? (i := 1) rfl)) (va_Nw.use rfl hE.2.1.1) hce hcv hcl ?_
      refine lv_astore_n (lv' := [(3, .ref q9), (0, .ref (q 0)), (1, .int x), (2, .ref o9)]) hx hb dL_distanceByTrying_12 rfl hl (by decide) rfl (fun ls hl => ?_)
      refine lv_iconst (v := 1) hx hb dL_distanceByTrying_13 (by decide) ?_
      exact W.iret (v := 1) hx hb hr (fun t9 ht9 hW => ⟨⟨1, (), rfl, (by rw [hu.1]; rfl), ⟨by rw [ht9, hv]; exact hP, by rw [hv]; exact hD⟩⟩, hS.F ht9⟩) hS.2.2 dL_distanceByTrying_14
  · skip
    obtain ⟨hk, hw⟩ := hw
    have hv : VO (kX1_distanceByTrying x) V9 (fX1_distanceByTrying T x).toInt64 = vp_updL V9 0 (fX1_distanceByTrying T x).toInt64 := if_pos hk
    subst r9
    refine lv_i2l hx hb dL_distanceByTrying_7 rfl ?_
    refine va_last hx hb hK hP hD hS 0 0 rfl rfl (i := 0) (vp_in_nI (n := 0) (N := 1) (by decide) (by decide)) dL_distanceByTrying_8 (fun H locs hP hD hS => ?_)
    have hP : va_P D vwCl (wL q cq o9 co (vp_updL V9 0 (fX1_distanceByTrying T x).toInt64) T R S X M P n h k w f d v z) H := hP
    have hD : va_D A (wL q cq o9 co (vp_updL V9 0 (fX1_distanceByTrying T x).toInt64) T R S X M P n h k w f d v z) := hD
    refine lv_goto (tgt := 15) hx hb dL_distanceByTrying_9 (by decide) ?_
    refine lv_iconst (v := 0) hx hb dL_distanceByTrying_15 (by decide) ?_
    refine W.widen (k := 1) (n := 6) (Nat.le_of_ble_eq_true rfl) (Nat.le_of_ble_eq_true rfl) ?_
    exact W.iret (v := 0) hx hb hr (fun t9 ht9 hW => ⟨⟨0, (), rfl, (by rw [hk]; rfl), ⟨by rw [ht9, hv]; exact hP, by rw [hv]; exact hD⟩⟩, hS.F ht9⟩) hS.2.2 dL_distanceByTrying_16
theorem kr_distanceBySums (x : Int32) : (kX1_distanceBySums x) = 0 ∨ (kX1_distanceBySums x) = 1 := by
  unfold kX1_distanceBySums
  try unfold kX1_checkFunction
  try unfold kX1_checkVariable
  try unfold kX1_validTextProducts
  repeat' split
  all_goals (first | (simp; done) | (simp_all; done) | omega)
set_option maxHeartbeats 4000000 in
set_option maxRecDepth 100000 in
theorem c_L_distanceBySums (l : Launch) (hst : l.stackTraces = false) (D : va_G) (q : Nat → Nat) (cq : Nat → ClassId) (o9 : Nat) (co : ClassId) (V9 : Nat → Int64) (sz : Nat) (T : Nat → Int32) (R : Nat → Int32) (S : Nat → Int32) (X : Nat → Int32) (M : Nat → Int32) (P : Nat → Int32) (n : Int32) (h : Int32) (k : Int32) (w : Int32) (f : Int32) (d : Int32) (v : Int32) (z : Int32) (x : Int32)  : Met l yL_distanceBySums wsL_distanceBySums ({ frames := 8, cells := 1, slots := 6, locals := 200 }) (va_Pc [.ref (q 0), .int x, .ref o9] (fun U => U.heap.size = sz ∧ va_P D vwCl (wL q cq o9 co V9 T R S X M P n h k w f d v z) U.heap ∧ va_K D vwCl (tyL cq co) U ∧ va_D (fun _ => True) (wL q cq o9 co V9 T R S X M P n h k w f d v z) ∧ envE (va_A (wL q cq o9 co V9 T R S X M P n h k w f d v z) sz) U)) (va_Qi (fun r9 (_ : Unit) => r9 = cd1 (kX1_distanceBySums x)) (fun _ t9 => va_P D vwCl (wL q cq o9 co (VO (kX1_distanceBySums x) V9 ((fX1_distanceBySums T M x).1).toInt64) T R S X ((fX1_distanceBySums T M x).2) P n h k w f d v z) t9.heap ∧ va_D (va_A (wL q cq o9 co V9 T R S X M P n h k w f d v z) sz) (wL q cq o9 co (VO (kX1_distanceBySums x) V9 ((fX1_distanceBySums T M x).1).toInt64) T R S X ((fX1_distanceBySums T M x).2) P n h k w f d v z)) (va_A (wL q cq o9 co V9 T R S X M P n h k w f d v z) sz)) 1 6 (va_A (wL q cq o9 co V9 T R S X M P n h k w f d v z) sz) := by
  refine vw_ofWH (cc := cL_distanceBySums) (maxL := 4) (ret := (some .int)) (hh := [(0, 9, 12, 13)]) (by decide) rfl ?_
  intro p e s m args below meth c s₁ B hml hv
  obtain ⟨rfl, hsz, hP, hK, hD0, hE⟩ := hv
  have hx := B.exec
  have hb := B.bytes
  have hr := B.returns
  have hts := atoms_spec (ws := wsL_distanceBySums) B.pre
  have hown : s.vm.findClass RL = some m.cls := findClass_of_methodNamed B.named
  have hlocks := B.notSynchronized
  have htab := vx_table B (x := yL_distanceBySums) (y := yL_distanceBySums) (bytes := cL_distanceBySums) (maxL' := 4) (ret' := (some .int)) (hh := [(0, 9, 12, 13)]) (hts _ List.mem_cons_self)
  subst hsz
  have hD := hD0.self (sz := s.heap.size)
  generalize hAe : va_A (wL q cq o9 co V9 T R S X M P n h k w f d v z) s.heap.size = A at hD hE ⊢
  have hA : ∀ q : Nat, s.heap.size ≤ q → A q := fun q h => by rw [← hAe]; exact Or.inr h
  have hS : va_S A s.heap s.heap [] := va_S.rf
  have hP : va_P D vwCl (wL q cq o9 co V9 T R S X M P n h k w f d v z) s.heap := hP
  have hl := lv_entry ([.ref (q 0), .int x, .ref o9]) (n := 4) (Nat.le_of_ble_eq_true rfl)
  rw [lg_entry_eq]
  generalize (lg_sl ([.ref (q 0), .int x, .ref o9]) ++ List.replicate (4 - (lg_sl ([.ref (q 0), .int x, .ref o9])).length) Slot.unset).toArray = ls at hl ⊢
  have hl : lv_has ls 4 [(0, .ref (q 0)), (1, .int x), (2, .ref o9)] := hl
  refine lv_aload_n hx hb dL_distanceBySums_0 rfl (lv_at hl 2 rfl) ?_
  refine lv_iconst (v := 0) hx hb dL_distanceBySums_1 (by decide) ?_
  refine lv_aload_n hx hb dL_distanceBySums_2 rfl (lv_at hl 0 rfl) ?_
  refine lv_iload_n hx hb dL_distanceBySums_3 rfl (lv_at hl 1 rfl) ?_
  have hPc := hP.sub (ws' := (wB q cq T R S X M P n h k w f d v z)) [1, 2, 3, 4, 5, 6, 7, 8] rfl
  have hKc := hK.sub (tys' := (tyB cq)) [1, 2, 3, 4, 5, 6] rfl
  have hDc := hD.sub (ws' := (wB q cq T R S X M P n h k w f d v z)) [1, 2, 3, 4, 5, 6, 7, 8] (by decide) rfl
  have hFc := va_free (wc := (wB q cq T R S X M P n h k w f d v z)) hD hS hA [1, 2, 3, 4, 5, 6, 7, 8] rfl
  refine vx_calli (vx_runV (As := [.int x]) (rest := [.int 0, .ref o9]) ⟨hx, hb, hml, hown, hts⟩ (c_X1_distanceBySums l hst D q cq s.heap.size T R S X M P n h k w f d v z x) (cwV 1 hts gL_distanceBySums_X1_distanceBySums rfl rfl rfl (by decide +kernel) ⟨Nat.le_of_ble_eq_true rfl, Nat.le_of_ble_eq_true rfl⟩) ⟨fun a U g mk z => ⟨z.1, z.2.1, z.2.2.1, va_K.moved (u := U) (U := U.calling g mk a) (Vm.Alike.refl U.vm) z.2.2.2.1, z.2.2.2.2.1, z.2.2.2.2.2.blind g mk a⟩, va_recv hKc hPc (ci := 1) (q0 := 0) rfl rfl, fun U hU hW => ⟨rfl, by rw [hU], by rw [hU]; exact hPc, va_K.moved hW.alike hKc, hDc.weaken (fun _ _ _ _ => trivial), hE.at hS hU hW hFc⟩⟩ rfl rfl hl.1 rfl (lv_room (Nat.le_of_ble_eq_true rfl)) dL_distanceBySums_4 ⟨Nat.le_of_ble_eq_true rfl, Nat.le_of_ble_eq_true rfl⟩) hS (fun q _ h => hFc q h) hFc (fun q _ h => hFc q h) (fun E9 ce q9 u9 t8 H1 locs ht hvm hu hB0 hz1 hk1 hS hce hcv hcl => ?_) (fun r9 u9 t8 H1 locs ht hvm hw hB hz1 hk1 hS => ?_)
  · obtain ⟨hE9, hP1, hD1⟩ := hB0
    rw [ht] at hP1
    obtain ⟨hP, hD⟩ := va_join (wr := [(o9, .inl (co, (1, .inr (.inl V9))))]) (w1 := (wB q cq T R S X ((fX1_distanceBySums T M x).2) P n h k w f d v z)) hP hD [1, 2, 3, 4, 5, 6, 7, 8] [0] rfl rfl (by decide) (by decide) hk1 hFc hP1 hD1
    have hP : va_P D vwCl (wL q cq o9 co V9 T R S X ((fX1_distanceBySums T M x).2) P n h k w f d v z) H1 := hP
    have hD : va_D A (wL q cq o9 co V9 T R S X ((fX1_distanceBySums T M x).2) P n h k w f d v z) := hD
    generalize H1 = H at hP hS hce ⊢
    have hn : ¬ (kX1_distanceBySums x) = 0 := fun z => hu.2 (hu.1.symm.trans z)
    have hv : VO (kX1_distanceBySums x) V9 ((fX1_distanceBySums T M x).1).toInt64 = V9 := if_neg hn
    have hkr := kr_distanceBySums x
    rw [hu.1] at hkr
    rcases hkr with h0 | h1
    · exact absurd h0 hu.2
    · subst h1
      have hE9 : E9 = "java/lang/IndexOutOfBoundsException" := hE9
      subst hE9
      refine vx_catch hown [] _ _ (htab.trans rfl) (fun z hz => absurd hz List.not_mem_nil) rfl (by decide) (hts (.classLink RL 13 "java/lang/IndexOutOfBoundsException") (List.mem_of_getElem? (i := 1) rfl)) (va_Nw.use rfl hE.2.1.1) hce hcv hcl ?_
      refine lv_astore_n (lv' := [(3, .ref q9), (0, .ref (q 0)), (1, .int x), (2, .ref o9)]) hx hb dL_distanceBySums_12 rfl hl (by decide) rfl (fun ls hl => ?_)
      refine lv_iconst (v := 1) hx hb dL_distanceBySums_13 (by decide) ?_
      exact W.iret (v := 1) hx hb hr (fun t9 ht9 hW => ⟨⟨1, (), rfl, (by rw [hu.1]; rfl), ⟨by rw [ht9, hv]; exact hP, by rw [hv]; exact hD⟩⟩, hS.F ht9⟩) hS.2.2 dL_distanceBySums_14
  · obtain ⟨hP1, hD1⟩ := hB
    rw [ht] at hP1
    obtain ⟨hP, hD⟩ := va_join (wr := [(o9, .inl (co, (1, .inr (.inl V9))))]) (w1 := (wB q cq T R S X ((fX1_distanceBySums T M x).2) P n h k w f d v z)) hP hD [1, 2, 3, 4, 5, 6, 7, 8] [0] rfl rfl (by decide) (by decide) hk1 hFc hP1 hD1
    have hP : va_P D vwCl (wL q cq o9 co V9 T R S X ((fX1_distanceBySums T M x).2) P n h k w f d v z) H1 := hP
    have hD : va_D A (wL q cq o9 co V9 T R S X ((fX1_distanceBySums T M x).2) P n h k w f d v z) := hD
    generalize H1 = H at hP hS ⊢
    obtain ⟨hk, hw⟩ := hw
    have hv : VO (kX1_distanceBySums x) V9 ((fX1_distanceBySums T M x).1).toInt64 = vp_updL V9 0 ((fX1_distanceBySums T M x).1).toInt64 := if_pos hk
    subst r9
    refine lv_i2l hx hb dL_distanceBySums_7 rfl ?_
    refine va_last hx hb hK hP hD hS 0 0 rfl rfl (i := 0) (vp_in_nI (n := 0) (N := 1) (by decide) (by decide)) dL_distanceBySums_8 (fun H locs hP hD hS => ?_)
    have hP : va_P D vwCl (wL q cq o9 co (vp_updL V9 0 ((fX1_distanceBySums T M x).1).toInt64) T R S X ((fX1_distanceBySums T M x).2) P n h k w f d v z) H := hP
    have hD : va_D A (wL q cq o9 co (vp_updL V9 0 ((fX1_distanceBySums T M x).1).toInt64) T R S X ((fX1_distanceBySums T M x).2) P n h k w f d v z) := hD
    refine lv_goto (tgt := 15) hx hb dL_distanceBySums_9 (by decide) ?_
    refine lv_iconst (v := 0) hx hb dL_distanceBySums_15 (by decide) ?_
    exact W.iret (v := 0) hx hb hr (fun t9 ht9 hW => ⟨⟨0, (), rfl, (by rw [hk]; rfl), ⟨by rw [ht9, hv]; exact hP, by rw [hv]; exact hD⟩⟩, hS.F ht9⟩) hS.2.2 dL_distanceBySums_16
theorem kr_isSelfDual (x : Int32) : (kX1_isSelfDual x) = 0 ∨ (kX1_isSelfDual x) = 1 := by
  unfold kX1_isSelfDual
  try unfold kX1_checkFunction
  try unfold kX1_checkVariable
  try unfold kX1_validTextProducts
  repeat' split
  all_goals (first | (simp; done) | (simp_all; done) | omega)
set_option maxHeartbeats 4000000 in
set_option maxRecDepth 100000 in
theorem c_L_isSelfDual (l : Launch) (hst : l.stackTraces = false) (D : va_G) (q : Nat → Nat) (cq : Nat → ClassId) (o9 : Nat) (co : ClassId) (V9 : Nat → Int64) (sz : Nat) (T : Nat → Int32) (R : Nat → Int32) (S : Nat → Int32) (X : Nat → Int32) (M : Nat → Int32) (P : Nat → Int32) (n : Int32) (h : Int32) (k : Int32) (w : Int32) (f : Int32) (d : Int32) (v : Int32) (z : Int32) (x : Int32)  : Met l yL_isSelfDual wsL_isSelfDual ({ frames := 8, cells := 1, slots := 6, locals := 200 }) (va_Pc [.ref (q 0), .int x, .ref o9] (fun U => U.heap.size = sz ∧ va_P D vwCl (wL q cq o9 co V9 T R S X M P n h k w f d v z) U.heap ∧ va_K D vwCl (tyL cq co) U ∧ va_D (fun _ => True) (wL q cq o9 co V9 T R S X M P n h k w f d v z) ∧ envE (va_A (wL q cq o9 co V9 T R S X M P n h k w f d v z) sz) U)) (va_Qi (fun r9 (_ : Unit) => r9 = cd1 (kX1_isSelfDual x)) (fun _ t9 => va_P D vwCl (wL q cq o9 co (VO (kX1_isSelfDual x) V9 (if (fX1_isSelfDual T x) = 0 then 0 else 1 : Int64)) T R S X M P n h k w f d v z) t9.heap ∧ va_D (va_A (wL q cq o9 co V9 T R S X M P n h k w f d v z) sz) (wL q cq o9 co (VO (kX1_isSelfDual x) V9 (if (fX1_isSelfDual T x) = 0 then 0 else 1 : Int64)) T R S X M P n h k w f d v z)) (va_A (wL q cq o9 co V9 T R S X M P n h k w f d v z) sz)) 1 6 (va_A (wL q cq o9 co V9 T R S X M P n h k w f d v z) sz) := by
  refine vw_ofWH (cc := cL_isSelfDual) (maxL := 4) (ret := (some .int)) (hh := [(0, 16, 19, 13)]) (by decide) rfl ?_
  intro p e s m args below meth c s₁ B hml hv
  obtain ⟨rfl, hsz, hP, hK, hD0, hE⟩ := hv
  have hx := B.exec
  have hb := B.bytes
  have hr := B.returns
  have hts := atoms_spec (ws := wsL_isSelfDual) B.pre
  have hown : s.vm.findClass RL = some m.cls := findClass_of_methodNamed B.named
  have hlocks := B.notSynchronized
  have htab := vx_table B (x := yL_isSelfDual) (y := yL_isSelfDual) (bytes := cL_isSelfDual) (maxL' := 4) (ret' := (some .int)) (hh := [(0, 16, 19, 13)]) (hts _ List.mem_cons_self)
  subst hsz
  have hD := hD0.self (sz := s.heap.size)
  generalize hAe : va_A (wL q cq o9 co V9 T R S X M P n h k w f d v z) s.heap.size = A at hD hE ⊢
  have hA : ∀ q : Nat, s.heap.size ≤ q → A q := fun q h => by rw [← hAe]; exact Or.inr h
  have hS : va_S A s.heap s.heap [] := va_S.rf
  have hP : va_P D vwCl (wL q cq o9 co V9 T R S X M P n h k w f d v z) s.heap := hP
  have hl := lv_entry ([.ref (q 0), .int x, .ref o9]) (n := 4) (Nat.le_of_ble_eq_true rfl)
  rw [lg_entry_eq]
  generalize (lg_sl ([.ref (q 0), .int x, .ref o9]) ++ List.replicate (4 - (lg_sl ([.ref (q 0), .int x, .ref o9])).length) Slot.unset).toArray = ls at hl ⊢
  have hl : lv_has ls 4 [(0, .ref (q 0)), (1, .int x), (2, .ref o9)] := hl
  refine lv_aload_n hx hb dL_isSelfDual_0 rfl (lv_at hl 2 rfl) ?_
  refine lv_iconst (v := 0) hx hb dL_isSelfDual_1 (by decide) ?_
  refine lv_aload_n hx hb dL_isSelfDual_2 rfl (lv_at hl 0 rfl) ?_
  refine lv_iload_n hx hb dL_isSelfDual_3 rfl (lv_at hl 1 rfl) ?_
  have hPc := hP.sub (ws' := (wB q cq T R S X M P n h k w f d v z)) [1, 2, 3, 4, 5, 6, 7, 8] rfl
  have hKc := hK.sub (tys' := (tyB cq)) [1, 2, 3, 4, 5, 6] rfl
  refine vy_callSi (vx_runV (As := [.int x]) (rest := [.int 0, .ref o9]) ⟨hx, hb, hml, hown, hts⟩ (c_X1_isSelfDual l hst D q cq T R S X M P n h k w f d v z x) (cwV 1 hts gL_isSelfDual_X1_isSelfDual rfl rfl rfl (by decide +kernel) ⟨Nat.le_of_ble_eq_true rfl, Nat.le_of_ble_eq_true rfl⟩) ⟨fun a U g mk z => ⟨z.1, z.2.1, va_K.moved (u := U) (U := U.calling g mk a) (Vm.Alike.refl U.vm) z.2.2.1, z.2.2.2.blind g mk a⟩, va_recv hKc hPc (ci := 1) (q0 := 0) rfl rfl, fun U hU hW => ⟨rfl, by rw [hU]; exact hPc, va_K.moved hW.alike hKc, hE.at0 hS hU hW⟩⟩ rfl rfl hl.1 rfl (lv_room (Nat.le_of_ble_eq_true rfl)) dL_isSelfDual_4 ⟨Nat.le_of_ble_eq_true rfl, Nat.le_of_ble_eq_true rfl⟩) hS (fun _ _ z => z.elim) (fun E9 ce q9 u9 t8 H locs ht hvm hu hE9 hz1 hk1 hS hce hcv hcl => ?_) (fun r9 hw => ?_)
  · skip
    have hP := hP.kept (H1 := H) (fun k q hq => hk1 q.1 ((hP k q hq).lt) (fun z => z))
    have hn : ¬ (kX1_isSelfDual x) = 0 := fun z => hu.2 (hu.1.symm.trans z)
    have hv : VO (kX1_isSelfDual x) V9 (if (fX1_isSelfDual T x) = 0 then 0 else 1 : Int64) = V9 := if_neg hn
    have hkr := kr_isSelfDual x
    rw [hu.1] at hkr
    rcases hkr with h0 | h1
    · exact absurd h0 hu.2
    · subst h1
      have hE9 : E9 = "java/lang/IndexOutOfBoundsException" := hE9
      subst hE9
      refine vx_catch hown [] _ _ (htab.trans rfl) (fun z hz => absurd hz List.not_mem_nil) rfl (by decide) (hts (.classLink RL 13 "java/lang/IndexOutOfBoundsException") (List.mem_of_getElem? (i := 1) rfl)) (va_Nw.use rfl hE.2.1.1) hce hcv hcl ?_
      refine lv_astore_n (lv' := [(3, .ref q9), (0, .ref (q 0)), (1, .int x), (2, .ref o9)]) hx hb dL_isSelfDual_19 rfl hl (by decide) rfl (fun ls hl => ?_)
      refine lv_iconst (v := 1) hx hb dL_isSelfDual_20 (by decide) ?_
      exact W.iret (v := 1) hx hb hr (fun t9 ht9 hW => ⟨⟨1, (), rfl, (by rw [hu.1]; rfl), ⟨by rw [ht9, hv]; exact hP, by rw [hv]; exact hD⟩⟩, hS.F ht9⟩) hS.2.2 dL_isSelfDual_21
  · skip
    obtain ⟨hk, hw⟩ := hw
    have hv : VO (kX1_isSelfDual x) V9 (if (fX1_isSelfDual T x) = 0 then 0 else 1 : Int64) = vp_updL V9 0 (if (fX1_isSelfDual T x) = 0 then 0 else 1 : Int64) := if_pos hk
    subst r9
    refine lv_if_eq (tgt := 14) hx hb dL_isSelfDual_7 (by decide) (fun c1 => ?_) (fun c1 => ?_)
    · have hy : (if (fX1_isSelfDual T x) = 0 then 0 else 1 : Int64) = 0 := if_pos c1
      have hv := hv.trans (congrArg (vp_updL V9 0) hy)
      refine lv_lconst (v := 0) hx hb dL_isSelfDual_14 rfl ?_
      refine va_last hx hb hK hP hD hS 0 0 rfl rfl (i := 0) (vp_in_nI (n := 0) (N := 1) (by decide) (by decide)) dL_isSelfDual_15 (fun H locs hP hD hS => ?_)
      have hP : va_P D vwCl (wL q cq o9 co (vp_updL V9 0 0) T R S X M P n h k w f d v z) H := hP
      have hD : va_D A (wL q cq o9 co (vp_updL V9 0 0) T R S X M P n h k w f d v z) := hD
      refine lv_goto (tgt := 22) hx hb dL_isSelfDual_16 (by decide) ?_
      refine lv_iconst (v := 0) hx hb dL_isSelfDual_22 (by decide) ?_
      refine W.widen (k := 1) (n := 6) (Nat.le_of_ble_eq_true rfl) (Nat.le_of_ble_eq_true rfl) ?_
      exact W.iret (v := 0) hx hb hr (fun t9 ht9 hW => ⟨⟨0, (), rfl, (by rw [hk]; rfl), ⟨by rw [ht9, hv]; exact hP, by rw [hv]; exact hD⟩⟩, hS.F ht9⟩) hS.2.2 dL_isSelfDual_23
    · have hy : (if (fX1_isSelfDual T x) = 0 then 0 else 1 : Int64) = 1 := if_neg c1
      have hv := hv.trans (congrArg (vp_updL V9 0) hy)
      refine lv_lconst (v := 1) hx hb dL_isSelfDual_10 rfl ?_
      refine lv_goto (tgt := 15) hx hb dL_isSelfDual_11 (by decide) ?_
      refine va_last hx hb hK hP hD hS 0 0 rfl rfl (i := 0) (vp_in_nI (n := 0) (N := 1) (by decide) (by decide)) dL_isSelfDual_15 (fun H locs hP hD hS => ?_)
      have hP : va_P D vwCl (wL q cq o9 co (vp_updL V9 0 1) T R S X M P n h k w f d v z) H := hP
      have hD : va_D A (wL q cq o9 co (vp_updL V9 0 1) T R S X M P n h k w f d v z) := hD
      refine lv_goto (tgt := 22) hx hb dL_isSelfDual_16 (by decide) ?_
      refine lv_iconst (v := 0) hx hb dL_isSelfDual_22 (by decide) ?_
      refine W.widen (k := 1) (n := 6) (Nat.le_of_ble_eq_true rfl) (Nat.le_of_ble_eq_true rfl) ?_
      exact W.iret (v := 0) hx hb hr (fun t9 ht9 hW => ⟨⟨0, (), rfl, (by rw [hk]; rfl), ⟨by rw [ht9, hv]; exact hP, by rw [hv]; exact hD⟩⟩, hS.F ht9⟩) hS.2.2 dL_isSelfDual_23
theorem kr_isMonotone (x : Int32) : (kX1_isMonotone x) = 0 ∨ (kX1_isMonotone x) = 1 := by
  unfold kX1_isMonotone
  try unfold kX1_checkFunction
  try unfold kX1_checkVariable
  try unfold kX1_validTextProducts
  repeat' split
  all_goals (first | (simp; done) | (simp_all; done) | omega)
set_option maxHeartbeats 4000000 in
set_option maxRecDepth 100000 in
theorem c_L_isMonotone (l : Launch) (hst : l.stackTraces = false) (D : va_G) (q : Nat → Nat) (cq : Nat → ClassId) (o9 : Nat) (co : ClassId) (V9 : Nat → Int64) (sz : Nat) (T : Nat → Int32) (R : Nat → Int32) (S : Nat → Int32) (X : Nat → Int32) (M : Nat → Int32) (P : Nat → Int32) (n : Int32) (h : Int32) (k : Int32) (w : Int32) (f : Int32) (d : Int32) (v : Int32) (z : Int32) (x : Int32)  : Met l yL_isMonotone wsL_isMonotone ({ frames := 8, cells := 1, slots := 6, locals := 200 }) (va_Pc [.ref (q 0), .int x, .ref o9] (fun U => U.heap.size = sz ∧ va_P D vwCl (wL q cq o9 co V9 T R S X M P n h k w f d v z) U.heap ∧ va_K D vwCl (tyL cq co) U ∧ va_D (fun _ => True) (wL q cq o9 co V9 T R S X M P n h k w f d v z) ∧ envE (va_A (wL q cq o9 co V9 T R S X M P n h k w f d v z) sz) U)) (va_Qi (fun r9 (_ : Unit) => r9 = cd1 (kX1_isMonotone x)) (fun _ t9 => va_P D vwCl (wL q cq o9 co (VO (kX1_isMonotone x) V9 (if (fX1_isMonotone T x) = 0 then 0 else 1 : Int64)) T R S X M P n h k w f d v z) t9.heap ∧ va_D (va_A (wL q cq o9 co V9 T R S X M P n h k w f d v z) sz) (wL q cq o9 co (VO (kX1_isMonotone x) V9 (if (fX1_isMonotone T x) = 0 then 0 else 1 : Int64)) T R S X M P n h k w f d v z)) (va_A (wL q cq o9 co V9 T R S X M P n h k w f d v z) sz)) 1 6 (va_A (wL q cq o9 co V9 T R S X M P n h k w f d v z) sz) := by
  refine vw_ofWH (cc := cL_isMonotone) (maxL := 4) (ret := (some .int)) (hh := [(0, 16, 19, 13)]) (by decide) rfl ?_
  intro p e s m args below meth c s₁ B hml hv
  obtain ⟨rfl, hsz, hP, hK, hD0, hE⟩ := hv
  have hx := B.exec
  have hb := B.bytes
  have hr := B.returns
  have hts := atoms_spec (ws := wsL_isMonotone) B.pre
  have hown : s.vm.findClass RL = some m.cls := findClass_of_methodNamed B.named
  have hlocks := B.notSynchronized
  have htab := vx_table B (x := yL_isMonotone) (y := yL_isMonotone) (bytes := cL_isMonotone) (maxL' := 4) (ret' := (some .int)) (hh := [(0, 16, 19, 13)]) (hts _ List.mem_cons_self)
  subst hsz
  have hD := hD0.self (sz := s.heap.size)
  generalize hAe : va_A (wL q cq o9 co V9 T R S X M P n h k w f d v z) s.heap.size = A at hD hE ⊢
  have hA : ∀ q : Nat, s.heap.size ≤ q → A q := fun q h => by rw [← hAe]; exact Or.inr h
  have hS : va_S A s.heap s.heap [] := va_S.rf
  have hP : va_P D vwCl (wL q cq o9 co V9 T R S X M P n h k w f d v z) s.heap := hP
  have hl := lv_entry ([.ref (q 0), .int x, .ref o9]) (n := 4) (Nat.le_of_ble_eq_true rfl)
  rw [lg_entry_eq]
  generalize (lg_sl ([.ref (q 0), .int x, .ref o9]) ++ List.replicate (4 - (lg_sl ([.ref (q 0), .int x, .ref o9])).length) Slot.unset).toArray = ls at hl ⊢
  have hl : lv_has ls 4 [(0, .ref (q 0)), (1, .int x), (2, .ref o9)] := hl
  refine lv_aload_n hx hb dL_isMonotone_0 rfl (lv_at hl 2 rfl) ?_
  refine lv_iconst (v := 0) hx hb dL_isMonotone_1 (by decide) ?_
  refine lv_aload_n hx hb dL_isMonotone_2 rfl (lv_at hl 0 rfl) ?_
  refine lv_iload_n hx hb dL_isMonotone_3 rfl (lv_at hl 1 rfl) ?_
  have hPc := hP.sub (ws' := (wB q cq T R S X M P n h k w f d v z)) [1, 2, 3, 4, 5, 6, 7, 8] rfl
  have hKc := hK.sub (tys' := (tyB cq)) [1, 2, 3, 4, 5, 6] rfl
  refine vy_callSi (vx_runV (As := [.int x]) (rest := [.int 0, .ref o9]) ⟨hx, hb, hml, hown, hts⟩ (c_X1_isMonotone l hst D q cq T R S X M P n h k w f d v z x) (cwV 1 hts gL_isMonotone_X1_isMonotone rfl rfl rfl (by decide +kernel) ⟨Nat.le_of_ble_eq_true rfl, Nat.le_of_ble_eq_true rfl⟩) ⟨fun a U g mk z => ⟨z.1, z.2.1, va_K.moved (u := U) (U := U.calling g mk a) (Vm.Alike.refl U.vm) z.2.2.1, z.2.2.2.blind g mk a⟩, va_recv hKc hPc (ci := 1) (q0 := 0) rfl rfl, fun U hU hW => ⟨rfl, by rw [hU]; exact hPc, va_K.moved hW.alike hKc, hE.at0 hS hU hW⟩⟩ rfl rfl hl.1 rfl (lv_room (Nat.le_of_ble_eq_true rfl)) dL_isMonotone_4 ⟨Nat.le_of_ble_eq_true rfl, Nat.le_of_ble_eq_true rfl⟩) hS (fun _ _ z => z.elim) (fun E9 ce q9 u9 t8 H locs ht hvm hu hE9 hz1 hk1 hS hce hcv hcl => ?_) (fun r9 hw => ?_)
  · skip
    have hP := hP.kept (H1 := H) (fun k q hq => hk1 q.1 ((hP k q hq).lt) (fun z => z))
    have hn : ¬ (kX1_isMonotone x) = 0 := fun z => hu.2 (hu.1.symm.trans z)
    have hv : VO (kX1_isMonotone x) V9 (if (fX1_isMonotone T x) = 0 then 0 else 1 : Int64) = V9 := if_neg hn
    have hkr := kr_isMonotone x
    rw [hu.1] at hkr
    rcases hkr with h0 | h1
    · exact absurd h0 hu.2
    · subst h1
      have hE9 : E9 = "java/lang/IndexOutOfBoundsException" := hE9
      subst hE9
      refine vx_catch hown [] _ _ (htab.trans rfl) (fun z hz => absurd hz List.not_mem_nil) rfl (by decide) (hts (.classLink RL 13 "java/lang/IndexOutOfBoundsException") (List.mem_of_getElem? (i := 1) rfl)) (va_Nw.use rfl hE.2.1.1) hce hcv hcl ?_
      refine lv_astore_n (lv' := [(3, .ref q9), (0, .ref (q 0)), (1, .int x), (2, .ref o9)]) hx hb dL_isMonotone_19 rfl hl (by decide) rfl (fun ls hl => ?_)
      refine lv_iconst (v := 1) hx hb dL_isMonotone_20 (by decide) ?_
      exact W.iret (v := 1) hx hb hr (fun t9 ht9 hW => ⟨⟨1, (), rfl, (by rw [hu.1]; rfl), ⟨by rw [ht9, hv]; exact hP, by rw [hv]; exact hD⟩⟩, hS.F ht9⟩) hS.2.2 dL_isMonotone_21
  · skip
    obtain ⟨hk, hw⟩ := hw
    have hv : VO (kX1_isMonotone x) V9 (if (fX1_isMonotone T x) = 0 then 0 else 1 : Int64) = vp_updL V9 0 (if (fX1_isMonotone T x) = 0 then 0 else 1 : Int64) := if_pos hk
    subst r9
    refine lv_if_eq (tgt := 14) hx hb dL_isMonotone_7 (by decide) (fun c1 => ?_) (fun c1 => ?_)
    · have hy : (if (fX1_isMonotone T x) = 0 then 0 else 1 : Int64) = 0 := if_pos c1
      have hv := hv.trans (congrArg (vp_updL V9 0) hy)
      refine lv_lconst (v := 0) hx hb dL_isMonotone_14 rfl ?_
      refine va_last hx hb hK hP hD hS 0 0 rfl rfl (i := 0) (vp_in_nI (n := 0) (N := 1) (by decide) (by decide)) dL_isMonotone_15 (fun H locs hP hD hS => ?_)
      have hP : va_P D vwCl (wL q cq o9 co (vp_updL V9 0 0) T R S X M P n h k w f d v z) H := hP
      have hD : va_D A (wL q cq o9 co (vp_updL V9 0 0) T R S X M P n h k w f d v z) := hD
      refine lv_goto (tgt := 22) hx hb dL_isMonotone_16 (by decide) ?_
      refine lv_iconst (v := 0) hx hb dL_isMonotone_22 (by decide) ?_
      refine W.widen (k := 1) (n := 6) (Nat.le_of_ble_eq_true rfl) (Nat.le_of_ble_eq_true rfl) ?_
      exact W.iret (v := 0) hx hb hr (fun t9 ht9 hW => ⟨⟨0, (), rfl, (by rw [hk]; rfl), ⟨by rw [ht9, hv]; exact hP, by rw [hv]; exact hD⟩⟩, hS.F ht9⟩) hS.2.2 dL_isMonotone_23
    · have hy : (if (fX1_isMonotone T x) = 0 then 0 else 1 : Int64) = 1 := if_neg c1
      have hv := hv.trans (congrArg (vp_updL V9 0) hy)
      refine lv_lconst (v := 1) hx hb dL_isMonotone_10 rfl ?_
      refine lv_goto (tgt := 15) hx hb dL_isMonotone_11 (by decide) ?_
      refine va_last hx hb hK hP hD hS 0 0 rfl rfl (i := 0) (vp_in_nI (n := 0) (N := 1) (by decide) (by decide)) dL_isMonotone_15 (fun H locs hP hD hS => ?_)
      have hP : va_P D vwCl (wL q cq o9 co (vp_updL V9 0 1) T R S X M P n h k w f d v z) H := hP
      have hD : va_D A (wL q cq o9 co (vp_updL V9 0 1) T R S X M P n h k w f d v z) := hD
      refine lv_goto (tgt := 22) hx hb dL_isMonotone_16 (by decide) ?_
      refine lv_iconst (v := 0) hx hb dL_isMonotone_22 (by decide) ?_
      refine W.widen (k := 1) (n := 6) (Nat.le_of_ble_eq_true rfl) (Nat.le_of_ble_eq_true rfl) ?_
      exact W.iret (v := 0) hx hb hr (fun t9 ht9 hW => ⟨⟨0, (), rfl, (by rw [hk]; rfl), ⟨by rw [ht9, hv]; exact hP, by rw [hv]; exact hD⟩⟩, hS.F ht9⟩) hS.2.2 dL_isMonotone_23
theorem kr_areEnough (T : Nat → Int32) (x : Int32) : (kX1_areEnough T x) = 0 ∨ (kX1_areEnough T x) = 3 := by
  unfold kX1_areEnough
  try unfold kX1_checkFunction
  try unfold kX1_checkVariable
  try unfold kX1_validTextProducts
  repeat' split
  all_goals (first | (simp; done) | (simp_all; done) | omega)
set_option maxHeartbeats 4000000 in
set_option maxRecDepth 100000 in
theorem c_L_areEnough (l : Launch) (hst : l.stackTraces = false) (D : va_G) (q : Nat → Nat) (cq : Nat → ClassId) (o9 : Nat) (co : ClassId) (V9 : Nat → Int64) (sz : Nat) (T : Nat → Int32) (R : Nat → Int32) (S : Nat → Int32) (X : Nat → Int32) (M : Nat → Int32) (P : Nat → Int32) (n : Int32) (h : Int32) (k : Int32) (w : Int32) (f : Int32) (d : Int32) (v : Int32) (z : Int32) (x : Int32)  : Met l yL_areEnough wsL_areEnough ({ frames := 8, cells := 1, slots := 6, locals := 200 }) (va_Pc [.ref (q 0), .int x, .ref o9] (fun U => U.heap.size = sz ∧ va_P D vwCl (wL q cq o9 co V9 T R S X M P n h k w f d v z) U.heap ∧ va_K D vwCl (tyL cq co) U ∧ va_D (fun _ => True) (wL q cq o9 co V9 T R S X M P n h k w f d v z) ∧ envE (va_A (wL q cq o9 co V9 T R S X M P n h k w f d v z) sz) U)) (va_Qi (fun r9 (_ : Unit) => r9 = cd1 (kX1_areEnough T x)) (fun _ t9 => va_P D vwCl (wL q cq o9 co (VO (kX1_areEnough T x) V9 (if (fX1_areEnough T x) = 0 then 0 else 1 : Int64)) T R S X M P n h k w f d v z) t9.heap ∧ va_D (va_A (wL q cq o9 co V9 T R S X M P n h k w f d v z) sz) (wL q cq o9 co (VO (kX1_areEnough T x) V9 (if (fX1_areEnough T x) = 0 then 0 else 1 : Int64)) T R S X M P n h k w f d v z)) (va_A (wL q cq o9 co V9 T R S X M P n h k w f d v z) sz)) 1 6 (va_A (wL q cq o9 co V9 T R S X M P n h k w f d v z) sz) := by
  refine vw_ofWH (cc := cL_areEnough) (maxL := 4) (ret := (some .int)) (hh := [(0, 16, 19, 21)]) (by decide) rfl ?_
  intro p e s m args below meth c s₁ B hml hv
  obtain ⟨rfl, hsz, hP, hK, hD0, hE⟩ := hv
  have hx := B.exec
  have hb := B.bytes
  have hr := B.returns
  have hts := atoms_spec (ws := wsL_areEnough) B.pre
  have hown : s.vm.findClass RL = some m.cls := findClass_of_methodNamed B.named
  have hlocks := B.notSynchronized
  have htab := vx_table B (x := yL_areEnough) (y := yL_areEnough) (bytes := cL_areEnough) (maxL' := 4) (ret' := (some .int)) (hh := [(0, 16, 19, 21)]) (hts _ List.mem_cons_self)
  subst hsz
  have hD := hD0.self (sz := s.heap.size)
  generalize hAe : va_A (wL q cq o9 co V9 T R S X M P n h k w f d v z) s.heap.size = A at hD hE ⊢
  have hA : ∀ q : Nat, s.heap.size ≤ q → A q := fun q h => by rw [← hAe]; exact Or.inr h
  have hS : va_S A s.heap s.heap [] := va_S.rf
  have hP : va_P D vwCl (wL q cq o9 co V9 T R S X M P n h k w f d v z) s.heap := hP
  have hl := lv_entry ([.ref (q 0), .int x, .ref o9]) (n := 4) (Nat.le_of_ble_eq_true rfl)
  rw [lg_entry_eq]
  generalize (lg_sl ([.ref (q 0), .int x, .ref o9]) ++ List.replicate (4 - (lg_sl ([.ref (q 0), .int x, .ref o9])).length) Slot.unset).toArray = ls at hl ⊢
  have hl : lv_has ls 4 [(0, .ref (q 0)), (1, .int x), (2, .ref o9)] := hl
  refine lv_aload_n hx hb dL_areEnough_0 rfl (lv_at hl 2 rfl) ?_
  refine lv_iconst (v := 0) hx hb dL_areEnough_1 (by decide) ?_
  refine lv_aload_n hx hb dL_areEnough_2 rfl (lv_at hl 0 rfl) ?_
  refine lv_iload_n hx hb dL_areEnough_3 rfl (lv_at hl 1 rfl) ?_
  have hPc := hP.sub (ws' := (wB q cq T R S X M P n h k w f d v z)) [1, 2, 3, 4, 5, 6, 7, 8] rfl
  have hKc := hK.sub (tys' := (tyB cq)) [1, 2, 3, 4, 5, 6] rfl
  refine vy_callSi (vx_runV (As := [.int x]) (rest := [.int 0, .ref o9]) ⟨hx, hb, hml, hown, hts⟩ (c_X1_areEnough l hst D q cq T R S X M P n h k w f d v z x) (cwV 1 hts gL_areEnough_X1_areEnough rfl rfl rfl (by decide +kernel) ⟨Nat.le_of_ble_eq_true rfl, Nat.le_of_ble_eq_true rfl⟩) ⟨fun a U g mk z => ⟨z.1, z.2.1, va_K.moved (u := U) (U := U.calling g mk a) (Vm.Alike.refl U.vm) z.2.2.1, z.2.2.2.blind g mk a⟩, va_recv hKc hPc (ci := 1) (q0 := 0) rfl rfl, fun U hU hW => ⟨rfl, by rw [hU]; exact hPc, va_K.moved hW.alike hKc, hE.at0 hS hU hW⟩⟩ rfl rfl hl.1 rfl (lv_room (Nat.le_of_ble_eq_true rfl)) dL_areEnough_4 ⟨Nat.le_of_ble_eq_true rfl, Nat.le_of_ble_eq_true rfl⟩) hS (fun _ _ z => z.elim) (fun E9 ce q9 u9 t8 H locs ht hvm hu hE9 hz1 hk1 hS hce hcv hcl => ?_) (fun r9 hw => ?_)
  · skip
    have hP := hP.kept (H1 := H) (fun k q hq => hk1 q.1 ((hP k q hq).lt) (fun z => z))
    have hn : ¬ (kX1_areEnough T x) = 0 := fun z => hu.2 (hu.1.symm.trans z)
    have hv : VO (kX1_areEnough T x) V9 (if (fX1_areEnough T x) = 0 then 0 else 1 : Int64) = V9 := if_neg hn
    have hkr := kr_areEnough T x
    rw [hu.1] at hkr
    rcases hkr with h0 | h3
    · exact absurd h0 hu.2
    · subst h3
      have hE9 : E9 = "java/lang/IllegalArgumentException" := hE9
      subst hE9
      refine vx_catch hown [] _ _ (htab.trans rfl) (fun z hz => absurd hz List.not_mem_nil) rfl (by decide) (hts (.classLink RL 21 "java/lang/IllegalArgumentException") (List.mem_of_getElem? (i := 1) rfl)) (va_Nw.use rfl hE.2.1.2.2.1) hce hcv hcl ?_
      refine lv_astore_n (lv' := [(3, .ref q9), (0, .ref (q 0)), (1, .int x), (2, .ref o9)]) hx hb dL_areEnough_19 rfl hl (by decide) rfl (fun ls hl => ?_)
      refine lv_iconst (v := 1) hx hb dL_areEnough_20 (by decide) ?_
      exact W.iret (v := 1) hx hb hr (fun t9 ht9 hW => ⟨⟨1, (), rfl, (by rw [hu.1]; rfl), ⟨by rw [ht9, hv]; exact hP, by rw [hv]; exact hD⟩⟩, hS.F ht9⟩) hS.2.2 dL_areEnough_21
  · skip
    obtain ⟨hk, hw⟩ := hw
    have hv : VO (kX1_areEnough T x) V9 (if (fX1_areEnough T x) = 0 then 0 else 1 : Int64) = vp_updL V9 0 (if (fX1_areEnough T x) = 0 then 0 else 1 : Int64) := if_pos hk
    subst r9
    refine lv_if_eq (tgt := 14) hx hb dL_areEnough_7 (by decide) (fun c1 => ?_) (fun c1 => ?_)
    · have hy : (if (fX1_areEnough T x) = 0 then 0 else 1 : Int64) = 0 := if_pos c1
      have hv := hv.trans (congrArg (vp_updL V9 0) hy)
      refine lv_lconst (v := 0) hx hb dL_areEnough_14 rfl ?_
      refine va_last hx hb hK hP hD hS 0 0 rfl rfl (i := 0) (vp_in_nI (n := 0) (N := 1) (by decide) (by decide)) dL_areEnough_15 (fun H locs hP hD hS => ?_)
      have hP : va_P D vwCl (wL q cq o9 co (vp_updL V9 0 0) T R S X M P n h k w f d v z) H := hP
      have hD : va_D A (wL q cq o9 co (vp_updL V9 0 0) T R S X M P n h k w f d v z) := hD
      refine lv_goto (tgt := 22) hx hb dL_areEnough_16 (by decide) ?_
      refine lv_iconst (v := 0) hx hb dL_areEnough_22 (by decide) ?_
      refine W.widen (k := 1) (n := 6) (Nat.le_of_ble_eq_true rfl) (Nat.le_of_ble_eq_true rfl) ?_
      exact W.iret (v := 0) hx hb hr (fun t9 ht9 hW => ⟨⟨0, (), rfl, (by rw [hk]; rfl), ⟨by rw [ht9, hv]; exact hP, by rw [hv]; exact hD⟩⟩, hS.F ht9⟩) hS.2.2 dL_areEnough_23
    · have hy : (if (fX1_areEnough T x) = 0 then 0 else 1 : Int64) = 1 := if_neg c1
      have hv := hv.trans (congrArg (vp_updL V9 0) hy)
      refine lv_lconst (v := 1) hx hb dL_areEnough_10 rfl ?_
      refine lv_goto (tgt := 15) hx hb dL_areEnough_11 (by decide) ?_
      refine va_last hx hb hK hP hD hS 0 0 rfl rfl (i := 0) (vp_in_nI (n := 0) (N := 1) (by decide) (by decide)) dL_areEnough_15 (fun H locs hP hD hS => ?_)
      have hP : va_P D vwCl (wL q cq o9 co (vp_updL V9 0 1) T R S X M P n h k w f d v z) H := hP
      have hD : va_D A (wL q cq o9 co (vp_updL V9 0 1) T R S X M P n h k w f d v z) := hD
      refine lv_goto (tgt := 22) hx hb dL_areEnough_16 (by decide) ?_
      refine lv_iconst (v := 0) hx hb dL_areEnough_22 (by decide) ?_
      refine W.widen (k := 1) (n := 6) (Nat.le_of_ble_eq_true rfl) (Nat.le_of_ble_eq_true rfl) ?_
      exact W.iret (v := 0) hx hb hr (fun t9 ht9 hW => ⟨⟨0, (), rfl, (by rw [hk]; rfl), ⟨by rw [ht9, hv]; exact hP, by rw [hv]; exact hD⟩⟩, hS.F ht9⟩) hS.2.2 dL_areEnough_23
