set_option maxHeartbeats 4000000 in
set_option maxRecDepth 100000 in
theorem j_0 {p : Program} {l : Launch} (hst : l.stackTraces = false) {e : Env} {s : State} {m : MethodId} {below : List Frame} {meth : Method} {c : Code} {b L : Nat} {xs : Nat → Int32} (hL : L ≤ 260) (hx : p.tables.exec = Jvm.exec) (hb : c.code = cL_law) (hr : meth.sig.returnType = ret) (hml : c.maxLocals = 15) (hown : s.vm.findClass RL = some m.cls) (hts : ∀ w ∈ wsL_law, w.before #[Value.ref b] s = true) (hX : va_X b L xs s s.heap) (hbl : b < s.heap.size) {A : Nat → Prop} (hA : ∀ q : Nat, s.heap.size ≤ q → A q) (hbA : ¬ A b) (hE : envE A s) {D : va_G} {q : Nat → Nat} {cq : Nat → ClassId} (hK : va_K D vwCl (tyB cq) s) (S : Nat → Int32) (h : Int32) (T R X M P : Nat → Int32) (n z : Nat) (w f d v : Int32) (hT : tbs T) (hR : tbs R) (hn : n ≤ 4) (hP9 : pch P) (N i f7 g8 v9 : Nat) (v5 w6 : Int32) (hf7 : f7 < 6) (hg8 : g8 < 6) (hv9 : v9 < 4) (H : Heap) (locs : List Loc) (hP : va_P D vwCl (wB q cq T R S X M P (nI n) h (nI 0) w f d v (nI z)) H) (hD : va_D A (wB q cq T R S X M P (nI n) h (nI 0) w f d v (nI z))) (hS : va_S A s.heap H locs) (ls : Array Slot) (hl : lv_has ls 15 [(0, .ref b), (1, .ref (q 0)), (2, .int 1), (3, .int (nI N)), (4, .int (nI i)), (5, .int v5), (6, .int w6), (7, .int (nI f7)), (8, .int (nI g8)), (9, .int (nI v9)), (10, .int (T f7)), (11, .int (T g8))]) {cells slots : Nat} (hc : cells + 1 ≤ 122) (hs : slots + 6 ≤ 1087) {Q : State → Prop} (kk : ∀ (T R X M P : Nat → Int32) (n z : Nat) (w f d v : Int32), tbs T → tbs R → n ≤ 4 → pch P → ∀ (H : Heap) (locs : List Loc), va_P D vwCl (wB q cq T R S X M P (nI n) h (nI 0) w f d v (nI z)) H → va_D A (wB q cq T R S X M P (nI n) h (nI 0) w f d v (nI z)) → va_S A s.heap H locs → ∀ ls : Array Slot, lv_has ls 15 [(0, .ref b), (1, .ref (q 0)), (2, .int 1), (3, .int (nI N)), (4, .int (nI i)), (7, .int (nI f7)), (8, .int (nI g8))] → W p l e room_1 s m #[Value.ref b] below meth c H locs (cells + 1) (slots + 6) Q (F0 m 593 ls [])) : W p l e room_1 s m #[Value.ref b] below meth c H locs cells slots Q (F0 m 188 ls []) := by
  refine lv_aload_n hx hb dL_law_188 rfl (lv_at hl 1 rfl) ?_
  refine lv_iload hx hb dL_law_189 (lv_at hl 7 rfl) ?_
  refine lv_iload hx hb dL_law_191 (lv_at hl 6 rfl) ?_
  refine vp_callSi (va_Run.run (va_runS (As := [.int w6]) (rest := [.int (nI f7), .ref (q 0)]) ⟨hx, hb, hml, hown, hts⟩ (c_L_table l w6) (va_cwS 1 hts gL_law_L_table rfl rfl rfl (by decide +kernel) ⟨Nat.le_of_ble_eq_true rfl, Nat.le_of_ble_eq_true rfl⟩) ⟨fun _ _ _ _ z => z, fun _ _ _ => ⟨rfl, trivial⟩⟩ rfl rfl hl.1 rfl (lv_room (Nat.le_of_ble_eq_true rfl)) dL_law_193 ⟨(by show cells + 0 ≤ 122; omega), (by show slots + 0 ≤ 1087; omega)⟩)) (fun r9 hr => ?_)
  subst r9
  have hPc := hP.sub (ws' := (wB q cq T R S X M P (nI n) h (nI 0) w f d v (nI z))) [0, 1, 2, 3, 4, 5, 6, 7] rfl
  have hKc := hK.sub (tys' := (tyB cq)) [0, 1, 2, 3, 4, 5] rfl
  have hDc := hD.sub (ws' := (wB q cq T R S X M P (nI n) h (nI 0) w f d v (nI z))) [0, 1, 2, 3, 4, 5, 6, 7] (by decide) rfl
  have hFc := va_free (wc := (wB q cq T R S X M P (nI n) h (nI 0) w f d v (nI z))) hD hS hA [0, 1, 2, 3, 4, 5, 6, 7] rfl
  refine va_calli (va_runV (As := [.int (nI f7), .int (fL_table w6)]) (rest := []) ⟨hx, hb, hml, hown, hts⟩ (c_X1_setTable l D q cq H.size T R S X M P n h (nI 0) w f d v (nI z) f7 (fL_table w6) (by omega) (by omega) (tb_pos (table_tb _)) (tb_hi (table_tb _))) (cwV 2 hts gL_law_X1_setTable rfl rfl rfl (by decide +kernel) ⟨Nat.le_of_ble_eq_true rfl, Nat.le_of_ble_eq_true rfl⟩) ⟨fun a U g mk z => ⟨z.1, z.2.1, z.2.2.1, va_K.moved (u := U) (U := U.calling g mk a) (Vm.Alike.refl U.vm) z.2.2.2.1, z.2.2.2.2.1, z.2.2.2.2.2.blind g mk a⟩, va_recv hKc hPc (ci := 1) (q0 := 0) rfl rfl, fun U hU hW => ⟨rfl, by rw [hU], by rw [hU]; exact hPc, va_K.moved hW.alike hKc, hDc.weaken (fun _ _ _ _ => trivial), hE.at hS hU hW hFc⟩⟩ rfl rfl hl.1 rfl (lv_room (Nat.le_of_ble_eq_true rfl)) dL_law_196 ⟨(by show cells + 0 ≤ 122; omega), (by show slots + 0 ≤ 1087; omega)⟩) hS (fun q _ h => hFc q h) hFc (fun r9 u9 t8 H1 locs ht hvm hw hB hz1 hk1 hS => ?_)
  obtain ⟨hP1, hD1⟩ := hB
  rw [ht] at hP1
  obtain ⟨hP, hD⟩ := va_join (wr := []) (w1 := (wB q cq ((fX1_setTable T R n f7 (fL_table w6)).2.1) ((fX1_setTable T R n f7 (fL_table w6)).2.2.1) S X M P (nI (fX1_setTable T R n f7 (fL_table w6)).2.2.2) h (nI 0) w f d v (nI z))) hP hD [0, 1, 2, 3, 4, 5, 6, 7] [] rfl rfl (by decide) (by decide) hk1 hFc hP1 hD1
  have hP := hP.sub (ws' := (wB q cq ((fX1_setTable T R n f7 (fL_table w6)).2.1) ((fX1_setTable T R n f7 (fL_table w6)).2.2.1) S X M P (nI (fX1_setTable T R n f7 (fL_table w6)).2.2.2) h (nI 0) w f d v (nI z))) [0, 1, 2, 3, 4, 5, 6, 7] rfl
  have hD := hD.sub (ws' := (wB q cq ((fX1_setTable T R n f7 (fL_table w6)).2.1) ((fX1_setTable T R n f7 (fL_table w6)).2.2.1) S X M P (nI (fX1_setTable T R n f7 (fL_table w6)).2.2.2) h (nI 0) w f d v (nI z))) [0, 1, 2, 3, 4, 5, 6, 7] (by decide) rfl
  generalize H1 = H at hP hS ⊢
  subst r9
  refine lv_iload hx hb dL_law_199 (lv_at hl 10 rfl) ?_
  refine lv_icmp_ne (tgt := 222) hx hb dL_law_201 (by decide) (fun c_1 => ?_) (fun c_1 => ?_)
  · exact absurd (Eq.refl _) c_1
  · refine lv_aload_n hx hb dL_law_204 rfl (lv_at hl 1 rfl) ?_
    refine lv_iload hx hb dL_law_205 (lv_at hl 7 rfl) ?_
    have hPc := hP.sub (ws' := (wB q cq ((fX1_setTable T R n f7 (fL_table w6)).2.1) ((fX1_setTable T R n f7 (fL_table w6)).2.2.1) S X M P (nI (fX1_setTable T R n f7 (fL_table w6)).2.2.2) h (nI 0) w f d v (nI z))) [0, 1, 2, 3, 4, 5, 6, 7] rfl
    have hKc := hK.sub (tys' := (tyB cq)) [0, 1, 2, 3, 4, 5] rfl
    refine vp_callSi (va_Run.run (va_runV (As := [.int (nI f7)]) (rest := []) ⟨hx, hb, hml, hown, hts⟩ (c_X1_tableOf l D q cq ((fX1_setTable T R n f7 (fL_table w6)).2.1) ((fX1_setTable T R n f7 (fL_table w6)).2.2.1) S X M P (nI (fX1_setTable T R n f7 (fL_table w6)).2.2.2) h (nI 0) w f d v (nI z) f7 (by omega)) (cwV 1 hts gL_law_X1_tableOf rfl rfl rfl (by decide +kernel) ⟨Nat.le_of_ble_eq_true rfl, Nat.le_of_ble_eq_true rfl⟩) ⟨fun a U g mk z => ⟨z.1, z.2.1, va_K.moved (u := U) (U := U.calling g mk a) (Vm.Alike.refl U.vm) z.2.2.1, z.2.2.2.blind g mk a⟩, va_recv hKc hPc (ci := 1) (q0 := 0) rfl rfl, fun U hU hW => ⟨rfl, by rw [hU]; exact hPc, va_K.moved hW.alike hKc, hE.at0 hS hU hW⟩⟩ rfl rfl hl.1 rfl (lv_room (Nat.le_of_ble_eq_true rfl)) dL_law_207 ⟨(by show cells + 0 ≤ 122; omega), (by show slots + 0 ≤ 1087; omega)⟩)) (fun r9 hr => ?_)
    subst r9
    refine lv_iload hx hb dL_law_210 (lv_at hl 6 rfl) ?_
    refine vp_callSi (va_Run.run (va_runS (As := [.int w6]) (rest := [.int (fX1_tableOf ((fX1_setTable T R n f7 (fL_table w6)).2.1) f7)]) ⟨hx, hb, hml, hown, hts⟩ (c_L_table l w6) (va_cwS 1 hts gL_law_L_table rfl rfl rfl (by decide +kernel) ⟨Nat.le_of_ble_eq_true rfl, Nat.le_of_ble_eq_true rfl⟩) ⟨fun _ _ _ _ z => z, fun _ _ _ => ⟨rfl, trivial⟩⟩ rfl rfl hl.1 rfl (lv_room (Nat.le_of_ble_eq_true rfl)) dL_law_212 ⟨(by show cells + 0 ≤ 122; omega), (by show slots + 0 ≤ 1087; omega)⟩)) (fun r9 hr => ?_)
    subst r9
    refine lv_icmp_ne (tgt := 222) hx hb dL_law_215 (by decide) (fun c_2 => ?_) (fun c_2 => ?_)
    · exact absurd (upd_at T f7 _) c_2
    · refine lv_iconst (v := 1) hx hb dL_law_218 (by decide) ?_
      refine lv_goto (tgt := 223) hx hb dL_law_219 (by decide) ?_
      refine lv_istore_n (lv' := [(2, .int 1), (0, .ref b), (1, .ref (q 0)), (3, .int (nI N)), (4, .int (nI i)), (5, .int v5), (6, .int w6), (7, .int (nI f7)), (8, .int (nI g8)), (9, .int (nI v9)), (10, .int (T f7)), (11, .int (T g8))]) hx hb dL_law_223 rfl hl (by decide) rfl (fun ls hl => ?_)
      refine lv_goto (tgt := 593) hx hb dL_law_224 (by decide) ?_
      refine W.widen (k := cells + 1) (n := slots + 6) (by omega) (by omega) ?_
      exact kk ((fX1_setTable T R n f7 (fL_table w6)).2.1) ((fX1_setTable T R n f7 (fL_table w6)).2.2.1) X M P ((fX1_setTable T R n f7 (fL_table w6)).2.2.2) z w f d v (upd_tbs hT f7 (table_tb w6)) (record_tbs hT hR n) (record_n T R hn) hP9 H locs hP hD hS ls (lv_sub hl [1, 2, 0, 3, 4, 7, 8] rfl)
set_option maxHeartbeats 4000000 in
set_option maxRecDepth 100000 in
theorem j_3 {p : Program} {l : Launch} (hst : l.stackTraces = false) {e : Env} {s : State} {m : MethodId} {below : List Frame} {meth : Method} {c : Code} {b L : Nat} {xs : Nat → Int32} (hL : L ≤ 260) (hx : p.tables.exec = Jvm.exec) (hb : c.code = cL_law) (hr : meth.sig.returnType = ret) (hml : c.maxLocals = 15) (hown : s.vm.findClass RL = some m.cls) (hts : ∀ w ∈ wsL_law, w.before #[Value.ref b] s = true) (hX : va_X b L xs s s.heap) (hbl : b < s.heap.size) {A : Nat → Prop} (hA : ∀ q : Nat, s.heap.size ≤ q → A q) (hbA : ¬ A b) (hE : envE A s) {D : va_G} {q : Nat → Nat} {cq : Nat → ClassId} (hK : va_K D vwCl (tyB cq) s) (S : Nat → Int32) (h : Int32) (T R X M P : Nat → Int32) (n z : Nat) (w f d v : Int32) (hT : tbs T) (hR : tbs R) (hn : n ≤ 4) (hP9 : pch P) (N i f7 g8 v9 : Nat) (v5 w6 : Int32) (hf7 : f7 < 6) (hg8 : g8 < 6) (hv9 : v9 < 4) (H : Heap) (locs : List Loc) (hP : va_P D vwCl (wB q cq T R S X M P (nI n) h (nI 0) w f d v (nI z)) H) (hD : va_D A (wB q cq T R S X M P (nI n) h (nI 0) w f d v (nI z))) (hS : va_S A s.heap H locs) (ls : Array Slot) (hl : lv_has ls 15 [(0, .ref b), (1, .ref (q 0)), (2, .int 1), (3, .int (nI N)), (4, .int (nI i)), (5, .int v5), (6, .int w6), (7, .int (nI f7)), (8, .int (nI g8)), (9, .int (nI v9)), (10, .int (T f7)), (11, .int (T g8))]) {cells slots : Nat} (hc : cells + 1 ≤ 122) (hs : slots + 6 ≤ 1087) {Q : State → Prop} (kk : ∀ (T R X M P : Nat → Int32) (n z : Nat) (w f d v : Int32), tbs T → tbs R → n ≤ 4 → pch P → ∀ (H : Heap) (locs : List Loc), va_P D vwCl (wB q cq T R S X M P (nI n) h (nI 0) w f d v (nI z)) H → va_D A (wB q cq T R S X M P (nI n) h (nI 0) w f d v (nI z)) → va_S A s.heap H locs → ∀ ls : Array Slot, lv_has ls 15 [(0, .ref b), (1, .ref (q 0)), (2, .int 1), (3, .int (nI N)), (4, .int (nI i)), (7, .int (nI f7)), (8, .int (nI g8))] → W p l e room_1 s m #[Value.ref b] below meth c H locs (cells + 1) (slots + 6) Q (F0 m 593 ls [])) : W p l e room_1 s m #[Value.ref b] below meth c H locs cells slots Q (F0 m 227 ls []) := by
  refine lv_aload_n hx hb dL_law_227 rfl (lv_at hl 1 rfl) ?_
  refine lv_iload hx hb dL_law_228 (lv_at hl 7 rfl) ?_
  refine lv_iload hx hb dL_law_230 (lv_at hl 8 rfl) ?_
  refine lv_iload hx hb dL_law_232 (lv_at hl 8 rfl) ?_
  refine lv_iconst (v := 1) hx hb dL_law_234 (by decide) ?_
  refine lv_iload hx hb dL_law_235 (lv_at hl 6 rfl) ?_
  refine lv_iconst (v := 2) hx hb dL_law_237 (by decide) ?_
  refine vp_callSi (va_Run.run (va_runS (As := [.int w6, .int 2]) (rest := [.int 1, .int (nI g8), .int (nI g8), .int (nI f7), .ref (q 0)]) ⟨hx, hb, hml, hown, hts⟩ (c_L_low l w6 2 (by omega)) (va_cwS 2 hts gL_law_L_low rfl rfl rfl (by decide +kernel) ⟨Nat.le_of_ble_eq_true rfl, Nat.le_of_ble_eq_true rfl⟩) ⟨fun _ _ _ _ z => z, fun _ _ _ => ⟨rfl, trivial⟩⟩ rfl rfl hl.1 rfl (lv_room (Nat.le_of_ble_eq_true rfl)) dL_law_238 ⟨(by show cells + 0 ≤ 122; omega), (by show slots + 0 ≤ 1087; omega)⟩)) (fun r9 hr => ?_)
  subst r9
  obtain ⟨j1, hj1, ej1⟩ := low_of w6 (g := 2) (by decide) (by decide)
  refine lv_is (nI j1) ej1 ?_
  refine lv_iadd hx hb dL_law_241 ?_
  refine lv_is (nI (1 + j1)) (by first | exact nI_add _ _ | rfl) ?_
  have hPc := hP.sub (ws' := (wB q cq T R S X M P (nI n) h (nI 0) w f d v (nI z))) [0, 1, 2, 3, 4, 5, 6, 7] rfl
  have hKc := hK.sub (tys' := (tyB cq)) [0, 1, 2, 3, 4, 5] rfl
  have hDc := hD.sub (ws' := (wB q cq T R S X M P (nI n) h (nI 0) w f d v (nI z))) [0, 1, 2, 3, 4, 5, 6, 7] (by decide) rfl
  have hFc := va_free (wc := (wB q cq T R S X M P (nI n) h (nI 0) w f d v (nI z))) hD hS hA [0, 1, 2, 3, 4, 5, 6, 7] rfl
  refine va_calli (va_runV (As := [.int (nI f7), .int (nI g8), .int (nI g8), .int (nI (1 + j1))]) (rest := []) ⟨hx, hb, hml, hown, hts⟩ (c_X1_join l D q cq H.size T R S X M P n h (nI 0) w f d v (nI z) f7 g8 g8 (1 + j1) (by omega) (by omega) (by omega) (by omega) (by omega)) (cwV 4 hts gL_law_X1_join rfl rfl rfl (by decide +kernel) ⟨Nat.le_of_ble_eq_true rfl, Nat.le_of_ble_eq_true rfl⟩) ⟨fun a U g mk z => ⟨z.1, z.2.1, z.2.2.1, va_K.moved (u := U) (U := U.calling g mk a) (Vm.Alike.refl U.vm) z.2.2.2.1, z.2.2.2.2.1, z.2.2.2.2.2.blind g mk a⟩, va_recv hKc hPc (ci := 1) (q0 := 0) rfl rfl, fun U hU hW => ⟨rfl, by rw [hU], by rw [hU]; exact hPc, va_K.moved hW.alike hKc, hDc.weaken (fun _ _ _ _ => trivial), hE.at hS hU hW hFc⟩⟩ rfl rfl hl.1 rfl (lv_room (Nat.le_of_ble_eq_true rfl)) dL_law_242 ⟨(by show cells + 0 ≤ 122; omega), (by show slots + 0 ≤ 1087; omega)⟩) hS (fun q _ h => hFc q h) hFc (fun r9 u9 t8 H1 locs ht hvm hw hB hz1 hk1 hS => ?_)
  obtain ⟨hP1, hD1⟩ := hB
  rw [ht] at hP1
  obtain ⟨hP, hD⟩ := va_join (wr := []) (w1 := (wB q cq ((fX1_join T R n f7 g8 g8 (1 + j1)).2.1) ((fX1_join T R n f7 g8 g8 (1 + j1)).2.2.1) S X M P (nI (fX1_join T R n f7 g8 g8 (1 + j1)).2.2.2) h (nI 0) w f d v (nI z))) hP hD [0, 1, 2, 3, 4, 5, 6, 7] [] rfl rfl (by decide) (by decide) hk1 hFc hP1 hD1
  have hP := hP.sub (ws' := (wB q cq ((fX1_join T R n f7 g8 g8 (1 + j1)).2.1) ((fX1_join T R n f7 g8 g8 (1 + j1)).2.2.1) S X M P (nI (fX1_join T R n f7 g8 g8 (1 + j1)).2.2.2) h (nI 0) w f d v (nI z))) [0, 1, 2, 3, 4, 5, 6, 7] rfl
  have hD := hD.sub (ws' := (wB q cq ((fX1_join T R n f7 g8 g8 (1 + j1)).2.1) ((fX1_join T R n f7 g8 g8 (1 + j1)).2.2.1) S X M P (nI (fX1_join T R n f7 g8 g8 (1 + j1)).2.2.2) h (nI 0) w f d v (nI z))) [0, 1, 2, 3, 4, 5, 6, 7] (by decide) rfl
  generalize H1 = H at hP hS ⊢
  subst r9
  refine lv_iload hx hb dL_law_245 (lv_at hl 11 rfl) ?_
  refine lv_icmp_ne (tgt := 265) hx hb dL_law_247 (by decide) (fun c_1 => ?_) (fun c_1 => ?_)
  · exact absurd (join_same (T g8) hj1) c_1
  · refine lv_aload_n hx hb dL_law_250 rfl (lv_at hl 1 rfl) ?_
    refine lv_iload hx hb dL_law_251 (lv_at hl 7 rfl) ?_
    have hPc := hP.sub (ws' := (wB q cq ((fX1_join T R n f7 g8 g8 (1 + j1)).2.1) ((fX1_join T R n f7 g8 g8 (1 + j1)).2.2.1) S X M P (nI (fX1_join T R n f7 g8 g8 (1 + j1)).2.2.2) h (nI 0) w f d v (nI z))) [0, 1, 2, 3, 4, 5, 6, 7] rfl
    have hKc := hK.sub (tys' := (tyB cq)) [0, 1, 2, 3, 4, 5] rfl
    refine vp_callSi (va_Run.run (va_runV (As := [.int (nI f7)]) (rest := []) ⟨hx, hb, hml, hown, hts⟩ (c_X1_tableOf l D q cq ((fX1_join T R n f7 g8 g8 (1 + j1)).2.1) ((fX1_join T R n f7 g8 g8 (1 + j1)).2.2.1) S X M P (nI (fX1_join T R n f7 g8 g8 (1 + j1)).2.2.2) h (nI 0) w f d v (nI z) f7 (by omega)) (cwV 1 hts gL_law_X1_tableOf rfl rfl rfl (by decide +kernel) ⟨Nat.le_of_ble_eq_true rfl, Nat.le_of_ble_eq_true rfl⟩) ⟨fun a U g mk z => ⟨z.1, z.2.1, va_K.moved (u := U) (U := U.calling g mk a) (Vm.Alike.refl U.vm) z.2.2.1, z.2.2.2.blind g mk a⟩, va_recv hKc hPc (ci := 1) (q0 := 0) rfl rfl, fun U hU hW => ⟨rfl, by rw [hU]; exact hPc, va_K.moved hW.alike hKc, hE.at0 hS hU hW⟩⟩ rfl rfl hl.1 rfl (lv_room (Nat.le_of_ble_eq_true rfl)) dL_law_253 ⟨(by show cells + 0 ≤ 122; omega), (by show slots + 0 ≤ 1087; omega)⟩)) (fun r9 hr => ?_)
    subst r9
    refine lv_iload hx hb dL_law_256 (lv_at hl 11 rfl) ?_
    refine lv_icmp_ne (tgt := 265) hx hb dL_law_258 (by decide) (fun c_2 => ?_) (fun c_2 => ?_)
    · exact absurd ((upd_at T f7 _).trans (join_same (T g8) hj1)) c_2
    · refine lv_iconst (v := 1) hx hb dL_law_261 (by decide) ?_
      refine lv_goto (tgt := 266) hx hb dL_law_262 (by decide) ?_
      refine lv_istore_n (lv' := [(2, .int 1), (0, .ref b), (1, .ref (q 0)), (3, .int (nI N)), (4, .int (nI i)), (5, .int v5), (6, .int w6), (7, .int (nI f7)), (8, .int (nI g8)), (9, .int (nI v9)), (10, .int (T f7)), (11, .int (T g8))]) hx hb dL_law_266 rfl hl (by decide) rfl (fun ls hl => ?_)
      refine lv_goto (tgt := 593) hx hb dL_law_267 (by decide) ?_
      refine W.widen (k := cells + 1) (n := slots + 6) (by omega) (by omega) ?_
      exact kk ((fX1_join T R n f7 g8 g8 (1 + j1)).2.1) ((fX1_join T R n f7 g8 g8 (1 + j1)).2.2.1) X M P ((fX1_join T R n f7 g8 g8 (1 + j1)).2.2.2) z w f d v (upd_tbs hT f7 (join_tb (hT g8) (hT g8) _)) (record_tbs hT hR n) (record_n T R hn) hP9 H locs hP hD hS ls (lv_sub hl [1, 2, 0, 3, 4, 7, 8] rfl)
set_option maxHeartbeats 4000000 in
set_option maxRecDepth 100000 in
theorem j_4 {p : Program} {l : Launch} (hst : l.stackTraces = false) {e : Env} {s : State} {m : MethodId} {below : List Frame} {meth : Method} {c : Code} {b L : Nat} {xs : Nat → Int32} (hL : L ≤ 260) (hx : p.tables.exec = Jvm.exec) (hb : c.code = cL_law) (hr : meth.sig.returnType = ret) (hml : c.maxLocals = 15) (hown : s.vm.findClass RL = some m.cls) (hts : ∀ w ∈ wsL_law, w.before #[Value.ref b] s = true) (hX : va_X b L xs s s.heap) (hbl : b < s.heap.size) {A : Nat → Prop} (hA : ∀ q : Nat, s.heap.size ≤ q → A q) (hbA : ¬ A b) (hE : envE A s) {D : va_G} {q : Nat → Nat} {cq : Nat → ClassId} (hK : va_K D vwCl (tyB cq) s) (S : Nat → Int32) (h : Int32) (T R X M P : Nat → Int32) (n z : Nat) (w f d v : Int32) (hT : tbs T) (hR : tbs R) (hn : n ≤ 4) (hP9 : pch P) (N i f7 g8 v9 : Nat) (v5 w6 : Int32) (hf7 : f7 < 6) (hg8 : g8 < 6) (hv9 : v9 < 4) (H : Heap) (locs : List Loc) (hP : va_P D vwCl (wB q cq T R S X M P (nI n) h (nI 0) w f d v (nI z)) H) (hD : va_D A (wB q cq T R S X M P (nI n) h (nI 0) w f d v (nI z))) (hS : va_S A s.heap H locs) (ls : Array Slot) (hl : lv_has ls 15 [(0, .ref b), (1, .ref (q 0)), (2, .int 1), (3, .int (nI N)), (4, .int (nI i)), (5, .int v5), (6, .int w6), (7, .int (nI f7)), (8, .int (nI g8)), (9, .int (nI v9)), (10, .int (T f7)), (11, .int (T g8))]) {cells slots : Nat} (hc : cells + 1 ≤ 122) (hs : slots + 6 ≤ 1087) {Q : State → Prop} (kk : ∀ (T R X M P : Nat → Int32) (n z : Nat) (w f d v : Int32), tbs T → tbs R → n ≤ 4 → pch P → ∀ (H : Heap) (locs : List Loc), va_P D vwCl (wB q cq T R S X M P (nI n) h (nI 0) w f d v (nI z)) H → va_D A (wB q cq T R S X M P (nI n) h (nI 0) w f d v (nI z)) → va_S A s.heap H locs → ∀ ls : Array Slot, lv_has ls 15 [(0, .ref b), (1, .ref (q 0)), (2, .int 1), (3, .int (nI N)), (4, .int (nI i)), (7, .int (nI f7)), (8, .int (nI g8))] → W p l e room_1 s m #[Value.ref b] below meth c H locs (cells + 1) (slots + 6) Q (F0 m 593 ls [])) : W p l e room_1 s m #[Value.ref b] below meth c H locs cells slots Q (F0 m 270 ls []) := by
  refine lv_aload_n hx hb dL_law_270 rfl (lv_at hl 1 rfl) ?_
  refine lv_iload hx hb dL_law_271 (lv_at hl 7 rfl) ?_
  refine lv_iload hx hb dL_law_273 (lv_at hl 7 rfl) ?_
  refine lv_iload hx hb dL_law_275 (lv_at hl 8 rfl) ?_
  refine lv_iload hx hb dL_law_277 (lv_at hl 6 rfl) ?_
  refine lv_iconst (v := 4) hx hb dL_law_279 (by decide) ?_
  refine vp_callSi (va_Run.run (va_runS (As := [.int w6, .int 4]) (rest := [.int (nI g8), .int (nI f7), .int (nI f7), .ref (q 0)]) ⟨hx, hb, hml, hown, hts⟩ (c_L_low l w6 4 (by omega)) (va_cwS 2 hts gL_law_L_low rfl rfl rfl (by decide +kernel) ⟨Nat.le_of_ble_eq_true rfl, Nat.le_of_ble_eq_true rfl⟩) ⟨fun _ _ _ _ z => z, fun _ _ _ => ⟨rfl, trivial⟩⟩ rfl rfl hl.1 rfl (lv_room (Nat.le_of_ble_eq_true rfl)) dL_law_280 ⟨(by show cells + 0 ≤ 122; omega), (by show slots + 0 ≤ 1087; omega)⟩)) (fun r9 hr => ?_)
  subst r9
  obtain ⟨j1, hj1, ej1⟩ := low_of w6 (g := 4) (by decide) (by decide)
  refine lv_is (nI j1) ej1 ?_
  have hPc := hP.sub (ws' := (wB q cq T R S X M P (nI n) h (nI 0) w f d v (nI z))) [0, 1, 2, 3, 4, 5, 6, 7] rfl
  have hKc := hK.sub (tys' := (tyB cq)) [0, 1, 2, 3, 4, 5] rfl
  have hDc := hD.sub (ws' := (wB q cq T R S X M P (nI n) h (nI 0) w f d v (nI z))) [0, 1, 2, 3, 4, 5, 6, 7] (by decide) rfl
  have hFc := va_free (wc := (wB q cq T R S X M P (nI n) h (nI 0) w f d v (nI z))) hD hS hA [0, 1, 2, 3, 4, 5, 6, 7] rfl
  refine va_calli (va_runV (As := [.int (nI f7), .int (nI f7), .int (nI g8), .int (nI j1)]) (rest := []) ⟨hx, hb, hml, hown, hts⟩ (c_X1_join l D q cq H.size T R S X M P n h (nI 0) w f d v (nI z) f7 f7 g8 j1 (by omega) (by omega) (by omega) (by omega) (by omega)) (cwV 4 hts gL_law_X1_join rfl rfl rfl (by decide +kernel) ⟨Nat.le_of_ble_eq_true rfl, Nat.le_of_ble_eq_true rfl⟩) ⟨fun a U g mk z => ⟨z.1, z.2.1, z.2.2.1, va_K.moved (u := U) (U := U.calling g mk a) (Vm.Alike.refl U.vm) z.2.2.2.1, z.2.2.2.2.1, z.2.2.2.2.2.blind g mk a⟩, va_recv hKc hPc (ci := 1) (q0 := 0) rfl rfl, fun U hU hW => ⟨rfl, by rw [hU], by rw [hU]; exact hPc, va_K.moved hW.alike hKc, hDc.weaken (fun _ _ _ _ => trivial), hE.at hS hU hW hFc⟩⟩ rfl rfl hl.1 rfl (lv_room (Nat.le_of_ble_eq_true rfl)) dL_law_283 ⟨(by show cells + 0 ≤ 122; omega), (by show slots + 0 ≤ 1087; omega)⟩) hS (fun q _ h => hFc q h) hFc (fun r9 u9 t8 H1 locs ht hvm hw hB hz1 hk1 hS => ?_)
  obtain ⟨hP1, hD1⟩ := hB
  rw [ht] at hP1
  obtain ⟨hP, hD⟩ := va_join (wr := []) (w1 := (wB q cq ((fX1_join T R n f7 f7 g8 j1).2.1) ((fX1_join T R n f7 f7 g8 j1).2.2.1) S X M P (nI (fX1_join T R n f7 f7 g8 j1).2.2.2) h (nI 0) w f d v (nI z))) hP hD [0, 1, 2, 3, 4, 5, 6, 7] [] rfl rfl (by decide) (by decide) hk1 hFc hP1 hD1
  have hP := hP.sub (ws' := (wB q cq ((fX1_join T R n f7 f7 g8 j1).2.1) ((fX1_join T R n f7 f7 g8 j1).2.2.1) S X M P (nI (fX1_join T R n f7 f7 g8 j1).2.2.2) h (nI 0) w f d v (nI z))) [0, 1, 2, 3, 4, 5, 6, 7] rfl
  have hD := hD.sub (ws' := (wB q cq ((fX1_join T R n f7 f7 g8 j1).2.1) ((fX1_join T R n f7 f7 g8 j1).2.2.1) S X M P (nI (fX1_join T R n f7 f7 g8 j1).2.2.2) h (nI 0) w f d v (nI z))) [0, 1, 2, 3, 4, 5, 6, 7] (by decide) rfl
  generalize H1 = H at hP hS ⊢
  subst r9
  refine lv_aload_n hx hb dL_law_286 rfl (lv_at hl 1 rfl) ?_
  refine lv_iload hx hb dL_law_287 (lv_at hl 7 rfl) ?_
  have hPc := hP.sub (ws' := (wB q cq ((fX1_join T R n f7 f7 g8 j1).2.1) ((fX1_join T R n f7 f7 g8 j1).2.2.1) S X M P (nI (fX1_join T R n f7 f7 g8 j1).2.2.2) h (nI 0) w f d v (nI z))) [0, 1, 2, 3, 4, 5, 6, 7] rfl
  have hKc := hK.sub (tys' := (tyB cq)) [0, 1, 2, 3, 4, 5] rfl
  refine vp_callSi (va_Run.run (va_runV (As := [.int (nI f7)]) (rest := [.int (fX1_join T R n f7 f7 g8 j1).1]) ⟨hx, hb, hml, hown, hts⟩ (c_X1_tableOf l D q cq ((fX1_join T R n f7 f7 g8 j1).2.1) ((fX1_join T R n f7 f7 g8 j1).2.2.1) S X M P (nI (fX1_join T R n f7 f7 g8 j1).2.2.2) h (nI 0) w f d v (nI z) f7 (by omega)) (cwV 1 hts gL_law_X1_tableOf rfl rfl rfl (by decide +kernel) ⟨Nat.le_of_ble_eq_true rfl, Nat.le_of_ble_eq_true rfl⟩) ⟨fun a U g mk z => ⟨z.1, z.2.1, va_K.moved (u := U) (U := U.calling g mk a) (Vm.Alike.refl U.vm) z.2.2.1, z.2.2.2.blind g mk a⟩, va_recv hKc hPc (ci := 1) (q0 := 0) rfl rfl, fun U hU hW => ⟨rfl, by rw [hU]; exact hPc, va_K.moved hW.alike hKc, hE.at0 hS hU hW⟩⟩ rfl rfl hl.1 rfl (lv_room (Nat.le_of_ble_eq_true rfl)) dL_law_289 ⟨(by show cells + 0 ≤ 122; omega), (by show slots + 0 ≤ 1087; omega)⟩)) (fun r9 hr => ?_)
  subst r9
  refine lv_icmp_ne (tgt := 299) hx hb dL_law_292 (by decide) (fun c_1 => ?_) (fun c_1 => ?_)
  · exact absurd (Eq.symm (upd_at T f7 _)) c_1
  · refine lv_iconst (v := 1) hx hb dL_law_295 (by decide) ?_
    refine lv_goto (tgt := 300) hx hb dL_law_296 (by decide) ?_
    refine lv_istore_n (lv' := [(2, .int 1), (0, .ref b), (1, .ref (q 0)), (3, .int (nI N)), (4, .int (nI i)), (5, .int v5), (6, .int w6), (7, .int (nI f7)), (8, .int (nI g8)), (9, .int (nI v9)), (10, .int (T f7)), (11, .int (T g8))]) hx hb dL_law_300 rfl hl (by decide) rfl (fun ls hl => ?_)
    refine lv_goto (tgt := 593) hx hb dL_law_301 (by decide) ?_
    refine W.widen (k := cells + 1) (n := slots + 6) (by omega) (by omega) ?_
    exact kk ((fX1_join T R n f7 f7 g8 j1).2.1) ((fX1_join T R n f7 f7 g8 j1).2.2.1) X M P ((fX1_join T R n f7 f7 g8 j1).2.2.2) z w f d v (upd_tbs hT f7 (join_tb (hT f7) (hT g8) _)) (record_tbs hT hR n) (record_n T R hn) hP9 H locs hP hD hS ls (lv_sub hl [1, 2, 0, 3, 4, 7, 8] rfl)
set_option maxHeartbeats 4000000 in
set_option maxRecDepth 100000 in
theorem j_5 {p : Program} {l : Launch} (hst : l.stackTraces = false) {e : Env} {s : State} {m : MethodId} {below : List Frame} {meth : Method} {c : Code} {b L : Nat} {xs : Nat → Int32} (hL : L ≤ 260) (hx : p.tables.exec = Jvm.exec) (hb : c.code = cL_law) (hr : meth.sig.returnType = ret) (hml : c.maxLocals = 15) (hown : s.vm.findClass RL = some m.cls) (hts : ∀ w ∈ wsL_law, w.before #[Value.ref b] s = true) (hX : va_X b L xs s s.heap) (hbl : b < s.heap.size) {A : Nat → Prop} (hA : ∀ q : Nat, s.heap.size ≤ q → A q) (hbA : ¬ A b) (hE : envE A s) {D : va_G} {q : Nat → Nat} {cq : Nat → ClassId} (hK : va_K D vwCl (tyB cq) s) (S : Nat → Int32) (h : Int32) (T R X M P : Nat → Int32) (n z : Nat) (w f d v : Int32) (hT : tbs T) (hR : tbs R) (hn : n ≤ 4) (hP9 : pch P) (N i f7 g8 v9 : Nat) (v5 w6 : Int32) (hf7 : f7 < 6) (hg8 : g8 < 6) (hv9 : v9 < 4) (H : Heap) (locs : List Loc) (hP : va_P D vwCl (wB q cq T R S X M P (nI n) h (nI 0) w f d v (nI z)) H) (hD : va_D A (wB q cq T R S X M P (nI n) h (nI 0) w f d v (nI z))) (hS : va_S A s.heap H locs) (ls : Array Slot) (hl : lv_has ls 15 [(0, .ref b), (1, .ref (q 0)), (2, .int 1), (3, .int (nI N)), (4, .int (nI i)), (5, .int v5), (6, .int w6), (7, .int (nI f7)), (8, .int (nI g8)), (9, .int (nI v9)), (10, .int (T f7)), (11, .int (T g8))]) {cells slots : Nat} (hc : cells + 1 ≤ 122) (hs : slots + 6 ≤ 1087) {Q : State → Prop} (kk : ∀ (T R X M P : Nat → Int32) (n z : Nat) (w f d v : Int32), tbs T → tbs R → n ≤ 4 → pch P → ∀ (H : Heap) (locs : List Loc), va_P D vwCl (wB q cq T R S X M P (nI n) h (nI 0) w f d v (nI z)) H → va_D A (wB q cq T R S X M P (nI n) h (nI 0) w f d v (nI z)) → va_S A s.heap H locs → ∀ ls : Array Slot, lv_has ls 15 [(0, .ref b), (1, .ref (q 0)), (2, .int 1), (3, .int (nI N)), (4, .int (nI i)), (7, .int (nI f7)), (8, .int (nI g8))] → W p l e room_1 s m #[Value.ref b] below meth c H locs (cells + 1) (slots + 6) Q (F0 m 593 ls [])) : W p l e room_1 s m #[Value.ref b] below meth c H locs cells slots Q (F0 m 304 ls []) := by
  refine lv_aload_n hx hb dL_law_304 rfl (lv_at hl 1 rfl) ?_
  refine lv_iload hx hb dL_law_305 (lv_at hl 7 rfl) ?_
  refine lv_iload hx hb dL_law_307 (lv_at hl 9 rfl) ?_
  refine lv_iload hx hb dL_law_309 (lv_at hl 6 rfl) ?_
  refine lv_iconst (v := 2) hx hb dL_law_311 (by decide) ?_
  refine vp_callSi (va_Run.run (va_runS (As := [.int w6, .int 2]) (rest := [.int (nI v9), .int (nI f7), .ref (q 0)]) ⟨hx, hb, hml, hown, hts⟩ (c_L_low l w6 2 (by omega)) (va_cwS 2 hts gL_law_L_low rfl rfl rfl (by decide +kernel) ⟨Nat.le_of_ble_eq_true rfl, Nat.le_of_ble_eq_true rfl⟩) ⟨fun _ _ _ _ z => z, fun _ _ _ => ⟨rfl, trivial⟩⟩ rfl rfl hl.1 rfl (lv_room (Nat.le_of_ble_eq_true rfl)) dL_law_312 ⟨(by show cells + 0 ≤ 122; omega), (by show slots + 0 ≤ 1087; omega)⟩)) (fun r9 hr => ?_)
  subst r9
  obtain ⟨j1, hj1, ej1⟩ := low_of w6 (g := 2) (by decide) (by decide)
  refine lv_is (nI j1) ej1 ?_
  refine vz_cut (fun H1 l1 g1 => ∃ (x1_0 : Int32) (ls : Array Slot), x1_0 = (if (nI j1) = 0 then 1 else 0 : Int32) ∧ lv_has ls 15 [(0, .ref b), (1, .ref (q 0)), (2, .int 1), (3, .int (nI N)), (4, .int (nI i)), (5, .int v5), (6, .int w6), (7, .int (nI f7)), (8, .int (nI g8)), (9, .int (nI v9)), (10, .int (T f7)), (11, .int (T g8))] ∧ (H = H1 ∧ locs = l1) ∧ g1 = F0 m 323 ls [.int x1_0, .int (nI v9), .int (nI f7), .ref (q 0)]) (fun hj1 => ?_) ?_
  · refine lv_if_ne (tgt := 322) hx hb dL_law_315 (by decide) (fun c_1 => ?_) (fun c_1 => ?_)
    · refine lv_iconst (v := 0) hx hb dL_law_322 (by decide) ?_
      exact hj1 _ _ _ ⟨0, ls, (by (rw [if_neg c_1]); first | done | rfl), lv_sub hl [0, 1, 2, 3, 4, 5, 6, 7, 8, 9, 10, 11] rfl, ⟨rfl, rfl⟩, rfl⟩
    · refine lv_iconst (v := 1) hx hb dL_law_318 (by decide) ?_
      refine lv_goto (tgt := 323) hx hb dL_law_319 (by decide) ?_
      exact hj1 _ _ _ ⟨1, ls, (by (rw [if_pos c_1]); first | done | rfl), lv_sub hl [0, 1, 2, 3, 4, 5, 6, 7, 8, 9, 10, 11] rfl, ⟨rfl, rfl⟩, rfl⟩
  rintro H1 l1 g1 ⟨x1_0, ls, ex1_0, hl, ⟨rfl, rfl⟩, rfl⟩
  subst x1_0
  have hPc := hP.sub (ws' := (wB q cq T R S X M P (nI n) h (nI 0) w f d v (nI z))) [0, 1, 2, 3, 4, 5, 6, 7] rfl
  have hKc := hK.sub (tys' := (tyB cq)) [0, 1, 2, 3, 4, 5] rfl
  have hDc := hD.sub (ws' := (wB q cq T R S X M P (nI n) h (nI 0) w f d v (nI z))) [0, 1, 2, 3, 4, 5, 6, 7] (by decide) rfl
  have hFc := va_free (wc := (wB q cq T R S X M P (nI n) h (nI 0) w f d v (nI z))) hD hS hA [0, 1, 2, 3, 4, 5, 6, 7] rfl
  refine va_calli (va_runV (As := [.int (nI f7), .int (nI v9), .int (if (nI j1) = 0 then 1 else 0 : Int32)]) (rest := []) ⟨hx, hb, hml, hown, hts⟩ (c_X1_fix l D q cq H.size T R S X M P n h (nI 0) w f d v (nI z) f7 v9 (if (nI j1) = 0 then 1 else 0 : Int32) (by omega) (by omega) (by omega)) (cwV 3 hts gL_law_X1_fix rfl rfl rfl (by decide +kernel) ⟨Nat.le_of_ble_eq_true rfl, Nat.le_of_ble_eq_true rfl⟩) ⟨fun a U g mk z => ⟨z.1, z.2.1, z.2.2.1, va_K.moved (u := U) (U := U.calling g mk a) (Vm.Alike.refl U.vm) z.2.2.2.1, z.2.2.2.2.1, z.2.2.2.2.2.blind g mk a⟩, va_recv hKc hPc (ci := 1) (q0 := 0) rfl rfl, fun U hU hW => ⟨rfl, by rw [hU], by rw [hU]; exact hPc, va_K.moved hW.alike hKc, hDc.weaken (fun _ _ _ _ => trivial), hE.at hS hU hW hFc⟩⟩ rfl rfl hl.1 rfl (lv_room (Nat.le_of_ble_eq_true rfl)) dL_law_323 ⟨(by show cells + 0 ≤ 122; omega), (by show slots + 0 ≤ 1087; omega)⟩) hS (fun q _ h => hFc q h) hFc (fun r9 u9 t8 H1 locs ht hvm hw hB hz1 hk1 hS => ?_)
  obtain ⟨hP1, hD1⟩ := hB
  rw [ht] at hP1
  obtain ⟨hP, hD⟩ := va_join (wr := []) (w1 := (wB q cq ((fX1_fix T R n f7 v9 (if (nI j1) = 0 then 1 else 0 : Int32)).2.1) ((fX1_fix T R n f7 v9 (if (nI j1) = 0 then 1 else 0 : Int32)).2.2.1) S X M P (nI (fX1_fix T R n f7 v9 (if (nI j1) = 0 then 1 else 0 : Int32)).2.2.2) h (nI 0) w f d v (nI z))) hP hD [0, 1, 2, 3, 4, 5, 6, 7] [] rfl rfl (by decide) (by decide) hk1 hFc hP1 hD1
  have hP := hP.sub (ws' := (wB q cq ((fX1_fix T R n f7 v9 (if (nI j1) = 0 then 1 else 0 : Int32)).2.1) ((fX1_fix T R n f7 v9 (if (nI j1) = 0 then 1 else 0 : Int32)).2.2.1) S X M P (nI (fX1_fix T R n f7 v9 (if (nI j1) = 0 then 1 else 0 : Int32)).2.2.2) h (nI 0) w f d v (nI z))) [0, 1, 2, 3, 4, 5, 6, 7] rfl
  have hD := hD.sub (ws' := (wB q cq ((fX1_fix T R n f7 v9 (if (nI j1) = 0 then 1 else 0 : Int32)).2.1) ((fX1_fix T R n f7 v9 (if (nI j1) = 0 then 1 else 0 : Int32)).2.2.1) S X M P (nI (fX1_fix T R n f7 v9 (if (nI j1) = 0 then 1 else 0 : Int32)).2.2.2) h (nI 0) w f d v (nI z))) [0, 1, 2, 3, 4, 5, 6, 7] (by decide) rfl
  generalize H1 = H at hP hS ⊢
  subst r9
  refine lv_aload_n hx hb dL_law_326 rfl (lv_at hl 1 rfl) ?_
  refine lv_iload hx hb dL_law_327 (lv_at hl 7 rfl) ?_
  have hPc := hP.sub (ws' := (wB q cq ((fX1_fix T R n f7 v9 (if (nI j1) = 0 then 1 else 0 : Int32)).2.1) ((fX1_fix T R n f7 v9 (if (nI j1) = 0 then 1 else 0 : Int32)).2.2.1) S X M P (nI (fX1_fix T R n f7 v9 (if (nI j1) = 0 then 1 else 0 : Int32)).2.2.2) h (nI 0) w f d v (nI z))) [0, 1, 2, 3, 4, 5, 6, 7] rfl
  have hKc := hK.sub (tys' := (tyB cq)) [0, 1, 2, 3, 4, 5] rfl
  refine vp_callSi (va_Run.run (va_runV (As := [.int (nI f7)]) (rest := [.int (fX1_fix T R n f7 v9 (if (nI j1) = 0 then 1 else 0 : Int32)).1]) ⟨hx, hb, hml, hown, hts⟩ (c_X1_tableOf l D q cq ((fX1_fix T R n f7 v9 (if (nI j1) = 0 then 1 else 0 : Int32)).2.1) ((fX1_fix T R n f7 v9 (if (nI j1) = 0 then 1 else 0 : Int32)).2.2.1) S X M P (nI (fX1_fix T R n f7 v9 (if (nI j1) = 0 then 1 else 0 : Int32)).2.2.2) h (nI 0) w f d v (nI z) f7 (by omega)) (cwV 1 hts gL_law_X1_tableOf rfl rfl rfl (by decide +kernel) ⟨Nat.le_of_ble_eq_true rfl, Nat.le_of_ble_eq_true rfl⟩) ⟨fun a U g mk z => ⟨z.1, z.2.1, va_K.moved (u := U) (U := U.calling g mk a) (Vm.Alike.refl U.vm) z.2.2.1, z.2.2.2.blind g mk a⟩, va_recv hKc hPc (ci := 1) (q0 := 0) rfl rfl, fun U hU hW => ⟨rfl, by rw [hU]; exact hPc, va_K.moved hW.alike hKc, hE.at0 hS hU hW⟩⟩ rfl rfl hl.1 rfl (lv_room (Nat.le_of_ble_eq_true rfl)) dL_law_329 ⟨(by show cells + 0 ≤ 122; omega), (by show slots + 0 ≤ 1087; omega)⟩)) (fun r9 hr => ?_)
  subst r9
  refine lv_icmp_ne (tgt := 350) hx hb dL_law_332 (by decide) (fun c_2 => ?_) (fun c_2 => ?_)
  · exact absurd (Eq.refl _) c_2
  · refine lv_aload_n hx hb dL_law_335 rfl (lv_at hl 1 rfl) ?_
    refine lv_iload hx hb dL_law_336 (lv_at hl 7 rfl) ?_
    refine lv_iload hx hb dL_law_338 (lv_at hl 9 rfl) ?_
    have hPc := hP.sub (ws' := (wB q cq ((fX1_fix T R n f7 v9 (if (nI j1) = 0 then 1 else 0 : Int32)).2.1) ((fX1_fix T R n f7 v9 (if (nI j1) = 0 then 1 else 0 : Int32)).2.2.1) S X M P (nI (fX1_fix T R n f7 v9 (if (nI j1) = 0 then 1 else 0 : Int32)).2.2.2) h (nI 0) w f d v (nI z))) [0, 1, 2, 3, 4, 5, 6, 7] rfl
    have hKc := hK.sub (tys' := (tyB cq)) [0, 1, 2, 3, 4, 5] rfl
    refine vp_callSi (va_Run.run (va_runV (As := [.int (nI f7), .int (nI v9)]) (rest := []) ⟨hx, hb, hml, hown, hts⟩ (c_X1_dependsOn l D q cq ((fX1_fix T R n f7 v9 (if (nI j1) = 0 then 1 else 0 : Int32)).2.1) ((fX1_fix T R n f7 v9 (if (nI j1) = 0 then 1 else 0 : Int32)).2.2.1) S X M P (nI (fX1_fix T R n f7 v9 (if (nI j1) = 0 then 1 else 0 : Int32)).2.2.2) h (nI 0) w f d v (nI z) f7 v9 (by omega) (by omega)) (cwV 2 hts gL_law_X1_dependsOn rfl rfl rfl (by decide +kernel) ⟨Nat.le_of_ble_eq_true rfl, Nat.le_of_ble_eq_true rfl⟩) ⟨fun a U g mk z => ⟨z.1, z.2.1, va_K.moved (u := U) (U := U.calling g mk a) (Vm.Alike.refl U.vm) z.2.2.1, z.2.2.2.blind g mk a⟩, va_recv hKc hPc (ci := 1) (q0 := 0) rfl rfl, fun U hU hW => ⟨rfl, by rw [hU]; exact hPc, va_K.moved hW.alike hKc, hE.at0 hS hU hW⟩⟩ rfl rfl hl.1 rfl (lv_room (Nat.le_of_ble_eq_true rfl)) dL_law_340 ⟨(by show cells + 0 ≤ 122; omega), (by show slots + 0 ≤ 1087; omega)⟩)) (fun r9 hr => ?_)
    subst r9
    refine lv_if_ne (tgt := 350) hx hb dL_law_343 (by decide) (fun c_3 => ?_) (fun c_3 => ?_)
    · exact absurd (fix_0 T R n f7 (hT f7) hv9 _) c_3
    · refine lv_iconst (v := 1) hx hb dL_law_346 (by decide) ?_
      refine lv_goto (tgt := 351) hx hb dL_law_347 (by decide) ?_
      refine lv_istore_n (lv' := [(2, .int 1), (0, .ref b), (1, .ref (q 0)), (3, .int (nI N)), (4, .int (nI i)), (5, .int v5), (6, .int w6), (7, .int (nI f7)), (8, .int (nI g8)), (9, .int (nI v9)), (10, .int (T f7)), (11, .int (T g8))]) hx hb dL_law_351 rfl hl (by decide) rfl (fun ls hl => ?_)
      refine lv_goto (tgt := 593) hx hb dL_law_352 (by decide) ?_
      refine W.widen (k := cells + 1) (n := slots + 6) (by omega) (by omega) ?_
      exact kk ((fX1_fix T R n f7 v9 (if (nI j1) = 0 then 1 else 0 : Int32)).2.1) ((fX1_fix T R n f7 v9 (if (nI j1) = 0 then 1 else 0 : Int32)).2.2.1) X M P ((fX1_fix T R n f7 v9 (if (nI j1) = 0 then 1 else 0 : Int32)).2.2.2) z w f d v (upd_tbs hT f7 (half_c (hT f7) hv9 _).1) (record_tbs hT hR n) (record_n T R hn) hP9 H locs hP hD hS ls (lv_sub hl [1, 2, 0, 3, 4, 7, 8] rfl)
set_option maxHeartbeats 4000000 in
set_option maxRecDepth 100000 in
theorem j_6 {p : Program} {l : Launch} (hst : l.stackTraces = false) {e : Env} {s : State} {m : MethodId} {below : List Frame} {meth : Method} {c : Code} {b L : Nat} {xs : Nat → Int32} (hL : L ≤ 260) (hx : p.tables.exec = Jvm.exec) (hb : c.code = cL_law) (hr : meth.sig.returnType = ret) (hml : c.maxLocals = 15) (hown : s.vm.findClass RL = some m.cls) (hts : ∀ w ∈ wsL_law, w.before #[Value.ref b] s = true) (hX : va_X b L xs s s.heap) (hbl : b < s.heap.size) {A : Nat → Prop} (hA : ∀ q : Nat, s.heap.size ≤ q → A q) (hbA : ¬ A b) (hE : envE A s) {D : va_G} {q : Nat → Nat} {cq : Nat → ClassId} (hK : va_K D vwCl (tyB cq) s) (S : Nat → Int32) (h : Int32) (T R X M P : Nat → Int32) (n z : Nat) (w f d v : Int32) (hT : tbs T) (hR : tbs R) (hn : n ≤ 4) (hP9 : pch P) (N i f7 g8 v9 : Nat) (v5 w6 : Int32) (hf7 : f7 < 6) (hg8 : g8 < 6) (hv9 : v9 < 4) (H : Heap) (locs : List Loc) (hP : va_P D vwCl (wB q cq T R S X M P (nI n) h (nI 0) w f d v (nI z)) H) (hD : va_D A (wB q cq T R S X M P (nI n) h (nI 0) w f d v (nI z))) (hS : va_S A s.heap H locs) (ls : Array Slot) (hl : lv_has ls 15 [(0, .ref b), (1, .ref (q 0)), (2, .int 1), (3, .int (nI N)), (4, .int (nI i)), (5, .int v5), (6, .int w6), (7, .int (nI f7)), (8, .int (nI g8)), (9, .int (nI v9)), (10, .int (T f7)), (11, .int (T g8))]) {cells slots : Nat} (hc : cells + 1 ≤ 122) (hs : slots + 6 ≤ 1087) {Q : State → Prop} (kk : ∀ (T R X M P : Nat → Int32) (n z : Nat) (w f d v : Int32), tbs T → tbs R → n ≤ 4 → pch P → ∀ (H : Heap) (locs : List Loc), va_P D vwCl (wB q cq T R S X M P (nI n) h (nI 0) w f d v (nI z)) H → va_D A (wB q cq T R S X M P (nI n) h (nI 0) w f d v (nI z)) → va_S A s.heap H locs → ∀ ls : Array Slot, lv_has ls 15 [(0, .ref b), (1, .ref (q 0)), (2, .int 1), (3, .int (nI N)), (4, .int (nI i)), (7, .int (nI f7)), (8, .int (nI g8))] → W p l e room_1 s m #[Value.ref b] below meth c H locs (cells + 1) (slots + 6) Q (F0 m 593 ls [])) : W p l e room_1 s m #[Value.ref b] below meth c H locs cells slots Q (F0 m 355 ls []) := by
  refine lv_aload_n hx hb dL_law_355 rfl (lv_at hl 1 rfl) ?_
  refine lv_iload hx hb dL_law_356 (lv_at hl 7 rfl) ?_
  refine lv_iload hx hb dL_law_358 (lv_at hl 9 rfl) ?_
  refine lv_iload hx hb dL_law_360 (lv_at hl 8 rfl) ?_
  have hPc := hP.sub (ws' := (wB q cq T R S X M P (nI n) h (nI 0) w f d v (nI z))) [0, 1, 2, 3, 4, 5, 6, 7] rfl
  have hKc := hK.sub (tys' := (tyB cq)) [0, 1, 2, 3, 4, 5] rfl
  have hDc := hD.sub (ws' := (wB q cq T R S X M P (nI n) h (nI 0) w f d v (nI z))) [0, 1, 2, 3, 4, 5, 6, 7] (by decide) rfl
  have hFc := va_free (wc := (wB q cq T R S X M P (nI n) h (nI 0) w f d v (nI z))) hD hS hA [0, 1, 2, 3, 4, 5, 6, 7] rfl
  refine va_calli (va_runV (As := [.int (nI f7), .int (nI v9), .int (nI g8)]) (rest := []) ⟨hx, hb, hml, hown, hts⟩ (c_X1_substitute l D q cq H.size T R S X M P n h (nI 0) w f d v (nI z) f7 v9 g8 (by omega) (by omega) (by omega) (by omega)) (cwV 3 hts gL_law_X1_substitute rfl rfl rfl (by decide +kernel) ⟨Nat.le_of_ble_eq_true rfl, Nat.le_of_ble_eq_true rfl⟩) ⟨fun a U g mk z => ⟨z.1, z.2.1, z.2.2.1, va_K.moved (u := U) (U := U.calling g mk a) (Vm.Alike.refl U.vm) z.2.2.2.1, z.2.2.2.2.1, z.2.2.2.2.2.blind g mk a⟩, va_recv hKc hPc (ci := 1) (q0 := 0) rfl rfl, fun U hU hW => ⟨rfl, by rw [hU], by rw [hU]; exact hPc, va_K.moved hW.alike hKc, hDc.weaken (fun _ _ _ _ => trivial), hE.at hS hU hW hFc⟩⟩ rfl rfl hl.1 rfl (lv_room (Nat.le_of_ble_eq_true rfl)) dL_law_362 ⟨(by show cells + 0 ≤ 122; omega), (by show slots + 0 ≤ 1087; omega)⟩) hS (fun q _ h => hFc q h) hFc (fun r9 u9 t8 H1 locs ht hvm hw hB hz1 hk1 hS => ?_)
  obtain ⟨hP1, hD1⟩ := hB
  rw [ht] at hP1
  obtain ⟨hP, hD⟩ := va_join (wr := []) (w1 := (wB q cq ((fX1_substitute T R n f7 v9 g8).2.1) ((fX1_substitute T R n f7 v9 g8).2.2.1) S X M P (nI (fX1_substitute T R n f7 v9 g8).2.2.2) h (nI 0) w f d v (nI z))) hP hD [0, 1, 2, 3, 4, 5, 6, 7] [] rfl rfl (by decide) (by decide) hk1 hFc hP1 hD1
  have hP := hP.sub (ws' := (wB q cq ((fX1_substitute T R n f7 v9 g8).2.1) ((fX1_substitute T R n f7 v9 g8).2.2.1) S X M P (nI (fX1_substitute T R n f7 v9 g8).2.2.2) h (nI 0) w f d v (nI z))) [0, 1, 2, 3, 4, 5, 6, 7] rfl
  have hD := hD.sub (ws' := (wB q cq ((fX1_substitute T R n f7 v9 g8).2.1) ((fX1_substitute T R n f7 v9 g8).2.2.1) S X M P (nI (fX1_substitute T R n f7 v9 g8).2.2.2) h (nI 0) w f d v (nI z))) [0, 1, 2, 3, 4, 5, 6, 7] (by decide) rfl
  generalize H1 = H at hP hS ⊢
  subst r9
  refine lv_aload_n hx hb dL_law_365 rfl (lv_at hl 1 rfl) ?_
  refine lv_iload hx hb dL_law_366 (lv_at hl 7 rfl) ?_
  have hPc := hP.sub (ws' := (wB q cq ((fX1_substitute T R n f7 v9 g8).2.1) ((fX1_substitute T R n f7 v9 g8).2.2.1) S X M P (nI (fX1_substitute T R n f7 v9 g8).2.2.2) h (nI 0) w f d v (nI z))) [0, 1, 2, 3, 4, 5, 6, 7] rfl
  have hKc := hK.sub (tys' := (tyB cq)) [0, 1, 2, 3, 4, 5] rfl
  refine vp_callSi (va_Run.run (va_runV (As := [.int (nI f7)]) (rest := [.int (fX1_substitute T R n f7 v9 g8).1]) ⟨hx, hb, hml, hown, hts⟩ (c_X1_tableOf l D q cq ((fX1_substitute T R n f7 v9 g8).2.1) ((fX1_substitute T R n f7 v9 g8).2.2.1) S X M P (nI (fX1_substitute T R n f7 v9 g8).2.2.2) h (nI 0) w f d v (nI z) f7 (by omega)) (cwV 1 hts gL_law_X1_tableOf rfl rfl rfl (by decide +kernel) ⟨Nat.le_of_ble_eq_true rfl, Nat.le_of_ble_eq_true rfl⟩) ⟨fun a U g mk z => ⟨z.1, z.2.1, va_K.moved (u := U) (U := U.calling g mk a) (Vm.Alike.refl U.vm) z.2.2.1, z.2.2.2.blind g mk a⟩, va_recv hKc hPc (ci := 1) (q0 := 0) rfl rfl, fun U hU hW => ⟨rfl, by rw [hU]; exact hPc, va_K.moved hW.alike hKc, hE.at0 hS hU hW⟩⟩ rfl rfl hl.1 rfl (lv_room (Nat.le_of_ble_eq_true rfl)) dL_law_368 ⟨(by show cells + 0 ≤ 122; omega), (by show slots + 0 ≤ 1087; omega)⟩)) (fun r9 hr => ?_)
  subst r9
  refine lv_icmp_ne (tgt := 399) hx hb dL_law_371 (by decide) (fun c_1 => ?_) (fun c_1 => ?_)
  · exact absurd (Eq.refl _) c_1
  · refine lv_iload hx hb dL_law_374 (lv_at hl 11 rfl) ?_
    refine lv_iload hx hb dL_law_376 (lv_at hl 9 rfl) ?_
    refine vp_callSi (va_Run.run (va_runS (As := [.int (nI v9)]) (rest := [.int (T g8)]) ⟨hx, hb, hml, hown, hts⟩ (cv_L_variable l v9 (by omega)) (va_cwS 1 hts gL_law_L_variable rfl rfl rfl (by decide +kernel) ⟨Nat.le_of_ble_eq_true rfl, Nat.le_of_ble_eq_true rfl⟩) ⟨fun _ _ _ _ z => z, fun _ _ _ => ⟨rfl, trivial⟩⟩ rfl rfl hl.1 rfl (lv_room (Nat.le_of_ble_eq_true rfl)) dL_law_378 ⟨(by show cells + 0 ≤ 122; omega), (by show slots + 0 ≤ 1087; omega)⟩)) (fun r9 hr => ?_)
    subst r9
    refine lv_icmp_ne (tgt := 395) hx hb dL_law_381 (by decide) (fun c_2 => ?_) (fun c_2 => ?_)
    · refine lv_iconst (v := 1) hx hb dL_law_395 (by decide) ?_
      refine lv_goto (tgt := 400) hx hb dL_law_396 (by decide) ?_
      refine lv_istore_n (lv' := [(2, .int 1), (0, .ref b), (1, .ref (q 0)), (3, .int (nI N)), (4, .int (nI i)), (5, .int v5), (6, .int w6), (7, .int (nI f7)), (8, .int (nI g8)), (9, .int (nI v9)), (10, .int (T f7)), (11, .int (T g8))]) hx hb dL_law_400 rfl hl (by decide) rfl (fun ls hl => ?_)
      refine lv_goto (tgt := 593) hx hb dL_law_401 (by decide) ?_
      refine W.widen (k := cells + 1) (n := slots + 6) (by omega) (by omega) ?_
      exact kk ((fX1_substitute T R n f7 v9 g8).2.1) ((fX1_substitute T R n f7 v9 g8).2.2.1) X M P ((fX1_substitute T R n f7 v9 g8).2.2.2) z w f d v (upd_tbs hT f7 (sub_tb (hT f7) (hT g8) hv9)) (record_tbs hT hR n) (record_n T R hn) hP9 H locs hP hD hS ls (lv_sub hl [1, 2, 0, 3, 4, 7, 8] rfl)
    · refine lv_aload_n hx hb dL_law_384 rfl (lv_at hl 1 rfl) ?_
      refine lv_iload hx hb dL_law_385 (lv_at hl 7 rfl) ?_
      have hPc := hP.sub (ws' := (wB q cq ((fX1_substitute T R n f7 v9 g8).2.1) ((fX1_substitute T R n f7 v9 g8).2.2.1) S X M P (nI (fX1_substitute T R n f7 v9 g8).2.2.2) h (nI 0) w f d v (nI z))) [0, 1, 2, 3, 4, 5, 6, 7] rfl
      have hKc := hK.sub (tys' := (tyB cq)) [0, 1, 2, 3, 4, 5] rfl
      refine vp_callSi (va_Run.run (va_runV (As := [.int (nI f7)]) (rest := []) ⟨hx, hb, hml, hown, hts⟩ (c_X1_tableOf l D q cq ((fX1_substitute T R n f7 v9 g8).2.1) ((fX1_substitute T R n f7 v9 g8).2.2.1) S X M P (nI (fX1_substitute T R n f7 v9 g8).2.2.2) h (nI 0) w f d v (nI z) f7 (by omega)) (cwV 1 hts gL_law_X1_tableOf rfl rfl rfl (by decide +kernel) ⟨Nat.le_of_ble_eq_true rfl, Nat.le_of_ble_eq_true rfl⟩) ⟨fun a U g mk z => ⟨z.1, z.2.1, va_K.moved (u := U) (U := U.calling g mk a) (Vm.Alike.refl U.vm) z.2.2.1, z.2.2.2.blind g mk a⟩, va_recv hKc hPc (ci := 1) (q0 := 0) rfl rfl, fun U hU hW => ⟨rfl, by rw [hU]; exact hPc, va_K.moved hW.alike hKc, hE.at0 hS hU hW⟩⟩ rfl rfl hl.1 rfl (lv_room (Nat.le_of_ble_eq_true rfl)) dL_law_387 ⟨(by show cells + 0 ≤ 122; omega), (by show slots + 0 ≤ 1087; omega)⟩)) (fun r9 hr => ?_)
      subst r9
      refine lv_iload hx hb dL_law_390 (lv_at hl 10 rfl) ?_
      refine lv_icmp_ne (tgt := 399) hx hb dL_law_392 (by decide) (fun c_3 => ?_) (fun c_3 => ?_)
      · exact absurd (sub_had T R n f7 g8 (hT f7) hv9 c_2) c_3
      · refine lv_iconst (v := 1) hx hb dL_law_395 (by decide) ?_
        refine lv_goto (tgt := 400) hx hb dL_law_396 (by decide) ?_
        refine lv_istore_n (lv' := [(2, .int 1), (0, .ref b), (1, .ref (q 0)), (3, .int (nI N)), (4, .int (nI i)), (5, .int v5), (6, .int w6), (7, .int (nI f7)), (8, .int (nI g8)), (9, .int (nI v9)), (10, .int (T f7)), (11, .int (T g8))]) hx hb dL_law_400 rfl hl (by decide) rfl (fun ls hl => ?_)
        refine lv_goto (tgt := 593) hx hb dL_law_401 (by decide) ?_
        refine W.widen (k := cells + 1) (n := slots + 6) (by omega) (by omega) ?_
        exact kk ((fX1_substitute T R n f7 v9 g8).2.1) ((fX1_substitute T R n f7 v9 g8).2.2.1) X M P ((fX1_substitute T R n f7 v9 g8).2.2.2) z w f d v (upd_tbs hT f7 (sub_tb (hT f7) (hT g8) hv9)) (record_tbs hT hR n) (record_n T R hn) hP9 H locs hP hD hS ls (lv_sub hl [1, 2, 0, 3, 4, 7, 8] rfl)
set_option maxHeartbeats 4000000 in
set_option maxRecDepth 100000 in
theorem j_8 {p : Program} {l : Launch} (hst : l.stackTraces = false) {e : Env} {s : State} {m : MethodId} {below : List Frame} {meth : Method} {c : Code} {b L : Nat} {xs : Nat → Int32} (hL : L ≤ 260) (hx : p.tables.exec = Jvm.exec) (hb : c.code = cL_law) (hr : meth.sig.returnType = ret) (hml : c.maxLocals = 15) (hown : s.vm.findClass RL = some m.cls) (hts : ∀ w ∈ wsL_law, w.before #[Value.ref b] s = true) (hX : va_X b L xs s s.heap) (hbl : b < s.heap.size) {A : Nat → Prop} (hA : ∀ q : Nat, s.heap.size ≤ q → A q) (hbA : ¬ A b) (hE : envE A s) {D : va_G} {q : Nat → Nat} {cq : Nat → ClassId} (hK : va_K D vwCl (tyB cq) s) (S : Nat → Int32) (h : Int32) (T R X M P : Nat → Int32) (n z : Nat) (w f d v : Int32) (hT : tbs T) (hR : tbs R) (hn : n ≤ 4) (hP9 : pch P) (N i f7 g8 v9 : Nat) (v5 w6 : Int32) (hf7 : f7 < 6) (hg8 : g8 < 6) (hv9 : v9 < 4) (H : Heap) (locs : List Loc) (hP : va_P D vwCl (wB q cq T R S X M P (nI n) h (nI 0) w f d v (nI z)) H) (hD : va_D A (wB q cq T R S X M P (nI n) h (nI 0) w f d v (nI z))) (hS : va_S A s.heap H locs) (ls : Array Slot) (hl : lv_has ls 15 [(0, .ref b), (1, .ref (q 0)), (2, .int 1), (3, .int (nI N)), (4, .int (nI i)), (5, .int v5), (6, .int w6), (7, .int (nI f7)), (8, .int (nI g8)), (9, .int (nI v9)), (10, .int (T f7)), (11, .int (T g8))]) {cells slots : Nat} (hc : cells + 1 ≤ 122) (hs : slots + 6 ≤ 1087) {Q : State → Prop} (kk : ∀ (T R X M P : Nat → Int32) (n z : Nat) (w f d v : Int32), tbs T → tbs R → n ≤ 4 → pch P → ∀ (H : Heap) (locs : List Loc), va_P D vwCl (wB q cq T R S X M P (nI n) h (nI 0) w f d v (nI z)) H → va_D A (wB q cq T R S X M P (nI n) h (nI 0) w f d v (nI z)) → va_S A s.heap H locs → ∀ ls : Array Slot, lv_has ls 15 [(0, .ref b), (1, .ref (q 0)), (2, .int 1), (3, .int (nI N)), (4, .int (nI i)), (7, .int (nI f7)), (8, .int (nI g8))] → W p l e room_1 s m #[Value.ref b] below meth c H locs (cells + 1) (slots + 6) Q (F0 m 593 ls [])) : W p l e room_1 s m #[Value.ref b] below meth c H locs cells slots Q (F0 m 496 ls []) := by
  refine lv_iconst (v := 1) hx hb dL_law_496 (by decide) ?_
  refine lv_iload hx hb dL_law_497 (lv_at hl 6 rfl) ?_
  refine lv_bipush (v := 63) hx hb dL_law_499 (by decide) ?_
  refine vp_callSi (va_Run.run (va_runS (As := [.int w6, .int 63]) (rest := [.int 1]) ⟨hx, hb, hml, hown, hts⟩ (c_L_low l w6 63 (by omega)) (va_cwS 2 hts gL_law_L_low rfl rfl rfl (by decide +kernel) ⟨Nat.le_of_ble_eq_true rfl, Nat.le_of_ble_eq_true rfl⟩) ⟨fun _ _ _ _ z => z, fun _ _ _ => ⟨rfl, trivial⟩⟩ rfl rfl hl.1 rfl (lv_room (Nat.le_of_ble_eq_true rfl)) dL_law_501 ⟨(by show cells + 0 ≤ 122; omega), (by show slots + 0 ≤ 1087; omega)⟩)) (fun r9 hr => ?_)
  subst r9
  obtain ⟨j1, hj1, ej1⟩ := low_of w6 (g := 63) (by decide) (by decide)
  refine lv_is (nI j1) ej1 ?_
  refine lv_iadd hx hb dL_law_504 ?_
  refine lv_is (nI (1 + j1)) (by first | exact nI_add _ _ | rfl) ?_
  refine lv_istore (lv' := [(13, .int (nI (1 + j1))), (0, .ref b), (1, .ref (q 0)), (2, .int 1), (3, .int (nI N)), (4, .int (nI i)), (5, .int v5), (6, .int w6), (7, .int (nI f7)), (8, .int (nI g8)), (9, .int (nI v9)), (10, .int (T f7)), (11, .int (T g8))]) hx hb dL_law_505 hl (by decide) rfl (fun ls hl => ?_)
  refine lv_aload_n hx hb dL_law_507 rfl (lv_at hl 2 rfl) ?_
  refine lv_iload hx hb dL_law_508 (lv_at hl 0 rfl) ?_
  have hPc := hP.sub (ws' := (wB q cq T R S X M P (nI n) h (nI 0) w f d v (nI z))) [0, 1, 2, 3, 4, 5, 6, 7] rfl
  have hKc := hK.sub (tys' := (tyB cq)) [0, 1, 2, 3, 4, 5] rfl
  refine vp_callSi (va_Run.run (va_runV (As := [.int (nI (1 + j1))]) (rest := []) ⟨hx, hb, hml, hown, hts⟩ (c_X1_areEnough l D q cq T R S X M P (nI n) h (nI 0) w f d v (nI z) (1 + j1) (by omega) (by omega)) (cwV 1 hts gL_law_X1_areEnough rfl rfl rfl (by decide +kernel) ⟨Nat.le_of_ble_eq_true rfl, Nat.le_of_ble_eq_true rfl⟩) ⟨fun a U g mk z => ⟨z.1, z.2.1, va_K.moved (u := U) (U := U.calling g mk a) (Vm.Alike.refl U.vm) z.2.2.1, z.2.2.2.blind g mk a⟩, va_recv hKc hPc (ci := 1) (q0 := 0) rfl rfl, fun U hU hW => ⟨rfl, by rw [hU]; exact hPc, va_K.moved hW.alike hKc, hE.at0 hS hU hW⟩⟩ rfl rfl hl.1 rfl (lv_room (Nat.le_of_ble_eq_true rfl)) dL_law_510 ⟨(by show cells + 0 ≤ 122; omega), (by show slots + 0 ≤ 1087; omega)⟩)) (fun r9 hr => ?_)
  subst r9
  refine lv_if_eq (tgt := 551) hx hb dL_law_513 (by decide) (fun c_1 => ?_) (fun c_1 => ?_)
  · refine lv_iconst (v := 1) hx hb dL_law_551 (by decide) ?_
    refine lv_goto (tgt := 556) hx hb dL_law_552 (by decide) ?_
    refine lv_istore_n (lv' := [(2, .int 1), (13, .int (nI (1 + j1))), (0, .ref b), (1, .ref (q 0)), (3, .int (nI N)), (4, .int (nI i)), (5, .int v5), (6, .int w6), (7, .int (nI f7)), (8, .int (nI g8)), (9, .int (nI v9)), (10, .int (T f7)), (11, .int (T g8))]) hx hb dL_law_556 rfl hl (by decide) rfl (fun ls hl => ?_)
    refine lv_goto (tgt := 593) hx hb dL_law_557 (by decide) ?_
    refine W.widen (k := cells + 1) (n := slots + 6) (by omega) (by omega) ?_
    exact kk T R X M P n z w f d v hT hR hn hP9 H locs hP hD hS ls (lv_sub hl [2, 3, 0, 4, 5, 8, 9] rfl)
  · refine lv_aload_n hx hb dL_law_516 rfl (lv_at hl 2 rfl) ?_
    refine lv_iload hx hb dL_law_517 (lv_at hl 0 rfl) ?_
    refine lv_iconst (v := 1) hx hb dL_law_519 (by decide) ?_
    refine lv_iload hx hb dL_law_520 (lv_at hl 8 rfl) ?_
    refine lv_ishl hx hb dL_law_522 ?_
    refine lv_ior hx hb dL_law_523 ?_
    have hso := set_or (1 + j1) (by omega) f7 hf7
    refine lv_is (nI ((1 + j1) ||| 2 ^ f7)) hso.1 ?_
    have hPc := hP.sub (ws' := (wB q cq T R S X M P (nI n) h (nI 0) w f d v (nI z))) [0, 1, 2, 3, 4, 5, 6, 7] rfl
    have hKc := hK.sub (tys' := (tyB cq)) [0, 1, 2, 3, 4, 5] rfl
    refine vp_callSi (va_Run.run (va_runV (As := [.int (nI ((1 + j1) ||| 2 ^ f7))]) (rest := []) ⟨hx, hb, hml, hown, hts⟩ (c_X1_areEnough l D q cq T R S X M P (nI n) h (nI 0) w f d v (nI z) ((1 + j1) ||| 2 ^ f7) (by omega) (by omega)) (cwV 1 hts gL_law_X1_areEnough rfl rfl rfl (by decide +kernel) ⟨Nat.le_of_ble_eq_true rfl, Nat.le_of_ble_eq_true rfl⟩) ⟨fun a U g mk z => ⟨z.1, z.2.1, va_K.moved (u := U) (U := U.calling g mk a) (Vm.Alike.refl U.vm) z.2.2.1, z.2.2.2.blind g mk a⟩, va_recv hKc hPc (ci := 1) (q0 := 0) rfl rfl, fun U hU hW => ⟨rfl, by rw [hU]; exact hPc, va_K.moved hW.alike hKc, hE.at0 hS hU hW⟩⟩ rfl rfl hl.1 rfl (lv_room (Nat.le_of_ble_eq_true rfl)) dL_law_524 ⟨(by show cells + 0 ≤ 122; omega), (by show slots + 0 ≤ 1087; omega)⟩)) (fun r9 hr => ?_)
    subst r9
    refine lv_if_eq (tgt := 555) hx hb dL_law_527 (by decide) (fun c_2 => ?_) (fun c_2 => ?_)
    · exact absurd c_2 (enough_more T (set_more (1 + j1) f7) c_1)
    · refine lv_aload_n hx hb dL_law_530 rfl (lv_at hl 2 rfl) ?_
      refine lv_bipush (v := 63) hx hb dL_law_531 (by decide) ?_
      have hPc := hP.sub (ws' := (wB q cq T R S X M P (nI n) h (nI 0) w f d v (nI z))) [0, 1, 2, 3, 4, 5, 6, 7] rfl
      have hKc := hK.sub (tys' := (tyB cq)) [0, 1, 2, 3, 4, 5] rfl
      refine vp_callSi (va_Run.run (va_runV (As := [.int 63]) (rest := []) ⟨hx, hb, hml, hown, hts⟩ (c_X1_areEnough l D q cq T R S X M P (nI n) h (nI 0) w f d v (nI z) 63 (by omega) (by omega)) (cwV 1 hts gL_law_X1_areEnough rfl rfl rfl (by decide +kernel) ⟨Nat.le_of_ble_eq_true rfl, Nat.le_of_ble_eq_true rfl⟩) ⟨fun a U g mk z => ⟨z.1, z.2.1, va_K.moved (u := U) (U := U.calling g mk a) (Vm.Alike.refl U.vm) z.2.2.1, z.2.2.2.blind g mk a⟩, va_recv hKc hPc (ci := 1) (q0 := 0) rfl rfl, fun U hU hW => ⟨rfl, by rw [hU]; exact hPc, va_K.moved hW.alike hKc, hE.at0 hS hU hW⟩⟩ rfl rfl hl.1 rfl (lv_room (Nat.le_of_ble_eq_true rfl)) dL_law_533 ⟨(by show cells + 0 ≤ 122; omega), (by show slots + 0 ≤ 1087; omega)⟩)) (fun r9 hr => ?_)
      subst r9
      refine lv_if_eq (tgt := 555) hx hb dL_law_536 (by decide) (fun c_3 => ?_) (fun c_3 => ?_)
      · exact absurd c_3 (enough_more T (set_all (1 + j1)) c_1)
      · refine lv_aload_n hx hb dL_law_539 rfl (lv_at hl 2 rfl) ?_
        have hPc := hP.sub (ws' := (wB q cq T R S X M P (nI n) h (nI 0) w f d v (nI z))) [0, 1, 2, 3, 4, 5, 6, 7] rfl
        have hKc := hK.sub (tys' := (tyB cq)) [0, 1, 2, 3, 4, 5] rfl
        refine vp_callSi (va_Run.run (va_runV (As := []) (rest := []) ⟨hx, hb, hml, hown, hts⟩ (c_X1_fewestEnough l D q cq T R S X M P (nI n) h (nI 0) w f d v (nI z)) (cwV 0 hts gL_law_X1_fewestEnough rfl rfl rfl (by decide +kernel) ⟨Nat.le_of_ble_eq_true rfl, Nat.le_of_ble_eq_true rfl⟩) ⟨fun a U g mk z => ⟨z.1, z.2.1, va_K.moved (u := U) (U := U.calling g mk a) (Vm.Alike.refl U.vm) z.2.2.1, z.2.2.2.blind g mk a⟩, va_recv hKc hPc (ci := 1) (q0 := 0) rfl rfl, fun U hU hW => ⟨rfl, by rw [hU]; exact hPc, va_K.moved hW.alike hKc, hE.at0 hS hU hW⟩⟩ rfl rfl hl.1 rfl (lv_room (Nat.le_of_ble_eq_true rfl)) dL_law_540 ⟨(by show cells + 0 ≤ 122; omega), (by show slots + 0 ≤ 1087; omega)⟩)) (fun r9 hr => ?_)
        subst r9
        refine lv_iload hx hb dL_law_543 (lv_at hl 0 rfl) ?_
        refine vp_callSi (va_Run.run (va_runS (As := [.int (nI (1 + j1))]) (rest := [.int (fX1_fewestEnough T)]) ⟨hx, hb, hml, hown, hts⟩ (c_L_bits l (nI (1 + j1))) (va_cwS 1 hts gL_law_L_bits rfl rfl rfl (by decide +kernel) ⟨Nat.le_of_ble_eq_true rfl, Nat.le_of_ble_eq_true rfl⟩) ⟨fun _ _ _ _ z => z, fun _ _ _ => ⟨rfl, trivial⟩⟩ rfl rfl hl.1 rfl (lv_room (Nat.le_of_ble_eq_true rfl)) dL_law_545 ⟨(by show cells + 0 ≤ 122; omega), (by show slots + 0 ≤ 1087; omega)⟩)) (fun r9 hr => ?_)
        subst r9
        refine lv_icmp_gt (tgt := 555) hx hb dL_law_548 (by decide) (fun c_4 => ?_) (fun c_4 => ?_)
        · exact absurd c_4 (fewest_le T (by omega) (by omega) c_1)
        · refine lv_iconst (v := 1) hx hb dL_law_551 (by decide) ?_
          refine lv_goto (tgt := 556) hx hb dL_law_552 (by decide) ?_
          refine lv_istore_n (lv' := [(2, .int 1), (13, .int (nI (1 + j1))), (0, .ref b), (1, .ref (q 0)), (3, .int (nI N)), (4, .int (nI i)), (5, .int v5), (6, .int w6), (7, .int (nI f7)), (8, .int (nI g8)), (9, .int (nI v9)), (10, .int (T f7)), (11, .int (T g8))]) hx hb dL_law_556 rfl hl (by decide) rfl (fun ls hl => ?_)
          refine lv_goto (tgt := 593) hx hb dL_law_557 (by decide) ?_
          refine W.widen (k := cells + 1) (n := slots + 6) (by omega) (by omega) ?_
          exact kk T R X M P n z w f d v hT hR hn hP9 H locs hP hD hS ls (lv_sub hl [2, 3, 0, 4, 5, 8, 9] rfl)
set_option maxHeartbeats 4000000 in
set_option maxRecDepth 100000 in
theorem j_9 {p : Program} {l : Launch} (hst : l.stackTraces = false) {e : Env} {s : State} {m : MethodId} {below : List Frame} {meth : Method} {c : Code} {b L : Nat} {xs : Nat → Int32} (hL : L ≤ 260) (hx : p.tables.exec = Jvm.exec) (hb : c.code = cL_law) (hr : meth.sig.returnType = ret) (hml : c.maxLocals = 15) (hown : s.vm.findClass RL = some m.cls) (hts : ∀ w ∈ wsL_law, w.before #[Value.ref b] s = true) (hX : va_X b L xs s s.heap) (hbl : b < s.heap.size) {A : Nat → Prop} (hA : ∀ q : Nat, s.heap.size ≤ q → A q) (hbA : ¬ A b) (hE : envE A s) {D : va_G} {q : Nat → Nat} {cq : Nat → ClassId} (hK : va_K D vwCl (tyB cq) s) (S : Nat → Int32) (h : Int32) (T R X M P : Nat → Int32) (n z : Nat) (w f d v : Int32) (hT : tbs T) (hR : tbs R) (hn : n ≤ 4) (hP9 : pch P) (N i f7 g8 v9 : Nat) (v5 w6 : Int32) (hf7 : f7 < 6) (hg8 : g8 < 6) (hv9 : v9 < 4) (H : Heap) (locs : List Loc) (hP : va_P D vwCl (wB q cq T R S X M P (nI n) h (nI 0) w f d v (nI z)) H) (hD : va_D A (wB q cq T R S X M P (nI n) h (nI 0) w f d v (nI z))) (hS : va_S A s.heap H locs) (ls : Array Slot) (hl : lv_has ls 15 [(0, .ref b), (1, .ref (q 0)), (2, .int 1), (3, .int (nI N)), (4, .int (nI i)), (5, .int v5), (6, .int w6), (7, .int (nI f7)), (8, .int (nI g8)), (9, .int (nI v9)), (10, .int (T f7)), (11, .int (T g8))]) {cells slots : Nat} (hc : cells + 1 ≤ 122) (hs : slots + 6 ≤ 1087) {Q : State → Prop} (kk : ∀ (T R X M P : Nat → Int32) (n z : Nat) (w f d v : Int32), tbs T → tbs R → n ≤ 4 → pch P → ∀ (H : Heap) (locs : List Loc), va_P D vwCl (wB q cq T R S X M P (nI n) h (nI 0) w f d v (nI z)) H → va_D A (wB q cq T R S X M P (nI n) h (nI 0) w f d v (nI z)) → va_S A s.heap H locs → ∀ ls : Array Slot, lv_has ls 15 [(0, .ref b), (1, .ref (q 0)), (2, .int 1), (3, .int (nI N)), (4, .int (nI i)), (7, .int (nI f7)), (8, .int (nI g8))] → W p l e room_1 s m #[Value.ref b] below meth c H locs (cells + 1) (slots + 6) Q (F0 m 593 ls [])) : W p l e room_1 s m #[Value.ref b] below meth c H locs cells slots Q (F0 m 560 ls []) := by
  refine lv_aload_n hx hb dL_law_560 rfl (lv_at hl 1 rfl) ?_
  have hPc := hP.sub (ws' := (wB q cq T R S X M P (nI n) h (nI 0) w f d v (nI z))) [0, 1, 2, 3, 4, 5, 6, 7] rfl
  have hKc := hK.sub (tys' := (tyB cq)) [0, 1, 2, 3, 4, 5] rfl
  refine vp_callSi (va_Run.run (va_runV (As := []) (rest := []) ⟨hx, hb, hml, hown, hts⟩ (c_X1_recordedStates l D q cq T R S X M P n h (nI 0) w f d v (nI z)) (cwV 0 hts gL_law_X1_recordedStates rfl rfl rfl (by decide +kernel) ⟨Nat.le_of_ble_eq_true rfl, Nat.le_of_ble_eq_true rfl⟩) ⟨fun a U g mk z => ⟨z.1, z.2.1, va_K.moved (u := U) (U := U.calling g mk a) (Vm.Alike.refl U.vm) z.2.2.1, z.2.2.2.blind g mk a⟩, va_recv hKc hPc (ci := 1) (q0 := 0) rfl rfl, fun U hU hW => ⟨rfl, by rw [hU]; exact hPc, va_K.moved hW.alike hKc, hE.at0 hS hU hW⟩⟩ rfl rfl hl.1 rfl (lv_room (Nat.le_of_ble_eq_true rfl)) dL_law_561 ⟨(by show cells + 0 ≤ 122; omega), (by show slots + 0 ≤ 1087; omega)⟩)) (fun r9 hr => ?_)
  subst r9
  refine lv_istore (lv' := [(14, .int (fX1_recordedStates n)), (0, .ref b), (1, .ref (q 0)), (2, .int 1), (3, .int (nI N)), (4, .int (nI i)), (5, .int v5), (6, .int w6), (7, .int (nI f7)), (8, .int (nI g8)), (9, .int (nI v9)), (10, .int (T f7)), (11, .int (T g8))]) hx hb dL_law_564 hl (by decide) rfl (fun ls hl => ?_)
  refine lv_aload_n hx hb dL_law_566 rfl (lv_at hl 2 rfl) ?_
  have hPc := hP.sub (ws' := (wB q cq T R S X M P (nI n) h (nI 0) w f d v (nI z))) [0, 1, 2, 3, 4, 5, 6, 7] rfl
  have hKc := hK.sub (tys' := (tyB cq)) [0, 1, 2, 3, 4, 5] rfl
  have hDc := hD.sub (ws' := (wB q cq T R S X M P (nI n) h (nI 0) w f d v (nI z))) [0, 1, 2, 3, 4, 5, 6, 7] (by decide) rfl
  have hFc := va_free (wc := (wB q cq T R S X M P (nI n) h (nI 0) w f d v (nI z))) hD hS hA [0, 1, 2, 3, 4, 5, 6, 7] rfl
  refine va_calli (vx_runSW (As := [.ref (q 0)]) (rest := []) ⟨hx, hb, hml, hown, hts⟩ (c_L_undo l hst D q cq H.size T R S X M P n h (nI 0) w f d v (nI z) (by omega)) (vx_cwSW 1 hts gL_law_L_undo rfl rfl rfl (by decide +kernel) ⟨Nat.le_of_ble_eq_true rfl, Nat.le_of_ble_eq_true rfl⟩) ⟨fun a U g mk z => ⟨z.1, z.2.1, z.2.2.1, va_K.moved (u := U) (U := U.calling g mk a) (Vm.Alike.refl U.vm) z.2.2.2.1, z.2.2.2.2.1, z.2.2.2.2.2.blind g mk a⟩, fun U hU hW => ⟨rfl, by rw [hU], by rw [hU]; exact hPc, va_K.moved hW.alike hKc, hDc.weaken (fun _ _ _ _ => trivial), hE.at hS hU hW hFc⟩⟩ rfl rfl hl.1 rfl (lv_room (Nat.le_of_ble_eq_true rfl)) dL_law_567 ⟨(by show cells + 1 ≤ 122; omega), (by show slots + 6 ≤ 1087; omega)⟩) hS (fun q _ h => hFc q h) hFc (fun r9 u9 t8 H1 locs ht hvm hw hB hz1 hk1 hS => ?_)
  obtain ⟨hP1, hD1⟩ := hB
  rw [ht] at hP1
  obtain ⟨hP, hD⟩ := va_join (wr := []) (w1 := (wB q cq ((fL_undo T R n).2.1) R S X M P (nI (fL_undo T R n).2.2) h (nI 0) w f d v (nI z))) hP hD [0, 1, 2, 3, 4, 5, 6, 7] [] rfl rfl (by decide) (by decide) hk1 hFc hP1 hD1
  have hP := hP.sub (ws' := (wB q cq ((fL_undo T R n).2.1) R S X M P (nI (fL_undo T R n).2.2) h (nI 0) w f d v (nI z))) [0, 1, 2, 3, 4, 5, 6, 7] rfl
  have hD := hD.sub (ws' := (wB q cq ((fL_undo T R n).2.1) R S X M P (nI (fL_undo T R n).2.2) h (nI 0) w f d v (nI z))) [0, 1, 2, 3, 4, 5, 6, 7] (by decide) rfl
  generalize H1 = H at hP hS ⊢
  subst r9
  refine lv_iload hx hb dL_law_570 (lv_at hl 0 rfl) ?_
  refine vz_cut (fun H1 l1 g1 => ∃ (x1_0 : Int32) (ls : Array Slot), x1_0 = (if (fX1_recordedStates n) = 0 then (-3) else ((fX1_recordedStates n) - 1) : Int32) ∧ lv_has ls 15 [(14, .int (fX1_recordedStates n)), (0, .ref b), (1, .ref (q 0)), (2, .int 1), (3, .int (nI N)), (4, .int (nI i)), (5, .int v5), (6, .int w6), (7, .int (nI f7)), (8, .int (nI g8)), (9, .int (nI v9)), (10, .int (T f7)), (11, .int (T g8))] ∧ (H = H1 ∧ locs = l1) ∧ g1 = F0 m 584 ls [.int x1_0, .int (fL_undo T R n).1]) (fun hj1 => ?_) ?_
  · refine lv_if_ne (tgt := 580) hx hb dL_law_572 (by decide) (fun c_1 => ?_) (fun c_1 => ?_)
    · refine lv_iload hx hb dL_law_580 (lv_at hl 0 rfl) ?_
      refine lv_iconst (v := 1) hx hb dL_law_582 (by decide) ?_
      refine lv_isub hx hb dL_law_583 ?_
      exact hj1 _ _ _ ⟨((fX1_recordedStates n) - 1), ls, (by (rw [if_neg c_1]); first | done | rfl), lv_sub hl [0, 1, 2, 3, 4, 5, 6, 7, 8, 9, 10, 11, 12] rfl, ⟨rfl, rfl⟩, rfl⟩
    · refine lv_bipush (v := (-3)) hx hb dL_law_575 (by decide) ?_
      refine lv_goto (tgt := 584) hx hb dL_law_577 (by decide) ?_
      exact hj1 _ _ _ ⟨(-3), ls, (by (rw [if_pos c_1]); first | done | rfl), lv_sub hl [0, 1, 2, 3, 4, 5, 6, 7, 8, 9, 10, 11, 12] rfl, ⟨rfl, rfl⟩, rfl⟩
  rintro H1 l1 g1 ⟨x1_0, ls, ex1_0, hl, ⟨rfl, rfl⟩, rfl⟩
  subst x1_0
  refine lv_icmp_ne (tgt := 591) hx hb dL_law_584 (by decide) (fun c_2 => ?_) (fun c_2 => ?_)
  · exact absurd (undo_ok T R hn) c_2
  · refine lv_iconst (v := 1) hx hb dL_law_587 (by decide) ?_
    refine lv_goto (tgt := 592) hx hb dL_law_588 (by decide) ?_
    refine lv_istore_n (lv' := [(2, .int 1), (14, .int (fX1_recordedStates n)), (0, .ref b), (1, .ref (q 0)), (3, .int (nI N)), (4, .int (nI i)), (5, .int v5), (6, .int w6), (7, .int (nI f7)), (8, .int (nI g8)), (9, .int (nI v9)), (10, .int (T f7)), (11, .int (T g8))]) hx hb dL_law_592 rfl hl (by decide) rfl (fun ls hl => ?_)
    refine W.widen (k := cells + 1) (n := slots + 6) (by omega) (by omega) ?_
    exact kk ((fL_undo T R n).2.1) R X M P ((fL_undo T R n).2.2) z w f d v (undo_tbs hT hR n) hR (undo_n T R hn) hP9 H locs hP hD hS ls (lv_sub hl [2, 3, 0, 4, 5, 8, 9] rfl)
theorem typed_next {T X P : Nat → Int32} {g j : Nat} {u : Int32} (hu : tb u) (eu : fX1_addHalves (T g) = u) (hj : j < (txt u).length) (h : ∀ i, i < j → X i = (txt u).getD i 0) : ∀ i, i < j + 1 → (fX1_type X j (fX1_printedLetter T P g j).1).2.1 i = (txt u).getD i 0 := by
  intro i hi
  have hl := print_hld P hu
  have e : (fX1_printedLetter T P g j).1 = (fX1_print P u).1 j := by
    show (fX1_print P (fX1_addHalves (T g))).1 j = _
    rw [eu]
  rw [e]
  show upd X j ((fX1_print P u).1 j) i = _
  unfold upd
  by_cases h1 : i = j
  · rw [if_pos h1, h1]
    exact hl.2 j (by rw [hl.1]; exact hj)
  · rw [if_neg h1]; exact h i (by omega)
theorem define_tbs {T R X : Nat → Int32} {n k x : Nat} (hT : tbs T) {t : Int32} (h : tb t) (hp : fX0_productsRead (fX0_firstError X k).2.1 (fX0_firstError X k).2.2.1 (fX0_firstError X k).2.2.2.1 = fX1_addHalves t) : tbs (fL_define T R X n k x).2.1 := by
  have e : (fL_define T R X n k x).2.1 = upd T x t := define_T T R X n k x h hp
  rw [e]; exact upd_tbs hT x h
set_option maxHeartbeats 4000000 in
set_option maxRecDepth 100000 in
theorem j_7c {p : Program} {l : Launch} (hst : l.stackTraces = false) {e : Env} {s : State} {m : MethodId} {below : List Frame} {meth : Method} {c : Code} {b L : Nat} {xs : Nat → Int32} (hL : L ≤ 260) (hx : p.tables.exec = Jvm.exec) (hb : c.code = cL_law) (hr : meth.sig.returnType = ret) (hml : c.maxLocals = 15) (hown : s.vm.findClass RL = some m.cls) (hts : ∀ w ∈ wsL_law, w.before #[Value.ref b] s = true) (hX : va_X b L xs s s.heap) (hbl : b < s.heap.size) {A : Nat → Prop} (hA : ∀ q : Nat, s.heap.size ≤ q → A q) (hbA : ¬ A b) (hE : envE A s) {D : va_G} {q : Nat → Nat} {cq : Nat → ClassId} (hK : va_K D vwCl (tyB cq) s) (S : Nat → Int32) (h : Int32) (T R X M P : Nat → Int32) (n z : Nat) (w f d v : Int32) (hT : tbs T) (hR : tbs R) (hn : n ≤ 4) (hP9 : pch P) (N i f7 g8 v9 : Nat) (v5 w6 : Int32) (hf7 : f7 < 6) (hg8 : g8 < 6) (hv9 : v9 < 4) (u7 : Int32) (N7 : Nat) (hu7 : tb u7) (eu7 : fX1_addHalves (T g8) = u7) (hN7 : N7 = (txt u7).length) (hN8 : N7 ≤ 48) (hX7 : ∀ i, i < N7 → X i = (txt u7).getD i 0) (H : Heap) (locs : List Loc) (hP : va_P D vwCl (wB q cq T R S X M P (nI n) h (nI N7) w f d v (nI z)) H) (hD : va_D A (wB q cq T R S X M P (nI n) h (nI N7) w f d v (nI z))) (hS : va_S A s.heap H locs) (ls : Array Slot) (hl : lv_has ls 15 [(0, .ref b), (1, .ref (q 0)), (2, .int 1), (3, .int (nI N)), (4, .int (nI i)), (5, .int v5), (6, .int w6), (7, .int (nI f7)), (8, .int (nI g8)), (9, .int (nI v9)), (10, .int (T f7)), (11, .int (T g8)), (12, .int (nI N7))]) {cells slots : Nat} (hc : cells + 1 ≤ 122) (hs : slots + 6 ≤ 1087) {Q : State → Prop} (kk : ∀ (T R X M P : Nat → Int32) (n z : Nat) (w f d v : Int32), tbs T → tbs R → n ≤ 4 → pch P → ∀ (H : Heap) (locs : List Loc), va_P D vwCl (wB q cq T R S X M P (nI n) h (nI 0) w f d v (nI z)) H → va_D A (wB q cq T R S X M P (nI n) h (nI 0) w f d v (nI z)) → va_S A s.heap H locs → ∀ ls : Array Slot, lv_has ls 15 [(0, .ref b), (1, .ref (q 0)), (2, .int 1), (3, .int (nI N)), (4, .int (nI i)), (7, .int (nI f7)), (8, .int (nI g8))] → W p l e room_1 s m #[Value.ref b] below meth c H locs (cells + 1) (slots + 6) Q (F0 m 593 ls [])) : W p l e room_1 s m #[Value.ref b] below meth c H locs cells slots Q (F0 m 441 ls []) := by
  have hre := read_txt hu7 hN7 hX7
  have hre2 := hre.2.trans eu7.symm
  refine lv_aload_n hx hb dL_law_441 rfl (lv_at hl 1 rfl) ?_
  have hPc := hP.sub (ws' := (wB q cq T R S X M P (nI n) h (nI N7) w f d v (nI z))) [0, 1, 2, 3, 4, 5, 6, 7] rfl
  have hKc := hK.sub (tys' := (tyB cq)) [0, 1, 2, 3, 4, 5] rfl
  have hDc := hD.sub (ws' := (wB q cq T R S X M P (nI n) h (nI N7) w f d v (nI z))) [0, 1, 2, 3, 4, 5, 6, 7] (by decide) rfl
  have hFc := va_free (wc := (wB q cq T R S X M P (nI n) h (nI N7) w f d v (nI z))) hD hS hA [0, 1, 2, 3, 4, 5, 6, 7] rfl
  refine va_calli (va_runV (As := []) (rest := []) ⟨hx, hb, hml, hown, hts⟩ (c_X1_textError l D q cq H.size T R S X M P (nI n) h N7 w f d v (nI z) (by omega)) (cwV 0 hts gL_law_X1_textError rfl rfl rfl (by decide +kernel) ⟨Nat.le_of_ble_eq_true rfl, Nat.le_of_ble_eq_true rfl⟩) ⟨fun a U g mk z => ⟨z.1, z.2.1, z.2.2.1, va_K.moved (u := U) (U := U.calling g mk a) (Vm.Alike.refl U.vm) z.2.2.2.1, z.2.2.2.2.1, z.2.2.2.2.2.blind g mk a⟩, va_recv hKc hPc (ci := 1) (q0 := 0) rfl rfl, fun U hU hW => ⟨rfl, by rw [hU], by rw [hU]; exact hPc, va_K.moved hW.alike hKc, hDc.weaken (fun _ _ _ _ => trivial), hE.at hS hU hW hFc⟩⟩ rfl rfl hl.1 rfl (lv_room (Nat.le_of_ble_eq_true rfl)) dL_law_442 ⟨(by show cells + 0 ≤ 122; omega), (by show slots + 0 ≤ 1087; omega)⟩) hS (fun q _ h => hFc q h) hFc (fun r9 u9 t8 H1 locs ht hvm hw hB hz1 hk1 hS => ?_)
  obtain ⟨hP1, hD1⟩ := hB
  rw [ht] at hP1
  obtain ⟨hP, hD⟩ := va_join (wr := []) (w1 := (wB q cq T R S X M P (nI n) h (nI N7) ((fX1_textError X N7).2.1) ((fX1_textError X N7).2.2.1) ((fX1_textError X N7).2.2.2.1) ((fX1_textError X N7).2.2.2.2) (nI z))) hP hD [0, 1, 2, 3, 4, 5, 6, 7] [] rfl rfl (by decide) (by decide) hk1 hFc hP1 hD1
  have hP := hP.sub (ws' := (wB q cq T R S X M P (nI n) h (nI N7) ((fX1_textError X N7).2.1) ((fX1_textError X N7).2.2.1) ((fX1_textError X N7).2.2.2.1) ((fX1_textError X N7).2.2.2.2) (nI z))) [0, 1, 2, 3, 4, 5, 6, 7] rfl
  have hD := hD.sub (ws' := (wB q cq T R S X M P (nI n) h (nI N7) ((fX1_textError X N7).2.1) ((fX1_textError X N7).2.2.1) ((fX1_textError X N7).2.2.2.1) ((fX1_textError X N7).2.2.2.2) (nI z))) [0, 1, 2, 3, 4, 5, 6, 7] (by decide) rfl
  generalize H1 = H at hP hS ⊢
  subst r9
  refine lv_iconst (v := (-1)) hx hb dL_law_445 (by decide) ?_
  refine lv_icmp_ne (tgt := 491) hx hb dL_law_446 (by decide) (fun c_1 => ?_) (fun c_1 => ?_)
  · exact absurd hre.1 c_1
  · refine lv_aload_n hx hb dL_law_449 rfl (lv_at hl 1 rfl) ?_
    refine lv_iload hx hb dL_law_450 (lv_at hl 7 rfl) ?_
    have hPc := hP.sub (ws' := (wB q cq T R S X M P (nI n) h (nI N7) ((fX1_textError X N7).2.1) ((fX1_textError X N7).2.2.1) ((fX1_textError X N7).2.2.2.1) ((fX1_textError X N7).2.2.2.2) (nI z))) [0, 1, 2, 3, 4, 5, 6, 7] rfl
    have hKc := hK.sub (tys' := (tyB cq)) [0, 1, 2, 3, 4, 5] rfl
    have hDc := hD.sub (ws' := (wB q cq T R S X M P (nI n) h (nI N7) ((fX1_textError X N7).2.1) ((fX1_textError X N7).2.2.1) ((fX1_textError X N7).2.2.2.1) ((fX1_textError X N7).2.2.2.2) (nI z))) [0, 1, 2, 3, 4, 5, 6, 7] (by decide) rfl
    have hFc := va_free (wc := (wB q cq T R S X M P (nI n) h (nI N7) ((fX1_textError X N7).2.1) ((fX1_textError X N7).2.2.1) ((fX1_textError X N7).2.2.2.1) ((fX1_textError X N7).2.2.2.2) (nI z))) hD hS hA [0, 1, 2, 3, 4, 5, 6, 7] rfl
    refine va_calli (vx_runSW (As := [.ref (q 0), .int (nI f7)]) (rest := []) ⟨hx, hb, hml, hown, hts⟩ (c_L_define l D q cq H.size T R S X M P n h N7 ((fX1_textError X N7).2.1) ((fX1_textError X N7).2.2.1) ((fX1_textError X N7).2.2.2.1) ((fX1_textError X N7).2.2.2.2) (nI z) f7 (by omega) (by omega) (by omega) hre.1) (vx_cwSW 2 hts gL_law_L_define rfl rfl rfl (by decide +kernel) ⟨Nat.le_of_ble_eq_true rfl, Nat.le_of_ble_eq_true rfl⟩) ⟨fun a U g mk z => ⟨z.1, z.2.1, z.2.2.1, va_K.moved (u := U) (U := U.calling g mk a) (Vm.Alike.refl U.vm) z.2.2.2.1, z.2.2.2.2.1, z.2.2.2.2.2.blind g mk a⟩, fun U hU hW => ⟨rfl, by rw [hU], by rw [hU]; exact hPc, va_K.moved hW.alike hKc, hDc.weaken (fun _ _ _ _ => trivial), hE.at hS hU hW hFc⟩⟩ rfl rfl hl.1 rfl (lv_room (Nat.le_of_ble_eq_true rfl)) dL_law_452 ⟨(by show cells + 0 ≤ 122; omega), (by show slots + 0 ≤ 1087; omega)⟩) hS (fun q _ h => hFc q h) hFc (fun r9 u9 t8 H1 locs ht hvm hw hB hz1 hk1 hS => ?_)
    obtain ⟨hP1, hD1⟩ := hB
    rw [ht] at hP1
    obtain ⟨hP, hD⟩ := va_join (wr := []) (w1 := (wB q cq ((fL_define T R X n N7 f7).2.1) ((fL_define T R X n N7 f7).2.2.1) S X M P (nI (fL_define T R X n N7 f7).2.2.2.1) h (nI N7) ((fL_define T R X n N7 f7).2.2.2.2.1) ((fL_define T R X n N7 f7).2.2.2.2.2.1) ((fL_define T R X n N7 f7).2.2.2.2.2.2.1) ((fL_define T R X n N7 f7).2.2.2.2.2.2.2) (nI z))) hP hD [0, 1, 2, 3, 4, 5, 6, 7] [] rfl rfl (by decide) (by decide) hk1 hFc hP1 hD1
    have hP := hP.sub (ws' := (wB q cq ((fL_define T R X n N7 f7).2.1) ((fL_define T R X n N7 f7).2.2.1) S X M P (nI (fL_define T R X n N7 f7).2.2.2.1) h (nI N7) ((fL_define T R X n N7 f7).2.2.2.2.1) ((fL_define T R X n N7 f7).2.2.2.2.2.1) ((fL_define T R X n N7 f7).2.2.2.2.2.2.1) ((fL_define T R X n N7 f7).2.2.2.2.2.2.2) (nI z))) [0, 1, 2, 3, 4, 5, 6, 7] rfl
    have hD := hD.sub (ws' := (wB q cq ((fL_define T R X n N7 f7).2.1) ((fL_define T R X n N7 f7).2.2.1) S X M P (nI (fL_define T R X n N7 f7).2.2.2.1) h (nI N7) ((fL_define T R X n N7 f7).2.2.2.2.1) ((fL_define T R X n N7 f7).2.2.2.2.2.1) ((fL_define T R X n N7 f7).2.2.2.2.2.2.1) ((fL_define T R X n N7 f7).2.2.2.2.2.2.2) (nI z))) [0, 1, 2, 3, 4, 5, 6, 7] (by decide) rfl
    generalize H1 = H at hP hS ⊢
    subst r9
    refine lv_aload_n hx hb dL_law_455 rfl (lv_at hl 1 rfl) ?_
    refine lv_iload hx hb dL_law_456 (lv_at hl 7 rfl) ?_
    have hPc := hP.sub (ws' := (wB q cq ((fL_define T R X n N7 f7).2.1) ((fL_define T R X n N7 f7).2.2.1) S X M P (nI (fL_define T R X n N7 f7).2.2.2.1) h (nI N7) ((fL_define T R X n N7 f7).2.2.2.2.1) ((fL_define T R X n N7 f7).2.2.2.2.2.1) ((fL_define T R X n N7 f7).2.2.2.2.2.2.1) ((fL_define T R X n N7 f7).2.2.2.2.2.2.2) (nI z))) [0, 1, 2, 3, 4, 5, 6, 7] rfl
    have hKc := hK.sub (tys' := (tyB cq)) [0, 1, 2, 3, 4, 5] rfl
    refine vp_callSi (va_Run.run (va_runV (As := [.int (nI f7)]) (rest := [.int (fL_define T R X n N7 f7).1]) ⟨hx, hb, hml, hown, hts⟩ (c_X1_productsBySums l D q cq ((fL_define T R X n N7 f7).2.1) ((fL_define T R X n N7 f7).2.2.1) S X M P (nI (fL_define T R X n N7 f7).2.2.2.1) h (nI N7) ((fL_define T R X n N7 f7).2.2.2.2.1) ((fL_define T R X n N7 f7).2.2.2.2.2.1) ((fL_define T R X n N7 f7).2.2.2.2.2.2.1) ((fL_define T R X n N7 f7).2.2.2.2.2.2.2) (nI z) f7 (by omega)) (cwV 1 hts gL_law_X1_productsBySums rfl rfl rfl (by decide +kernel) ⟨Nat.le_of_ble_eq_true rfl, Nat.le_of_ble_eq_true rfl⟩) ⟨fun a U g mk z => ⟨z.1, z.2.1, va_K.moved (u := U) (U := U.calling g mk a) (Vm.Alike.refl U.vm) z.2.2.1, z.2.2.2.blind g mk a⟩, va_recv hKc hPc (ci := 1) (q0 := 0) rfl rfl, fun U hU hW => ⟨rfl, by rw [hU]; exact hPc, va_K.moved hW.alike hKc, hE.at0 hS hU hW⟩⟩ rfl rfl hl.1 rfl (lv_room (Nat.le_of_ble_eq_true rfl)) dL_law_458 ⟨(by show cells + 0 ≤ 122; omega), (by show slots + 0 ≤ 1087; omega)⟩)) (fun r9 hr => ?_)
    subst r9
    refine vp_callSi (va_Run.run (va_runS (As := [.int (fX1_productsBySums ((fL_define T R X n N7 f7).2.1) f7)]) (rest := [.int (fL_define T R X n N7 f7).1]) ⟨hx, hb, hml, hown, hts⟩ (c_L_bits l (fX1_productsBySums ((fL_define T R X n N7 f7).2.1) f7)) (va_cwS 1 hts gL_law_L_bits rfl rfl rfl (by decide +kernel) ⟨Nat.le_of_ble_eq_true rfl, Nat.le_of_ble_eq_true rfl⟩) ⟨fun _ _ _ _ z => z, fun _ _ _ => ⟨rfl, trivial⟩⟩ rfl rfl hl.1 rfl (lv_room (Nat.le_of_ble_eq_true rfl)) dL_law_461 ⟨(by show cells + 0 ≤ 122; omega), (by show slots + 0 ≤ 1087; omega)⟩)) (fun r9 hr => ?_)
    subst r9
    refine lv_icmp_ne (tgt := 491) hx hb dL_law_464 (by decide) (fun c_2 => ?_) (fun c_2 => ?_)
    · exact absurd (define_n T R X n N7 f7 (hT g8) hre2) c_2
    · refine lv_aload_n hx hb dL_law_467 rfl (lv_at hl 1 rfl) ?_
      refine lv_iload hx hb dL_law_468 (lv_at hl 7 rfl) ?_
      have hPc := hP.sub (ws' := (wB q cq ((fL_define T R X n N7 f7).2.1) ((fL_define T R X n N7 f7).2.2.1) S X M P (nI (fL_define T R X n N7 f7).2.2.2.1) h (nI N7) ((fL_define T R X n N7 f7).2.2.2.2.1) ((fL_define T R X n N7 f7).2.2.2.2.2.1) ((fL_define T R X n N7 f7).2.2.2.2.2.2.1) ((fL_define T R X n N7 f7).2.2.2.2.2.2.2) (nI z))) [0, 1, 2, 3, 4, 5, 6, 7] rfl
      have hKc := hK.sub (tys' := (tyB cq)) [0, 1, 2, 3, 4, 5] rfl
      refine vp_callSi (va_Run.run (va_runV (As := [.int (nI f7)]) (rest := []) ⟨hx, hb, hml, hown, hts⟩ (c_X1_tableOf l D q cq ((fL_define T R X n N7 f7).2.1) ((fL_define T R X n N7 f7).2.2.1) S X M P (nI (fL_define T R X n N7 f7).2.2.2.1) h (nI N7) ((fL_define T R X n N7 f7).2.2.2.2.1) ((fL_define T R X n N7 f7).2.2.2.2.2.1) ((fL_define T R X n N7 f7).2.2.2.2.2.2.1) ((fL_define T R X n N7 f7).2.2.2.2.2.2.2) (nI z) f7 (by omega)) (cwV 1 hts gL_law_X1_tableOf rfl rfl rfl (by decide +kernel) ⟨Nat.le_of_ble_eq_true rfl, Nat.le_of_ble_eq_true rfl⟩) ⟨fun a U g mk z => ⟨z.1, z.2.1, va_K.moved (u := U) (U := U.calling g mk a) (Vm.Alike.refl U.vm) z.2.2.1, z.2.2.2.blind g mk a⟩, va_recv hKc hPc (ci := 1) (q0 := 0) rfl rfl, fun U hU hW => ⟨rfl, by rw [hU]; exact hPc, va_K.moved hW.alike hKc, hE.at0 hS hU hW⟩⟩ rfl rfl hl.1 rfl (lv_room (Nat.le_of_ble_eq_true rfl)) dL_law_470 ⟨(by show cells + 0 ≤ 122; omega), (by show slots + 0 ≤ 1087; omega)⟩)) (fun r9 hr => ?_)
      subst r9
      refine lv_iload hx hb dL_law_473 (lv_at hl 11 rfl) ?_
      refine lv_icmp_ne (tgt := 491) hx hb dL_law_475 (by decide) (fun c_3 => ?_) (fun c_3 => ?_)
      · exact absurd (define_at T R X n N7 f7 (hT g8) hre2) c_3
      · refine lv_aload_n hx hb dL_law_478 rfl (lv_at hl 1 rfl) ?_
        have hPc := hP.sub (ws' := (wB q cq ((fL_define T R X n N7 f7).2.1) ((fL_define T R X n N7 f7).2.2.1) S X M P (nI (fL_define T R X n N7 f7).2.2.2.1) h (nI N7) ((fL_define T R X n N7 f7).2.2.2.2.1) ((fL_define T R X n N7 f7).2.2.2.2.2.1) ((fL_define T R X n N7 f7).2.2.2.2.2.2.1) ((fL_define T R X n N7 f7).2.2.2.2.2.2.2) (nI z))) [0, 1, 2, 3, 4, 5, 6, 7] rfl
        have hKc := hK.sub (tys' := (tyB cq)) [0, 1, 2, 3, 4, 5] rfl
        have hDc := hD.sub (ws' := (wB q cq ((fL_define T R X n N7 f7).2.1) ((fL_define T R X n N7 f7).2.2.1) S X M P (nI (fL_define T R X n N7 f7).2.2.2.1) h (nI N7) ((fL_define T R X n N7 f7).2.2.2.2.1) ((fL_define T R X n N7 f7).2.2.2.2.2.1) ((fL_define T R X n N7 f7).2.2.2.2.2.2.1) ((fL_define T R X n N7 f7).2.2.2.2.2.2.2) (nI z))) [0, 1, 2, 3, 4, 5, 6, 7] (by decide) rfl
        have hFc := va_free (wc := (wB q cq ((fL_define T R X n N7 f7).2.1) ((fL_define T R X n N7 f7).2.2.1) S X M P (nI (fL_define T R X n N7 f7).2.2.2.1) h (nI N7) ((fL_define T R X n N7 f7).2.2.2.2.1) ((fL_define T R X n N7 f7).2.2.2.2.2.1) ((fL_define T R X n N7 f7).2.2.2.2.2.2.1) ((fL_define T R X n N7 f7).2.2.2.2.2.2.2) (nI z))) hD hS hA [0, 1, 2, 3, 4, 5, 6, 7] rfl
        refine va_calli (va_runV (As := []) (rest := []) ⟨hx, hb, hml, hown, hts⟩ (c_X1_clearText l D q cq H.size ((fL_define T R X n N7 f7).2.1) ((fL_define T R X n N7 f7).2.2.1) S X M P (nI (fL_define T R X n N7 f7).2.2.2.1) h N7 ((fL_define T R X n N7 f7).2.2.2.2.1) ((fL_define T R X n N7 f7).2.2.2.2.2.1) ((fL_define T R X n N7 f7).2.2.2.2.2.2.1) ((fL_define T R X n N7 f7).2.2.2.2.2.2.2) (nI z)) (cwV 0 hts gL_law_X1_clearText rfl rfl rfl (by decide +kernel) ⟨Nat.le_of_ble_eq_true rfl, Nat.le_of_ble_eq_true rfl⟩) ⟨fun a U g mk z => ⟨z.1, z.2.1, z.2.2.1, va_K.moved (u := U) (U := U.calling g mk a) (Vm.Alike.refl U.vm) z.2.2.2.1, z.2.2.2.2.1, z.2.2.2.2.2.blind g mk a⟩, va_recv hKc hPc (ci := 1) (q0 := 0) rfl rfl, fun U hU hW => ⟨rfl, by rw [hU], by rw [hU]; exact hPc, va_K.moved hW.alike hKc, hDc.weaken (fun _ _ _ _ => trivial), hE.at hS hU hW hFc⟩⟩ rfl rfl hl.1 rfl (lv_room (Nat.le_of_ble_eq_true rfl)) dL_law_479 ⟨(by show cells + 0 ≤ 122; omega), (by show slots + 0 ≤ 1087; omega)⟩) hS (fun q _ h => hFc q h) hFc (fun r9 u9 t8 H1 locs ht hvm hw hB hz1 hk1 hS => ?_)
        obtain ⟨hP1, hD1⟩ := hB
        rw [ht] at hP1
        obtain ⟨hP, hD⟩ := va_join (wr := []) (w1 := (wB q cq ((fL_define T R X n N7 f7).2.1) ((fL_define T R X n N7 f7).2.2.1) S X M P (nI (fL_define T R X n N7 f7).2.2.2.1) h (nI (fX1_clearText N7).2) ((fL_define T R X n N7 f7).2.2.2.2.1) ((fL_define T R X n N7 f7).2.2.2.2.2.1) ((fL_define T R X n N7 f7).2.2.2.2.2.2.1) ((fL_define T R X n N7 f7).2.2.2.2.2.2.2) (nI z))) hP hD [0, 1, 2, 3, 4, 5, 6, 7] [] rfl rfl (by decide) (by decide) hk1 hFc hP1 hD1
        have hP := hP.sub (ws' := (wB q cq ((fL_define T R X n N7 f7).2.1) ((fL_define T R X n N7 f7).2.2.1) S X M P (nI (fL_define T R X n N7 f7).2.2.2.1) h (nI (fX1_clearText N7).2) ((fL_define T R X n N7 f7).2.2.2.2.1) ((fL_define T R X n N7 f7).2.2.2.2.2.1) ((fL_define T R X n N7 f7).2.2.2.2.2.2.1) ((fL_define T R X n N7 f7).2.2.2.2.2.2.2) (nI z))) [0, 1, 2, 3, 4, 5, 6, 7] rfl
        have hD := hD.sub (ws' := (wB q cq ((fL_define T R X n N7 f7).2.1) ((fL_define T R X n N7 f7).2.2.1) S X M P (nI (fL_define T R X n N7 f7).2.2.2.1) h (nI (fX1_clearText N7).2) ((fL_define T R X n N7 f7).2.2.2.2.1) ((fL_define T R X n N7 f7).2.2.2.2.2.1) ((fL_define T R X n N7 f7).2.2.2.2.2.2.1) ((fL_define T R X n N7 f7).2.2.2.2.2.2.2) (nI z))) [0, 1, 2, 3, 4, 5, 6, 7] (by decide) rfl
        generalize H1 = H at hP hS ⊢
        subst r9
        refine lv_iload hx hb dL_law_482 (lv_at hl 12 rfl) ?_
        refine lv_icmp_ne (tgt := 491) hx hb dL_law_484 (by decide) (fun c_4 => ?_) (fun c_4 => ?_)
        · exact absurd (Eq.refl _) c_4
        · refine lv_iconst (v := 1) hx hb dL_law_487 (by decide) ?_
          refine lv_goto (tgt := 492) hx hb dL_law_488 (by decide) ?_
          refine lv_istore_n (lv' := [(2, .int 1), (0, .ref b), (1, .ref (q 0)), (3, .int (nI N)), (4, .int (nI i)), (5, .int v5), (6, .int w6), (7, .int (nI f7)), (8, .int (nI g8)), (9, .int (nI v9)), (10, .int (T f7)), (11, .int (T g8)), (12, .int (nI N7))]) hx hb dL_law_492 rfl hl (by decide) rfl (fun ls hl => ?_)
          refine lv_goto (tgt := 593) hx hb dL_law_493 (by decide) ?_
          refine W.widen (k := cells + 1) (n := slots + 6) (by omega) (by omega) ?_
          exact kk ((fL_define T R X n N7 f7).2.1) ((fL_define T R X n N7 f7).2.2.1) X M P ((fL_define T R X n N7 f7).2.2.2.1) z ((fL_define T R X n N7 f7).2.2.2.2.1) ((fL_define T R X n N7 f7).2.2.2.2.2.1) ((fL_define T R X n N7 f7).2.2.2.2.2.2.1) ((fL_define T R X n N7 f7).2.2.2.2.2.2.2) (define_tbs hT (hT g8) hre2) (record_tbs hT hR n) (record_n T R hn) hP9 H locs hP hD hS ls (lv_sub hl [1, 2, 0, 3, 4, 7, 8] rfl)
set_option maxHeartbeats 4000000 in
set_option maxRecDepth 100000 in
theorem j_7b {p : Program} {l : Launch} (hst : l.stackTraces = false) {e : Env} {s : State} {m : MethodId} {below : List Frame} {meth : Method} {c : Code} {b L : Nat} {xs : Nat → Int32} (hL : L ≤ 260) (hx : p.tables.exec = Jvm.exec) (hb : c.code = cL_law) (hr : meth.sig.returnType = ret) (hml : c.maxLocals = 15) (hown : s.vm.findClass RL = some m.cls) (hts : ∀ w ∈ wsL_law, w.before #[Value.ref b] s = true) (hX : va_X b L xs s s.heap) (hbl : b < s.heap.size) {A : Nat → Prop} (hA : ∀ q : Nat, s.heap.size ≤ q → A q) (hbA : ¬ A b) (hE : envE A s) {D : va_G} {q : Nat → Nat} {cq : Nat → ClassId} (hK : va_K D vwCl (tyB cq) s) (S : Nat → Int32) (h : Int32) (T R M : Nat → Int32) (n : Nat) (w f d v : Int32) (hT : tbs T) (hR : tbs R) (hn : n ≤ 4) (N i f7 g8 v9 : Nat) (v5 w6 : Int32) (hf7 : f7 < 6) (hg8 : g8 < 6) (hv9 : v9 < 4) (u7 : Int32) (N7 : Nat) (hu7 : tb u7) (eu7 : fX1_addHalves (T g8) = u7) (hN7 : N7 = (txt u7).length) (hN8 : N7 ≤ 48) {cells slots : Nat} (hc : cells + 1 ≤ 122) (hs : slots + 6 ≤ 1087) {Q : State → Prop} (kk : ∀ (X P : Nat → Int32) (z : Nat), pch P → (∀ i, i < N7 → X i = (txt u7).getD i 0) → ∀ (H : Heap) (locs : List Loc), va_P D vwCl (wB q cq T R S X M P (nI n) h (nI N7) w f d v (nI z)) H → va_D A (wB q cq T R S X M P (nI n) h (nI N7) w f d v (nI z)) → va_S A s.heap H locs → ∀ ls : Array Slot, lv_has ls 15 [(0, .ref b), (1, .ref (q 0)), (2, .int 1), (3, .int (nI N)), (4, .int (nI i)), (5, .int v5), (6, .int w6), (7, .int (nI f7)), (8, .int (nI g8)), (9, .int (nI v9)), (10, .int (T f7)), (11, .int (T g8)), (12, .int (nI N7))] → W p l e room_1 s m #[Value.ref b] below meth c H locs cells slots Q (F0 m 441 ls [])) : ∀ (r j : Nat), j + r = N7 → ∀ (X P : Nat → Int32) (z : Nat), pch P → (∀ i, i < j → X i = (txt u7).getD i 0) → ∀ (H : Heap) (locs : List Loc), va_P D vwCl (wB q cq T R S X M P (nI n) h (nI j) w f d v (nI z)) H → va_D A (wB q cq T R S X M P (nI n) h (nI j) w f d v (nI z)) → va_S A s.heap H locs → ∀ ls : Array Slot, lv_has ls 15 [(0, .ref b), (1, .ref (q 0)), (2, .int 1), (3, .int (nI N)), (4, .int (nI i)), (5, .int v5), (6, .int w6), (7, .int (nI f7)), (8, .int (nI g8)), (9, .int (nI v9)), (10, .int (T f7)), (11, .int (T g8)), (12, .int (nI N7)), (13, .int (nI j))] → W p l e room_1 s m #[Value.ref b] below meth c H locs cells slots Q (F0 m 415 ls []) := by
  intro r
  induction r with
  | zero =>
    intro j hj X P z hP9 hX7 H locs hP hD hS ls hl
    obtain rfl : j = N7 := by omega
    refine lv_iload hx hb dL_law_415 (lv_at hl 13 rfl) ?_
    refine lv_iload hx hb dL_law_417 (lv_at hl 12 rfl) ?_
    refine lv_icmp_ge (tgt := 441) hx hb dL_law_419 (by decide) (fun c_1 => ?_) (fun c_1 => ?_)
    · exact kk X P z hP9 hX7 H locs hP hD hS ls (lv_sub hl [0, 1, 2, 3, 4, 5, 6, 7, 8, 9, 10, 11, 12] rfl)
    · exact absurd (nI_le (a := j) (b := j) (by omega) (by omega)) c_1
  | succ r ih =>
    intro j hj X P z hP9 hX7 H locs hP hD hS ls hl
    refine lv_iload hx hb dL_law_415 (lv_at hl 13 rfl) ?_
    refine lv_iload hx hb dL_law_417 (lv_at hl 12 rfl) ?_
    refine lv_icmp_ge (tgt := 441) hx hb dL_law_419 (by decide) (fun c_1 => ?_) (fun c_1 => ?_)
    · exact absurd c_1 (nI_ge (a := j) (b := N7) (by omega) (by omega))
    · refine lv_aload_n hx hb dL_law_422 rfl (lv_at hl 1 rfl) ?_
      refine lv_aload_n hx hb dL_law_423 rfl (lv_at hl 1 rfl) ?_
      refine lv_iload hx hb dL_law_424 (lv_at hl 8 rfl) ?_
      refine lv_iload hx hb dL_law_426 (lv_at hl 13 rfl) ?_
      have hPc := hP.sub (ws' := (wB q cq T R S X M P (nI n) h (nI j) w f d v (nI z))) [0, 1, 2, 3, 4, 5, 6, 7] rfl
      have hKc := hK.sub (tys' := (tyB cq)) [0, 1, 2, 3, 4, 5] rfl
      have hDc := hD.sub (ws' := (wB q cq T R S X M P (nI n) h (nI j) w f d v (nI z))) [0, 1, 2, 3, 4, 5, 6, 7] (by decide) rfl
      have hFc := va_free (wc := (wB q cq T R S X M P (nI n) h (nI j) w f d v (nI z))) hD hS hA [0, 1, 2, 3, 4, 5, 6, 7] rfl
      refine va_calli (va_runV (As := [.int (nI g8), .int (nI j)]) (rest := [.ref (q 0)]) ⟨hx, hb, hml, hown, hts⟩ (c_X1_printedLetter l D q cq H.size T R S X M P (nI n) h (nI j) w f d v z g8 j (by omega) (by rw [eu7, (print_hld P hu7).1, ← hN7]; omega) hP9) (cwV 2 hts gL_law_X1_printedLetter rfl rfl rfl (by decide +kernel) ⟨Nat.le_of_ble_eq_true rfl, Nat.le_of_ble_eq_true rfl⟩) ⟨fun a U g mk z => ⟨z.1, z.2.1, z.2.2.1, va_K.moved (u := U) (U := U.calling g mk a) (Vm.Alike.refl U.vm) z.2.2.2.1, z.2.2.2.2.1, z.2.2.2.2.2.blind g mk a⟩, va_recv hKc hPc (ci := 1) (q0 := 0) rfl rfl, fun U hU hW => ⟨rfl, by rw [hU], by rw [hU]; exact hPc, va_K.moved hW.alike hKc, hDc.weaken (fun _ _ _ _ => trivial), hE.at hS hU hW hFc⟩⟩ rfl rfl hl.1 rfl (lv_room (Nat.le_of_ble_eq_true rfl)) dL_law_428 ⟨(by show cells + 0 ≤ 122; omega), (by show slots + 0 ≤ 1087; omega)⟩) hS (fun q _ h => hFc q h) hFc (fun r9 u9 t8 H1 locs ht hvm hw hB hz1 hk1 hS => ?_)
      obtain ⟨hP1, hD1⟩ := hB
      rw [ht] at hP1
      obtain ⟨hP, hD⟩ := va_join (wr := []) (w1 := (wB q cq T R S X M ((fX1_printedLetter T P g8 j).2.1) (nI n) h (nI j) w f d v (nI (fX1_printedLetter T P g8 j).2.2))) hP hD [0, 1, 2, 3, 4, 5, 6, 7] [] rfl rfl (by decide) (by decide) hk1 hFc hP1 hD1
      have hP := hP.sub (ws' := (wB q cq T R S X M ((fX1_printedLetter T P g8 j).2.1) (nI n) h (nI j) w f d v (nI (fX1_printedLetter T P g8 j).2.2))) [0, 1, 2, 3, 4, 5, 6, 7] rfl
      have hD := hD.sub (ws' := (wB q cq T R S X M ((fX1_printedLetter T P g8 j).2.1) (nI n) h (nI j) w f d v (nI (fX1_printedLetter T P g8 j).2.2))) [0, 1, 2, 3, 4, 5, 6, 7] (by decide) rfl
      generalize H1 = H at hP hS ⊢
      subst r9
      have hPc := hP.sub (ws' := (wB q cq T R S X M ((fX1_printedLetter T P g8 j).2.1) (nI n) h (nI j) w f d v (nI (fX1_printedLetter T P g8 j).2.2))) [0, 1, 2, 3, 4, 5, 6, 7] rfl
      have hKc := hK.sub (tys' := (tyB cq)) [0, 1, 2, 3, 4, 5] rfl
      have hDc := hD.sub (ws' := (wB q cq T R S X M ((fX1_printedLetter T P g8 j).2.1) (nI n) h (nI j) w f d v (nI (fX1_printedLetter T P g8 j).2.2))) [0, 1, 2, 3, 4, 5, 6, 7] (by decide) rfl
      have hFc := va_free (wc := (wB q cq T R S X M ((fX1_printedLetter T P g8 j).2.1) (nI n) h (nI j) w f d v (nI (fX1_printedLetter T P g8 j).2.2))) hD hS hA [0, 1, 2, 3, 4, 5, 6, 7] rfl
      refine va_calli (va_runV (As := [.int (fX1_printedLetter T P g8 j).1]) (rest := []) ⟨hx, hb, hml, hown, hts⟩ (c_X1_type l D q cq H.size T R S X M ((fX1_printedLetter T P g8 j).2.1) (nI n) h j w f d v (nI (fX1_printedLetter T P g8 j).2.2) ((fX1_printedLetter T P g8 j).1) (by omega) (fX1_print_ch hP9 j)) (cwV 1 hts gL_law_X1_type rfl rfl rfl (by decide +kernel) ⟨Nat.le_of_ble_eq_true rfl, Nat.le_of_ble_eq_true rfl⟩) ⟨fun a U g mk z => ⟨z.1, z.2.1, z.2.2.1, va_K.moved (u := U) (U := U.calling g mk a) (Vm.Alike.refl U.vm) z.2.2.2.1, z.2.2.2.2.1, z.2.2.2.2.2.blind g mk a⟩, va_recv hKc hPc (ci := 1) (q0 := 0) rfl rfl, fun U hU hW => ⟨rfl, by rw [hU], by rw [hU]; exact hPc, va_K.moved hW.alike hKc, hDc.weaken (fun _ _ _ _ => trivial), hE.at hS hU hW hFc⟩⟩ rfl rfl hl.1 rfl (lv_room (Nat.le_of_ble_eq_true rfl)) dL_law_431 ⟨(by show cells + 0 ≤ 122; omega), (by show slots + 0 ≤ 1087; omega)⟩) hS (fun q _ h => hFc q h) hFc (fun r9 u9 t8 H1 locs ht hvm hw hB hz1 hk1 hS => ?_)
      obtain ⟨hP1, hD1⟩ := hB
      rw [ht] at hP1
      obtain ⟨hP, hD⟩ := va_join (wr := []) (w1 := (wB q cq T R S ((fX1_type X j ((fX1_printedLetter T P g8 j).1)).2.1) M ((fX1_printedLetter T P g8 j).2.1) (nI n) h (nI (fX1_type X j ((fX1_printedLetter T P g8 j).1)).2.2) w f d v (nI (fX1_printedLetter T P g8 j).2.2))) hP hD [0, 1, 2, 3, 4, 5, 6, 7] [] rfl rfl (by decide) (by decide) hk1 hFc hP1 hD1
      have hP := hP.sub (ws' := (wB q cq T R S ((fX1_type X j ((fX1_printedLetter T P g8 j).1)).2.1) M ((fX1_printedLetter T P g8 j).2.1) (nI n) h (nI (fX1_type X j ((fX1_printedLetter T P g8 j).1)).2.2) w f d v (nI (fX1_printedLetter T P g8 j).2.2))) [0, 1, 2, 3, 4, 5, 6, 7] rfl
      have hD := hD.sub (ws' := (wB q cq T R S ((fX1_type X j ((fX1_printedLetter T P g8 j).1)).2.1) M ((fX1_printedLetter T P g8 j).2.1) (nI n) h (nI (fX1_type X j ((fX1_printedLetter T P g8 j).1)).2.2) w f d v (nI (fX1_printedLetter T P g8 j).2.2))) [0, 1, 2, 3, 4, 5, 6, 7] (by decide) rfl
      generalize H1 = H at hP hS ⊢
      subst r9
      refine lv_pop hx hb dL_law_434 rfl ?_
      refine lv_iinc (v := (nI (j + 1))) (lv' := [(13, .int (nI (j + 1))), (0, .ref b), (1, .ref (q 0)), (2, .int 1), (3, .int (nI N)), (4, .int (nI i)), (5, .int v5), (6, .int w6), (7, .int (nI f7)), (8, .int (nI g8)), (9, .int (nI v9)), (10, .int (T f7)), (11, .int (T g8)), (12, .int (nI N7))]) hx hb dL_law_435 hl (k := 13) rfl (by first | exact nI_add _ _ | rfl) (by decide) rfl (fun ls hl => ?_)
      refine lv_goto (tgt := 415) hx hb dL_law_438 (by decide) ?_
      exact ih (j + 1) (by omega) ((fX1_type X j ((fX1_printedLetter T P g8 j).1)).2.1) ((fX1_printedLetter T P g8 j).2.1) ((fX1_printedLetter T P g8 j).2.2) (fX1_print_ch hP9) (typed_next hu7 eu7 (by omega) hX7) H locs hP hD hS ls (lv_sub hl [1, 2, 3, 4, 5, 6, 7, 8, 9, 10, 11, 12, 13, 0] rfl)
set_option maxHeartbeats 4000000 in
set_option maxRecDepth 100000 in
theorem j_7 {p : Program} {l : Launch} (hst : l.stackTraces = false) {e : Env} {s : State} {m : MethodId} {below : List Frame} {meth : Method} {c : Code} {b L : Nat} {xs : Nat → Int32} (hL : L ≤ 260) (hx : p.tables.exec = Jvm.exec) (hb : c.code = cL_law) (hr : meth.sig.returnType = ret) (hml : c.maxLocals = 15) (hown : s.vm.findClass RL = some m.cls) (hts : ∀ w ∈ wsL_law, w.before #[Value.ref b] s = true) (hX : va_X b L xs s s.heap) (hbl : b < s.heap.size) {A : Nat → Prop} (hA : ∀ q : Nat, s.heap.size ≤ q → A q) (hbA : ¬ A b) (hE : envE A s) {D : va_G} {q : Nat → Nat} {cq : Nat → ClassId} (hK : va_K D vwCl (tyB cq) s) (S : Nat → Int32) (h : Int32) (T R X M P : Nat → Int32) (n z : Nat) (w f d v : Int32) (hT : tbs T) (hR : tbs R) (hn : n ≤ 4) (hP9 : pch P) (N i f7 g8 v9 : Nat) (v5 w6 : Int32) (hf7 : f7 < 6) (hg8 : g8 < 6) (hv9 : v9 < 4) (H : Heap) (locs : List Loc) (hP : va_P D vwCl (wB q cq T R S X M P (nI n) h (nI 0) w f d v (nI z)) H) (hD : va_D A (wB q cq T R S X M P (nI n) h (nI 0) w f d v (nI z))) (hS : va_S A s.heap H locs) (ls : Array Slot) (hl : lv_has ls 15 [(0, .ref b), (1, .ref (q 0)), (2, .int 1), (3, .int (nI N)), (4, .int (nI i)), (5, .int v5), (6, .int w6), (7, .int (nI f7)), (8, .int (nI g8)), (9, .int (nI v9)), (10, .int (T f7)), (11, .int (T g8))]) {cells slots : Nat} (hc : cells + 1 ≤ 122) (hs : slots + 6 ≤ 1087) {Q : State → Prop} (kk : ∀ (T R X M P : Nat → Int32) (n z : Nat) (w f d v : Int32), tbs T → tbs R → n ≤ 4 → pch P → ∀ (H : Heap) (locs : List Loc), va_P D vwCl (wB q cq T R S X M P (nI n) h (nI 0) w f d v (nI z)) H → va_D A (wB q cq T R S X M P (nI n) h (nI 0) w f d v (nI z)) → va_S A s.heap H locs → ∀ ls : Array Slot, lv_has ls 15 [(0, .ref b), (1, .ref (q 0)), (2, .int 1), (3, .int (nI N)), (4, .int (nI i)), (7, .int (nI f7)), (8, .int (nI g8))] → W p l e room_1 s m #[Value.ref b] below meth c H locs (cells + 1) (slots + 6) Q (F0 m 593 ls [])) : W p l e room_1 s m #[Value.ref b] below meth c H locs cells slots Q (F0 m 404 ls []) := by
  have hpl9 := print_hld P (add_tb (hT g8))
  refine lv_aload_n hx hb dL_law_404 rfl (lv_at hl 1 rfl) ?_
  refine lv_iload hx hb dL_law_405 (lv_at hl 8 rfl) ?_
  have hPc := hP.sub (ws' := (wB q cq T R S X M P (nI n) h (nI 0) w f d v (nI z))) [0, 1, 2, 3, 4, 5, 6, 7] rfl
  have hKc := hK.sub (tys' := (tyB cq)) [0, 1, 2, 3, 4, 5] rfl
  have hDc := hD.sub (ws' := (wB q cq T R S X M P (nI n) h (nI 0) w f d v (nI z))) [0, 1, 2, 3, 4, 5, 6, 7] (by decide) rfl
  have hFc := va_free (wc := (wB q cq T R S X M P (nI n) h (nI 0) w f d v (nI z))) hD hS hA [0, 1, 2, 3, 4, 5, 6, 7] rfl
  refine va_calli (va_runV (As := [.int (nI g8)]) (rest := []) ⟨hx, hb, hml, hown, hts⟩ (c_X1_printedLength l D q cq H.size T R S X M P (nI n) h (nI 0) w f d v z g8 (by omega)) (cwV 1 hts gL_law_X1_printedLength rfl rfl rfl (by decide +kernel) ⟨Nat.le_of_ble_eq_true rfl, Nat.le_of_ble_eq_true rfl⟩) ⟨fun a U g mk z => ⟨z.1, z.2.1, z.2.2.1, va_K.moved (u := U) (U := U.calling g mk a) (Vm.Alike.refl U.vm) z.2.2.2.1, z.2.2.2.2.1, z.2.2.2.2.2.blind g mk a⟩, va_recv hKc hPc (ci := 1) (q0 := 0) rfl rfl, fun U hU hW => ⟨rfl, by rw [hU], by rw [hU]; exact hPc, va_K.moved hW.alike hKc, hDc.weaken (fun _ _ _ _ => trivial), hE.at hS hU hW hFc⟩⟩ rfl rfl hl.1 rfl (lv_room (Nat.le_of_ble_eq_true rfl)) dL_law_407 ⟨(by show cells + 0 ≤ 122; omega), (by show slots + 0 ≤ 1087; omega)⟩) hS (fun q _ h => hFc q h) hFc (fun r9 u9 t8 H1 locs ht hvm hw hB hz1 hk1 hS => ?_)
  obtain ⟨hP1, hD1⟩ := hB
  rw [ht] at hP1
  obtain ⟨hP, hD⟩ := va_join (wr := []) (w1 := (wB q cq T R S X M ((fX1_printedLength T P g8).2.1) (nI n) h (nI 0) w f d v (nI (fX1_printedLength T P g8).2.2))) hP hD [0, 1, 2, 3, 4, 5, 6, 7] [] rfl rfl (by decide) (by decide) hk1 hFc hP1 hD1
  have hP := hP.sub (ws' := (wB q cq T R S X M ((fX1_printedLength T P g8).2.1) (nI n) h (nI 0) w f d v (nI (fX1_printedLength T P g8).2.2))) [0, 1, 2, 3, 4, 5, 6, 7] rfl
  have hD := hD.sub (ws' := (wB q cq T R S X M ((fX1_printedLength T P g8).2.1) (nI n) h (nI 0) w f d v (nI (fX1_printedLength T P g8).2.2))) [0, 1, 2, 3, 4, 5, 6, 7] (by decide) rfl
  generalize H1 = H at hP hS ⊢
  subst r9
  refine lv_is (nI (txt (fX1_addHalves (T g8))).length) (congrArg nI hpl9.1) ?_
  refine lv_istore (lv' := [(12, .int (nI (txt (fX1_addHalves (T g8))).length)), (0, .ref b), (1, .ref (q 0)), (2, .int 1), (3, .int (nI N)), (4, .int (nI i)), (5, .int v5), (6, .int w6), (7, .int (nI f7)), (8, .int (nI g8)), (9, .int (nI v9)), (10, .int (T f7)), (11, .int (T g8))]) hx hb dL_law_410 hl (by decide) rfl (fun ls hl => ?_)
  refine lv_iconst (v := 0) hx hb dL_law_412 (by decide) ?_
  refine lv_istore (lv' := [(13, .int 0), (12, .int (nI (txt (fX1_addHalves (T g8))).length)), (0, .ref b), (1, .ref (q 0)), (2, .int 1), (3, .int (nI N)), (4, .int (nI i)), (5, .int v5), (6, .int w6), (7, .int (nI f7)), (8, .int (nI g8)), (9, .int (nI v9)), (10, .int (T f7)), (11, .int (T g8))]) hx hb dL_law_413 hl (by decide) rfl (fun ls hl => ?_)
  exact j_7b hst hL hx hb hr hml hown hts hX hbl hA hbA hE hK S h T R M n w f d v hT hR hn N i f7 g8 v9 v5 w6 hf7 hg8 hv9 (fX1_addHalves (T g8)) (txt (fX1_addHalves (T g8))).length (add_tb (hT g8)) rfl rfl (txt_48 _) hc hs (fun X P z hP9 hX7 H locs hP hD hS ls hl => j_7c hst hL hx hb hr hml hown hts hX hbl hA hbA hE hK S h T R X M P n z w f d v hT hR hn hP9 N i f7 g8 v9 v5 w6 hf7 hg8 hv9 (fX1_addHalves (T g8)) (txt (fX1_addHalves (T g8))).length (add_tb (hT g8)) rfl rfl (txt_48 _) hX7 H locs hP hD hS ls hl hc hs kk) (txt (fX1_addHalves (T g8))).length 0 (Nat.zero_add _) X ((fX1_printedLength T P g8).2.1) ((fX1_printedLength T P g8).2.2) (fX1_print_ch hP9) (fun i hi => absurd hi (Nat.not_lt_zero i)) H locs hP hD hS ls (lv_sub hl [2, 3, 4, 5, 6, 7, 8, 9, 10, 11, 12, 13, 1, 0] rfl)
set_option maxHeartbeats 4000000 in
set_option maxRecDepth 100000 in
theorem k_turn {p : Program} {l : Launch} (hst : l.stackTraces = false) {e : Env} {s : State} {m : MethodId} {below : List Frame} {meth : Method} {c : Code} {b L : Nat} {xs : Nat → Int32} (hL : L ≤ 260) (hx : p.tables.exec = Jvm.exec) (hb : c.code = cL_law) (hr : meth.sig.returnType = ret) (hml : c.maxLocals = 15) (hown : s.vm.findClass RL = some m.cls) (hts : ∀ w ∈ wsL_law, w.before #[Value.ref b] s = true) (hX : va_X b L xs s s.heap) (hbl : b < s.heap.size) {A : Nat → Prop} (hA : ∀ q : Nat, s.heap.size ≤ q → A q) (hbA : ¬ A b) (hE : envE A s) {D : va_G} {q : Nat → Nat} {cq : Nat → ClassId} (hK : va_K D vwCl (tyB cq) s) (S : Nat → Int32) (h : Int32) (T R X M P : Nat → Int32) (n z : Nat) (w f d v : Int32) (hT : tbs T) (hR : tbs R) (hn : n ≤ 4) (hP9 : pch P) (N i : Nat) (hiN : i < 64) (H : Heap) (locs : List Loc) (hP : va_P D vwCl (wB q cq T R S X M P (nI n) h (nI 0) w f d v (nI z)) H) (hD : va_D A (wB q cq T R S X M P (nI n) h (nI 0) w f d v (nI z))) (hS : va_S A s.heap H locs) (ls : Array Slot) (hl : lv_has ls 15 [(0, .ref b), (1, .ref (q 0)), (2, .int 1), (3, .int (nI N)), (4, .int (nI i))]) {cells slots : Nat} (hc : cells + 1 ≤ 122) (hs : slots + 6 ≤ 1087) {Q : State → Prop} (kk : ∀ (T R X M P : Nat → Int32) (n z : Nat) (w f d v : Int32), tbs T → tbs R → n ≤ 4 → pch P → ∀ (H : Heap) (locs : List Loc), va_P D vwCl (wB q cq T R S X M P (nI n) h (nI 0) w f d v (nI z)) H → va_D A (wB q cq T R S X M P (nI n) h (nI 0) w f d v (nI z)) → va_S A s.heap H locs → ∀ ls : Array Slot, lv_has ls 15 [(0, .ref b), (1, .ref (q 0)), (2, .int 1), (3, .int (nI N)), (4, .int (nI (i + 1)))] → W p l e room_1 s m #[Value.ref b] below meth c H locs (cells + 1) (slots + 6) Q (F0 m 46 ls [])) : W p l e room_1 s m #[Value.ref b] below meth c H locs cells slots Q (F0 m 56 ls []) := by
  have kk9 : ∀ (f7 g8 : Nat), f7 < 6 → g8 < 6 → ∀ (T R X M P : Nat → Int32) (n z : Nat) (w f d v : Int32), tbs T → tbs R → n ≤ 4 → pch P → ∀ (H : Heap) (locs : List Loc), va_P D vwCl (wB q cq T R S X M P (nI n) h (nI 0) w f d v (nI z)) H → va_D A (wB q cq T R S X M P (nI n) h (nI 0) w f d v (nI z)) → va_S A s.heap H locs → ∀ ls : Array Slot, lv_has ls 15 [(0, .ref b), (1, .ref (q 0)), (2, .int 1), (3, .int (nI N)), (4, .int (nI i)), (7, .int (nI f7)), (8, .int (nI g8))] → W p l e room_1 s m #[Value.ref b] below meth c H locs (cells + 1) (slots + 6) Q (F0 m 593 ls []) := by
    intro f7 g8 hf7 hg8 T R X M P n z w f d v hT hR hn hP9 H locs hP hD hS ls hl
    refine lv_iload_n hx hb dL_law_593 rfl (lv_at hl 2 rfl) ?_
    refine lv_if_eq (tgt := 619) hx hb dL_law_594 (by decide) (fun c_1 => ?_) (fun c_1 => ?_)
    · exact absurd c_1 (by decide)
    · refine lv_aload_n hx hb dL_law_597 rfl (lv_at hl 1 rfl) ?_
      refine lv_iload hx hb dL_law_598 (lv_at hl 5 rfl) ?_
      have hPc := hP.sub (ws' := (wB q cq T R S X M P (nI n) h (nI 0) w f d v (nI z))) [0, 1, 2, 3, 4, 5, 6, 7] rfl
      have hKc := hK.sub (tys' := (tyB cq)) [0, 1, 2, 3, 4, 5] rfl
      have hDc := hD.sub (ws' := (wB q cq T R S X M P (nI n) h (nI 0) w f d v (nI z))) [0, 1, 2, 3, 4, 5, 6, 7] (by decide) rfl
      have hFc := va_free (wc := (wB q cq T R S X M P (nI n) h (nI 0) w f d v (nI z))) hD hS hA [0, 1, 2, 3, 4, 5, 6, 7] rfl
      refine va_calli (va_runS (As := [.ref (q 0), .int (nI f7)]) (rest := []) ⟨hx, hb, hml, hown, hts⟩ (c_L_function l D q cq H.size T R S X M P (nI n) h (nI 0) w f d v (nI z) f7 (fun i _ => hT i) (by omega)) (va_cwS 2 hts gL_law_L_function rfl rfl rfl (by decide +kernel) ⟨Nat.le_of_ble_eq_true rfl, Nat.le_of_ble_eq_true rfl⟩) ⟨fun a U g mk z => ⟨z.1, z.2.1, z.2.2.1, va_K.moved (u := U) (U := U.calling g mk a) (Vm.Alike.refl U.vm) z.2.2.2.1, z.2.2.2.2.1, z.2.2.2.2.2.blind g mk a⟩, fun U hU hW => ⟨rfl, by rw [hU], by rw [hU]; exact hPc, va_K.moved hW.alike hKc, hDc.weaken (fun _ _ _ _ => trivial), hE.at hS hU hW hFc⟩⟩ rfl rfl hl.1 rfl (lv_room (Nat.le_of_ble_eq_true rfl)) dL_law_600 ⟨(by show (cells + 1) + 0 ≤ 122; omega), (by show (slots + 6) + 0 ≤ 1087; omega)⟩) hS (fun q _ h => hFc q h) hFc (fun r9 u9 t8 H1 locs ht hvm hw hB hz1 hk1 hS => ?_)
      obtain ⟨hP1, hD1⟩ := hB
      rw [ht] at hP1
      obtain ⟨hP, hD⟩ := va_join (wr := []) (w1 := (wB q cq T R S X ((fL_function T M f7).2) P (nI n) h (nI 0) w f d v (nI z))) hP hD [0, 1, 2, 3, 4, 5, 6, 7] [] rfl rfl (by decide) (by decide) hk1 hFc hP1 hD1
      have hP := hP.sub (ws' := (wB q cq T R S X ((fL_function T M f7).2) P (nI n) h (nI 0) w f d v (nI z))) [0, 1, 2, 3, 4, 5, 6, 7] rfl
      have hD := hD.sub (ws' := (wB q cq T R S X ((fL_function T M f7).2) P (nI n) h (nI 0) w f d v (nI z))) [0, 1, 2, 3, 4, 5, 6, 7] (by decide) rfl
      generalize H1 = H at hP hS ⊢
      subst r9
      refine lv_is 1 rfl ?_
      refine lv_if_eq (tgt := 619) hx hb dL_law_603 (by decide) (fun c_2 => ?_) (fun c_2 => ?_)
      · exact absurd c_2 (by decide)
      · refine lv_aload_n hx hb dL_law_606 rfl (lv_at hl 1 rfl) ?_
        refine lv_iload hx hb dL_law_607 (lv_at hl 6 rfl) ?_
        have hPc := hP.sub (ws' := (wB q cq T R S X ((fL_function T M f7).2) P (nI n) h (nI 0) w f d v (nI z))) [0, 1, 2, 3, 4, 5, 6, 7] rfl
        have hKc := hK.sub (tys' := (tyB cq)) [0, 1, 2, 3, 4, 5] rfl
        have hDc := hD.sub (ws' := (wB q cq T R S X ((fL_function T M f7).2) P (nI n) h (nI 0) w f d v (nI z))) [0, 1, 2, 3, 4, 5, 6, 7] (by decide) rfl
        have hFc := va_free (wc := (wB q cq T R S X ((fL_function T M f7).2) P (nI n) h (nI 0) w f d v (nI z))) hD hS hA [0, 1, 2, 3, 4, 5, 6, 7] rfl
        refine va_calli (va_runS (As := [.ref (q 0), .int (nI g8)]) (rest := []) ⟨hx, hb, hml, hown, hts⟩ (c_L_function l D q cq H.size T R S X ((fL_function T M f7).2) P (nI n) h (nI 0) w f d v (nI z) g8 (fun i _ => hT i) (by omega)) (va_cwS 2 hts gL_law_L_function rfl rfl rfl (by decide +kernel) ⟨Nat.le_of_ble_eq_true rfl, Nat.le_of_ble_eq_true rfl⟩) ⟨fun a U g mk z => ⟨z.1, z.2.1, z.2.2.1, va_K.moved (u := U) (U := U.calling g mk a) (Vm.Alike.refl U.vm) z.2.2.2.1, z.2.2.2.2.1, z.2.2.2.2.2.blind g mk a⟩, fun U hU hW => ⟨rfl, by rw [hU], by rw [hU]; exact hPc, va_K.moved hW.alike hKc, hDc.weaken (fun _ _ _ _ => trivial), hE.at hS hU hW hFc⟩⟩ rfl rfl hl.1 rfl (lv_room (Nat.le_of_ble_eq_true rfl)) dL_law_609 ⟨(by show (cells + 1) + 0 ≤ 122; omega), (by show (slots + 6) + 0 ≤ 1087; omega)⟩) hS (fun q _ h => hFc q h) hFc (fun r9 u9 t8 H1 locs ht hvm hw hB hz1 hk1 hS => ?_)
        obtain ⟨hP1, hD1⟩ := hB
        rw [ht] at hP1
        obtain ⟨hP, hD⟩ := va_join (wr := []) (w1 := (wB q cq T R S X ((fL_function T ((fL_function T M f7).2) g8).2) P (nI n) h (nI 0) w f d v (nI z))) hP hD [0, 1, 2, 3, 4, 5, 6, 7] [] rfl rfl (by decide) (by decide) hk1 hFc hP1 hD1
        have hP := hP.sub (ws' := (wB q cq T R S X ((fL_function T ((fL_function T M f7).2) g8).2) P (nI n) h (nI 0) w f d v (nI z))) [0, 1, 2, 3, 4, 5, 6, 7] rfl
        have hD := hD.sub (ws' := (wB q cq T R S X ((fL_function T ((fL_function T M f7).2) g8).2) P (nI n) h (nI 0) w f d v (nI z))) [0, 1, 2, 3, 4, 5, 6, 7] (by decide) rfl
        generalize H1 = H at hP hS ⊢
        subst r9
        refine lv_is 1 rfl ?_
        refine lv_if_eq (tgt := 619) hx hb dL_law_612 (by decide) (fun c_3 => ?_) (fun c_3 => ?_)
        · exact absurd c_3 (by decide)
        · refine lv_iconst (v := 1) hx hb dL_law_615 (by decide) ?_
          refine lv_goto (tgt := 620) hx hb dL_law_616 (by decide) ?_
          refine lv_istore_n (lv' := [(2, .int 1), (0, .ref b), (1, .ref (q 0)), (3, .int (nI N)), (4, .int (nI i)), (7, .int (nI f7)), (8, .int (nI g8))]) hx hb dL_law_620 rfl hl (by decide) rfl (fun ls hl => ?_)
          refine lv_iinc (v := (nI (i + 1))) (lv' := [(4, .int (nI (i + 1))), (2, .int 1), (0, .ref b), (1, .ref (q 0)), (3, .int (nI N)), (7, .int (nI f7)), (8, .int (nI g8))]) hx hb dL_law_621 hl (k := 4) rfl (by first | exact nI_add _ _ | rfl) (by decide) rfl (fun ls hl => ?_)
          refine lv_goto (tgt := 46) hx hb dL_law_624 (by decide) ?_
          exact kk T R X ((fL_function T ((fL_function T M f7).2) g8).2) P n z w f d v hT hR hn hP9 H locs hP hD hS ls (lv_sub hl [2, 3, 1, 4, 0] rfl)
  refine lv_aload_n hx hb dL_law_56 rfl (lv_at hl 0 rfl) ?_
  refine lv_iconst (v := 1) hx hb dL_law_57 (by decide) ?_
  refine lv_iconst (v := 2) hx hb dL_law_58 (by decide) ?_
  refine lv_iload hx hb dL_law_59 (lv_at hl 4 rfl) ?_
  refine lv_imul hx hb dL_law_61 ?_
  refine lv_is (nI (2 * i)) (by first | exact pk_mul _ _ | rfl) ?_
  refine lv_iadd hx hb dL_law_62 ?_
  refine lv_is (nI (1 + (2 * i))) (by first | exact nI_add _ _ | rfl) ?_
  refine vp_callSi (va_Run.run (va_runS (As := [.ref b, .int (nI (1 + (2 * i)))]) (rest := []) ⟨hx, hb, hml, hown, hts⟩ (c_L_cell l b L xs (1 + (2 * i)) (by omega) hL) (va_cwS 2 hts gL_law_L_cell rfl rfl rfl (by decide +kernel) ⟨Nat.le_of_ble_eq_true rfl, Nat.le_of_ble_eq_true rfl⟩) ⟨fun a U g mk z => ⟨z.1, va_X.moved (u := U) (U := U.calling g mk a) (Vm.Alike.refl U.vm) z.2⟩, fun U hU hW => ⟨rfl, by show va_X b L xs U U.heap; rw [hU]; exact (hX.kept (hS.2.1 b hbl hbA)).moved hW.alike⟩⟩ rfl rfl hl.1 rfl (lv_room (Nat.le_of_ble_eq_true rfl)) dL_law_63 ⟨(by show cells + 0 ≤ 122; omega), (by show slots + 0 ≤ 1087; omega)⟩)) (fun r9 hr => ?_)
  subst r9
  refine lv_istore (lv' := [(5, .int (cellN L xs (1 + (2 * i)))), (0, .ref b), (1, .ref (q 0)), (2, .int 1), (3, .int (nI N)), (4, .int (nI i))]) hx hb dL_law_66 hl (by decide) rfl (fun ls hl => ?_)
  refine lv_aload_n hx hb dL_law_68 rfl (lv_at hl 1 rfl) ?_
  refine lv_iconst (v := 2) hx hb dL_law_69 (by decide) ?_
  refine lv_iconst (v := 2) hx hb dL_law_70 (by decide) ?_
  refine lv_iload hx hb dL_law_71 (lv_at hl 5 rfl) ?_
  refine lv_imul hx hb dL_law_73 ?_
  refine lv_is (nI (2 * i)) (by first | exact pk_mul _ _ | rfl) ?_
  refine lv_iadd hx hb dL_law_74 ?_
  refine lv_is (nI (2 + (2 * i))) (by first | exact nI_add _ _ | rfl) ?_
  refine vp_callSi (va_Run.run (va_runS (As := [.ref b, .int (nI (2 + (2 * i)))]) (rest := []) ⟨hx, hb, hml, hown, hts⟩ (c_L_cell l b L xs (2 + (2 * i)) (by omega) hL) (va_cwS 2 hts gL_law_L_cell rfl rfl rfl (by decide +kernel) ⟨Nat.le_of_ble_eq_true rfl, Nat.le_of_ble_eq_true rfl⟩) ⟨fun a U g mk z => ⟨z.1, va_X.moved (u := U) (U := U.calling g mk a) (Vm.Alike.refl U.vm) z.2⟩, fun U hU hW => ⟨rfl, by show va_X b L xs U U.heap; rw [hU]; exact (hX.kept (hS.2.1 b hbl hbA)).moved hW.alike⟩⟩ rfl rfl hl.1 rfl (lv_room (Nat.le_of_ble_eq_true rfl)) dL_law_75 ⟨(by show cells + 0 ≤ 122; omega), (by show slots + 0 ≤ 1087; omega)⟩)) (fun r9 hr => ?_)
  subst r9
  refine lv_istore (lv' := [(6, .int (cellN L xs (2 + (2 * i)))), (5, .int (cellN L xs (1 + (2 * i)))), (0, .ref b), (1, .ref (q 0)), (2, .int 1), (3, .int (nI N)), (4, .int (nI i))]) hx hb dL_law_78 hl (by decide) rfl (fun ls hl => ?_)
  refine lv_iload hx hb dL_law_80 (lv_at hl 1 rfl) ?_
  refine lv_iconst (v := 4) hx hb dL_law_82 (by decide) ?_
  refine lv_ishr hx hb dL_law_83 ?_
  refine lv_bipush (v := 6) hx hb dL_law_84 (by decide) ?_
  refine vp_callSi (va_Run.run (va_runS (As := [.int ((cellN L xs (1 + (2 * i))) >>> ((4 : Int32) &&& 31)), .int 6]) (rest := []) ⟨hx, hb, hml, hown, hts⟩ (c_L_low l ((cellN L xs (1 + (2 * i))) >>> ((4 : Int32) &&& 31)) 6 (by omega)) (va_cwS 2 hts gL_law_L_low rfl rfl rfl (by decide +kernel) ⟨Nat.le_of_ble_eq_true rfl, Nat.le_of_ble_eq_true rfl⟩) ⟨fun _ _ _ _ z => z, fun _ _ _ => ⟨rfl, trivial⟩⟩ rfl rfl hl.1 rfl (lv_room (Nat.le_of_ble_eq_true rfl)) dL_law_86 ⟨(by show cells + 0 ≤ 122; omega), (by show slots + 0 ≤ 1087; omega)⟩)) (fun r9 hr => ?_)
  subst r9
  obtain ⟨f7, hf7, ef7⟩ := low_of ((cellN L xs (1 + (2 * i))) >>> ((4 : Int32) &&& 31)) (g := 6) (by decide) (by decide)
  refine lv_is (nI f7) ef7 ?_
  refine lv_istore (lv' := [(7, .int (nI f7)), (6, .int (cellN L xs (2 + (2 * i)))), (5, .int (cellN L xs (1 + (2 * i)))), (0, .ref b), (1, .ref (q 0)), (2, .int 1), (3, .int (nI N)), (4, .int (nI i))]) hx hb dL_law_89 hl (by decide) rfl (fun ls hl => ?_)
  refine lv_iload hx hb dL_law_91 (lv_at hl 2 rfl) ?_
  refine lv_bipush (v := 7) hx hb dL_law_93 (by decide) ?_
  refine lv_ishr hx hb dL_law_95 ?_
  refine lv_bipush (v := 6) hx hb dL_law_96 (by decide) ?_
  refine vp_callSi (va_Run.run (va_runS (As := [.int ((cellN L xs (1 + (2 * i))) >>> ((7 : Int32) &&& 31)), .int 6]) (rest := []) ⟨hx, hb, hml, hown, hts⟩ (c_L_low l ((cellN L xs (1 + (2 * i))) >>> ((7 : Int32) &&& 31)) 6 (by omega)) (va_cwS 2 hts gL_law_L_low rfl rfl rfl (by decide +kernel) ⟨Nat.le_of_ble_eq_true rfl, Nat.le_of_ble_eq_true rfl⟩) ⟨fun _ _ _ _ z => z, fun _ _ _ => ⟨rfl, trivial⟩⟩ rfl rfl hl.1 rfl (lv_room (Nat.le_of_ble_eq_true rfl)) dL_law_98 ⟨(by show cells + 0 ≤ 122; omega), (by show slots + 0 ≤ 1087; omega)⟩)) (fun r9 hr => ?_)
  subst r9
  obtain ⟨g8, hg8, eg8⟩ := low_of ((cellN L xs (1 + (2 * i))) >>> ((7 : Int32) &&& 31)) (g := 6) (by decide) (by decide)
  refine lv_is (nI g8) eg8 ?_
  refine lv_istore (lv' := [(8, .int (nI g8)), (7, .int (nI f7)), (6, .int (cellN L xs (2 + (2 * i)))), (5, .int (cellN L xs (1 + (2 * i)))), (0, .ref b), (1, .ref (q 0)), (2, .int 1), (3, .int (nI N)), (4, .int (nI i))]) hx hb dL_law_101 hl (by decide) rfl (fun ls hl => ?_)
  refine lv_iload hx hb dL_law_103 (lv_at hl 3 rfl) ?_
  refine lv_bipush (v := 10) hx hb dL_law_105 (by decide) ?_
  refine lv_ishr hx hb dL_law_107 ?_
  refine lv_iconst (v := 4) hx hb dL_law_108 (by decide) ?_
  refine vp_callSi (va_Run.run (va_runS (As := [.int ((cellN L xs (1 + (2 * i))) >>> ((10 : Int32) &&& 31)), .int 4]) (rest := []) ⟨hx, hb, hml, hown, hts⟩ (c_L_low l ((cellN L xs (1 + (2 * i))) >>> ((10 : Int32) &&& 31)) 4 (by omega)) (va_cwS 2 hts gL_law_L_low rfl rfl rfl (by decide +kernel) ⟨Nat.le_of_ble_eq_true rfl, Nat.le_of_ble_eq_true rfl⟩) ⟨fun _ _ _ _ z => z, fun _ _ _ => ⟨rfl, trivial⟩⟩ rfl rfl hl.1 rfl (lv_room (Nat.le_of_ble_eq_true rfl)) dL_law_109 ⟨(by show cells + 0 ≤ 122; omega), (by show slots + 0 ≤ 1087; omega)⟩)) (fun r9 hr => ?_)
  subst r9
  obtain ⟨v9, hv9, ev9⟩ := low_of ((cellN L xs (1 + (2 * i))) >>> ((10 : Int32) &&& 31)) (g := 4) (by decide) (by decide)
  refine lv_is (nI v9) ev9 ?_
  refine lv_istore (lv' := [(9, .int (nI v9)), (8, .int (nI g8)), (7, .int (nI f7)), (6, .int (cellN L xs (2 + (2 * i)))), (5, .int (cellN L xs (1 + (2 * i)))), (0, .ref b), (1, .ref (q 0)), (2, .int 1), (3, .int (nI N)), (4, .int (nI i))]) hx hb dL_law_112 hl (by decide) rfl (fun ls hl => ?_)
  refine lv_aload_n hx hb dL_law_114 rfl (lv_at hl 6 rfl) ?_
  refine lv_iload hx hb dL_law_115 (lv_at hl 2 rfl) ?_
  have hPc := hP.sub (ws' := (wB q cq T R S X M P (nI n) h (nI 0) w f d v (nI z))) [0, 1, 2, 3, 4, 5, 6, 7] rfl
  have hKc := hK.sub (tys' := (tyB cq)) [0, 1, 2, 3, 4, 5] rfl
  refine vp_callSi (va_Run.run (va_runV (As := [.int (nI f7)]) (rest := []) ⟨hx, hb, hml, hown, hts⟩ (c_X1_tableOf l D q cq T R S X M P (nI n) h (nI 0) w f d v (nI z) f7 (by omega)) (cwV 1 hts gL_law_X1_tableOf rfl rfl rfl (by decide +kernel) ⟨Nat.le_of_ble_eq_true rfl, Nat.le_of_ble_eq_true rfl⟩) ⟨fun a U g mk z => ⟨z.1, z.2.1, va_K.moved (u := U) (U := U.calling g mk a) (Vm.Alike.refl U.vm) z.2.2.1, z.2.2.2.blind g mk a⟩, va_recv hKc hPc (ci := 1) (q0 := 0) rfl rfl, fun U hU hW => ⟨rfl, by rw [hU]; exact hPc, va_K.moved hW.alike hKc, hE.at0 hS hU hW⟩⟩ rfl rfl hl.1 rfl (lv_room (Nat.le_of_ble_eq_true rfl)) dL_law_117 ⟨(by show cells + 0 ≤ 122; omega), (by show slots + 0 ≤ 1087; omega)⟩)) (fun r9 hr => ?_)
  subst r9
  refine lv_istore (lv' := [(10, .int (fX1_tableOf T f7)), (9, .int (nI v9)), (8, .int (nI g8)), (7, .int (nI f7)), (6, .int (cellN L xs (2 + (2 * i)))), (5, .int (cellN L xs (1 + (2 * i)))), (0, .ref b), (1, .ref (q 0)), (2, .int 1), (3, .int (nI N)), (4, .int (nI i))]) hx hb dL_law_120 hl (by decide) rfl (fun ls hl => ?_)
  refine lv_aload_n hx hb dL_law_122 rfl (lv_at hl 7 rfl) ?_
  refine lv_iload hx hb dL_law_123 (lv_at hl 2 rfl) ?_
  have hPc := hP.sub (ws' := (wB q cq T R S X M P (nI n) h (nI 0) w f d v (nI z))) [0, 1, 2, 3, 4, 5, 6, 7] rfl
  have hKc := hK.sub (tys' := (tyB cq)) [0, 1, 2, 3, 4, 5] rfl
  refine vp_callSi (va_Run.run (va_runV (As := [.int (nI g8)]) (rest := []) ⟨hx, hb, hml, hown, hts⟩ (c_X1_tableOf l D q cq T R S X M P (nI n) h (nI 0) w f d v (nI z) g8 (by omega)) (cwV 1 hts gL_law_X1_tableOf rfl rfl rfl (by decide +kernel) ⟨Nat.le_of_ble_eq_true rfl, Nat.le_of_ble_eq_true rfl⟩) ⟨fun a U g mk z => ⟨z.1, z.2.1, va_K.moved (u := U) (U := U.calling g mk a) (Vm.Alike.refl U.vm) z.2.2.1, z.2.2.2.blind g mk a⟩, va_recv hKc hPc (ci := 1) (q0 := 0) rfl rfl, fun U hU hW => ⟨rfl, by rw [hU]; exact hPc, va_K.moved hW.alike hKc, hE.at0 hS hU hW⟩⟩ rfl rfl hl.1 rfl (lv_room (Nat.le_of_ble_eq_true rfl)) dL_law_125 ⟨(by show cells + 0 ≤ 122; omega), (by show slots + 0 ≤ 1087; omega)⟩)) (fun r9 hr => ?_)
  subst r9
  refine lv_istore (lv' := [(11, .int (fX1_tableOf T g8)), (10, .int (fX1_tableOf T f7)), (9, .int (nI v9)), (8, .int (nI g8)), (7, .int (nI f7)), (6, .int (cellN L xs (2 + (2 * i)))), (5, .int (cellN L xs (1 + (2 * i)))), (0, .ref b), (1, .ref (q 0)), (2, .int 1), (3, .int (nI N)), (4, .int (nI i))]) hx hb dL_law_128 hl (by decide) rfl (fun ls hl => ?_)
  refine lv_iload hx hb dL_law_130 (lv_at hl 6 rfl) ?_
  refine lv_bipush (v := 10) hx hb dL_law_132 (by decide) ?_
  refine vp_callSi (va_Run.run (va_runS (As := [.int (cellN L xs (1 + (2 * i))), .int 10]) (rest := []) ⟨hx, hb, hml, hown, hts⟩ (c_L_low l (cellN L xs (1 + (2 * i))) 10 (by omega)) (va_cwS 2 hts gL_law_L_low rfl rfl rfl (by decide +kernel) ⟨Nat.le_of_ble_eq_true rfl, Nat.le_of_ble_eq_true rfl⟩) ⟨fun _ _ _ _ z => z, fun _ _ _ => ⟨rfl, trivial⟩⟩ rfl rfl hl.1 rfl (lv_room (Nat.le_of_ble_eq_true rfl)) dL_law_134 ⟨(by show cells + 0 ≤ 122; omega), (by show slots + 0 ≤ 1087; omega)⟩)) (fun r9 hr => ?_)
  subst r9
  obtain ⟨j10, hj10, ej10⟩ := low_of (cellN L xs (1 + (2 * i))) (g := 10) (by decide) (by decide)
  refine lv_is (nI j10) ej10 ?_
  have hj2 : j10 = 0 ∨ j10 = 1 ∨ j10 = 2 ∨ j10 = 3 ∨ j10 = 4 ∨ j10 = 5 ∨ j10 = 6 ∨ j10 = 7 ∨ j10 = 8 ∨ j10 = 9 := by omega
  rcases hj2 with h9 | h9 | h9 | h9 | h9 | h9 | h9 | h9 | h9 | h9
  · subst h9
    refine lv_tableIn (tgt := 188) hx hb dL_law_137 (by decide) (by decide) (show _ = some _ from rfl) (by decide) ?_
    exact j_0 hst hL hx hb hr hml hown hts hX hbl hA hbA hE hK S h T R X M P n z w f d v hT hR hn hP9 N i f7 g8 v9 (cellN L xs (1 + (2 * i))) (cellN L xs (2 + (2 * i))) hf7 hg8 hv9 H locs hP hD hS ls (lv_sub hl [7, 8, 9, 10, 11, 6, 5, 4, 3, 2, 1, 0] rfl) hc hs (kk9 f7 g8 hf7 hg8)
  · subst h9
    refine lv_tableIn (tgt := 188) hx hb dL_law_137 (by decide) (by decide) (show _ = some _ from rfl) (by decide) ?_
    exact j_0 hst hL hx hb hr hml hown hts hX hbl hA hbA hE hK S h T R X M P n z w f d v hT hR hn hP9 N i f7 g8 v9 (cellN L xs (1 + (2 * i))) (cellN L xs (2 + (2 * i))) hf7 hg8 hv9 H locs hP hD hS ls (lv_sub hl [7, 8, 9, 10, 11, 6, 5, 4, 3, 2, 1, 0] rfl) hc hs (kk9 f7 g8 hf7 hg8)
  · subst h9
    refine lv_tableIn (tgt := 188) hx hb dL_law_137 (by decide) (by decide) (show _ = some _ from rfl) (by decide) ?_
    exact j_0 hst hL hx hb hr hml hown hts hX hbl hA hbA hE hK S h T R X M P n z w f d v hT hR hn hP9 N i f7 g8 v9 (cellN L xs (1 + (2 * i))) (cellN L xs (2 + (2 * i))) hf7 hg8 hv9 H locs hP hD hS ls (lv_sub hl [7, 8, 9, 10, 11, 6, 5, 4, 3, 2, 1, 0] rfl) hc hs (kk9 f7 g8 hf7 hg8)
  · subst h9
    refine lv_tableIn (tgt := 227) hx hb dL_law_137 (by decide) (by decide) (show _ = some _ from rfl) (by decide) ?_
    exact j_3 hst hL hx hb hr hml hown hts hX hbl hA hbA hE hK S h T R X M P n z w f d v hT hR hn hP9 N i f7 g8 v9 (cellN L xs (1 + (2 * i))) (cellN L xs (2 + (2 * i))) hf7 hg8 hv9 H locs hP hD hS ls (lv_sub hl [7, 8, 9, 10, 11, 6, 5, 4, 3, 2, 1, 0] rfl) hc hs (kk9 f7 g8 hf7 hg8)
  · subst h9
    refine lv_tableIn (tgt := 270) hx hb dL_law_137 (by decide) (by decide) (show _ = some _ from rfl) (by decide) ?_
    exact j_4 hst hL hx hb hr hml hown hts hX hbl hA hbA hE hK S h T R X M P n z w f d v hT hR hn hP9 N i f7 g8 v9 (cellN L xs (1 + (2 * i))) (cellN L xs (2 + (2 * i))) hf7 hg8 hv9 H locs hP hD hS ls (lv_sub hl [7, 8, 9, 10, 11, 6, 5, 4, 3, 2, 1, 0] rfl) hc hs (kk9 f7 g8 hf7 hg8)
  · subst h9
    refine lv_tableIn (tgt := 304) hx hb dL_law_137 (by decide) (by decide) (show _ = some _ from rfl) (by decide) ?_
    exact j_5 hst hL hx hb hr hml hown hts hX hbl hA hbA hE hK S h T R X M P n z w f d v hT hR hn hP9 N i f7 g8 v9 (cellN L xs (1 + (2 * i))) (cellN L xs (2 + (2 * i))) hf7 hg8 hv9 H locs hP hD hS ls (lv_sub hl [7, 8, 9, 10, 11, 6, 5, 4, 3, 2, 1, 0] rfl) hc hs (kk9 f7 g8 hf7 hg8)
  · subst h9
    refine lv_tableIn (tgt := 355) hx hb dL_law_137 (by decide) (by decide) (show _ = some _ from rfl) (by decide) ?_
    exact j_6 hst hL hx hb hr hml hown hts hX hbl hA hbA hE hK S h T R X M P n z w f d v hT hR hn hP9 N i f7 g8 v9 (cellN L xs (1 + (2 * i))) (cellN L xs (2 + (2 * i))) hf7 hg8 hv9 H locs hP hD hS ls (lv_sub hl [7, 8, 9, 10, 11, 6, 5, 4, 3, 2, 1, 0] rfl) hc hs (kk9 f7 g8 hf7 hg8)
  · subst h9
    refine lv_tableIn (tgt := 404) hx hb dL_law_137 (by decide) (by decide) (show _ = some _ from rfl) (by decide) ?_
    exact j_7 hst hL hx hb hr hml hown hts hX hbl hA hbA hE hK S h T R X M P n z w f d v hT hR hn hP9 N i f7 g8 v9 (cellN L xs (1 + (2 * i))) (cellN L xs (2 + (2 * i))) hf7 hg8 hv9 H locs hP hD hS ls (lv_sub hl [7, 8, 9, 10, 11, 6, 5, 4, 3, 2, 1, 0] rfl) hc hs (kk9 f7 g8 hf7 hg8)
  · subst h9
    refine lv_tableIn (tgt := 496) hx hb dL_law_137 (by decide) (by decide) (show _ = some _ from rfl) (by decide) ?_
    exact j_8 hst hL hx hb hr hml hown hts hX hbl hA hbA hE hK S h T R X M P n z w f d v hT hR hn hP9 N i f7 g8 v9 (cellN L xs (1 + (2 * i))) (cellN L xs (2 + (2 * i))) hf7 hg8 hv9 H locs hP hD hS ls (lv_sub hl [7, 8, 9, 10, 11, 6, 5, 4, 3, 2, 1, 0] rfl) hc hs (kk9 f7 g8 hf7 hg8)
  · subst h9
    refine lv_tableOut (tgt := 560) hx hb dL_law_137 (Or.inr (by decide)) (by decide) ?_
    exact j_9 hst hL hx hb hr hml hown hts hX hbl hA hbA hE hK S h T R X M P n z w f d v hT hR hn hP9 N i f7 g8 v9 (cellN L xs (1 + (2 * i))) (cellN L xs (2 + (2 * i))) hf7 hg8 hv9 H locs hP hD hS ls (lv_sub hl [7, 8, 9, 10, 11, 6, 5, 4, 3, 2, 1, 0] rfl) hc hs (kk9 f7 g8 hf7 hg8)
