/-! The law: its world, its own small rows, and its switch, case by case. -/
/-- what the two hold, told once for both; what the text's reader, the working rows and the reference's marks hold besides; the row for the answer -/
abbrev LwS : Type := (Nat → Int32) × (Nat → Int32) × (Nat → Int32) × (Nat → Int32) × (Nat → Int32) × (Nat → Int32) × Nat × Nat × Nat × Nat × Int32 × Int32 × Int32 × Int32 × Int32 × Int32 × Int32 × (Nat → Int64)
/-- all of the row are characters -/
def pch (P : Nat → Int32) : Prop := ∀ j, vp_nar .char (P j) = P j
def okS (σ : LwS) : Prop := tbs σ.1 ∧ tbs σ.2.1 ∧ tbs σ.2.2.1 ∧ σ.2.2.2.2.2.2.1 ≤ 4 ∧ σ.2.2.2.2.2.2.2.1 ≤ 80 ∧ pch σ.2.2.2.2.2.1
abbrev wW (q : Nat → Nat) (cq : Nat → ClassId) (o9 : Nat) (co : ClassId) (qm : Nat → Nat) (cm : Nat → ClassId) (V : Nat → Int64) (T R S X M P : Nat → Int32) (n h k w f d v z : Int32) (T2 R2 S2 X2 : Nat → Int32) (n2 h2 k2 th a o : Int32) : va_W :=
  wL q cq o9 co V T R S X M P n h k w f d v z ++ wM qm cm T2 R2 S2 X2 n2 h2 k2 th a o
abbrev wA (q : Nat → Nat) (cq : Nat → ClassId) (o9 : Nat) (co : ClassId) (qm : Nat → Nat) (cm : Nat → ClassId) (σ : LwS) : va_W :=
  wW q cq o9 co qm cm σ.2.2.2.2.2.2.2.2.2.2.2.2.2.2.2.2.2 σ.1 σ.2.1 σ.2.2.1 σ.2.2.2.1 σ.2.2.2.2.1 σ.2.2.2.2.2.1 (nI σ.2.2.2.2.2.2.1) σ.2.2.2.2.2.2.2.2.2.2.1 (nI σ.2.2.2.2.2.2.2.1) σ.2.2.2.2.2.2.2.2.2.2.2.1 σ.2.2.2.2.2.2.2.2.2.2.2.2.1 σ.2.2.2.2.2.2.2.2.2.2.2.2.2.1 σ.2.2.2.2.2.2.2.2.2.2.2.2.2.2.1 (nI σ.2.2.2.2.2.2.2.2.1) σ.1 σ.2.1 σ.2.2.1 σ.2.2.2.1 (nI σ.2.2.2.2.2.2.1) σ.2.2.2.2.2.2.2.2.2.2.1 (nI σ.2.2.2.2.2.2.2.1) σ.2.2.2.2.2.2.2.2.2.2.2.2.2.2.2.1 (nI σ.2.2.2.2.2.2.2.2.2.1) σ.2.2.2.2.2.2.2.2.2.2.2.2.2.2.2.2.1
abbrev tyA (cq : Nat → ClassId) (co : ClassId) (cm : Nat → ClassId) : List (ClassId × FieldType) := tyL cq co ++ tyM cm
abbrev lvA (b : Nat) (q : Nat → Nat) (o9 : Nat) (qm : Nat → Nat) (i : Nat) : List (Nat × Value) := [(0, .ref b), (1, .ref (q 0)), (2, .ref (qm 0)), (3, .ref o9), (4, .int (nI i))]
theorem pch_len {T P : Nat → Int32} (h : pch P) (z : Nat) (x : Int32) : pch (fX1_printedLength T P z x).2.1 := by
  unfold fX1_printedLength
  split
  · exact fX1_print_ch h
  · exact h
theorem pch_let {T P : Nat → Int32} (h : pch P) (z : Nat) (x x2 : Int32) : pch (fX1_printedLetter T P z x x2).2.1 := by
  unfold fX1_printedLetter
  split
  · split
    · exact fX1_print_ch h
    · split
      · exact fX1_print_ch h
      · exact fX1_print_ch h
  · exact h
theorem i2c_nar (x : Int32) : vp_nar .char ((x.toUInt32 % 65536).toInt32) = (x.toUInt32 % 65536).toInt32 := by
  rw [vp_nar_char]
  show ((x.toUInt32 % 65536).toUInt16.toUInt32).toInt32 = _
  congr 1
  apply UInt32.toNat_inj.mp
  simp
theorem cd1_0 {k : Nat} (h : cd1 k = 0) : k = 0 := by
  unfold cd1 at h
  by_cases h0 : k = 0
  · exact h0
  · rw [if_neg h0] at h; exact absurd h (by decide)
theorem cd2_0 {k : Nat} (h : cd2 k = 0) : k = 0 := by
  unfold cd2 at h
  by_cases h0 : k = 0
  · exact h0
  · rw [if_neg h0] at h
    split at h <;> exact absurd h (by decide)
theorem lg_self (x : Int64) : lg_cmp x x = 0 := by
  unfold lg_cmp
  rw [if_neg (by rw [gt_iff_lt, Int64.lt_iff_toInt_lt]; omega), if_pos rfl]
section TERN
variable {p : Program} {l : Launch} {e : Env} {R : Room} {s : State} {m : MethodId} {args : Array Value} {below : List Frame} {meth : Method} {c : Code} {H : Heap} {locs : List Loc} {cells slots : Nat} {Q : State → Prop} {cc : ByteArray} {pc : Nat} {ls : Array Slot} {rest : List Value}
theorem lv_isL {x : Int64} (y : Int64) (h : x = y) (k : W p l e R s m args below meth c H locs cells slots Q (F0 m pc ls (.long y :: rest))) : W p l e R s m args below meth c H locs cells slots Q (F0 m pc ls (.long x :: rest)) := by
  subst h; exact k
theorem lv_tern (hx : p.tables.exec = Jvm.exec) (hb : c.code = cc) {x : Int32} (d0 : decode cc pc = .ok (.ifCond .eq 7, 3)) (d1 : decode cc (pc + 3) = .ok (.iconst 1, 1)) (d2 : decode cc (pc + 4) = .ok (.goto 4, 3)) (d3 : decode cc (pc + 7) = .ok (.iconst 0, 1))
    (k : W p l e R s m args below meth c H locs cells slots Q (F0 m (pc + 8) ls (.int (if x = 0 then 0 else 1 : Int32) :: rest))) : W p l e R s m args below meth c H locs cells slots Q (F0 m pc ls (.int x :: rest)) := by
  refine lv_if_eq (tgt := pc + 7) hx hb d0 (by omega) (fun c1 => ?_) (fun c1 => ?_)
  · refine lv_iconst (v := 0) hx hb d3 (by decide) ?_
    rw [if_pos c1] at k; exact k
  · refine lv_iconst (v := 1) hx hb d1 (by decide) ?_
    refine lv_goto (tgt := pc + 8) hx hb d2 (by omega) ?_
    rw [if_neg c1] at k; exact k
theorem lv_ternL (hx : p.tables.exec = Jvm.exec) (hb : c.code = cc) {x : Int32} (d0 : decode cc pc = .ok (.ifCond .eq 7, 3)) (d1 : decode cc (pc + 3) = .ok (.lconst 1, 1)) (d2 : decode cc (pc + 4) = .ok (.goto 4, 3)) (d3 : decode cc (pc + 7) = .ok (.lconst 0, 1))
    (k : W p l e R s m args below meth c H locs cells slots Q (F0 m (pc + 8) ls (.long (if x = 0 then 0 else 1 : Int64) :: rest))) : W p l e R s m args below meth c H locs cells slots Q (F0 m pc ls (.int x :: rest)) := by
  refine lv_if_eq (tgt := pc + 7) hx hb d0 (by omega) (fun c1 => ?_) (fun c1 => ?_)
  · refine lv_lconst (v := 0) hx hb d3 rfl ?_
    rw [if_pos c1] at k; exact k
  · refine lv_lconst (v := 1) hx hb d1 rfl ?_
    refine lv_goto (tgt := pc + 8) hx hb d2 (by omega) ?_
    rw [if_neg c1] at k; exact k
end TERN
set_option maxHeartbeats 4000000 in
set_option maxRecDepth 100000 in
theorem k_define {p : Program} {l : Launch} (hst : l.stackTraces = false) {e : Env} {s : State} {m : MethodId} {below : List Frame} {meth : Method} {c : Code} {b L : Nat} {xs : Nat → Int32} (hL : L ≤ 2560) (C0 : lw_At p s m meth c b L xs) (hE : envE (fun q : Nat => s.heap.size ≤ q) s) {D : va_G} {q : Nat → Nat} {cq : Nat → ClassId} {o9 : Nat} {co : ClassId} {qm : Nat → Nat} {cm : Nat → ClassId} (hK : va_K D vwCl (tyA cq co cm) s) (σ : LwS) (hok : okS σ) (H : Heap) (locs : List Loc) (hP : va_P D vwCl (wA q cq o9 co qm cm σ) H) (hD : va_D (fun q : Nat => s.heap.size ≤ q) (wA q cq o9 co qm cm σ)) (hS : va_S (fun q : Nat => s.heap.size ≤ q) s.heap H locs) (i : Nat) (hi : i + 5 ≤ L) (ls : Array Slot) (hl : lv_has ls 7 (lvA b q o9 qm i)) {cells slots : Nat} (hc : cells + 1 ≤ 1049) (hs : slots + 6 ≤ 8580) {Q : State → Prop} (kk : ∀ σ2 : LwS, okS σ2 → ∀ (H2 : Heap) (locs2 : List Loc), va_P D vwCl (wA q cq o9 co qm cm σ2) H2 → va_D (fun q : Nat => s.heap.size ≤ q) (wA q cq o9 co qm cm σ2) → va_S (fun q : Nat => s.heap.size ≤ q) s.heap H2 locs2 → ∀ ls2 : Array Slot, lv_has ls2 7 (lvA b q o9 qm i) → W p l e room_1 s m #[Value.ref b] below meth c H2 locs2 (cells + 1) (slots + 6) Q (F0 m 1659 ls2 [])) : W p l e room_1 s m #[Value.ref b] below meth c H locs cells slots Q (F0 m 164 ls []) := by
  obtain ⟨hx, hb, hr, hml, hown, hts, hX, hbl, hlocks, hgv⟩ := C0
  have hown : s.vm.findClass RL = some m.cls := hown
  have hts : ∀ w ∈ wsL_law, w.before #[Value.ref b] s = true := fun w hw => hts w (wsL_law_in w hw)
  have hA : ∀ q : Nat, s.heap.size ≤ q → (fun q : Nat => s.heap.size ≤ q) q := fun _ h => h
  have hbA : ¬ (fun q : Nat => s.heap.size ≤ q) b := Nat.not_le.mpr hbl
  obtain ⟨T, R, S, X, M, P, n, k, z, a, h, w, f, d, v, th, o, V9⟩ := σ
  obtain ⟨hT, hR, hS9, hn, hk9, hP9⟩ := hok
  dsimp only at hT hR hS9 hn hk9 hP9
  have hP : va_P D vwCl (wW q cq o9 co qm cm V9 T R S X M P (nI n) h (nI k) w f d v (nI z) T R S X (nI n) h (nI k) th (nI a) o) H := hP
  have hD : va_D (fun q : Nat => s.heap.size ≤ q) (wW q cq o9 co qm cm V9 T R S X M P (nI n) h (nI k) w f d v (nI z) T R S X (nI n) h (nI k) th (nI a) o) := hD
  refine lv_aload_n hx hb dL_law_164 rfl (lv_at hl 1 rfl) ?_
  refine lv_aload_n hx hb dL_law_165 rfl (lv_at hl 0 rfl) ?_
  refine lv_iload hx hb dL_law_166 (lv_at hl 4 rfl) ?_
  refine lv_iconst (v := 1) hx hb dL_law_168 (by decide) ?_
  refine lv_iadd hx hb dL_law_169 ?_
  refine lv_is (nI (i + 1)) (nI_add i 1) ?_
  refine va_sld hx hb hX hbl hbA hS (i := nI (i + 1)) (vp_in_nI (by omega) (by omega)) dL_law_170 ?_
  refine lv_is (xs (i + 1)) (by rw [nI_clamp (by omega)]) ?_
  refine lv_aload_n hx hb dL_law_171 rfl (lv_at hl 3 rfl) ?_
  have hPc := hP.sub (ws' := (wL q cq o9 co V9 T R S X M P (nI n) h (nI k) w f d v (nI z))) [0, 1, 2, 3, 4, 5, 6, 7, 8] rfl
  have hKc := hK.sub (tys' := (tyL cq co)) [0, 1, 2, 3, 4, 5, 6] rfl
  have hDc := hD.sub (ws' := (wL q cq o9 co V9 T R S X M P (nI n) h (nI k) w f d v (nI z))) [0, 1, 2, 3, 4, 5, 6, 7, 8] (by decide) rfl
  have hFc := va_free (wc := (wL q cq o9 co V9 T R S X M P (nI n) h (nI k) w f d v (nI z))) hD hS hA [0, 1, 2, 3, 4, 5, 6, 7, 8] rfl
  refine va_calli (vx_runSW (As := [.ref (q 0), .int (xs (i + 1)), .ref o9]) (rest := []) ⟨hx, hb, hml, hown, hts⟩ (c_L_define l hst D q cq o9 co V9 H.size T R S X M P n h k w f d v (nI z) (xs (i + 1)) hn hk9) (vx_cwSW 3 hts gL_law_L_define rfl rfl rfl (by decide +kernel) ⟨Nat.le_of_ble_eq_true rfl, Nat.le_of_ble_eq_true rfl⟩) ⟨fun a U g mk z => ⟨z.1, z.2.1, z.2.2.1, va_K.moved (u := U) (U := U.calling g mk a) (Vm.Alike.refl U.vm) z.2.2.2.1, z.2.2.2.2.1, z.2.2.2.2.2.blind g mk a⟩, fun U hU hW => ⟨rfl, by rw [hU], by rw [hU]; exact hPc, va_K.moved hW.alike hKc, hDc.weaken (fun _ _ _ _ => trivial), hE.at hS hU hW hFc⟩⟩ rfl rfl hl.1 rfl (lv_room (Nat.le_of_ble_eq_true rfl)) dL_law_172 ⟨(by show cells + 1 ≤ 1049; omega), (by show slots + 6 ≤ 8580; omega)⟩) hS (fun q _ h => hFc q h) hFc (fun r9 u9 t8 H1 locs ht hvm hw hB hz1 hk1 hS => ?_)
  obtain ⟨hP1, hD1⟩ := hB
  rw [ht] at hP1
  obtain ⟨hP, hD⟩ := va_join (wr := (wM qm cm T R S X (nI n) h (nI k) th (nI a) o)) (w1 := (wL q cq o9 co (VO (kX1_define X k (xs (i + 1))) V9 ((fX1_define T R X n k w f d v (xs (i + 1))).1).toInt64) ((fX1_define T R X n k w f d v (xs (i + 1))).2.1) ((fX1_define T R X n k w f d v (xs (i + 1))).2.2.1) S X M P (nI (fX1_define T R X n k w f d v (xs (i + 1))).2.2.2.1) h (nI k) ((fX1_define T R X n k w f d v (xs (i + 1))).2.2.2.2.1) ((fX1_define T R X n k w f d v (xs (i + 1))).2.2.2.2.2.1) ((fX1_define T R X n k w f d v (xs (i + 1))).2.2.2.2.2.2.1) ((fX1_define T R X n k w f d v (xs (i + 1))).2.2.2.2.2.2.2) (nI z))) hP hD [0, 1, 2, 3, 4, 5, 6, 7, 8] [9, 10, 11, 12, 13] rfl rfl (by decide) (by decide) hk1 hFc hP1 hD1
  have hP := hP.sub (ws' := (wW q cq o9 co qm cm (VO (kX1_define X k (xs (i + 1))) V9 ((fX1_define T R X n k w f d v (xs (i + 1))).1).toInt64) ((fX1_define T R X n k w f d v (xs (i + 1))).2.1) ((fX1_define T R X n k w f d v (xs (i + 1))).2.2.1) S X M P (nI (fX1_define T R X n k w f d v (xs (i + 1))).2.2.2.1) h (nI k) ((fX1_define T R X n k w f d v (xs (i + 1))).2.2.2.2.1) ((fX1_define T R X n k w f d v (xs (i + 1))).2.2.2.2.2.1) ((fX1_define T R X n k w f d v (xs (i + 1))).2.2.2.2.2.2.1) ((fX1_define T R X n k w f d v (xs (i + 1))).2.2.2.2.2.2.2) (nI z) T R S X (nI n) h (nI k) th (nI a) o)) [5, 6, 7, 8, 9, 10, 11, 12, 13, 0, 1, 2, 3, 4] rfl
  have hD := hD.sub (ws' := (wW q cq o9 co qm cm (VO (kX1_define X k (xs (i + 1))) V9 ((fX1_define T R X n k w f d v (xs (i + 1))).1).toInt64) ((fX1_define T R X n k w f d v (xs (i + 1))).2.1) ((fX1_define T R X n k w f d v (xs (i + 1))).2.2.1) S X M P (nI (fX1_define T R X n k w f d v (xs (i + 1))).2.2.2.1) h (nI k) ((fX1_define T R X n k w f d v (xs (i + 1))).2.2.2.2.1) ((fX1_define T R X n k w f d v (xs (i + 1))).2.2.2.2.2.1) ((fX1_define T R X n k w f d v (xs (i + 1))).2.2.2.2.2.2.1) ((fX1_define T R X n k w f d v (xs (i + 1))).2.2.2.2.2.2.2) (nI z) T R S X (nI n) h (nI k) th (nI a) o)) [5, 6, 7, 8, 9, 10, 11, 12, 13, 0, 1, 2, 3, 4] (by decide) rfl
  generalize H1 = H at hP hS ⊢
  subst r9
  refine lv_istore (lv' := [(5, .int (cd2 (kX1_define X k (xs (i + 1))))), (0, .ref b), (1, .ref (q 0)), (2, .ref (qm 0)), (3, .ref o9), (4, .int (nI i))]) hx hb dL_law_175 hl (by decide) rfl (fun ls hl => ?_)
  refine lv_aload_n hx hb dL_law_177 rfl (lv_at hl 3 rfl) ?_
  refine lv_aload_n hx hb dL_law_178 rfl (lv_at hl 1 rfl) ?_
  refine lv_iload hx hb dL_law_179 (lv_at hl 5 rfl) ?_
  refine lv_iconst (v := 1) hx hb dL_law_181 (by decide) ?_
  refine lv_iadd hx hb dL_law_182 ?_
  refine lv_is (nI (i + 1)) (nI_add i 1) ?_
  refine va_sld hx hb hX hbl hbA hS (i := nI (i + 1)) (vp_in_nI (by omega) (by omega)) dL_law_183 ?_
  refine lv_is (xs (i + 1)) (by rw [nI_clamp (by omega)]) ?_
  have hPc := hP.sub (ws' := (wM qm cm T R S X (nI n) h (nI k) th (nI a) o)) [9, 10, 11, 12, 13] rfl
  have hKc := hK.sub (tys' := (tyM cm)) [7, 8, 9, 10] rfl
  have hDc := hD.sub (ws' := (wM qm cm T R S X (nI n) h (nI k) th (nI a) o)) [9, 10, 11, 12, 13] (by decide) rfl
  have hFc := va_free (wc := (wM qm cm T R S X (nI n) h (nI k) th (nI a) o)) hD hS hA [9, 10, 11, 12, 13] rfl
  refine va_calli (va_runV (As := [.int (xs (i + 1))]) (rest := []) ⟨hx, hb, hml, hown, hts⟩ (c_X2_define l D qm cm H.size T R S X n h k th a o (xs (i + 1)) hn hk9) (cwV 1 hts gL_law_X2_define rfl rfl rfl (by decide +kernel) ⟨Nat.le_of_ble_eq_true rfl, Nat.le_of_ble_eq_true rfl⟩) ⟨fun a U g mk z => ⟨z.1, z.2.1, z.2.2.1, va_K.moved (u := U) (U := U.calling g mk a) (Vm.Alike.refl U.vm) z.2.2.2.1, z.2.2.2.2.1, z.2.2.2.2.2.blind g mk a⟩, va_recv hKc hPc (ci := 2) (q0 := 0) rfl rfl, fun U hU hW => ⟨rfl, by rw [hU], by rw [hU]; exact hPc, va_K.moved hW.alike hKc, hDc.weaken (fun _ _ _ _ => trivial), hE.at hS hU hW hFc⟩⟩ rfl rfl hl.1 rfl (lv_room (Nat.le_of_ble_eq_true rfl)) dL_law_184 ⟨(by show cells + 1 ≤ 1049; omega), (by show slots + 6 ≤ 8580; omega)⟩) hS (fun q _ h => hFc q h) hFc (fun r9 u9 t8 H1 locs ht hvm hw hB hz1 hk1 hS => ?_)
  obtain ⟨hP1, hD1⟩ := hB
  rw [ht] at hP1
  obtain ⟨hP, hD⟩ := va_join (wr := (wL q cq o9 co (VO (kX1_define X k (xs (i + 1))) V9 ((fX1_define T R X n k w f d v (xs (i + 1))).1).toInt64) ((fX1_define T R X n k w f d v (xs (i + 1))).2.1) ((fX1_define T R X n k w f d v (xs (i + 1))).2.2.1) S X M P (nI (fX1_define T R X n k w f d v (xs (i + 1))).2.2.2.1) h (nI k) ((fX1_define T R X n k w f d v (xs (i + 1))).2.2.2.2.1) ((fX1_define T R X n k w f d v (xs (i + 1))).2.2.2.2.2.1) ((fX1_define T R X n k w f d v (xs (i + 1))).2.2.2.2.2.2.1) ((fX1_define T R X n k w f d v (xs (i + 1))).2.2.2.2.2.2.2) (nI z))) (w1 := (wM qm cm ((fX2_define T R X n k a o (xs (i + 1))).2.1) ((fX2_define T R X n k a o (xs (i + 1))).2.2.1) S X (nI (fX2_define T R X n k a o (xs (i + 1))).2.2.2.1) h (nI k) ((fX2_define T R X n k a o (xs (i + 1))).2.2.2.2.1) (nI (fX2_define T R X n k a o (xs (i + 1))).2.2.2.2.2.1) ((fX2_define T R X n k a o (xs (i + 1))).2.2.2.2.2.2))) hP hD [9, 10, 11, 12, 13] [0, 1, 2, 3, 4, 5, 6, 7, 8] rfl rfl (by decide) (by decide) hk1 hFc hP1 hD1
  generalize H1 = H at hP hS ⊢
  have hP : va_P D vwCl (wW q cq o9 co qm cm (VO (kX1_define X k (xs (i + 1))) V9 ((fX1_define T R X n k w f d v (xs (i + 1))).1).toInt64) ((fX1_define T R X n k w f d v (xs (i + 1))).2.1) ((fX1_define T R X n k w f d v (xs (i + 1))).2.2.1) S X M P (nI (fX1_define T R X n k w f d v (xs (i + 1))).2.2.2.1) h (nI k) ((fX1_define T R X n k w f d v (xs (i + 1))).2.2.2.2.1) ((fX1_define T R X n k w f d v (xs (i + 1))).2.2.2.2.2.1) ((fX1_define T R X n k w f d v (xs (i + 1))).2.2.2.2.2.2.1) ((fX1_define T R X n k w f d v (xs (i + 1))).2.2.2.2.2.2.2) (nI z) ((fX2_define T R X n k a o (xs (i + 1))).2.1) ((fX2_define T R X n k a o (xs (i + 1))).2.2.1) S X (nI (fX2_define T R X n k a o (xs (i + 1))).2.2.2.1) h (nI k) ((fX2_define T R X n k a o (xs (i + 1))).2.2.2.2.1) (nI (fX2_define T R X n k a o (xs (i + 1))).2.2.2.2.2.1) ((fX2_define T R X n k a o (xs (i + 1))).2.2.2.2.2.2)) H := hP
  have hD : va_D (fun q : Nat => s.heap.size ≤ q) (wW q cq o9 co qm cm (VO (kX1_define X k (xs (i + 1))) V9 ((fX1_define T R X n k w f d v (xs (i + 1))).1).toInt64) ((fX1_define T R X n k w f d v (xs (i + 1))).2.1) ((fX1_define T R X n k w f d v (xs (i + 1))).2.2.1) S X M P (nI (fX1_define T R X n k w f d v (xs (i + 1))).2.2.2.1) h (nI k) ((fX1_define T R X n k w f d v (xs (i + 1))).2.2.2.2.1) ((fX1_define T R X n k w f d v (xs (i + 1))).2.2.2.2.2.1) ((fX1_define T R X n k w f d v (xs (i + 1))).2.2.2.2.2.2.1) ((fX1_define T R X n k w f d v (xs (i + 1))).2.2.2.2.2.2.2) (nI z) ((fX2_define T R X n k a o (xs (i + 1))).2.1) ((fX2_define T R X n k a o (xs (i + 1))).2.2.1) S X (nI (fX2_define T R X n k a o (xs (i + 1))).2.2.2.1) h (nI k) ((fX2_define T R X n k a o (xs (i + 1))).2.2.2.2.1) (nI (fX2_define T R X n k a o (xs (i + 1))).2.2.2.2.2.1) ((fX2_define T R X n k a o (xs (i + 1))).2.2.2.2.2.2)) := hD
  subst r9
  have he := e_define hT hR hn X hk9 w f d v a o (xs (i + 1))
  rw [he.2.1.1, he.2.1.2.1, he.2.1.2.2] at hP hD
  refine lv_istore (lv' := [(6, .int ((fX2_define T R X n k a o (xs (i + 1))).1)), (5, .int (cd2 (kX1_define X k (xs (i + 1))))), (0, .ref b), (1, .ref (q 0)), (2, .ref (qm 0)), (3, .ref o9), (4, .int (nI i))]) hx hb dL_law_187 hl (by decide) rfl (fun ls hl => ?_)
  refine lv_aload_n hx hb dL_law_189 rfl (lv_at hl 4 rfl) ?_
  have hPc := hP.sub (ws' := (wM qm cm ((fX1_define T R X n k w f d v (xs (i + 1))).2.1) ((fX1_define T R X n k w f d v (xs (i + 1))).2.2.1) S X (nI ((fX1_define T R X n k w f d v (xs (i + 1))).2.2.2.1)) h (nI (k)) ((fX2_define T R X n k a o (xs (i + 1))).2.2.2.2.1) (nI ((fX2_define T R X n k a o (xs (i + 1))).2.2.2.2.2.1)) ((fX2_define T R X n k a o (xs (i + 1))).2.2.2.2.2.2))) [9, 10, 11, 12, 13] rfl
  have hKc := hK.sub (tys' := (tyM cm)) [7, 8, 9, 10] rfl
  refine vp_callSi (va_Run.run (va_runV (As := []) (rest := []) ⟨hx, hb, hml, hown, hts⟩ (c_X2_thrown l D qm cm ((fX1_define T R X n k w f d v (xs (i + 1))).2.1) ((fX1_define T R X n k w f d v (xs (i + 1))).2.2.1) S X (nI ((fX1_define T R X n k w f d v (xs (i + 1))).2.2.2.1)) h (nI (k)) ((fX2_define T R X n k a o (xs (i + 1))).2.2.2.2.1) (nI ((fX2_define T R X n k a o (xs (i + 1))).2.2.2.2.2.1)) ((fX2_define T R X n k a o (xs (i + 1))).2.2.2.2.2.2)) (cwV 0 hts gL_law_X2_thrown rfl rfl rfl (by decide +kernel) ⟨Nat.le_of_ble_eq_true rfl, Nat.le_of_ble_eq_true rfl⟩) ⟨fun a U g mk z => ⟨z.1, z.2.1, va_K.moved (u := U) (U := U.calling g mk a) (Vm.Alike.refl U.vm) z.2.2.1, z.2.2.2.blind g mk a⟩, va_recv hKc hPc (ci := 2) (q0 := 0) rfl rfl, fun U hU hW => ⟨rfl, by rw [hU]; exact hPc, va_K.moved hW.alike hKc, hE.at0 hS hU hW⟩⟩ rfl rfl hl.1 rfl (lv_room (Nat.le_of_ble_eq_true rfl)) dL_law_190 ⟨(by show cells + 1 ≤ 1049; omega), (by show slots + 6 ≤ 8580; omega)⟩)) (fun r9 hr9 => ?_)
  subst r9
  refine lv_iload hx hb dL_law_193 (lv_at hl 1 rfl) ?_
  have halt := he.1
  have hth : ((fX2_define T R X n k a o (xs (i + 1))).2.2.2.2.1) = cd2 (kX1_define X k (xs (i + 1))) := by
    rcases halt with ⟨h1, h2, h3⟩ | ⟨h1, h2⟩ | ⟨h1, h2⟩ <;> (rw [h1, h2]; rfl)
  have hval : (kX1_define X k (xs (i + 1))) = 0 → (fX1_define T R X n k w f d v (xs (i + 1))).1 = (fX2_define T R X n k a o (xs (i + 1))).1 := by
    intro h0
    rcases halt with ⟨h1, h2, h3⟩ | ⟨h1, h2⟩ | ⟨h1, h2⟩
    · exact h3
    · rw [h1] at h0; exact absurd h0 (by decide)
    · rw [h1] at h0; exact absurd h0 (by decide)
  refine lv_icmp_eq (tgt := 200) hx hb dL_law_195 (by decide) (fun c1 => ?_) (fun c1 => absurd (show fX2_thrown ((fX2_define T R X n k a o (xs (i + 1))).2.2.2.2.1) = cd2 (kX1_define X k (xs (i + 1))) from hth) c1)
  refine lv_iload hx hb dL_law_200 (lv_at hl 1 rfl) ?_
  have kend : W p l e room_1 s m #[Value.ref b] below meth c H locs (cells + 1) (slots + 6) Q (F0 m 217 ls []) := by
    refine lv_goto (tgt := 1659) hx hb dL_law_217 (by decide) ?_
    exact kk ⟨((fX1_define T R X n k w f d v (xs (i + 1))).2.1), ((fX1_define T R X n k w f d v (xs (i + 1))).2.2.1), S, X, M, P, ((fX1_define T R X n k w f d v (xs (i + 1))).2.2.2.1), (k), (z), ((fX2_define T R X n k a o (xs (i + 1))).2.2.2.2.2.1), h, ((fX1_define T R X n k w f d v (xs (i + 1))).2.2.2.2.1), ((fX1_define T R X n k w f d v (xs (i + 1))).2.2.2.2.2.1), ((fX1_define T R X n k w f d v (xs (i + 1))).2.2.2.2.2.2.1), ((fX1_define T R X n k w f d v (xs (i + 1))).2.2.2.2.2.2.2), ((fX2_define T R X n k a o (xs (i + 1))).2.2.2.2.1), ((fX2_define T R X n k a o (xs (i + 1))).2.2.2.2.2.2), (VO (kX1_define X k (xs (i + 1))) V9 ((fX1_define T R X n k w f d v (xs (i + 1))).1).toInt64)⟩ ⟨he.2.2.1, he.2.2.2.1, hS9, he.2.2.2.2, hk9, hP9⟩ H _ hP hD hS ls (lv_sub hl [2, 3, 4, 5, 6] rfl)
  refine lv_if_ne (tgt := 217) hx hb dL_law_202 (by decide) (fun c2 => kend) (fun c2 => ?_)
  have hK0 : (kX1_define X k (xs (i + 1))) = 0 := cd2_0 c2
  have hV0 : VO (kX1_define X k (xs (i + 1))) V9 ((fX1_define T R X n k w f d v (xs (i + 1))).1).toInt64 = vp_updL V9 0 ((fX1_define T R X n k w f d v (xs (i + 1))).1).toInt64 := if_pos hK0
  refine lv_aload_n hx hb dL_law_205 rfl (lv_at hl 5 rfl) ?_
  refine lv_iconst (v := 0) hx hb dL_law_206 (by decide) ?_
  refine va_lald hx hb hK hP 0 0 rfl rfl (i := 0) (vp_in_nI (n := 0) (N := 1) (by decide) (by decide)) dL_law_207 ?_
  refine lv_isL (((fX1_define T R X n k w f d v (xs (i + 1))).1).toInt64) (by rw [hV0]; rfl) ?_
  refine lv_iload hx hb dL_law_208 (lv_at hl 0 rfl) ?_
  refine lv_i2l hx hb dL_law_210 rfl ?_
  rw [hval hK0]
  refine W.lcmp hx hb dL_law_211 ?_
  exact lv_if_eq (tgt := 217) hx hb dL_law_212 (by decide) (fun c3 => kend) (fun c3 => absurd (lg_self _) c3)
set_option maxHeartbeats 4000000 in
set_option maxRecDepth 100000 in
theorem k_setTable {p : Program} {l : Launch} (hst : l.stackTraces = false) {e : Env} {s : State} {m : MethodId} {below : List Frame} {meth : Method} {c : Code} {b L : Nat} {xs : Nat → Int32} (hL : L ≤ 2560) (C0 : lw_At p s m meth c b L xs) (hE : envE (fun q : Nat => s.heap.size ≤ q) s) {D : va_G} {q : Nat → Nat} {cq : Nat → ClassId} {o9 : Nat} {co : ClassId} {qm : Nat → Nat} {cm : Nat → ClassId} (hK : va_K D vwCl (tyA cq co cm) s) (σ : LwS) (hok : okS σ) (H : Heap) (locs : List Loc) (hP : va_P D vwCl (wA q cq o9 co qm cm σ) H) (hD : va_D (fun q : Nat => s.heap.size ≤ q) (wA q cq o9 co qm cm σ)) (hS : va_S (fun q : Nat => s.heap.size ≤ q) s.heap H locs) (i : Nat) (hi : i + 5 ≤ L) (ls : Array Slot) (hl : lv_has ls 7 (lvA b q o9 qm i)) {cells slots : Nat} (hc : cells + 1 ≤ 1049) (hs : slots + 6 ≤ 8580) {Q : State → Prop} (kk : ∀ σ2 : LwS, okS σ2 → ∀ (H2 : Heap) (locs2 : List Loc), va_P D vwCl (wA q cq o9 co qm cm σ2) H2 → va_D (fun q : Nat => s.heap.size ≤ q) (wA q cq o9 co qm cm σ2) → va_S (fun q : Nat => s.heap.size ≤ q) s.heap H2 locs2 → ∀ ls2 : Array Slot, lv_has ls2 7 (lvA b q o9 qm i) → W p l e room_1 s m #[Value.ref b] below meth c H2 locs2 (cells + 1) (slots + 6) Q (F0 m 1659 ls2 [])) : W p l e room_1 s m #[Value.ref b] below meth c H locs cells slots Q (F0 m 220 ls []) := by
  obtain ⟨hx, hb, hr, hml, hown, hts, hX, hbl, hlocks, hgv⟩ := C0
  have hown : s.vm.findClass RL = some m.cls := hown
  have hts : ∀ w ∈ wsL_law, w.before #[Value.ref b] s = true := fun w hw => hts w (wsL_law_in w hw)
  have hA : ∀ q : Nat, s.heap.size ≤ q → (fun q : Nat => s.heap.size ≤ q) q := fun _ h => h
  have hbA : ¬ (fun q : Nat => s.heap.size ≤ q) b := Nat.not_le.mpr hbl
  obtain ⟨T, R, S, X, M, P, n, k, z, a, h, w, f, d, v, th, o, V9⟩ := σ
  obtain ⟨hT, hR, hS9, hn, hk9, hP9⟩ := hok
  dsimp only at hT hR hS9 hn hk9 hP9
  have hP : va_P D vwCl (wW q cq o9 co qm cm V9 T R S X M P (nI n) h (nI k) w f d v (nI z) T R S X (nI n) h (nI k) th (nI a) o) H := hP
  have hD : va_D (fun q : Nat => s.heap.size ≤ q) (wW q cq o9 co qm cm V9 T R S X M P (nI n) h (nI k) w f d v (nI z) T R S X (nI n) h (nI k) th (nI a) o) := hD
  refine lv_aload_n hx hb dL_law_220 rfl (lv_at hl 1 rfl) ?_
  refine lv_aload_n hx hb dL_law_221 rfl (lv_at hl 0 rfl) ?_
  refine lv_iload hx hb dL_law_222 (lv_at hl 4 rfl) ?_
  refine lv_iconst (v := 1) hx hb dL_law_224 (by decide) ?_
  refine lv_iadd hx hb dL_law_225 ?_
  refine lv_is (nI (i + 1)) (nI_add i 1) ?_
  refine va_sld hx hb hX hbl hbA hS (i := nI (i + 1)) (vp_in_nI (by omega) (by omega)) dL_law_226 ?_
  refine lv_is (xs (i + 1)) (by rw [nI_clamp (by omega)]) ?_
  refine lv_aload_n hx hb dL_law_227 rfl (lv_at hl 0 rfl) ?_
  refine lv_iload hx hb dL_law_228 (lv_at hl 4 rfl) ?_
  refine lv_iconst (v := 2) hx hb dL_law_230 (by decide) ?_
  refine lv_iadd hx hb dL_law_231 ?_
  refine lv_is (nI (i + 2)) (nI_add i 2) ?_
  refine va_sld hx hb hX hbl hbA hS (i := nI (i + 2)) (vp_in_nI (by omega) (by omega)) dL_law_232 ?_
  refine lv_is (xs (i + 2)) (by rw [nI_clamp (by omega)]) ?_
  refine lv_aload_n hx hb dL_law_233 rfl (lv_at hl 3 rfl) ?_
  have hPc := hP.sub (ws' := (wL q cq o9 co V9 T R S X M P (nI n) h (nI k) w f d v (nI z))) [0, 1, 2, 3, 4, 5, 6, 7, 8] rfl
  have hKc := hK.sub (tys' := (tyL cq co)) [0, 1, 2, 3, 4, 5, 6] rfl
  have hDc := hD.sub (ws' := (wL q cq o9 co V9 T R S X M P (nI n) h (nI k) w f d v (nI z))) [0, 1, 2, 3, 4, 5, 6, 7, 8] (by decide) rfl
  have hFc := va_free (wc := (wL q cq o9 co V9 T R S X M P (nI n) h (nI k) w f d v (nI z))) hD hS hA [0, 1, 2, 3, 4, 5, 6, 7, 8] rfl
  refine va_calli (vx_runSW (As := [.ref (q 0), .int (xs (i + 1)), .int (xs (i + 2)), .ref o9]) (rest := []) ⟨hx, hb, hml, hown, hts⟩ (c_L_setTable l hst D q cq o9 co V9 H.size T R S X M P n h (nI k) w f d v (nI z) (xs (i + 1)) (xs (i + 2)) hn) (vx_cwSW 4 hts gL_law_L_setTable rfl rfl rfl (by decide +kernel) ⟨Nat.le_of_ble_eq_true rfl, Nat.le_of_ble_eq_true rfl⟩) ⟨fun a U g mk z => ⟨z.1, z.2.1, z.2.2.1, va_K.moved (u := U) (U := U.calling g mk a) (Vm.Alike.refl U.vm) z.2.2.2.1, z.2.2.2.2.1, z.2.2.2.2.2.blind g mk a⟩, fun U hU hW => ⟨rfl, by rw [hU], by rw [hU]; exact hPc, va_K.moved hW.alike hKc, hDc.weaken (fun _ _ _ _ => trivial), hE.at hS hU hW hFc⟩⟩ rfl rfl hl.1 rfl (lv_room (Nat.le_of_ble_eq_true rfl)) dL_law_234 ⟨(by show cells + 1 ≤ 1049; omega), (by show slots + 6 ≤ 8580; omega)⟩) hS (fun q _ h => hFc q h) hFc (fun r9 u9 t8 H1 locs ht hvm hw hB hz1 hk1 hS => ?_)
  obtain ⟨hP1, hD1⟩ := hB
  rw [ht] at hP1
  obtain ⟨hP, hD⟩ := va_join (wr := (wM qm cm T R S X (nI n) h (nI k) th (nI a) o)) (w1 := (wL q cq o9 co (VO (kX1_setTable (xs (i + 1)) (xs (i + 2))) V9 ((fX1_setTable T R n (xs (i + 1)) (xs (i + 2))).1).toInt64) ((fX1_setTable T R n (xs (i + 1)) (xs (i + 2))).2.1) ((fX1_setTable T R n (xs (i + 1)) (xs (i + 2))).2.2.1) S X M P (nI (fX1_setTable T R n (xs (i + 1)) (xs (i + 2))).2.2.2) h (nI k) w f d v (nI z))) hP hD [0, 1, 2, 3, 4, 5, 6, 7, 8] [9, 10, 11, 12, 13] rfl rfl (by decide) (by decide) hk1 hFc hP1 hD1
  have hP := hP.sub (ws' := (wW q cq o9 co qm cm (VO (kX1_setTable (xs (i + 1)) (xs (i + 2))) V9 ((fX1_setTable T R n (xs (i + 1)) (xs (i + 2))).1).toInt64) ((fX1_setTable T R n (xs (i + 1)) (xs (i + 2))).2.1) ((fX1_setTable T R n (xs (i + 1)) (xs (i + 2))).2.2.1) S X M P (nI (fX1_setTable T R n (xs (i + 1)) (xs (i + 2))).2.2.2) h (nI k) w f d v (nI z) T R S X (nI n) h (nI k) th (nI a) o)) [5, 6, 7, 8, 9, 10, 11, 12, 13, 0, 1, 2, 3, 4] rfl
  have hD := hD.sub (ws' := (wW q cq o9 co qm cm (VO (kX1_setTable (xs (i + 1)) (xs (i + 2))) V9 ((fX1_setTable T R n (xs (i + 1)) (xs (i + 2))).1).toInt64) ((fX1_setTable T R n (xs (i + 1)) (xs (i + 2))).2.1) ((fX1_setTable T R n (xs (i + 1)) (xs (i + 2))).2.2.1) S X M P (nI (fX1_setTable T R n (xs (i + 1)) (xs (i + 2))).2.2.2) h (nI k) w f d v (nI z) T R S X (nI n) h (nI k) th (nI a) o)) [5, 6, 7, 8, 9, 10, 11, 12, 13, 0, 1, 2, 3, 4] (by decide) rfl
  generalize H1 = H at hP hS ⊢
  subst r9
  refine lv_istore (lv' := [(5, .int (cd2 (kX1_setTable (xs (i + 1)) (xs (i + 2))))), (0, .ref b), (1, .ref (q 0)), (2, .ref (qm 0)), (3, .ref o9), (4, .int (nI i))]) hx hb dL_law_237 hl (by decide) rfl (fun ls hl => ?_)
  refine lv_aload_n hx hb dL_law_239 rfl (lv_at hl 3 rfl) ?_
  refine lv_aload_n hx hb dL_law_240 rfl (lv_at hl 1 rfl) ?_
  refine lv_iload hx hb dL_law_241 (lv_at hl 5 rfl) ?_
  refine lv_iconst (v := 1) hx hb dL_law_243 (by decide) ?_
  refine lv_iadd hx hb dL_law_244 ?_
  refine lv_is (nI (i + 1)) (nI_add i 1) ?_
  refine va_sld hx hb hX hbl hbA hS (i := nI (i + 1)) (vp_in_nI (by omega) (by omega)) dL_law_245 ?_
  refine lv_is (xs (i + 1)) (by rw [nI_clamp (by omega)]) ?_
  refine lv_aload_n hx hb dL_law_246 rfl (lv_at hl 1 rfl) ?_
  refine lv_iload hx hb dL_law_247 (lv_at hl 5 rfl) ?_
  refine lv_iconst (v := 2) hx hb dL_law_249 (by decide) ?_
  refine lv_iadd hx hb dL_law_250 ?_
  refine lv_is (nI (i + 2)) (nI_add i 2) ?_
  refine va_sld hx hb hX hbl hbA hS (i := nI (i + 2)) (vp_in_nI (by omega) (by omega)) dL_law_251 ?_
  refine lv_is (xs (i + 2)) (by rw [nI_clamp (by omega)]) ?_
  have hPc := hP.sub (ws' := (wM qm cm T R S X (nI n) h (nI k) th (nI a) o)) [9, 10, 11, 12, 13] rfl
  have hKc := hK.sub (tys' := (tyM cm)) [7, 8, 9, 10] rfl
  have hDc := hD.sub (ws' := (wM qm cm T R S X (nI n) h (nI k) th (nI a) o)) [9, 10, 11, 12, 13] (by decide) rfl
  have hFc := va_free (wc := (wM qm cm T R S X (nI n) h (nI k) th (nI a) o)) hD hS hA [9, 10, 11, 12, 13] rfl
  refine va_calli (va_runV (As := [.int (xs (i + 1)), .int (xs (i + 2))]) (rest := []) ⟨hx, hb, hml, hown, hts⟩ (c_X2_setTable l D qm cm H.size T R S X n h (nI k) th (nI a) o (xs (i + 1)) (xs (i + 2)) hn) (cwV 2 hts gL_law_X2_setTable rfl rfl rfl (by decide +kernel) ⟨Nat.le_of_ble_eq_true rfl, Nat.le_of_ble_eq_true rfl⟩) ⟨fun a U g mk z => ⟨z.1, z.2.1, z.2.2.1, va_K.moved (u := U) (U := U.calling g mk a) (Vm.Alike.refl U.vm) z.2.2.2.1, z.2.2.2.2.1, z.2.2.2.2.2.blind g mk a⟩, va_recv hKc hPc (ci := 2) (q0 := 0) rfl rfl, fun U hU hW => ⟨rfl, by rw [hU], by rw [hU]; exact hPc, va_K.moved hW.alike hKc, hDc.weaken (fun _ _ _ _ => trivial), hE.at hS hU hW hFc⟩⟩ rfl rfl hl.1 rfl (lv_room (Nat.le_of_ble_eq_true rfl)) dL_law_252 ⟨(by show cells + 1 ≤ 1049; omega), (by show slots + 6 ≤ 8580; omega)⟩) hS (fun q _ h => hFc q h) hFc (fun r9 u9 t8 H1 locs ht hvm hw hB hz1 hk1 hS => ?_)
  obtain ⟨hP1, hD1⟩ := hB
  rw [ht] at hP1
  obtain ⟨hP, hD⟩ := va_join (wr := (wL q cq o9 co (VO (kX1_setTable (xs (i + 1)) (xs (i + 2))) V9 ((fX1_setTable T R n (xs (i + 1)) (xs (i + 2))).1).toInt64) ((fX1_setTable T R n (xs (i + 1)) (xs (i + 2))).2.1) ((fX1_setTable T R n (xs (i + 1)) (xs (i + 2))).2.2.1) S X M P (nI (fX1_setTable T R n (xs (i + 1)) (xs (i + 2))).2.2.2) h (nI k) w f d v (nI z))) (w1 := (wM qm cm ((fX2_setTable T R n (xs (i + 1)) (xs (i + 2))).2.1) ((fX2_setTable T R n (xs (i + 1)) (xs (i + 2))).2.2.1) S X (nI (fX2_setTable T R n (xs (i + 1)) (xs (i + 2))).2.2.2.1) h (nI k) ((fX2_setTable T R n (xs (i + 1)) (xs (i + 2))).2.2.2.2) (nI a) o)) hP hD [9, 10, 11, 12, 13] [0, 1, 2, 3, 4, 5, 6, 7, 8] rfl rfl (by decide) (by decide) hk1 hFc hP1 hD1
  generalize H1 = H at hP hS ⊢
  have hP : va_P D vwCl (wW q cq o9 co qm cm (VO (kX1_setTable (xs (i + 1)) (xs (i + 2))) V9 ((fX1_setTable T R n (xs (i + 1)) (xs (i + 2))).1).toInt64) ((fX1_setTable T R n (xs (i + 1)) (xs (i + 2))).2.1) ((fX1_setTable T R n (xs (i + 1)) (xs (i + 2))).2.2.1) S X M P (nI (fX1_setTable T R n (xs (i + 1)) (xs (i + 2))).2.2.2) h (nI k) w f d v (nI z) ((fX2_setTable T R n (xs (i + 1)) (xs (i + 2))).2.1) ((fX2_setTable T R n (xs (i + 1)) (xs (i + 2))).2.2.1) S X (nI (fX2_setTable T R n (xs (i + 1)) (xs (i + 2))).2.2.2.1) h (nI k) ((fX2_setTable T R n (xs (i + 1)) (xs (i + 2))).2.2.2.2) (nI a) o) H := hP
  have hD : va_D (fun q : Nat => s.heap.size ≤ q) (wW q cq o9 co qm cm (VO (kX1_setTable (xs (i + 1)) (xs (i + 2))) V9 ((fX1_setTable T R n (xs (i + 1)) (xs (i + 2))).1).toInt64) ((fX1_setTable T R n (xs (i + 1)) (xs (i + 2))).2.1) ((fX1_setTable T R n (xs (i + 1)) (xs (i + 2))).2.2.1) S X M P (nI (fX1_setTable T R n (xs (i + 1)) (xs (i + 2))).2.2.2) h (nI k) w f d v (nI z) ((fX2_setTable T R n (xs (i + 1)) (xs (i + 2))).2.1) ((fX2_setTable T R n (xs (i + 1)) (xs (i + 2))).2.2.1) S X (nI (fX2_setTable T R n (xs (i + 1)) (xs (i + 2))).2.2.2.1) h (nI k) ((fX2_setTable T R n (xs (i + 1)) (xs (i + 2))).2.2.2.2) (nI a) o) := hD
  subst r9
  have he := e_setTable hT hR hn (xs (i + 1)) (xs (i + 2))
  rw [he.2.1.1, he.2.1.2.1, he.2.1.2.2] at hP hD
  refine lv_istore (lv' := [(6, .int ((fX2_setTable T R n (xs (i + 1)) (xs (i + 2))).1)), (5, .int (cd2 (kX1_setTable (xs (i + 1)) (xs (i + 2))))), (0, .ref b), (1, .ref (q 0)), (2, .ref (qm 0)), (3, .ref o9), (4, .int (nI i))]) hx hb dL_law_255 hl (by decide) rfl (fun ls hl => ?_)
  refine lv_aload_n hx hb dL_law_257 rfl (lv_at hl 4 rfl) ?_
  have hPc := hP.sub (ws' := (wM qm cm ((fX1_setTable T R n (xs (i + 1)) (xs (i + 2))).2.1) ((fX1_setTable T R n (xs (i + 1)) (xs (i + 2))).2.2.1) S X (nI ((fX1_setTable T R n (xs (i + 1)) (xs (i + 2))).2.2.2)) h (nI (k)) ((fX2_setTable T R n (xs (i + 1)) (xs (i + 2))).2.2.2.2) (nI (a)) o)) [9, 10, 11, 12, 13] rfl
  have hKc := hK.sub (tys' := (tyM cm)) [7, 8, 9, 10] rfl
  refine vp_callSi (va_Run.run (va_runV (As := []) (rest := []) ⟨hx, hb, hml, hown, hts⟩ (c_X2_thrown l D qm cm ((fX1_setTable T R n (xs (i + 1)) (xs (i + 2))).2.1) ((fX1_setTable T R n (xs (i + 1)) (xs (i + 2))).2.2.1) S X (nI ((fX1_setTable T R n (xs (i + 1)) (xs (i + 2))).2.2.2)) h (nI (k)) ((fX2_setTable T R n (xs (i + 1)) (xs (i + 2))).2.2.2.2) (nI (a)) o) (cwV 0 hts gL_law_X2_thrown rfl rfl rfl (by decide +kernel) ⟨Nat.le_of_ble_eq_true rfl, Nat.le_of_ble_eq_true rfl⟩) ⟨fun a U g mk z => ⟨z.1, z.2.1, va_K.moved (u := U) (U := U.calling g mk a) (Vm.Alike.refl U.vm) z.2.2.1, z.2.2.2.blind g mk a⟩, va_recv hKc hPc (ci := 2) (q0 := 0) rfl rfl, fun U hU hW => ⟨rfl, by rw [hU]; exact hPc, va_K.moved hW.alike hKc, hE.at0 hS hU hW⟩⟩ rfl rfl hl.1 rfl (lv_room (Nat.le_of_ble_eq_true rfl)) dL_law_258 ⟨(by show cells + 1 ≤ 1049; omega), (by show slots + 6 ≤ 8580; omega)⟩)) (fun r9 hr9 => ?_)
  subst r9
  refine lv_iload hx hb dL_law_261 (lv_at hl 1 rfl) ?_
  have halt := he.1
  have hth : ((fX2_setTable T R n (xs (i + 1)) (xs (i + 2))).2.2.2.2) = cd2 (kX1_setTable (xs (i + 1)) (xs (i + 2))) := by
    rcases halt with ⟨h1, h2, h3⟩ | ⟨h1, h2⟩ | ⟨h1, h2⟩ <;> (rw [h1, h2]; rfl)
  have hval : (kX1_setTable (xs (i + 1)) (xs (i + 2))) = 0 → (fX1_setTable T R n (xs (i + 1)) (xs (i + 2))).1 = (fX2_setTable T R n (xs (i + 1)) (xs (i + 2))).1 := by
    intro h0
    rcases halt with ⟨h1, h2, h3⟩ | ⟨h1, h2⟩ | ⟨h1, h2⟩
    · exact h3
    · rw [h1] at h0; exact absurd h0 (by decide)
    · rw [h1] at h0; exact absurd h0 (by decide)
  refine lv_icmp_eq (tgt := 268) hx hb dL_law_263 (by decide) (fun c1 => ?_) (fun c1 => absurd (show fX2_thrown ((fX2_setTable T R n (xs (i + 1)) (xs (i + 2))).2.2.2.2) = cd2 (kX1_setTable (xs (i + 1)) (xs (i + 2))) from hth) c1)
  refine lv_iload hx hb dL_law_268 (lv_at hl 1 rfl) ?_
  have kend : W p l e room_1 s m #[Value.ref b] below meth c H locs (cells + 1) (slots + 6) Q (F0 m 285 ls []) := by
    refine lv_goto (tgt := 1659) hx hb dL_law_285 (by decide) ?_
    exact kk ⟨((fX1_setTable T R n (xs (i + 1)) (xs (i + 2))).2.1), ((fX1_setTable T R n (xs (i + 1)) (xs (i + 2))).2.2.1), S, X, M, P, ((fX1_setTable T R n (xs (i + 1)) (xs (i + 2))).2.2.2), (k), (z), (a), h, w, f, d, v, ((fX2_setTable T R n (xs (i + 1)) (xs (i + 2))).2.2.2.2), o, (VO (kX1_setTable (xs (i + 1)) (xs (i + 2))) V9 ((fX1_setTable T R n (xs (i + 1)) (xs (i + 2))).1).toInt64)⟩ ⟨he.2.2.1, he.2.2.2.1, hS9, he.2.2.2.2, hk9, hP9⟩ H _ hP hD hS ls (lv_sub hl [2, 3, 4, 5, 6] rfl)
  refine lv_if_ne (tgt := 285) hx hb dL_law_270 (by decide) (fun c2 => kend) (fun c2 => ?_)
  have hK0 : (kX1_setTable (xs (i + 1)) (xs (i + 2))) = 0 := cd2_0 c2
  have hV0 : VO (kX1_setTable (xs (i + 1)) (xs (i + 2))) V9 ((fX1_setTable T R n (xs (i + 1)) (xs (i + 2))).1).toInt64 = vp_updL V9 0 ((fX1_setTable T R n (xs (i + 1)) (xs (i + 2))).1).toInt64 := if_pos hK0
  refine lv_aload_n hx hb dL_law_273 rfl (lv_at hl 5 rfl) ?_
  refine lv_iconst (v := 0) hx hb dL_law_274 (by decide) ?_
  refine va_lald hx hb hK hP 0 0 rfl rfl (i := 0) (vp_in_nI (n := 0) (N := 1) (by decide) (by decide)) dL_law_275 ?_
  refine lv_isL (((fX1_setTable T R n (xs (i + 1)) (xs (i + 2))).1).toInt64) (by rw [hV0]; rfl) ?_
  refine lv_iload hx hb dL_law_276 (lv_at hl 0 rfl) ?_
  refine lv_i2l hx hb dL_law_278 rfl ?_
  rw [hval hK0]
  refine W.lcmp hx hb dL_law_279 ?_
  exact lv_if_eq (tgt := 285) hx hb dL_law_280 (by decide) (fun c3 => kend) (fun c3 => absurd (lg_self _) c3)
set_option maxHeartbeats 4000000 in
set_option maxRecDepth 100000 in
theorem k_join {p : Program} {l : Launch} (hst : l.stackTraces = false) {e : Env} {s : State} {m : MethodId} {below : List Frame} {meth : Method} {c : Code} {b L : Nat} {xs : Nat → Int32} (hL : L ≤ 2560) (C0 : lw_At p s m meth c b L xs) (hE : envE (fun q : Nat => s.heap.size ≤ q) s) {D : va_G} {q : Nat → Nat} {cq : Nat → ClassId} {o9 : Nat} {co : ClassId} {qm : Nat → Nat} {cm : Nat → ClassId} (hK : va_K D vwCl (tyA cq co cm) s) (σ : LwS) (hok : okS σ) (H : Heap) (locs : List Loc) (hP : va_P D vwCl (wA q cq o9 co qm cm σ) H) (hD : va_D (fun q : Nat => s.heap.size ≤ q) (wA q cq o9 co qm cm σ)) (hS : va_S (fun q : Nat => s.heap.size ≤ q) s.heap H locs) (i : Nat) (hi : i + 5 ≤ L) (ls : Array Slot) (hl : lv_has ls 7 (lvA b q o9 qm i)) {cells slots : Nat} (hc : cells + 1 ≤ 1049) (hs : slots + 6 ≤ 8580) {Q : State → Prop} (kk : ∀ σ2 : LwS, okS σ2 → ∀ (H2 : Heap) (locs2 : List Loc), va_P D vwCl (wA q cq o9 co qm cm σ2) H2 → va_D (fun q : Nat => s.heap.size ≤ q) (wA q cq o9 co qm cm σ2) → va_S (fun q : Nat => s.heap.size ≤ q) s.heap H2 locs2 → ∀ ls2 : Array Slot, lv_has ls2 7 (lvA b q o9 qm i) → W p l e room_1 s m #[Value.ref b] below meth c H2 locs2 (cells + 1) (slots + 6) Q (F0 m 1659 ls2 [])) : W p l e room_1 s m #[Value.ref b] below meth c H locs cells slots Q (F0 m 288 ls []) := by
  obtain ⟨hx, hb, hr, hml, hown, hts, hX, hbl, hlocks, hgv⟩ := C0
  have hown : s.vm.findClass RL = some m.cls := hown
  have hts : ∀ w ∈ wsL_law, w.before #[Value.ref b] s = true := fun w hw => hts w (wsL_law_in w hw)
  have hA : ∀ q : Nat, s.heap.size ≤ q → (fun q : Nat => s.heap.size ≤ q) q := fun _ h => h
  have hbA : ¬ (fun q : Nat => s.heap.size ≤ q) b := Nat.not_le.mpr hbl
  obtain ⟨T, R, S, X, M, P, n, k, z, a, h, w, f, d, v, th, o, V9⟩ := σ
  obtain ⟨hT, hR, hS9, hn, hk9, hP9⟩ := hok
  dsimp only at hT hR hS9 hn hk9 hP9
  have hP : va_P D vwCl (wW q cq o9 co qm cm V9 T R S X M P (nI n) h (nI k) w f d v (nI z) T R S X (nI n) h (nI k) th (nI a) o) H := hP
  have hD : va_D (fun q : Nat => s.heap.size ≤ q) (wW q cq o9 co qm cm V9 T R S X M P (nI n) h (nI k) w f d v (nI z) T R S X (nI n) h (nI k) th (nI a) o) := hD
  refine lv_aload_n hx hb dL_law_288 rfl (lv_at hl 1 rfl) ?_
  refine lv_aload_n hx hb dL_law_289 rfl (lv_at hl 0 rfl) ?_
  refine lv_iload hx hb dL_law_290 (lv_at hl 4 rfl) ?_
  refine lv_iconst (v := 1) hx hb dL_law_292 (by decide) ?_
  refine lv_iadd hx hb dL_law_293 ?_
  refine lv_is (nI (i + 1)) (nI_add i 1) ?_
  refine va_sld hx hb hX hbl hbA hS (i := nI (i + 1)) (vp_in_nI (by omega) (by omega)) dL_law_294 ?_
  refine lv_is (xs (i + 1)) (by rw [nI_clamp (by omega)]) ?_
  refine lv_aload_n hx hb dL_law_295 rfl (lv_at hl 0 rfl) ?_
  refine lv_iload hx hb dL_law_296 (lv_at hl 4 rfl) ?_
  refine lv_iconst (v := 2) hx hb dL_law_298 (by decide) ?_
  refine lv_iadd hx hb dL_law_299 ?_
  refine lv_is (nI (i + 2)) (nI_add i 2) ?_
  refine va_sld hx hb hX hbl hbA hS (i := nI (i + 2)) (vp_in_nI (by omega) (by omega)) dL_law_300 ?_
  refine lv_is (xs (i + 2)) (by rw [nI_clamp (by omega)]) ?_
  refine lv_aload_n hx hb dL_law_301 rfl (lv_at hl 0 rfl) ?_
  refine lv_iload hx hb dL_law_302 (lv_at hl 4 rfl) ?_
  refine lv_iconst (v := 3) hx hb dL_law_304 (by decide) ?_
  refine lv_iadd hx hb dL_law_305 ?_
  refine lv_is (nI (i + 3)) (nI_add i 3) ?_
  refine va_sld hx hb hX hbl hbA hS (i := nI (i + 3)) (vp_in_nI (by omega) (by omega)) dL_law_306 ?_
  refine lv_is (xs (i + 3)) (by rw [nI_clamp (by omega)]) ?_
  refine lv_aload_n hx hb dL_law_307 rfl (lv_at hl 0 rfl) ?_
  refine lv_iload hx hb dL_law_308 (lv_at hl 4 rfl) ?_
  refine lv_iconst (v := 4) hx hb dL_law_310 (by decide) ?_
  refine lv_iadd hx hb dL_law_311 ?_
  refine lv_is (nI (i + 4)) (nI_add i 4) ?_
  refine va_sld hx hb hX hbl hbA hS (i := nI (i + 4)) (vp_in_nI (by omega) (by omega)) dL_law_312 ?_
  refine lv_is (xs (i + 4)) (by rw [nI_clamp (by omega)]) ?_
  refine lv_aload_n hx hb dL_law_313 rfl (lv_at hl 3 rfl) ?_
  have hPc := hP.sub (ws' := (wL q cq o9 co V9 T R S X M P (nI n) h (nI k) w f d v (nI z))) [0, 1, 2, 3, 4, 5, 6, 7, 8] rfl
  have hKc := hK.sub (tys' := (tyL cq co)) [0, 1, 2, 3, 4, 5, 6] rfl
  have hDc := hD.sub (ws' := (wL q cq o9 co V9 T R S X M P (nI n) h (nI k) w f d v (nI z))) [0, 1, 2, 3, 4, 5, 6, 7, 8] (by decide) rfl
  have hFc := va_free (wc := (wL q cq o9 co V9 T R S X M P (nI n) h (nI k) w f d v (nI z))) hD hS hA [0, 1, 2, 3, 4, 5, 6, 7, 8] rfl
  refine va_calli (vx_runSW (As := [.ref (q 0), .int (xs (i + 1)), .int (xs (i + 2)), .int (xs (i + 3)), .int (xs (i + 4)), .ref o9]) (rest := []) ⟨hx, hb, hml, hown, hts⟩ (c_L_join l hst D q cq o9 co V9 H.size T R S X M P n h (nI k) w f d v (nI z) (xs (i + 1)) (xs (i + 2)) (xs (i + 3)) (xs (i + 4)) hn) (vx_cwSW 6 hts gL_law_L_join rfl rfl rfl (by decide +kernel) ⟨Nat.le_of_ble_eq_true rfl, Nat.le_of_ble_eq_true rfl⟩) ⟨fun a U g mk z => ⟨z.1, z.2.1, z.2.2.1, va_K.moved (u := U) (U := U.calling g mk a) (Vm.Alike.refl U.vm) z.2.2.2.1, z.2.2.2.2.1, z.2.2.2.2.2.blind g mk a⟩, fun U hU hW => ⟨rfl, by rw [hU], by rw [hU]; exact hPc, va_K.moved hW.alike hKc, hDc.weaken (fun _ _ _ _ => trivial), hE.at hS hU hW hFc⟩⟩ rfl rfl hl.1 rfl (lv_room (Nat.le_of_ble_eq_true rfl)) dL_law_314 ⟨(by show cells + 1 ≤ 1049; omega), (by show slots + 6 ≤ 8580; omega)⟩) hS (fun q _ h => hFc q h) hFc (fun r9 u9 t8 H1 locs ht hvm hw hB hz1 hk1 hS => ?_)
  obtain ⟨hP1, hD1⟩ := hB
  rw [ht] at hP1
  obtain ⟨hP, hD⟩ := va_join (wr := (wM qm cm T R S X (nI n) h (nI k) th (nI a) o)) (w1 := (wL q cq o9 co (VO (kX1_join (xs (i + 1)) (xs (i + 2)) (xs (i + 3)) (xs (i + 4))) V9 ((fX1_join T R n (xs (i + 1)) (xs (i + 2)) (xs (i + 3)) (xs (i + 4))).1).toInt64) ((fX1_join T R n (xs (i + 1)) (xs (i + 2)) (xs (i + 3)) (xs (i + 4))).2.1) ((fX1_join T R n (xs (i + 1)) (xs (i + 2)) (xs (i + 3)) (xs (i + 4))).2.2.1) S X M P (nI (fX1_join T R n (xs (i + 1)) (xs (i + 2)) (xs (i + 3)) (xs (i + 4))).2.2.2) h (nI k) w f d v (nI z))) hP hD [0, 1, 2, 3, 4, 5, 6, 7, 8] [9, 10, 11, 12, 13] rfl rfl (by decide) (by decide) hk1 hFc hP1 hD1
  have hP := hP.sub (ws' := (wW q cq o9 co qm cm (VO (kX1_join (xs (i + 1)) (xs (i + 2)) (xs (i + 3)) (xs (i + 4))) V9 ((fX1_join T R n (xs (i + 1)) (xs (i + 2)) (xs (i + 3)) (xs (i + 4))).1).toInt64) ((fX1_join T R n (xs (i + 1)) (xs (i + 2)) (xs (i + 3)) (xs (i + 4))).2.1) ((fX1_join T R n (xs (i + 1)) (xs (i + 2)) (xs (i + 3)) (xs (i + 4))).2.2.1) S X M P (nI (fX1_join T R n (xs (i + 1)) (xs (i + 2)) (xs (i + 3)) (xs (i + 4))).2.2.2) h (nI k) w f d v (nI z) T R S X (nI n) h (nI k) th (nI a) o)) [5, 6, 7, 8, 9, 10, 11, 12, 13, 0, 1, 2, 3, 4] rfl
  have hD := hD.sub (ws' := (wW q cq o9 co qm cm (VO (kX1_join (xs (i + 1)) (xs (i + 2)) (xs (i + 3)) (xs (i + 4))) V9 ((fX1_join T R n (xs (i + 1)) (xs (i + 2)) (xs (i + 3)) (xs (i + 4))).1).toInt64) ((fX1_join T R n (xs (i + 1)) (xs (i + 2)) (xs (i + 3)) (xs (i + 4))).2.1) ((fX1_join T R n (xs (i + 1)) (xs (i + 2)) (xs (i + 3)) (xs (i + 4))).2.2.1) S X M P (nI (fX1_join T R n (xs (i + 1)) (xs (i + 2)) (xs (i + 3)) (xs (i + 4))).2.2.2) h (nI k) w f d v (nI z) T R S X (nI n) h (nI k) th (nI a) o)) [5, 6, 7, 8, 9, 10, 11, 12, 13, 0, 1, 2, 3, 4] (by decide) rfl
  generalize H1 = H at hP hS ⊢
  subst r9
  refine lv_istore (lv' := [(5, .int (cd2 (kX1_join (xs (i + 1)) (xs (i + 2)) (xs (i + 3)) (xs (i + 4))))), (0, .ref b), (1, .ref (q 0)), (2, .ref (qm 0)), (3, .ref o9), (4, .int (nI i))]) hx hb dL_law_317 hl (by decide) rfl (fun ls hl => ?_)
  refine lv_aload_n hx hb dL_law_319 rfl (lv_at hl 3 rfl) ?_
  refine lv_aload_n hx hb dL_law_320 rfl (lv_at hl 1 rfl) ?_
  refine lv_iload hx hb dL_law_321 (lv_at hl 5 rfl) ?_
  refine lv_iconst (v := 1) hx hb dL_law_323 (by decide) ?_
  refine lv_iadd hx hb dL_law_324 ?_
  refine lv_is (nI (i + 1)) (nI_add i 1) ?_
  refine va_sld hx hb hX hbl hbA hS (i := nI (i + 1)) (vp_in_nI (by omega) (by omega)) dL_law_325 ?_
  refine lv_is (xs (i + 1)) (by rw [nI_clamp (by omega)]) ?_
  refine lv_aload_n hx hb dL_law_326 rfl (lv_at hl 1 rfl) ?_
  refine lv_iload hx hb dL_law_327 (lv_at hl 5 rfl) ?_
  refine lv_iconst (v := 2) hx hb dL_law_329 (by decide) ?_
  refine lv_iadd hx hb dL_law_330 ?_
  refine lv_is (nI (i + 2)) (nI_add i 2) ?_
  refine va_sld hx hb hX hbl hbA hS (i := nI (i + 2)) (vp_in_nI (by omega) (by omega)) dL_law_331 ?_
  refine lv_is (xs (i + 2)) (by rw [nI_clamp (by omega)]) ?_
  refine lv_aload_n hx hb dL_law_332 rfl (lv_at hl 1 rfl) ?_
  refine lv_iload hx hb dL_law_333 (lv_at hl 5 rfl) ?_
  refine lv_iconst (v := 3) hx hb dL_law_335 (by decide) ?_
  refine lv_iadd hx hb dL_law_336 ?_
  refine lv_is (nI (i + 3)) (nI_add i 3) ?_
  refine va_sld hx hb hX hbl hbA hS (i := nI (i + 3)) (vp_in_nI (by omega) (by omega)) dL_law_337 ?_
  refine lv_is (xs (i + 3)) (by rw [nI_clamp (by omega)]) ?_
  refine lv_aload_n hx hb dL_law_338 rfl (lv_at hl 1 rfl) ?_
  refine lv_iload hx hb dL_law_339 (lv_at hl 5 rfl) ?_
  refine lv_iconst (v := 4) hx hb dL_law_341 (by decide) ?_
  refine lv_iadd hx hb dL_law_342 ?_
  refine lv_is (nI (i + 4)) (nI_add i 4) ?_
  refine va_sld hx hb hX hbl hbA hS (i := nI (i + 4)) (vp_in_nI (by omega) (by omega)) dL_law_343 ?_
  refine lv_is (xs (i + 4)) (by rw [nI_clamp (by omega)]) ?_
  have hPc := hP.sub (ws' := (wM qm cm T R S X (nI n) h (nI k) th (nI a) o)) [9, 10, 11, 12, 13] rfl
  have hKc := hK.sub (tys' := (tyM cm)) [7, 8, 9, 10] rfl
  have hDc := hD.sub (ws' := (wM qm cm T R S X (nI n) h (nI k) th (nI a) o)) [9, 10, 11, 12, 13] (by decide) rfl
  have hFc := va_free (wc := (wM qm cm T R S X (nI n) h (nI k) th (nI a) o)) hD hS hA [9, 10, 11, 12, 13] rfl
  refine va_calli (va_runV (As := [.int (xs (i + 1)), .int (xs (i + 2)), .int (xs (i + 3)), .int (xs (i + 4))]) (rest := []) ⟨hx, hb, hml, hown, hts⟩ (c_X2_join l D qm cm H.size T R S X n h (nI k) th (nI a) o (xs (i + 1)) (xs (i + 2)) (xs (i + 3)) (xs (i + 4)) hn) (cwV 4 hts gL_law_X2_join rfl rfl rfl (by decide +kernel) ⟨Nat.le_of_ble_eq_true rfl, Nat.le_of_ble_eq_true rfl⟩) ⟨fun a U g mk z => ⟨z.1, z.2.1, z.2.2.1, va_K.moved (u := U) (U := U.calling g mk a) (Vm.Alike.refl U.vm) z.2.2.2.1, z.2.2.2.2.1, z.2.2.2.2.2.blind g mk a⟩, va_recv hKc hPc (ci := 2) (q0 := 0) rfl rfl, fun U hU hW => ⟨rfl, by rw [hU], by rw [hU]; exact hPc, va_K.moved hW.alike hKc, hDc.weaken (fun _ _ _ _ => trivial), hE.at hS hU hW hFc⟩⟩ rfl rfl hl.1 rfl (lv_room (Nat.le_of_ble_eq_true rfl)) dL_law_344 ⟨(by show cells + 1 ≤ 1049; omega), (by show slots + 6 ≤ 8580; omega)⟩) hS (fun q _ h => hFc q h) hFc (fun r9 u9 t8 H1 locs ht hvm hw hB hz1 hk1 hS => ?_)
  obtain ⟨hP1, hD1⟩ := hB
  rw [ht] at hP1
  obtain ⟨hP, hD⟩ := va_join (wr := (wL q cq o9 co (VO (kX1_join (xs (i + 1)) (xs (i + 2)) (xs (i + 3)) (xs (i + 4))) V9 ((fX1_join T R n (xs (i + 1)) (xs (i + 2)) (xs (i + 3)) (xs (i + 4))).1).toInt64) ((fX1_join T R n (xs (i + 1)) (xs (i + 2)) (xs (i + 3)) (xs (i + 4))).2.1) ((fX1_join T R n (xs (i + 1)) (xs (i + 2)) (xs (i + 3)) (xs (i + 4))).2.2.1) S X M P (nI (fX1_join T R n (xs (i + 1)) (xs (i + 2)) (xs (i + 3)) (xs (i + 4))).2.2.2) h (nI k) w f d v (nI z))) (w1 := (wM qm cm ((fX2_join T R n (xs (i + 1)) (xs (i + 2)) (xs (i + 3)) (xs (i + 4))).2.1) ((fX2_join T R n (xs (i + 1)) (xs (i + 2)) (xs (i + 3)) (xs (i + 4))).2.2.1) S X (nI (fX2_join T R n (xs (i + 1)) (xs (i + 2)) (xs (i + 3)) (xs (i + 4))).2.2.2.1) h (nI k) ((fX2_join T R n (xs (i + 1)) (xs (i + 2)) (xs (i + 3)) (xs (i + 4))).2.2.2.2) (nI a) o)) hP hD [9, 10, 11, 12, 13] [0, 1, 2, 3, 4, 5, 6, 7, 8] rfl rfl (by decide) (by decide) hk1 hFc hP1 hD1
  generalize H1 = H at hP hS ⊢
  have hP : va_P D vwCl (wW q cq o9 co qm cm (VO (kX1_join (xs (i + 1)) (xs (i + 2)) (xs (i + 3)) (xs (i + 4))) V9 ((fX1_join T R n (xs (i + 1)) (xs (i + 2)) (xs (i + 3)) (xs (i + 4))).1).toInt64) ((fX1_join T R n (xs (i + 1)) (xs (i + 2)) (xs (i + 3)) (xs (i + 4))).2.1) ((fX1_join T R n (xs (i + 1)) (xs (i + 2)) (xs (i + 3)) (xs (i + 4))).2.2.1) S X M P (nI (fX1_join T R n (xs (i + 1)) (xs (i + 2)) (xs (i + 3)) (xs (i + 4))).2.2.2) h (nI k) w f d v (nI z) ((fX2_join T R n (xs (i + 1)) (xs (i + 2)) (xs (i + 3)) (xs (i + 4))).2.1) ((fX2_join T R n (xs (i + 1)) (xs (i + 2)) (xs (i + 3)) (xs (i + 4))).2.2.1) S X (nI (fX2_join T R n (xs (i + 1)) (xs (i + 2)) (xs (i + 3)) (xs (i + 4))).2.2.2.1) h (nI k) ((fX2_join T R n (xs (i + 1)) (xs (i + 2)) (xs (i + 3)) (xs (i + 4))).2.2.2.2) (nI a) o) H := hP
  have hD : va_D (fun q : Nat => s.heap.size ≤ q) (wW q cq o9 co qm cm (VO (kX1_join (xs (i + 1)) (xs (i + 2)) (xs (i + 3)) (xs (i + 4))) V9 ((fX1_join T R n (xs (i + 1)) (xs (i + 2)) (xs (i + 3)) (xs (i + 4))).1).toInt64) ((fX1_join T R n (xs (i + 1)) (xs (i + 2)) (xs (i + 3)) (xs (i + 4))).2.1) ((fX1_join T R n (xs (i + 1)) (xs (i + 2)) (xs (i + 3)) (xs (i + 4))).2.2.1) S X M P (nI (fX1_join T R n (xs (i + 1)) (xs (i + 2)) (xs (i + 3)) (xs (i + 4))).2.2.2) h (nI k) w f d v (nI z) ((fX2_join T R n (xs (i + 1)) (xs (i + 2)) (xs (i + 3)) (xs (i + 4))).2.1) ((fX2_join T R n (xs (i + 1)) (xs (i + 2)) (xs (i + 3)) (xs (i + 4))).2.2.1) S X (nI (fX2_join T R n (xs (i + 1)) (xs (i + 2)) (xs (i + 3)) (xs (i + 4))).2.2.2.1) h (nI k) ((fX2_join T R n (xs (i + 1)) (xs (i + 2)) (xs (i + 3)) (xs (i + 4))).2.2.2.2) (nI a) o) := hD
  subst r9
  have he := e_join hT hR hn (xs (i + 1)) (xs (i + 2)) (xs (i + 3)) (xs (i + 4))
  rw [he.2.1.1, he.2.1.2.1, he.2.1.2.2] at hP hD
  refine lv_istore (lv' := [(6, .int ((fX2_join T R n (xs (i + 1)) (xs (i + 2)) (xs (i + 3)) (xs (i + 4))).1)), (5, .int (cd2 (kX1_join (xs (i + 1)) (xs (i + 2)) (xs (i + 3)) (xs (i + 4))))), (0, .ref b), (1, .ref (q 0)), (2, .ref (qm 0)), (3, .ref o9), (4, .int (nI i))]) hx hb dL_law_347 hl (by decide) rfl (fun ls hl => ?_)
  refine lv_aload_n hx hb dL_law_349 rfl (lv_at hl 4 rfl) ?_
  have hPc := hP.sub (ws' := (wM qm cm ((fX1_join T R n (xs (i + 1)) (xs (i + 2)) (xs (i + 3)) (xs (i + 4))).2.1) ((fX1_join T R n (xs (i + 1)) (xs (i + 2)) (xs (i + 3)) (xs (i + 4))).2.2.1) S X (nI ((fX1_join T R n (xs (i + 1)) (xs (i + 2)) (xs (i + 3)) (xs (i + 4))).2.2.2)) h (nI (k)) ((fX2_join T R n (xs (i + 1)) (xs (i + 2)) (xs (i + 3)) (xs (i + 4))).2.2.2.2) (nI (a)) o)) [9, 10, 11, 12, 13] rfl
  have hKc := hK.sub (tys' := (tyM cm)) [7, 8, 9, 10] rfl
  refine vp_callSi (va_Run.run (va_runV (As := []) (rest := []) ⟨hx, hb, hml, hown, hts⟩ (c_X2_thrown l D qm cm ((fX1_join T R n (xs (i + 1)) (xs (i + 2)) (xs (i + 3)) (xs (i + 4))).2.1) ((fX1_join T R n (xs (i + 1)) (xs (i + 2)) (xs (i + 3)) (xs (i + 4))).2.2.1) S X (nI ((fX1_join T R n (xs (i + 1)) (xs (i + 2)) (xs (i + 3)) (xs (i + 4))).2.2.2)) h (nI (k)) ((fX2_join T R n (xs (i + 1)) (xs (i + 2)) (xs (i + 3)) (xs (i + 4))).2.2.2.2) (nI (a)) o) (cwV 0 hts gL_law_X2_thrown rfl rfl rfl (by decide +kernel) ⟨Nat.le_of_ble_eq_true rfl, Nat.le_of_ble_eq_true rfl⟩) ⟨fun a U g mk z => ⟨z.1, z.2.1, va_K.moved (u := U) (U := U.calling g mk a) (Vm.Alike.refl U.vm) z.2.2.1, z.2.2.2.blind g mk a⟩, va_recv hKc hPc (ci := 2) (q0 := 0) rfl rfl, fun U hU hW => ⟨rfl, by rw [hU]; exact hPc, va_K.moved hW.alike hKc, hE.at0 hS hU hW⟩⟩ rfl rfl hl.1 rfl (lv_room (Nat.le_of_ble_eq_true rfl)) dL_law_350 ⟨(by show cells + 1 ≤ 1049; omega), (by show slots + 6 ≤ 8580; omega)⟩)) (fun r9 hr9 => ?_)
  subst r9
  refine lv_iload hx hb dL_law_353 (lv_at hl 1 rfl) ?_
  have halt := he.1
  have hth : ((fX2_join T R n (xs (i + 1)) (xs (i + 2)) (xs (i + 3)) (xs (i + 4))).2.2.2.2) = cd2 (kX1_join (xs (i + 1)) (xs (i + 2)) (xs (i + 3)) (xs (i + 4))) := by
    rcases halt with ⟨h1, h2, h3⟩ | ⟨h1, h2⟩ | ⟨h1, h2⟩ <;> (rw [h1, h2]; rfl)
  have hval : (kX1_join (xs (i + 1)) (xs (i + 2)) (xs (i + 3)) (xs (i + 4))) = 0 → (fX1_join T R n (xs (i + 1)) (xs (i + 2)) (xs (i + 3)) (xs (i + 4))).1 = (fX2_join T R n (xs (i + 1)) (xs (i + 2)) (xs (i + 3)) (xs (i + 4))).1 := by
    intro h0
    rcases halt with ⟨h1, h2, h3⟩ | ⟨h1, h2⟩ | ⟨h1, h2⟩
    · exact h3
    · rw [h1] at h0; exact absurd h0 (by decide)
    · rw [h1] at h0; exact absurd h0 (by decide)
  refine lv_icmp_eq (tgt := 360) hx hb dL_law_355 (by decide) (fun c1 => ?_) (fun c1 => absurd (show fX2_thrown ((fX2_join T R n (xs (i + 1)) (xs (i + 2)) (xs (i + 3)) (xs (i + 4))).2.2.2.2) = cd2 (kX1_join (xs (i + 1)) (xs (i + 2)) (xs (i + 3)) (xs (i + 4))) from hth) c1)
  refine lv_iload hx hb dL_law_360 (lv_at hl 1 rfl) ?_
  have kend : W p l e room_1 s m #[Value.ref b] below meth c H locs (cells + 1) (slots + 6) Q (F0 m 377 ls []) := by
    refine lv_goto (tgt := 1659) hx hb dL_law_377 (by decide) ?_
    exact kk ⟨((fX1_join T R n (xs (i + 1)) (xs (i + 2)) (xs (i + 3)) (xs (i + 4))).2.1), ((fX1_join T R n (xs (i + 1)) (xs (i + 2)) (xs (i + 3)) (xs (i + 4))).2.2.1), S, X, M, P, ((fX1_join T R n (xs (i + 1)) (xs (i + 2)) (xs (i + 3)) (xs (i + 4))).2.2.2), (k), (z), (a), h, w, f, d, v, ((fX2_join T R n (xs (i + 1)) (xs (i + 2)) (xs (i + 3)) (xs (i + 4))).2.2.2.2), o, (VO (kX1_join (xs (i + 1)) (xs (i + 2)) (xs (i + 3)) (xs (i + 4))) V9 ((fX1_join T R n (xs (i + 1)) (xs (i + 2)) (xs (i + 3)) (xs (i + 4))).1).toInt64)⟩ ⟨he.2.2.1, he.2.2.2.1, hS9, he.2.2.2.2, hk9, hP9⟩ H _ hP hD hS ls (lv_sub hl [2, 3, 4, 5, 6] rfl)
  refine lv_if_ne (tgt := 377) hx hb dL_law_362 (by decide) (fun c2 => kend) (fun c2 => ?_)
  have hK0 : (kX1_join (xs (i + 1)) (xs (i + 2)) (xs (i + 3)) (xs (i + 4))) = 0 := cd2_0 c2
  have hV0 : VO (kX1_join (xs (i + 1)) (xs (i + 2)) (xs (i + 3)) (xs (i + 4))) V9 ((fX1_join T R n (xs (i + 1)) (xs (i + 2)) (xs (i + 3)) (xs (i + 4))).1).toInt64 = vp_updL V9 0 ((fX1_join T R n (xs (i + 1)) (xs (i + 2)) (xs (i + 3)) (xs (i + 4))).1).toInt64 := if_pos hK0
  refine lv_aload_n hx hb dL_law_365 rfl (lv_at hl 5 rfl) ?_
  refine lv_iconst (v := 0) hx hb dL_law_366 (by decide) ?_
  refine va_lald hx hb hK hP 0 0 rfl rfl (i := 0) (vp_in_nI (n := 0) (N := 1) (by decide) (by decide)) dL_law_367 ?_
  refine lv_isL (((fX1_join T R n (xs (i + 1)) (xs (i + 2)) (xs (i + 3)) (xs (i + 4))).1).toInt64) (by rw [hV0]; rfl) ?_
  refine lv_iload hx hb dL_law_368 (lv_at hl 0 rfl) ?_
  refine lv_i2l hx hb dL_law_370 rfl ?_
  rw [hval hK0]
  refine W.lcmp hx hb dL_law_371 ?_
  exact lv_if_eq (tgt := 377) hx hb dL_law_372 (by decide) (fun c3 => kend) (fun c3 => absurd (lg_self _) c3)
set_option maxHeartbeats 4000000 in
set_option maxRecDepth 100000 in
theorem k_fix {p : Program} {l : Launch} (hst : l.stackTraces = false) {e : Env} {s : State} {m : MethodId} {below : List Frame} {meth : Method} {c : Code} {b L : Nat} {xs : Nat → Int32} (hL : L ≤ 2560) (C0 : lw_At p s m meth c b L xs) (hE : envE (fun q : Nat => s.heap.size ≤ q) s) {D : va_G} {q : Nat → Nat} {cq : Nat → ClassId} {o9 : Nat} {co : ClassId} {qm : Nat → Nat} {cm : Nat → ClassId} (hK : va_K D vwCl (tyA cq co cm) s) (σ : LwS) (hok : okS σ) (H : Heap) (locs : List Loc) (hP : va_P D vwCl (wA q cq o9 co qm cm σ) H) (hD : va_D (fun q : Nat => s.heap.size ≤ q) (wA q cq o9 co qm cm σ)) (hS : va_S (fun q : Nat => s.heap.size ≤ q) s.heap H locs) (i : Nat) (hi : i + 5 ≤ L) (ls : Array Slot) (hl : lv_has ls 7 (lvA b q o9 qm i)) {cells slots : Nat} (hc : cells + 1 ≤ 1049) (hs : slots + 6 ≤ 8580) {Q : State → Prop} (kk : ∀ σ2 : LwS, okS σ2 → ∀ (H2 : Heap) (locs2 : List Loc), va_P D vwCl (wA q cq o9 co qm cm σ2) H2 → va_D (fun q : Nat => s.heap.size ≤ q) (wA q cq o9 co qm cm σ2) → va_S (fun q : Nat => s.heap.size ≤ q) s.heap H2 locs2 → ∀ ls2 : Array Slot, lv_has ls2 7 (lvA b q o9 qm i) → W p l e room_1 s m #[Value.ref b] below meth c H2 locs2 (cells + 1) (slots + 6) Q (F0 m 1659 ls2 [])) : W p l e room_1 s m #[Value.ref b] below meth c H locs cells slots Q (F0 m 380 ls []) := by
  obtain ⟨hx, hb, hr, hml, hown, hts, hX, hbl, hlocks, hgv⟩ := C0
  have hown : s.vm.findClass RL = some m.cls := hown
  have hts : ∀ w ∈ wsL_law, w.before #[Value.ref b] s = true := fun w hw => hts w (wsL_law_in w hw)
  have hA : ∀ q : Nat, s.heap.size ≤ q → (fun q : Nat => s.heap.size ≤ q) q := fun _ h => h
  have hbA : ¬ (fun q : Nat => s.heap.size ≤ q) b := Nat.not_le.mpr hbl
  obtain ⟨T, R, S, X, M, P, n, k, z, a, h, w, f, d, v, th, o, V9⟩ := σ
  obtain ⟨hT, hR, hS9, hn, hk9, hP9⟩ := hok
  dsimp only at hT hR hS9 hn hk9 hP9
  have hP : va_P D vwCl (wW q cq o9 co qm cm V9 T R S X M P (nI n) h (nI k) w f d v (nI z) T R S X (nI n) h (nI k) th (nI a) o) H := hP
  have hD : va_D (fun q : Nat => s.heap.size ≤ q) (wW q cq o9 co qm cm V9 T R S X M P (nI n) h (nI k) w f d v (nI z) T R S X (nI n) h (nI k) th (nI a) o) := hD
  refine lv_aload_n hx hb dL_law_380 rfl (lv_at hl 1 rfl) ?_
  refine lv_aload_n hx hb dL_law_381 rfl (lv_at hl 0 rfl) ?_
  refine lv_iload hx hb dL_law_382 (lv_at hl 4 rfl) ?_
  refine lv_iconst (v := 1) hx hb dL_law_384 (by decide) ?_
  refine lv_iadd hx hb dL_law_385 ?_
  refine lv_is (nI (i + 1)) (nI_add i 1) ?_
  refine va_sld hx hb hX hbl hbA hS (i := nI (i + 1)) (vp_in_nI (by omega) (by omega)) dL_law_386 ?_
  refine lv_is (xs (i + 1)) (by rw [nI_clamp (by omega)]) ?_
  refine lv_aload_n hx hb dL_law_387 rfl (lv_at hl 0 rfl) ?_
  refine lv_iload hx hb dL_law_388 (lv_at hl 4 rfl) ?_
  refine lv_iconst (v := 2) hx hb dL_law_390 (by decide) ?_
  refine lv_iadd hx hb dL_law_391 ?_
  refine lv_is (nI (i + 2)) (nI_add i 2) ?_
  refine va_sld hx hb hX hbl hbA hS (i := nI (i + 2)) (vp_in_nI (by omega) (by omega)) dL_law_392 ?_
  refine lv_is (xs (i + 2)) (by rw [nI_clamp (by omega)]) ?_
  refine lv_aload_n hx hb dL_law_393 rfl (lv_at hl 0 rfl) ?_
  refine lv_iload hx hb dL_law_394 (lv_at hl 4 rfl) ?_
  refine lv_iconst (v := 3) hx hb dL_law_396 (by decide) ?_
  refine lv_iadd hx hb dL_law_397 ?_
  refine lv_is (nI (i + 3)) (nI_add i 3) ?_
  refine va_sld hx hb hX hbl hbA hS (i := nI (i + 3)) (vp_in_nI (by omega) (by omega)) dL_law_398 ?_
  refine lv_is (xs (i + 3)) (by rw [nI_clamp (by omega)]) ?_
  refine lv_tern hx hb dL_law_399 dL_law_402 dL_law_403 dL_law_406 ?_
  refine lv_aload_n hx hb dL_law_407 rfl (lv_at hl 3 rfl) ?_
  have hPc := hP.sub (ws' := (wL q cq o9 co V9 T R S X M P (nI n) h (nI k) w f d v (nI z))) [0, 1, 2, 3, 4, 5, 6, 7, 8] rfl
  have hKc := hK.sub (tys' := (tyL cq co)) [0, 1, 2, 3, 4, 5, 6] rfl
  have hDc := hD.sub (ws' := (wL q cq o9 co V9 T R S X M P (nI n) h (nI k) w f d v (nI z))) [0, 1, 2, 3, 4, 5, 6, 7, 8] (by decide) rfl
  have hFc := va_free (wc := (wL q cq o9 co V9 T R S X M P (nI n) h (nI k) w f d v (nI z))) hD hS hA [0, 1, 2, 3, 4, 5, 6, 7, 8] rfl
  refine va_calli (vx_runSW (As := [.ref (q 0), .int (xs (i + 1)), .int (xs (i + 2)), .int (if (xs (i + 3)) = 0 then 0 else 1 : Int32), .ref o9]) (rest := []) ⟨hx, hb, hml, hown, hts⟩ (c_L_fix l hst D q cq o9 co V9 H.size T R S X M P n h (nI k) w f d v (nI z) (xs (i + 1)) (xs (i + 2)) (if (xs (i + 3)) = 0 then 0 else 1 : Int32) hn) (vx_cwSW 5 hts gL_law_L_fix rfl rfl rfl (by decide +kernel) ⟨Nat.le_of_ble_eq_true rfl, Nat.le_of_ble_eq_true rfl⟩) ⟨fun a U g mk z => ⟨z.1, z.2.1, z.2.2.1, va_K.moved (u := U) (U := U.calling g mk a) (Vm.Alike.refl U.vm) z.2.2.2.1, z.2.2.2.2.1, z.2.2.2.2.2.blind g mk a⟩, fun U hU hW => ⟨rfl, by rw [hU], by rw [hU]; exact hPc, va_K.moved hW.alike hKc, hDc.weaken (fun _ _ _ _ => trivial), hE.at hS hU hW hFc⟩⟩ rfl rfl hl.1 rfl (lv_room (Nat.le_of_ble_eq_true rfl)) dL_law_408 ⟨(by show cells + 1 ≤ 1049; omega), (by show slots + 6 ≤ 8580; omega)⟩) hS (fun q _ h => hFc q h) hFc (fun r9 u9 t8 H1 locs ht hvm hw hB hz1 hk1 hS => ?_)
  obtain ⟨hP1, hD1⟩ := hB
  rw [ht] at hP1
  obtain ⟨hP, hD⟩ := va_join (wr := (wM qm cm T R S X (nI n) h (nI k) th (nI a) o)) (w1 := (wL q cq o9 co (VO (kX1_fix (xs (i + 1)) (xs (i + 2))) V9 ((fX1_fix T R n (xs (i + 1)) (xs (i + 2)) (if (xs (i + 3)) = 0 then 0 else 1 : Int32)).1).toInt64) ((fX1_fix T R n (xs (i + 1)) (xs (i + 2)) (if (xs (i + 3)) = 0 then 0 else 1 : Int32)).2.1) ((fX1_fix T R n (xs (i + 1)) (xs (i + 2)) (if (xs (i + 3)) = 0 then 0 else 1 : Int32)).2.2.1) S X M P (nI (fX1_fix T R n (xs (i + 1)) (xs (i + 2)) (if (xs (i + 3)) = 0 then 0 else 1 : Int32)).2.2.2) h (nI k) w f d v (nI z))) hP hD [0, 1, 2, 3, 4, 5, 6, 7, 8] [9, 10, 11, 12, 13] rfl rfl (by decide) (by decide) hk1 hFc hP1 hD1
  have hP := hP.sub (ws' := (wW q cq o9 co qm cm (VO (kX1_fix (xs (i + 1)) (xs (i + 2))) V9 ((fX1_fix T R n (xs (i + 1)) (xs (i + 2)) (if (xs (i + 3)) = 0 then 0 else 1 : Int32)).1).toInt64) ((fX1_fix T R n (xs (i + 1)) (xs (i + 2)) (if (xs (i + 3)) = 0 then 0 else 1 : Int32)).2.1) ((fX1_fix T R n (xs (i + 1)) (xs (i + 2)) (if (xs (i + 3)) = 0 then 0 else 1 : Int32)).2.2.1) S X M P (nI (fX1_fix T R n (xs (i + 1)) (xs (i + 2)) (if (xs (i + 3)) = 0 then 0 else 1 : Int32)).2.2.2) h (nI k) w f d v (nI z) T R S X (nI n) h (nI k) th (nI a) o)) [5, 6, 7, 8, 9, 10, 11, 12, 13, 0, 1, 2, 3, 4] rfl
  have hD := hD.sub (ws' := (wW q cq o9 co qm cm (VO (kX1_fix (xs (i + 1)) (xs (i + 2))) V9 ((fX1_fix T R n (xs (i + 1)) (xs (i + 2)) (if (xs (i + 3)) = 0 then 0 else 1 : Int32)).1).toInt64) ((fX1_fix T R n (xs (i + 1)) (xs (i + 2)) (if (xs (i + 3)) = 0 then 0 else 1 : Int32)).2.1) ((fX1_fix T R n (xs (i + 1)) (xs (i + 2)) (if (xs (i + 3)) = 0 then 0 else 1 : Int32)).2.2.1) S X M P (nI (fX1_fix T R n (xs (i + 1)) (xs (i + 2)) (if (xs (i + 3)) = 0 then 0 else 1 : Int32)).2.2.2) h (nI k) w f d v (nI z) T R S X (nI n) h (nI k) th (nI a) o)) [5, 6, 7, 8, 9, 10, 11, 12, 13, 0, 1, 2, 3, 4] (by decide) rfl
  generalize H1 = H at hP hS ⊢
  subst r9
  refine lv_istore (lv' := [(5, .int (cd1 (kX1_fix (xs (i + 1)) (xs (i + 2))))), (0, .ref b), (1, .ref (q 0)), (2, .ref (qm 0)), (3, .ref o9), (4, .int (nI i))]) hx hb dL_law_411 hl (by decide) rfl (fun ls hl => ?_)
  refine lv_aload_n hx hb dL_law_413 rfl (lv_at hl 3 rfl) ?_
  refine lv_aload_n hx hb dL_law_414 rfl (lv_at hl 1 rfl) ?_
  refine lv_iload hx hb dL_law_415 (lv_at hl 5 rfl) ?_
  refine lv_iconst (v := 1) hx hb dL_law_417 (by decide) ?_
  refine lv_iadd hx hb dL_law_418 ?_
  refine lv_is (nI (i + 1)) (nI_add i 1) ?_
  refine va_sld hx hb hX hbl hbA hS (i := nI (i + 1)) (vp_in_nI (by omega) (by omega)) dL_law_419 ?_
  refine lv_is (xs (i + 1)) (by rw [nI_clamp (by omega)]) ?_
  refine lv_aload_n hx hb dL_law_420 rfl (lv_at hl 1 rfl) ?_
  refine lv_iload hx hb dL_law_421 (lv_at hl 5 rfl) ?_
  refine lv_iconst (v := 2) hx hb dL_law_423 (by decide) ?_
  refine lv_iadd hx hb dL_law_424 ?_
  refine lv_is (nI (i + 2)) (nI_add i 2) ?_
  refine va_sld hx hb hX hbl hbA hS (i := nI (i + 2)) (vp_in_nI (by omega) (by omega)) dL_law_425 ?_
  refine lv_is (xs (i + 2)) (by rw [nI_clamp (by omega)]) ?_
  refine lv_aload_n hx hb dL_law_426 rfl (lv_at hl 1 rfl) ?_
  refine lv_iload hx hb dL_law_427 (lv_at hl 5 rfl) ?_
  refine lv_iconst (v := 3) hx hb dL_law_429 (by decide) ?_
  refine lv_iadd hx hb dL_law_430 ?_
  refine lv_is (nI (i + 3)) (nI_add i 3) ?_
  refine va_sld hx hb hX hbl hbA hS (i := nI (i + 3)) (vp_in_nI (by omega) (by omega)) dL_law_431 ?_
  refine lv_is (xs (i + 3)) (by rw [nI_clamp (by omega)]) ?_
  refine lv_tern hx hb dL_law_432 dL_law_435 dL_law_436 dL_law_439 ?_
  have hPc := hP.sub (ws' := (wM qm cm T R S X (nI n) h (nI k) th (nI a) o)) [9, 10, 11, 12, 13] rfl
  have hKc := hK.sub (tys' := (tyM cm)) [7, 8, 9, 10] rfl
  have hDc := hD.sub (ws' := (wM qm cm T R S X (nI n) h (nI k) th (nI a) o)) [9, 10, 11, 12, 13] (by decide) rfl
  have hFc := va_free (wc := (wM qm cm T R S X (nI n) h (nI k) th (nI a) o)) hD hS hA [9, 10, 11, 12, 13] rfl
  refine va_calli (va_runV (As := [.int (xs (i + 1)), .int (xs (i + 2)), .int (if (xs (i + 3)) = 0 then 0 else 1 : Int32)]) (rest := []) ⟨hx, hb, hml, hown, hts⟩ (c_X2_fix l D qm cm H.size T R S X n h (nI k) th (nI a) o (xs (i + 1)) (xs (i + 2)) (if (xs (i + 3)) = 0 then 0 else 1 : Int32) hn) (cwV 3 hts gL_law_X2_fix rfl rfl rfl (by decide +kernel) ⟨Nat.le_of_ble_eq_true rfl, Nat.le_of_ble_eq_true rfl⟩) ⟨fun a U g mk z => ⟨z.1, z.2.1, z.2.2.1, va_K.moved (u := U) (U := U.calling g mk a) (Vm.Alike.refl U.vm) z.2.2.2.1, z.2.2.2.2.1, z.2.2.2.2.2.blind g mk a⟩, va_recv hKc hPc (ci := 2) (q0 := 0) rfl rfl, fun U hU hW => ⟨rfl, by rw [hU], by rw [hU]; exact hPc, va_K.moved hW.alike hKc, hDc.weaken (fun _ _ _ _ => trivial), hE.at hS hU hW hFc⟩⟩ rfl rfl hl.1 rfl (lv_room (Nat.le_of_ble_eq_true rfl)) dL_law_440 ⟨(by show cells + 1 ≤ 1049; omega), (by show slots + 6 ≤ 8580; omega)⟩) hS (fun q _ h => hFc q h) hFc (fun r9 u9 t8 H1 locs ht hvm hw hB hz1 hk1 hS => ?_)
  obtain ⟨hP1, hD1⟩ := hB
  rw [ht] at hP1
  obtain ⟨hP, hD⟩ := va_join (wr := (wL q cq o9 co (VO (kX1_fix (xs (i + 1)) (xs (i + 2))) V9 ((fX1_fix T R n (xs (i + 1)) (xs (i + 2)) (if (xs (i + 3)) = 0 then 0 else 1 : Int32)).1).toInt64) ((fX1_fix T R n (xs (i + 1)) (xs (i + 2)) (if (xs (i + 3)) = 0 then 0 else 1 : Int32)).2.1) ((fX1_fix T R n (xs (i + 1)) (xs (i + 2)) (if (xs (i + 3)) = 0 then 0 else 1 : Int32)).2.2.1) S X M P (nI (fX1_fix T R n (xs (i + 1)) (xs (i + 2)) (if (xs (i + 3)) = 0 then 0 else 1 : Int32)).2.2.2) h (nI k) w f d v (nI z))) (w1 := (wM qm cm ((fX2_fix T R n (xs (i + 1)) (xs (i + 2)) (if (xs (i + 3)) = 0 then 0 else 1 : Int32)).2.1) ((fX2_fix T R n (xs (i + 1)) (xs (i + 2)) (if (xs (i + 3)) = 0 then 0 else 1 : Int32)).2.2.1) S X (nI (fX2_fix T R n (xs (i + 1)) (xs (i + 2)) (if (xs (i + 3)) = 0 then 0 else 1 : Int32)).2.2.2.1) h (nI k) ((fX2_fix T R n (xs (i + 1)) (xs (i + 2)) (if (xs (i + 3)) = 0 then 0 else 1 : Int32)).2.2.2.2) (nI a) o)) hP hD [9, 10, 11, 12, 13] [0, 1, 2, 3, 4, 5, 6, 7, 8] rfl rfl (by decide) (by decide) hk1 hFc hP1 hD1
  generalize H1 = H at hP hS ⊢
  have hP : va_P D vwCl (wW q cq o9 co qm cm (VO (kX1_fix (xs (i + 1)) (xs (i + 2))) V9 ((fX1_fix T R n (xs (i + 1)) (xs (i + 2)) (if (xs (i + 3)) = 0 then 0 else 1 : Int32)).1).toInt64) ((fX1_fix T R n (xs (i + 1)) (xs (i + 2)) (if (xs (i + 3)) = 0 then 0 else 1 : Int32)).2.1) ((fX1_fix T R n (xs (i + 1)) (xs (i + 2)) (if (xs (i + 3)) = 0 then 0 else 1 : Int32)).2.2.1) S X M P (nI (fX1_fix T R n (xs (i + 1)) (xs (i + 2)) (if (xs (i + 3)) = 0 then 0 else 1 : Int32)).2.2.2) h (nI k) w f d v (nI z) ((fX2_fix T R n (xs (i + 1)) (xs (i + 2)) (if (xs (i + 3)) = 0 then 0 else 1 : Int32)).2.1) ((fX2_fix T R n (xs (i + 1)) (xs (i + 2)) (if (xs (i + 3)) = 0 then 0 else 1 : Int32)).2.2.1) S X (nI (fX2_fix T R n (xs (i + 1)) (xs (i + 2)) (if (xs (i + 3)) = 0 then 0 else 1 : Int32)).2.2.2.1) h (nI k) ((fX2_fix T R n (xs (i + 1)) (xs (i + 2)) (if (xs (i + 3)) = 0 then 0 else 1 : Int32)).2.2.2.2) (nI a) o) H := hP
  have hD : va_D (fun q : Nat => s.heap.size ≤ q) (wW q cq o9 co qm cm (VO (kX1_fix (xs (i + 1)) (xs (i + 2))) V9 ((fX1_fix T R n (xs (i + 1)) (xs (i + 2)) (if (xs (i + 3)) = 0 then 0 else 1 : Int32)).1).toInt64) ((fX1_fix T R n (xs (i + 1)) (xs (i + 2)) (if (xs (i + 3)) = 0 then 0 else 1 : Int32)).2.1) ((fX1_fix T R n (xs (i + 1)) (xs (i + 2)) (if (xs (i + 3)) = 0 then 0 else 1 : Int32)).2.2.1) S X M P (nI (fX1_fix T R n (xs (i + 1)) (xs (i + 2)) (if (xs (i + 3)) = 0 then 0 else 1 : Int32)).2.2.2) h (nI k) w f d v (nI z) ((fX2_fix T R n (xs (i + 1)) (xs (i + 2)) (if (xs (i + 3)) = 0 then 0 else 1 : Int32)).2.1) ((fX2_fix T R n (xs (i + 1)) (xs (i + 2)) (if (xs (i + 3)) = 0 then 0 else 1 : Int32)).2.2.1) S X (nI (fX2_fix T R n (xs (i + 1)) (xs (i + 2)) (if (xs (i + 3)) = 0 then 0 else 1 : Int32)).2.2.2.1) h (nI k) ((fX2_fix T R n (xs (i + 1)) (xs (i + 2)) (if (xs (i + 3)) = 0 then 0 else 1 : Int32)).2.2.2.2) (nI a) o) := hD
  subst r9
  have he := e_fix hT hR hn (xs (i + 1)) (xs (i + 2)) (if (xs (i + 3)) = 0 then 0 else 1 : Int32)
  rw [he.2.1.1, he.2.1.2.1, he.2.1.2.2] at hP hD
  refine lv_istore (lv' := [(6, .int ((fX2_fix T R n (xs (i + 1)) (xs (i + 2)) (if (xs (i + 3)) = 0 then 0 else 1 : Int32)).1)), (5, .int (cd1 (kX1_fix (xs (i + 1)) (xs (i + 2))))), (0, .ref b), (1, .ref (q 0)), (2, .ref (qm 0)), (3, .ref o9), (4, .int (nI i))]) hx hb dL_law_443 hl (by decide) rfl (fun ls hl => ?_)
  refine lv_aload_n hx hb dL_law_445 rfl (lv_at hl 4 rfl) ?_
  have hPc := hP.sub (ws' := (wM qm cm ((fX1_fix T R n (xs (i + 1)) (xs (i + 2)) (if (xs (i + 3)) = 0 then 0 else 1 : Int32)).2.1) ((fX1_fix T R n (xs (i + 1)) (xs (i + 2)) (if (xs (i + 3)) = 0 then 0 else 1 : Int32)).2.2.1) S X (nI ((fX1_fix T R n (xs (i + 1)) (xs (i + 2)) (if (xs (i + 3)) = 0 then 0 else 1 : Int32)).2.2.2)) h (nI (k)) ((fX2_fix T R n (xs (i + 1)) (xs (i + 2)) (if (xs (i + 3)) = 0 then 0 else 1 : Int32)).2.2.2.2) (nI (a)) o)) [9, 10, 11, 12, 13] rfl
  have hKc := hK.sub (tys' := (tyM cm)) [7, 8, 9, 10] rfl
  refine vp_callSi (va_Run.run (va_runV (As := []) (rest := []) ⟨hx, hb, hml, hown, hts⟩ (c_X2_thrown l D qm cm ((fX1_fix T R n (xs (i + 1)) (xs (i + 2)) (if (xs (i + 3)) = 0 then 0 else 1 : Int32)).2.1) ((fX1_fix T R n (xs (i + 1)) (xs (i + 2)) (if (xs (i + 3)) = 0 then 0 else 1 : Int32)).2.2.1) S X (nI ((fX1_fix T R n (xs (i + 1)) (xs (i + 2)) (if (xs (i + 3)) = 0 then 0 else 1 : Int32)).2.2.2)) h (nI (k)) ((fX2_fix T R n (xs (i + 1)) (xs (i + 2)) (if (xs (i + 3)) = 0 then 0 else 1 : Int32)).2.2.2.2) (nI (a)) o) (cwV 0 hts gL_law_X2_thrown rfl rfl rfl (by decide +kernel) ⟨Nat.le_of_ble_eq_true rfl, Nat.le_of_ble_eq_true rfl⟩) ⟨fun a U g mk z => ⟨z.1, z.2.1, va_K.moved (u := U) (U := U.calling g mk a) (Vm.Alike.refl U.vm) z.2.2.1, z.2.2.2.blind g mk a⟩, va_recv hKc hPc (ci := 2) (q0 := 0) rfl rfl, fun U hU hW => ⟨rfl, by rw [hU]; exact hPc, va_K.moved hW.alike hKc, hE.at0 hS hU hW⟩⟩ rfl rfl hl.1 rfl (lv_room (Nat.le_of_ble_eq_true rfl)) dL_law_446 ⟨(by show cells + 1 ≤ 1049; omega), (by show slots + 6 ≤ 8580; omega)⟩)) (fun r9 hr9 => ?_)
  subst r9
  refine lv_iload hx hb dL_law_449 (lv_at hl 1 rfl) ?_
  have halt := he.1
  have hth : ((fX2_fix T R n (xs (i + 1)) (xs (i + 2)) (if (xs (i + 3)) = 0 then 0 else 1 : Int32)).2.2.2.2) = cd1 (kX1_fix (xs (i + 1)) (xs (i + 2))) := by
    rcases halt with ⟨h1, h2, h3⟩ | ⟨h1, h2⟩ <;> (rw [h1, h2]; rfl)
  have hval : (kX1_fix (xs (i + 1)) (xs (i + 2))) = 0 → (fX1_fix T R n (xs (i + 1)) (xs (i + 2)) (if (xs (i + 3)) = 0 then 0 else 1 : Int32)).1 = (fX2_fix T R n (xs (i + 1)) (xs (i + 2)) (if (xs (i + 3)) = 0 then 0 else 1 : Int32)).1 := by
    intro h0
    rcases halt with ⟨h1, h2, h3⟩ | ⟨h1, h2⟩
    · exact h3
    · rw [h1] at h0; exact absurd h0 (by decide)
  refine lv_icmp_eq (tgt := 456) hx hb dL_law_451 (by decide) (fun c1 => ?_) (fun c1 => absurd (show fX2_thrown ((fX2_fix T R n (xs (i + 1)) (xs (i + 2)) (if (xs (i + 3)) = 0 then 0 else 1 : Int32)).2.2.2.2) = cd1 (kX1_fix (xs (i + 1)) (xs (i + 2))) from hth) c1)
  refine lv_iload hx hb dL_law_456 (lv_at hl 1 rfl) ?_
  have kend : W p l e room_1 s m #[Value.ref b] below meth c H locs (cells + 1) (slots + 6) Q (F0 m 473 ls []) := by
    refine lv_goto (tgt := 1659) hx hb dL_law_473 (by decide) ?_
    exact kk ⟨((fX1_fix T R n (xs (i + 1)) (xs (i + 2)) (if (xs (i + 3)) = 0 then 0 else 1 : Int32)).2.1), ((fX1_fix T R n (xs (i + 1)) (xs (i + 2)) (if (xs (i + 3)) = 0 then 0 else 1 : Int32)).2.2.1), S, X, M, P, ((fX1_fix T R n (xs (i + 1)) (xs (i + 2)) (if (xs (i + 3)) = 0 then 0 else 1 : Int32)).2.2.2), (k), (z), (a), h, w, f, d, v, ((fX2_fix T R n (xs (i + 1)) (xs (i + 2)) (if (xs (i + 3)) = 0 then 0 else 1 : Int32)).2.2.2.2), o, (VO (kX1_fix (xs (i + 1)) (xs (i + 2))) V9 ((fX1_fix T R n (xs (i + 1)) (xs (i + 2)) (if (xs (i + 3)) = 0 then 0 else 1 : Int32)).1).toInt64)⟩ ⟨he.2.2.1, he.2.2.2.1, hS9, he.2.2.2.2, hk9, hP9⟩ H _ hP hD hS ls (lv_sub hl [2, 3, 4, 5, 6] rfl)
  refine lv_if_ne (tgt := 473) hx hb dL_law_458 (by decide) (fun c2 => kend) (fun c2 => ?_)
  have hK0 : (kX1_fix (xs (i + 1)) (xs (i + 2))) = 0 := cd1_0 c2
  have hV0 : VO (kX1_fix (xs (i + 1)) (xs (i + 2))) V9 ((fX1_fix T R n (xs (i + 1)) (xs (i + 2)) (if (xs (i + 3)) = 0 then 0 else 1 : Int32)).1).toInt64 = vp_updL V9 0 ((fX1_fix T R n (xs (i + 1)) (xs (i + 2)) (if (xs (i + 3)) = 0 then 0 else 1 : Int32)).1).toInt64 := if_pos hK0
  refine lv_aload_n hx hb dL_law_461 rfl (lv_at hl 5 rfl) ?_
  refine lv_iconst (v := 0) hx hb dL_law_462 (by decide) ?_
  refine va_lald hx hb hK hP 0 0 rfl rfl (i := 0) (vp_in_nI (n := 0) (N := 1) (by decide) (by decide)) dL_law_463 ?_
  refine lv_isL (((fX1_fix T R n (xs (i + 1)) (xs (i + 2)) (if (xs (i + 3)) = 0 then 0 else 1 : Int32)).1).toInt64) (by rw [hV0]; rfl) ?_
  refine lv_iload hx hb dL_law_464 (lv_at hl 0 rfl) ?_
  refine lv_i2l hx hb dL_law_466 rfl ?_
  rw [hval hK0]
  refine W.lcmp hx hb dL_law_467 ?_
  exact lv_if_eq (tgt := 473) hx hb dL_law_468 (by decide) (fun c3 => kend) (fun c3 => absurd (lg_self _) c3)
set_option maxHeartbeats 4000000 in
set_option maxRecDepth 100000 in
theorem k_substitute {p : Program} {l : Launch} (hst : l.stackTraces = false) {e : Env} {s : State} {m : MethodId} {below : List Frame} {meth : Method} {c : Code} {b L : Nat} {xs : Nat → Int32} (hL : L ≤ 2560) (C0 : lw_At p s m meth c b L xs) (hE : envE (fun q : Nat => s.heap.size ≤ q) s) {D : va_G} {q : Nat → Nat} {cq : Nat → ClassId} {o9 : Nat} {co : ClassId} {qm : Nat → Nat} {cm : Nat → ClassId} (hK : va_K D vwCl (tyA cq co cm) s) (σ : LwS) (hok : okS σ) (H : Heap) (locs : List Loc) (hP : va_P D vwCl (wA q cq o9 co qm cm σ) H) (hD : va_D (fun q : Nat => s.heap.size ≤ q) (wA q cq o9 co qm cm σ)) (hS : va_S (fun q : Nat => s.heap.size ≤ q) s.heap H locs) (i : Nat) (hi : i + 5 ≤ L) (ls : Array Slot) (hl : lv_has ls 7 (lvA b q o9 qm i)) {cells slots : Nat} (hc : cells + 1 ≤ 1049) (hs : slots + 6 ≤ 8580) {Q : State → Prop} (kk : ∀ σ2 : LwS, okS σ2 → ∀ (H2 : Heap) (locs2 : List Loc), va_P D vwCl (wA q cq o9 co qm cm σ2) H2 → va_D (fun q : Nat => s.heap.size ≤ q) (wA q cq o9 co qm cm σ2) → va_S (fun q : Nat => s.heap.size ≤ q) s.heap H2 locs2 → ∀ ls2 : Array Slot, lv_has ls2 7 (lvA b q o9 qm i) → W p l e room_1 s m #[Value.ref b] below meth c H2 locs2 (cells + 1) (slots + 6) Q (F0 m 1659 ls2 [])) : W p l e room_1 s m #[Value.ref b] below meth c H locs cells slots Q (F0 m 476 ls []) := by
  obtain ⟨hx, hb, hr, hml, hown, hts, hX, hbl, hlocks, hgv⟩ := C0
  have hown : s.vm.findClass RL = some m.cls := hown
  have hts : ∀ w ∈ wsL_law, w.before #[Value.ref b] s = true := fun w hw => hts w (wsL_law_in w hw)
  have hA : ∀ q : Nat, s.heap.size ≤ q → (fun q : Nat => s.heap.size ≤ q) q := fun _ h => h
  have hbA : ¬ (fun q : Nat => s.heap.size ≤ q) b := Nat.not_le.mpr hbl
  obtain ⟨T, R, S, X, M, P, n, k, z, a, h, w, f, d, v, th, o, V9⟩ := σ
  obtain ⟨hT, hR, hS9, hn, hk9, hP9⟩ := hok
  dsimp only at hT hR hS9 hn hk9 hP9
  have hP : va_P D vwCl (wW q cq o9 co qm cm V9 T R S X M P (nI n) h (nI k) w f d v (nI z) T R S X (nI n) h (nI k) th (nI a) o) H := hP
  have hD : va_D (fun q : Nat => s.heap.size ≤ q) (wW q cq o9 co qm cm V9 T R S X M P (nI n) h (nI k) w f d v (nI z) T R S X (nI n) h (nI k) th (nI a) o) := hD
  refine lv_aload_n hx hb dL_law_476 rfl (lv_at hl 1 rfl) ?_
  refine lv_aload_n hx hb dL_law_477 rfl (lv_at hl 0 rfl) ?_
  refine lv_iload hx hb dL_law_478 (lv_at hl 4 rfl) ?_
  refine lv_iconst (v := 1) hx hb dL_law_480 (by decide) ?_
  refine lv_iadd hx hb dL_law_481 ?_
  refine lv_is (nI (i + 1)) (nI_add i 1) ?_
  refine va_sld hx hb hX hbl hbA hS (i := nI (i + 1)) (vp_in_nI (by omega) (by omega)) dL_law_482 ?_
  refine lv_is (xs (i + 1)) (by rw [nI_clamp (by omega)]) ?_
  refine lv_aload_n hx hb dL_law_483 rfl (lv_at hl 0 rfl) ?_
  refine lv_iload hx hb dL_law_484 (lv_at hl 4 rfl) ?_
  refine lv_iconst (v := 2) hx hb dL_law_486 (by decide) ?_
  refine lv_iadd hx hb dL_law_487 ?_
  refine lv_is (nI (i + 2)) (nI_add i 2) ?_
  refine va_sld hx hb hX hbl hbA hS (i := nI (i + 2)) (vp_in_nI (by omega) (by omega)) dL_law_488 ?_
  refine lv_is (xs (i + 2)) (by rw [nI_clamp (by omega)]) ?_
  refine lv_aload_n hx hb dL_law_489 rfl (lv_at hl 0 rfl) ?_
  refine lv_iload hx hb dL_law_490 (lv_at hl 4 rfl) ?_
  refine lv_iconst (v := 3) hx hb dL_law_492 (by decide) ?_
  refine lv_iadd hx hb dL_law_493 ?_
  refine lv_is (nI (i + 3)) (nI_add i 3) ?_
  refine va_sld hx hb hX hbl hbA hS (i := nI (i + 3)) (vp_in_nI (by omega) (by omega)) dL_law_494 ?_
  refine lv_is (xs (i + 3)) (by rw [nI_clamp (by omega)]) ?_
  refine lv_aload_n hx hb dL_law_495 rfl (lv_at hl 3 rfl) ?_
  have hPc := hP.sub (ws' := (wL q cq o9 co V9 T R S X M P (nI n) h (nI k) w f d v (nI z))) [0, 1, 2, 3, 4, 5, 6, 7, 8] rfl
  have hKc := hK.sub (tys' := (tyL cq co)) [0, 1, 2, 3, 4, 5, 6] rfl
  have hDc := hD.sub (ws' := (wL q cq o9 co V9 T R S X M P (nI n) h (nI k) w f d v (nI z))) [0, 1, 2, 3, 4, 5, 6, 7, 8] (by decide) rfl
  have hFc := va_free (wc := (wL q cq o9 co V9 T R S X M P (nI n) h (nI k) w f d v (nI z))) hD hS hA [0, 1, 2, 3, 4, 5, 6, 7, 8] rfl
  refine va_calli (vx_runSW (As := [.ref (q 0), .int (xs (i + 1)), .int (xs (i + 2)), .int (xs (i + 3)), .ref o9]) (rest := []) ⟨hx, hb, hml, hown, hts⟩ (c_L_substitute l hst D q cq o9 co V9 H.size T R S X M P n h (nI k) w f d v (nI z) (xs (i + 1)) (xs (i + 2)) (xs (i + 3)) hn) (vx_cwSW 5 hts gL_law_L_substitute rfl rfl rfl (by decide +kernel) ⟨Nat.le_of_ble_eq_true rfl, Nat.le_of_ble_eq_true rfl⟩) ⟨fun a U g mk z => ⟨z.1, z.2.1, z.2.2.1, va_K.moved (u := U) (U := U.calling g mk a) (Vm.Alike.refl U.vm) z.2.2.2.1, z.2.2.2.2.1, z.2.2.2.2.2.blind g mk a⟩, fun U hU hW => ⟨rfl, by rw [hU], by rw [hU]; exact hPc, va_K.moved hW.alike hKc, hDc.weaken (fun _ _ _ _ => trivial), hE.at hS hU hW hFc⟩⟩ rfl rfl hl.1 rfl (lv_room (Nat.le_of_ble_eq_true rfl)) dL_law_496 ⟨(by show cells + 1 ≤ 1049; omega), (by show slots + 6 ≤ 8580; omega)⟩) hS (fun q _ h => hFc q h) hFc (fun r9 u9 t8 H1 locs ht hvm hw hB hz1 hk1 hS => ?_)
  obtain ⟨hP1, hD1⟩ := hB
  rw [ht] at hP1
  obtain ⟨hP, hD⟩ := va_join (wr := (wM qm cm T R S X (nI n) h (nI k) th (nI a) o)) (w1 := (wL q cq o9 co (VO (kX1_substitute (xs (i + 1)) (xs (i + 2)) (xs (i + 3))) V9 ((fX1_substitute T R n (xs (i + 1)) (xs (i + 2)) (xs (i + 3))).1).toInt64) ((fX1_substitute T R n (xs (i + 1)) (xs (i + 2)) (xs (i + 3))).2.1) ((fX1_substitute T R n (xs (i + 1)) (xs (i + 2)) (xs (i + 3))).2.2.1) S X M P (nI (fX1_substitute T R n (xs (i + 1)) (xs (i + 2)) (xs (i + 3))).2.2.2) h (nI k) w f d v (nI z))) hP hD [0, 1, 2, 3, 4, 5, 6, 7, 8] [9, 10, 11, 12, 13] rfl rfl (by decide) (by decide) hk1 hFc hP1 hD1
  have hP := hP.sub (ws' := (wW q cq o9 co qm cm (VO (kX1_substitute (xs (i + 1)) (xs (i + 2)) (xs (i + 3))) V9 ((fX1_substitute T R n (xs (i + 1)) (xs (i + 2)) (xs (i + 3))).1).toInt64) ((fX1_substitute T R n (xs (i + 1)) (xs (i + 2)) (xs (i + 3))).2.1) ((fX1_substitute T R n (xs (i + 1)) (xs (i + 2)) (xs (i + 3))).2.2.1) S X M P (nI (fX1_substitute T R n (xs (i + 1)) (xs (i + 2)) (xs (i + 3))).2.2.2) h (nI k) w f d v (nI z) T R S X (nI n) h (nI k) th (nI a) o)) [5, 6, 7, 8, 9, 10, 11, 12, 13, 0, 1, 2, 3, 4] rfl
  have hD := hD.sub (ws' := (wW q cq o9 co qm cm (VO (kX1_substitute (xs (i + 1)) (xs (i + 2)) (xs (i + 3))) V9 ((fX1_substitute T R n (xs (i + 1)) (xs (i + 2)) (xs (i + 3))).1).toInt64) ((fX1_substitute T R n (xs (i + 1)) (xs (i + 2)) (xs (i + 3))).2.1) ((fX1_substitute T R n (xs (i + 1)) (xs (i + 2)) (xs (i + 3))).2.2.1) S X M P (nI (fX1_substitute T R n (xs (i + 1)) (xs (i + 2)) (xs (i + 3))).2.2.2) h (nI k) w f d v (nI z) T R S X (nI n) h (nI k) th (nI a) o)) [5, 6, 7, 8, 9, 10, 11, 12, 13, 0, 1, 2, 3, 4] (by decide) rfl
  generalize H1 = H at hP hS ⊢
  subst r9
  refine lv_istore (lv' := [(5, .int (cd1 (kX1_substitute (xs (i + 1)) (xs (i + 2)) (xs (i + 3))))), (0, .ref b), (1, .ref (q 0)), (2, .ref (qm 0)), (3, .ref o9), (4, .int (nI i))]) hx hb dL_law_499 hl (by decide) rfl (fun ls hl => ?_)
  refine lv_aload_n hx hb dL_law_501 rfl (lv_at hl 3 rfl) ?_
  refine lv_aload_n hx hb dL_law_502 rfl (lv_at hl 1 rfl) ?_
  refine lv_iload hx hb dL_law_503 (lv_at hl 5 rfl) ?_
  refine lv_iconst (v := 1) hx hb dL_law_505 (by decide) ?_
  refine lv_iadd hx hb dL_law_506 ?_
  refine lv_is (nI (i + 1)) (nI_add i 1) ?_
  refine va_sld hx hb hX hbl hbA hS (i := nI (i + 1)) (vp_in_nI (by omega) (by omega)) dL_law_507 ?_
  refine lv_is (xs (i + 1)) (by rw [nI_clamp (by omega)]) ?_
  refine lv_aload_n hx hb dL_law_508 rfl (lv_at hl 1 rfl) ?_
  refine lv_iload hx hb dL_law_509 (lv_at hl 5 rfl) ?_
  refine lv_iconst (v := 2) hx hb dL_law_511 (by decide) ?_
  refine lv_iadd hx hb dL_law_512 ?_
  refine lv_is (nI (i + 2)) (nI_add i 2) ?_
  refine va_sld hx hb hX hbl hbA hS (i := nI (i + 2)) (vp_in_nI (by omega) (by omega)) dL_law_513 ?_
  refine lv_is (xs (i + 2)) (by rw [nI_clamp (by omega)]) ?_
  refine lv_aload_n hx hb dL_law_514 rfl (lv_at hl 1 rfl) ?_
  refine lv_iload hx hb dL_law_515 (lv_at hl 5 rfl) ?_
  refine lv_iconst (v := 3) hx hb dL_law_517 (by decide) ?_
  refine lv_iadd hx hb dL_law_518 ?_
  refine lv_is (nI (i + 3)) (nI_add i 3) ?_
  refine va_sld hx hb hX hbl hbA hS (i := nI (i + 3)) (vp_in_nI (by omega) (by omega)) dL_law_519 ?_
  refine lv_is (xs (i + 3)) (by rw [nI_clamp (by omega)]) ?_
  have hPc := hP.sub (ws' := (wM qm cm T R S X (nI n) h (nI k) th (nI a) o)) [9, 10, 11, 12, 13] rfl
  have hKc := hK.sub (tys' := (tyM cm)) [7, 8, 9, 10] rfl
  have hDc := hD.sub (ws' := (wM qm cm T R S X (nI n) h (nI k) th (nI a) o)) [9, 10, 11, 12, 13] (by decide) rfl
  have hFc := va_free (wc := (wM qm cm T R S X (nI n) h (nI k) th (nI a) o)) hD hS hA [9, 10, 11, 12, 13] rfl
  refine va_calli (va_runV (As := [.int (xs (i + 1)), .int (xs (i + 2)), .int (xs (i + 3))]) (rest := []) ⟨hx, hb, hml, hown, hts⟩ (c_X2_substitute l D qm cm H.size T R S X n h (nI k) th (nI a) o (xs (i + 1)) (xs (i + 2)) (xs (i + 3)) hn) (cwV 3 hts gL_law_X2_substitute rfl rfl rfl (by decide +kernel) ⟨Nat.le_of_ble_eq_true rfl, Nat.le_of_ble_eq_true rfl⟩) ⟨fun a U g mk z => ⟨z.1, z.2.1, z.2.2.1, va_K.moved (u := U) (U := U.calling g mk a) (Vm.Alike.refl U.vm) z.2.2.2.1, z.2.2.2.2.1, z.2.2.2.2.2.blind g mk a⟩, va_recv hKc hPc (ci := 2) (q0 := 0) rfl rfl, fun U hU hW => ⟨rfl, by rw [hU], by rw [hU]; exact hPc, va_K.moved hW.alike hKc, hDc.weaken (fun _ _ _ _ => trivial), hE.at hS hU hW hFc⟩⟩ rfl rfl hl.1 rfl (lv_room (Nat.le_of_ble_eq_true rfl)) dL_law_520 ⟨(by show cells + 1 ≤ 1049; omega), (by show slots + 6 ≤ 8580; omega)⟩) hS (fun q _ h => hFc q h) hFc (fun r9 u9 t8 H1 locs ht hvm hw hB hz1 hk1 hS => ?_)
  obtain ⟨hP1, hD1⟩ := hB
  rw [ht] at hP1
  obtain ⟨hP, hD⟩ := va_join (wr := (wL q cq o9 co (VO (kX1_substitute (xs (i + 1)) (xs (i + 2)) (xs (i + 3))) V9 ((fX1_substitute T R n (xs (i + 1)) (xs (i + 2)) (xs (i + 3))).1).toInt64) ((fX1_substitute T R n (xs (i + 1)) (xs (i + 2)) (xs (i + 3))).2.1) ((fX1_substitute T R n (xs (i + 1)) (xs (i + 2)) (xs (i + 3))).2.2.1) S X M P (nI (fX1_substitute T R n (xs (i + 1)) (xs (i + 2)) (xs (i + 3))).2.2.2) h (nI k) w f d v (nI z))) (w1 := (wM qm cm ((fX2_substitute T R n (xs (i + 1)) (xs (i + 2)) (xs (i + 3))).2.1) ((fX2_substitute T R n (xs (i + 1)) (xs (i + 2)) (xs (i + 3))).2.2.1) S X (nI (fX2_substitute T R n (xs (i + 1)) (xs (i + 2)) (xs (i + 3))).2.2.2.1) h (nI k) ((fX2_substitute T R n (xs (i + 1)) (xs (i + 2)) (xs (i + 3))).2.2.2.2) (nI a) o)) hP hD [9, 10, 11, 12, 13] [0, 1, 2, 3, 4, 5, 6, 7, 8] rfl rfl (by decide) (by decide) hk1 hFc hP1 hD1
  generalize H1 = H at hP hS ⊢
  have hP : va_P D vwCl (wW q cq o9 co qm cm (VO (kX1_substitute (xs (i + 1)) (xs (i + 2)) (xs (i + 3))) V9 ((fX1_substitute T R n (xs (i + 1)) (xs (i + 2)) (xs (i + 3))).1).toInt64) ((fX1_substitute T R n (xs (i + 1)) (xs (i + 2)) (xs (i + 3))).2.1) ((fX1_substitute T R n (xs (i + 1)) (xs (i + 2)) (xs (i + 3))).2.2.1) S X M P (nI (fX1_substitute T R n (xs (i + 1)) (xs (i + 2)) (xs (i + 3))).2.2.2) h (nI k) w f d v (nI z) ((fX2_substitute T R n (xs (i + 1)) (xs (i + 2)) (xs (i + 3))).2.1) ((fX2_substitute T R n (xs (i + 1)) (xs (i + 2)) (xs (i + 3))).2.2.1) S X (nI (fX2_substitute T R n (xs (i + 1)) (xs (i + 2)) (xs (i + 3))).2.2.2.1) h (nI k) ((fX2_substitute T R n (xs (i + 1)) (xs (i + 2)) (xs (i + 3))).2.2.2.2) (nI a) o) H := hP
  have hD : va_D (fun q : Nat => s.heap.size ≤ q) (wW q cq o9 co qm cm (VO (kX1_substitute (xs (i + 1)) (xs (i + 2)) (xs (i + 3))) V9 ((fX1_substitute T R n (xs (i + 1)) (xs (i + 2)) (xs (i + 3))).1).toInt64) ((fX1_substitute T R n (xs (i + 1)) (xs (i + 2)) (xs (i + 3))).2.1) ((fX1_substitute T R n (xs (i + 1)) (xs (i + 2)) (xs (i + 3))).2.2.1) S X M P (nI (fX1_substitute T R n (xs (i + 1)) (xs (i + 2)) (xs (i + 3))).2.2.2) h (nI k) w f d v (nI z) ((fX2_substitute T R n (xs (i + 1)) (xs (i + 2)) (xs (i + 3))).2.1) ((fX2_substitute T R n (xs (i + 1)) (xs (i + 2)) (xs (i + 3))).2.2.1) S X (nI (fX2_substitute T R n (xs (i + 1)) (xs (i + 2)) (xs (i + 3))).2.2.2.1) h (nI k) ((fX2_substitute T R n (xs (i + 1)) (xs (i + 2)) (xs (i + 3))).2.2.2.2) (nI a) o) := hD
  subst r9
  have he := e_substitute hT hR hn (xs (i + 1)) (xs (i + 2)) (xs (i + 3))
  rw [he.2.1.1, he.2.1.2.1, he.2.1.2.2] at hP hD
  refine lv_istore (lv' := [(6, .int ((fX2_substitute T R n (xs (i + 1)) (xs (i + 2)) (xs (i + 3))).1)), (5, .int (cd1 (kX1_substitute (xs (i + 1)) (xs (i + 2)) (xs (i + 3))))), (0, .ref b), (1, .ref (q 0)), (2, .ref (qm 0)), (3, .ref o9), (4, .int (nI i))]) hx hb dL_law_523 hl (by decide) rfl (fun ls hl => ?_)
  refine lv_aload_n hx hb dL_law_525 rfl (lv_at hl 4 rfl) ?_
  have hPc := hP.sub (ws' := (wM qm cm ((fX1_substitute T R n (xs (i + 1)) (xs (i + 2)) (xs (i + 3))).2.1) ((fX1_substitute T R n (xs (i + 1)) (xs (i + 2)) (xs (i + 3))).2.2.1) S X (nI ((fX1_substitute T R n (xs (i + 1)) (xs (i + 2)) (xs (i + 3))).2.2.2)) h (nI (k)) ((fX2_substitute T R n (xs (i + 1)) (xs (i + 2)) (xs (i + 3))).2.2.2.2) (nI (a)) o)) [9, 10, 11, 12, 13] rfl
  have hKc := hK.sub (tys' := (tyM cm)) [7, 8, 9, 10] rfl
  refine vp_callSi (va_Run.run (va_runV (As := []) (rest := []) ⟨hx, hb, hml, hown, hts⟩ (c_X2_thrown l D qm cm ((fX1_substitute T R n (xs (i + 1)) (xs (i + 2)) (xs (i + 3))).2.1) ((fX1_substitute T R n (xs (i + 1)) (xs (i + 2)) (xs (i + 3))).2.2.1) S X (nI ((fX1_substitute T R n (xs (i + 1)) (xs (i + 2)) (xs (i + 3))).2.2.2)) h (nI (k)) ((fX2_substitute T R n (xs (i + 1)) (xs (i + 2)) (xs (i + 3))).2.2.2.2) (nI (a)) o) (cwV 0 hts gL_law_X2_thrown rfl rfl rfl (by decide +kernel) ⟨Nat.le_of_ble_eq_true rfl, Nat.le_of_ble_eq_true rfl⟩) ⟨fun a U g mk z => ⟨z.1, z.2.1, va_K.moved (u := U) (U := U.calling g mk a) (Vm.Alike.refl U.vm) z.2.2.1, z.2.2.2.blind g mk a⟩, va_recv hKc hPc (ci := 2) (q0 := 0) rfl rfl, fun U hU hW => ⟨rfl, by rw [hU]; exact hPc, va_K.moved hW.alike hKc, hE.at0 hS hU hW⟩⟩ rfl rfl hl.1 rfl (lv_room (Nat.le_of_ble_eq_true rfl)) dL_law_526 ⟨(by show cells + 1 ≤ 1049; omega), (by show slots + 6 ≤ 8580; omega)⟩)) (fun r9 hr9 => ?_)
  subst r9
  refine lv_iload hx hb dL_law_529 (lv_at hl 1 rfl) ?_
  have halt := he.1
  have hth : ((fX2_substitute T R n (xs (i + 1)) (xs (i + 2)) (xs (i + 3))).2.2.2.2) = cd1 (kX1_substitute (xs (i + 1)) (xs (i + 2)) (xs (i + 3))) := by
    rcases halt with ⟨h1, h2, h3⟩ | ⟨h1, h2⟩ <;> (rw [h1, h2]; rfl)
  have hval : (kX1_substitute (xs (i + 1)) (xs (i + 2)) (xs (i + 3))) = 0 → (fX1_substitute T R n (xs (i + 1)) (xs (i + 2)) (xs (i + 3))).1 = (fX2_substitute T R n (xs (i + 1)) (xs (i + 2)) (xs (i + 3))).1 := by
    intro h0
    rcases halt with ⟨h1, h2, h3⟩ | ⟨h1, h2⟩
    · exact h3
    · rw [h1] at h0; exact absurd h0 (by decide)
  refine lv_icmp_eq (tgt := 536) hx hb dL_law_531 (by decide) (fun c1 => ?_) (fun c1 => absurd (show fX2_thrown ((fX2_substitute T R n (xs (i + 1)) (xs (i + 2)) (xs (i + 3))).2.2.2.2) = cd1 (kX1_substitute (xs (i + 1)) (xs (i + 2)) (xs (i + 3))) from hth) c1)
  refine lv_iload hx hb dL_law_536 (lv_at hl 1 rfl) ?_
  have kend : W p l e room_1 s m #[Value.ref b] below meth c H locs (cells + 1) (slots + 6) Q (F0 m 553 ls []) := by
    refine lv_goto (tgt := 1659) hx hb dL_law_553 (by decide) ?_
    exact kk ⟨((fX1_substitute T R n (xs (i + 1)) (xs (i + 2)) (xs (i + 3))).2.1), ((fX1_substitute T R n (xs (i + 1)) (xs (i + 2)) (xs (i + 3))).2.2.1), S, X, M, P, ((fX1_substitute T R n (xs (i + 1)) (xs (i + 2)) (xs (i + 3))).2.2.2), (k), (z), (a), h, w, f, d, v, ((fX2_substitute T R n (xs (i + 1)) (xs (i + 2)) (xs (i + 3))).2.2.2.2), o, (VO (kX1_substitute (xs (i + 1)) (xs (i + 2)) (xs (i + 3))) V9 ((fX1_substitute T R n (xs (i + 1)) (xs (i + 2)) (xs (i + 3))).1).toInt64)⟩ ⟨he.2.2.1, he.2.2.2.1, hS9, he.2.2.2.2, hk9, hP9⟩ H _ hP hD hS ls (lv_sub hl [2, 3, 4, 5, 6] rfl)
  refine lv_if_ne (tgt := 553) hx hb dL_law_538 (by decide) (fun c2 => kend) (fun c2 => ?_)
  have hK0 : (kX1_substitute (xs (i + 1)) (xs (i + 2)) (xs (i + 3))) = 0 := cd1_0 c2
  have hV0 : VO (kX1_substitute (xs (i + 1)) (xs (i + 2)) (xs (i + 3))) V9 ((fX1_substitute T R n (xs (i + 1)) (xs (i + 2)) (xs (i + 3))).1).toInt64 = vp_updL V9 0 ((fX1_substitute T R n (xs (i + 1)) (xs (i + 2)) (xs (i + 3))).1).toInt64 := if_pos hK0
  refine lv_aload_n hx hb dL_law_541 rfl (lv_at hl 5 rfl) ?_
  refine lv_iconst (v := 0) hx hb dL_law_542 (by decide) ?_
  refine va_lald hx hb hK hP 0 0 rfl rfl (i := 0) (vp_in_nI (n := 0) (N := 1) (by decide) (by decide)) dL_law_543 ?_
  refine lv_isL (((fX1_substitute T R n (xs (i + 1)) (xs (i + 2)) (xs (i + 3))).1).toInt64) (by rw [hV0]; rfl) ?_
  refine lv_iload hx hb dL_law_544 (lv_at hl 0 rfl) ?_
  refine lv_i2l hx hb dL_law_546 rfl ?_
  rw [hval hK0]
  refine W.lcmp hx hb dL_law_547 ?_
  exact lv_if_eq (tgt := 553) hx hb dL_law_548 (by decide) (fun c3 => kend) (fun c3 => absurd (lg_self _) c3)
set_option maxHeartbeats 4000000 in
set_option maxRecDepth 100000 in
theorem k_type {p : Program} {l : Launch} (hst : l.stackTraces = false) {e : Env} {s : State} {m : MethodId} {below : List Frame} {meth : Method} {c : Code} {b L : Nat} {xs : Nat → Int32} (hL : L ≤ 2560) (C0 : lw_At p s m meth c b L xs) (hE : envE (fun q : Nat => s.heap.size ≤ q) s) {D : va_G} {q : Nat → Nat} {cq : Nat → ClassId} {o9 : Nat} {co : ClassId} {qm : Nat → Nat} {cm : Nat → ClassId} (hK : va_K D vwCl (tyA cq co cm) s) (σ : LwS) (hok : okS σ) (H : Heap) (locs : List Loc) (hP : va_P D vwCl (wA q cq o9 co qm cm σ) H) (hD : va_D (fun q : Nat => s.heap.size ≤ q) (wA q cq o9 co qm cm σ)) (hS : va_S (fun q : Nat => s.heap.size ≤ q) s.heap H locs) (i : Nat) (hi : i + 5 ≤ L) (ls : Array Slot) (hl : lv_has ls 7 (lvA b q o9 qm i)) {cells slots : Nat} (hc : cells + 1 ≤ 1049) (hs : slots + 6 ≤ 8580) {Q : State → Prop} (kk : ∀ σ2 : LwS, okS σ2 → ∀ (H2 : Heap) (locs2 : List Loc), va_P D vwCl (wA q cq o9 co qm cm σ2) H2 → va_D (fun q : Nat => s.heap.size ≤ q) (wA q cq o9 co qm cm σ2) → va_S (fun q : Nat => s.heap.size ≤ q) s.heap H2 locs2 → ∀ ls2 : Array Slot, lv_has ls2 7 (lvA b q o9 qm i) → W p l e room_1 s m #[Value.ref b] below meth c H2 locs2 (cells + 1) (slots + 6) Q (F0 m 1659 ls2 [])) : W p l e room_1 s m #[Value.ref b] below meth c H locs cells slots Q (F0 m 556 ls []) := by
  obtain ⟨hx, hb, hr, hml, hown, hts, hX, hbl, hlocks, hgv⟩ := C0
  have hown : s.vm.findClass RL = some m.cls := hown
  have hts : ∀ w ∈ wsL_law, w.before #[Value.ref b] s = true := fun w hw => hts w (wsL_law_in w hw)
  have hA : ∀ q : Nat, s.heap.size ≤ q → (fun q : Nat => s.heap.size ≤ q) q := fun _ h => h
  have hbA : ¬ (fun q : Nat => s.heap.size ≤ q) b := Nat.not_le.mpr hbl
  obtain ⟨T, R, S, X, M, P, n, k, z, a, h, w, f, d, v, th, o, V9⟩ := σ
  obtain ⟨hT, hR, hS9, hn, hk9, hP9⟩ := hok
  dsimp only at hT hR hS9 hn hk9 hP9
  have hP : va_P D vwCl (wW q cq o9 co qm cm V9 T R S X M P (nI n) h (nI k) w f d v (nI z) T R S X (nI n) h (nI k) th (nI a) o) H := hP
  have hD : va_D (fun q : Nat => s.heap.size ≤ q) (wW q cq o9 co qm cm V9 T R S X M P (nI n) h (nI k) w f d v (nI z) T R S X (nI n) h (nI k) th (nI a) o) := hD
  refine lv_aload_n hx hb dL_law_556 rfl (lv_at hl 1 rfl) ?_
  refine lv_aload_n hx hb dL_law_557 rfl (lv_at hl 0 rfl) ?_
  refine lv_iload hx hb dL_law_558 (lv_at hl 4 rfl) ?_
  refine lv_iconst (v := 1) hx hb dL_law_560 (by decide) ?_
  refine lv_iadd hx hb dL_law_561 ?_
  refine lv_is (nI (i + 1)) (nI_add i 1) ?_
  refine va_sld hx hb hX hbl hbA hS (i := nI (i + 1)) (vp_in_nI (by omega) (by omega)) dL_law_562 ?_
  refine lv_is (xs (i + 1)) (by rw [nI_clamp (by omega)]) ?_
  refine lv_i2c (v := (((xs (i + 1)).toUInt32 % 65536).toInt32)) hx hb dL_law_563 rfl ?_
  refine lv_aload_n hx hb dL_law_564 rfl (lv_at hl 3 rfl) ?_
  have hPc := hP.sub (ws' := (wL q cq o9 co V9 T R S X M P (nI n) h (nI k) w f d v (nI z))) [0, 1, 2, 3, 4, 5, 6, 7, 8] rfl
  have hKc := hK.sub (tys' := (tyL cq co)) [0, 1, 2, 3, 4, 5, 6] rfl
  have hDc := hD.sub (ws' := (wL q cq o9 co V9 T R S X M P (nI n) h (nI k) w f d v (nI z))) [0, 1, 2, 3, 4, 5, 6, 7, 8] (by decide) rfl
  have hFc := va_free (wc := (wL q cq o9 co V9 T R S X M P (nI n) h (nI k) w f d v (nI z))) hD hS hA [0, 1, 2, 3, 4, 5, 6, 7, 8] rfl
  refine va_calli (vx_runSW (As := [.ref (q 0), .int (((xs (i + 1)).toUInt32 % 65536).toInt32), .ref o9]) (rest := []) ⟨hx, hb, hml, hown, hts⟩ (c_L_type l hst D q cq o9 co V9 H.size T R S X M P (nI n) h k w f d v (nI z) (((xs (i + 1)).toUInt32 % 65536).toInt32) hk9 (i2c_nar _)) (vx_cwSW 3 hts gL_law_L_type rfl rfl rfl (by decide +kernel) ⟨Nat.le_of_ble_eq_true rfl, Nat.le_of_ble_eq_true rfl⟩) ⟨fun a U g mk z => ⟨z.1, z.2.1, z.2.2.1, va_K.moved (u := U) (U := U.calling g mk a) (Vm.Alike.refl U.vm) z.2.2.2.1, z.2.2.2.2.1, z.2.2.2.2.2.blind g mk a⟩, fun U hU hW => ⟨rfl, by rw [hU], by rw [hU]; exact hPc, va_K.moved hW.alike hKc, hDc.weaken (fun _ _ _ _ => trivial), hE.at hS hU hW hFc⟩⟩ rfl rfl hl.1 rfl (lv_room (Nat.le_of_ble_eq_true rfl)) dL_law_565 ⟨(by show cells + 1 ≤ 1049; omega), (by show slots + 6 ≤ 8580; omega)⟩) hS (fun q _ h => hFc q h) hFc (fun r9 u9 t8 H1 locs ht hvm hw hB hz1 hk1 hS => ?_)
  obtain ⟨hP1, hD1⟩ := hB
  rw [ht] at hP1
  obtain ⟨hP, hD⟩ := va_join (wr := (wM qm cm T R S X (nI n) h (nI k) th (nI a) o)) (w1 := (wL q cq o9 co (VO (kX1_type k) V9 ((fX1_type X k (((xs (i + 1)).toUInt32 % 65536).toInt32)).1).toInt64) T R S ((fX1_type X k (((xs (i + 1)).toUInt32 % 65536).toInt32)).2.1) M P (nI n) h (nI (fX1_type X k (((xs (i + 1)).toUInt32 % 65536).toInt32)).2.2) w f d v (nI z))) hP hD [0, 1, 2, 3, 4, 5, 6, 7, 8] [9, 10, 11, 12, 13] rfl rfl (by decide) (by decide) hk1 hFc hP1 hD1
  have hP := hP.sub (ws' := (wW q cq o9 co qm cm (VO (kX1_type k) V9 ((fX1_type X k (((xs (i + 1)).toUInt32 % 65536).toInt32)).1).toInt64) T R S ((fX1_type X k (((xs (i + 1)).toUInt32 % 65536).toInt32)).2.1) M P (nI n) h (nI (fX1_type X k (((xs (i + 1)).toUInt32 % 65536).toInt32)).2.2) w f d v (nI z) T R S X (nI n) h (nI k) th (nI a) o)) [5, 6, 7, 8, 9, 10, 11, 12, 13, 0, 1, 2, 3, 4] rfl
  have hD := hD.sub (ws' := (wW q cq o9 co qm cm (VO (kX1_type k) V9 ((fX1_type X k (((xs (i + 1)).toUInt32 % 65536).toInt32)).1).toInt64) T R S ((fX1_type X k (((xs (i + 1)).toUInt32 % 65536).toInt32)).2.1) M P (nI n) h (nI (fX1_type X k (((xs (i + 1)).toUInt32 % 65536).toInt32)).2.2) w f d v (nI z) T R S X (nI n) h (nI k) th (nI a) o)) [5, 6, 7, 8, 9, 10, 11, 12, 13, 0, 1, 2, 3, 4] (by decide) rfl
  generalize H1 = H at hP hS ⊢
  subst r9
  refine lv_istore (lv' := [(5, .int (cd1 (kX1_type k))), (0, .ref b), (1, .ref (q 0)), (2, .ref (qm 0)), (3, .ref o9), (4, .int (nI i))]) hx hb dL_law_568 hl (by decide) rfl (fun ls hl => ?_)
  refine lv_aload_n hx hb dL_law_570 rfl (lv_at hl 3 rfl) ?_
  refine lv_aload_n hx hb dL_law_571 rfl (lv_at hl 1 rfl) ?_
  refine lv_iload hx hb dL_law_572 (lv_at hl 5 rfl) ?_
  refine lv_iconst (v := 1) hx hb dL_law_574 (by decide) ?_
  refine lv_iadd hx hb dL_law_575 ?_
  refine lv_is (nI (i + 1)) (nI_add i 1) ?_
  refine va_sld hx hb hX hbl hbA hS (i := nI (i + 1)) (vp_in_nI (by omega) (by omega)) dL_law_576 ?_
  refine lv_is (xs (i + 1)) (by rw [nI_clamp (by omega)]) ?_
  refine lv_i2c (v := (((xs (i + 1)).toUInt32 % 65536).toInt32)) hx hb dL_law_577 rfl ?_
  have hPc := hP.sub (ws' := (wM qm cm T R S X (nI n) h (nI k) th (nI a) o)) [9, 10, 11, 12, 13] rfl
  have hKc := hK.sub (tys' := (tyM cm)) [7, 8, 9, 10] rfl
  have hDc := hD.sub (ws' := (wM qm cm T R S X (nI n) h (nI k) th (nI a) o)) [9, 10, 11, 12, 13] (by decide) rfl
  have hFc := va_free (wc := (wM qm cm T R S X (nI n) h (nI k) th (nI a) o)) hD hS hA [9, 10, 11, 12, 13] rfl
  refine va_calli (va_runV (As := [.int (((xs (i + 1)).toUInt32 % 65536).toInt32)]) (rest := []) ⟨hx, hb, hml, hown, hts⟩ (c_X2_type l D qm cm H.size T R S X (nI n) h k th (nI a) o (((xs (i + 1)).toUInt32 % 65536).toInt32) hk9) (cwV 1 hts gL_law_X2_type rfl rfl rfl (by decide +kernel) ⟨Nat.le_of_ble_eq_true rfl, Nat.le_of_ble_eq_true rfl⟩) ⟨fun a U g mk z => ⟨z.1, z.2.1, z.2.2.1, va_K.moved (u := U) (U := U.calling g mk a) (Vm.Alike.refl U.vm) z.2.2.2.1, z.2.2.2.2.1, z.2.2.2.2.2.blind g mk a⟩, va_recv hKc hPc (ci := 2) (q0 := 0) rfl rfl, fun U hU hW => ⟨rfl, by rw [hU], by rw [hU]; exact hPc, va_K.moved hW.alike hKc, hDc.weaken (fun _ _ _ _ => trivial), hE.at hS hU hW hFc⟩⟩ rfl rfl hl.1 rfl (lv_room (Nat.le_of_ble_eq_true rfl)) dL_law_578 ⟨(by show cells + 1 ≤ 1049; omega), (by show slots + 6 ≤ 8580; omega)⟩) hS (fun q _ h => hFc q h) hFc (fun r9 u9 t8 H1 locs ht hvm hw hB hz1 hk1 hS => ?_)
  obtain ⟨hP1, hD1⟩ := hB
  rw [ht] at hP1
  obtain ⟨hP, hD⟩ := va_join (wr := (wL q cq o9 co (VO (kX1_type k) V9 ((fX1_type X k (((xs (i + 1)).toUInt32 % 65536).toInt32)).1).toInt64) T R S ((fX1_type X k (((xs (i + 1)).toUInt32 % 65536).toInt32)).2.1) M P (nI n) h (nI (fX1_type X k (((xs (i + 1)).toUInt32 % 65536).toInt32)).2.2) w f d v (nI z))) (w1 := (wM qm cm T R S ((fX2_type X k (((xs (i + 1)).toUInt32 % 65536).toInt32)).2.1) (nI n) h (nI (fX2_type X k (((xs (i + 1)).toUInt32 % 65536).toInt32)).2.2.1) ((fX2_type X k (((xs (i + 1)).toUInt32 % 65536).toInt32)).2.2.2) (nI a) o)) hP hD [9, 10, 11, 12, 13] [0, 1, 2, 3, 4, 5, 6, 7, 8] rfl rfl (by decide) (by decide) hk1 hFc hP1 hD1
  generalize H1 = H at hP hS ⊢
  have hP : va_P D vwCl (wW q cq o9 co qm cm (VO (kX1_type k) V9 ((fX1_type X k (((xs (i + 1)).toUInt32 % 65536).toInt32)).1).toInt64) T R S ((fX1_type X k (((xs (i + 1)).toUInt32 % 65536).toInt32)).2.1) M P (nI n) h (nI (fX1_type X k (((xs (i + 1)).toUInt32 % 65536).toInt32)).2.2) w f d v (nI z) T R S ((fX2_type X k (((xs (i + 1)).toUInt32 % 65536).toInt32)).2.1) (nI n) h (nI (fX2_type X k (((xs (i + 1)).toUInt32 % 65536).toInt32)).2.2.1) ((fX2_type X k (((xs (i + 1)).toUInt32 % 65536).toInt32)).2.2.2) (nI a) o) H := hP
  have hD : va_D (fun q : Nat => s.heap.size ≤ q) (wW q cq o9 co qm cm (VO (kX1_type k) V9 ((fX1_type X k (((xs (i + 1)).toUInt32 % 65536).toInt32)).1).toInt64) T R S ((fX1_type X k (((xs (i + 1)).toUInt32 % 65536).toInt32)).2.1) M P (nI n) h (nI (fX1_type X k (((xs (i + 1)).toUInt32 % 65536).toInt32)).2.2) w f d v (nI z) T R S ((fX2_type X k (((xs (i + 1)).toUInt32 % 65536).toInt32)).2.1) (nI n) h (nI (fX2_type X k (((xs (i + 1)).toUInt32 % 65536).toInt32)).2.2.1) ((fX2_type X k (((xs (i + 1)).toUInt32 % 65536).toInt32)).2.2.2) (nI a) o) := hD
  subst r9
  have he := e_type X hk9 (((xs (i + 1)).toUInt32 % 65536).toInt32)
  rw [he.2.1.1, he.2.1.2] at hP hD
  refine lv_istore (lv' := [(6, .int ((fX2_type X k (((xs (i + 1)).toUInt32 % 65536).toInt32)).1)), (5, .int (cd1 (kX1_type k))), (0, .ref b), (1, .ref (q 0)), (2, .ref (qm 0)), (3, .ref o9), (4, .int (nI i))]) hx hb dL_law_581 hl (by decide) rfl (fun ls hl => ?_)
  refine lv_aload_n hx hb dL_law_583 rfl (lv_at hl 4 rfl) ?_
  have hPc := hP.sub (ws' := (wM qm cm T R S ((fX1_type X k (((xs (i + 1)).toUInt32 % 65536).toInt32)).2.1) (nI (n)) h (nI ((fX1_type X k (((xs (i + 1)).toUInt32 % 65536).toInt32)).2.2)) ((fX2_type X k (((xs (i + 1)).toUInt32 % 65536).toInt32)).2.2.2) (nI (a)) o)) [9, 10, 11, 12, 13] rfl
  have hKc := hK.sub (tys' := (tyM cm)) [7, 8, 9, 10] rfl
  refine vp_callSi (va_Run.run (va_runV (As := []) (rest := []) ⟨hx, hb, hml, hown, hts⟩ (c_X2_thrown l D qm cm T R S ((fX1_type X k (((xs (i + 1)).toUInt32 % 65536).toInt32)).2.1) (nI (n)) h (nI ((fX1_type X k (((xs (i + 1)).toUInt32 % 65536).toInt32)).2.2)) ((fX2_type X k (((xs (i + 1)).toUInt32 % 65536).toInt32)).2.2.2) (nI (a)) o) (cwV 0 hts gL_law_X2_thrown rfl rfl rfl (by decide +kernel) ⟨Nat.le_of_ble_eq_true rfl, Nat.le_of_ble_eq_true rfl⟩) ⟨fun a U g mk z => ⟨z.1, z.2.1, va_K.moved (u := U) (U := U.calling g mk a) (Vm.Alike.refl U.vm) z.2.2.1, z.2.2.2.blind g mk a⟩, va_recv hKc hPc (ci := 2) (q0 := 0) rfl rfl, fun U hU hW => ⟨rfl, by rw [hU]; exact hPc, va_K.moved hW.alike hKc, hE.at0 hS hU hW⟩⟩ rfl rfl hl.1 rfl (lv_room (Nat.le_of_ble_eq_true rfl)) dL_law_584 ⟨(by show cells + 1 ≤ 1049; omega), (by show slots + 6 ≤ 8580; omega)⟩)) (fun r9 hr9 => ?_)
  subst r9
  refine lv_iload hx hb dL_law_587 (lv_at hl 1 rfl) ?_
  have halt := he.1
  have hth : ((fX2_type X k (((xs (i + 1)).toUInt32 % 65536).toInt32)).2.2.2) = cd1 (kX1_type k) := by
    rcases halt with ⟨h1, h2, h3⟩ | ⟨h1, h2⟩ <;> (rw [h1, h2]; rfl)
  have hval : (kX1_type k) = 0 → (fX1_type X k (((xs (i + 1)).toUInt32 % 65536).toInt32)).1 = (fX2_type X k (((xs (i + 1)).toUInt32 % 65536).toInt32)).1 := by
    intro h0
    rcases halt with ⟨h1, h2, h3⟩ | ⟨h1, h2⟩
    · exact h3
    · rw [h1] at h0; exact absurd h0 (by decide)
  refine lv_icmp_eq (tgt := 594) hx hb dL_law_589 (by decide) (fun c1 => ?_) (fun c1 => absurd (show fX2_thrown ((fX2_type X k (((xs (i + 1)).toUInt32 % 65536).toInt32)).2.2.2) = cd1 (kX1_type k) from hth) c1)
  refine lv_iload hx hb dL_law_594 (lv_at hl 1 rfl) ?_
  have kend : W p l e room_1 s m #[Value.ref b] below meth c H locs (cells + 1) (slots + 6) Q (F0 m 611 ls []) := by
    refine lv_goto (tgt := 1659) hx hb dL_law_611 (by decide) ?_
    exact kk ⟨T, R, S, ((fX1_type X k (((xs (i + 1)).toUInt32 % 65536).toInt32)).2.1), M, P, (n), ((fX1_type X k (((xs (i + 1)).toUInt32 % 65536).toInt32)).2.2), (z), (a), h, w, f, d, v, ((fX2_type X k (((xs (i + 1)).toUInt32 % 65536).toInt32)).2.2.2), o, (VO (kX1_type k) V9 ((fX1_type X k (((xs (i + 1)).toUInt32 % 65536).toInt32)).1).toInt64)⟩ ⟨hT, hR, hS9, hn, he.2.2, hP9⟩ H _ hP hD hS ls (lv_sub hl [2, 3, 4, 5, 6] rfl)
  refine lv_if_ne (tgt := 611) hx hb dL_law_596 (by decide) (fun c2 => kend) (fun c2 => ?_)
  have hK0 : (kX1_type k) = 0 := cd1_0 c2
  have hV0 : VO (kX1_type k) V9 ((fX1_type X k (((xs (i + 1)).toUInt32 % 65536).toInt32)).1).toInt64 = vp_updL V9 0 ((fX1_type X k (((xs (i + 1)).toUInt32 % 65536).toInt32)).1).toInt64 := if_pos hK0
  refine lv_aload_n hx hb dL_law_599 rfl (lv_at hl 5 rfl) ?_
  refine lv_iconst (v := 0) hx hb dL_law_600 (by decide) ?_
  refine va_lald hx hb hK hP 0 0 rfl rfl (i := 0) (vp_in_nI (n := 0) (N := 1) (by decide) (by decide)) dL_law_601 ?_
  refine lv_isL (((fX1_type X k (((xs (i + 1)).toUInt32 % 65536).toInt32)).1).toInt64) (by rw [hV0]; rfl) ?_
  refine lv_iload hx hb dL_law_602 (lv_at hl 0 rfl) ?_
  refine lv_i2l hx hb dL_law_604 rfl ?_
  rw [hval hK0]
  refine W.lcmp hx hb dL_law_605 ?_
  exact lv_if_eq (tgt := 611) hx hb dL_law_606 (by decide) (fun c3 => kend) (fun c3 => absurd (lg_self _) c3)
set_option maxHeartbeats 4000000 in
set_option maxRecDepth 100000 in
theorem k_clearText {p : Program} {l : Launch} (hst : l.stackTraces = false) {e : Env} {s : State} {m : MethodId} {below : List Frame} {meth : Method} {c : Code} {b L : Nat} {xs : Nat → Int32} (hL : L ≤ 2560) (C0 : lw_At p s m meth c b L xs) (hE : envE (fun q : Nat => s.heap.size ≤ q) s) {D : va_G} {q : Nat → Nat} {cq : Nat → ClassId} {o9 : Nat} {co : ClassId} {qm : Nat → Nat} {cm : Nat → ClassId} (hK : va_K D vwCl (tyA cq co cm) s) (σ : LwS) (hok : okS σ) (H : Heap) (locs : List Loc) (hP : va_P D vwCl (wA q cq o9 co qm cm σ) H) (hD : va_D (fun q : Nat => s.heap.size ≤ q) (wA q cq o9 co qm cm σ)) (hS : va_S (fun q : Nat => s.heap.size ≤ q) s.heap H locs) (i : Nat) (hi : i + 5 ≤ L) (ls : Array Slot) (hl : lv_has ls 7 (lvA b q o9 qm i)) {cells slots : Nat} (hc : cells + 1 ≤ 1049) (hs : slots + 6 ≤ 8580) {Q : State → Prop} (kk : ∀ σ2 : LwS, okS σ2 → ∀ (H2 : Heap) (locs2 : List Loc), va_P D vwCl (wA q cq o9 co qm cm σ2) H2 → va_D (fun q : Nat => s.heap.size ≤ q) (wA q cq o9 co qm cm σ2) → va_S (fun q : Nat => s.heap.size ≤ q) s.heap H2 locs2 → ∀ ls2 : Array Slot, lv_has ls2 7 (lvA b q o9 qm i) → W p l e room_1 s m #[Value.ref b] below meth c H2 locs2 (cells + 1) (slots + 6) Q (F0 m 1659 ls2 [])) : W p l e room_1 s m #[Value.ref b] below meth c H locs cells slots Q (F0 m 614 ls []) := by
  obtain ⟨hx, hb, hr, hml, hown, hts, hX, hbl, hlocks, hgv⟩ := C0
  have hown : s.vm.findClass RL = some m.cls := hown
  have hts : ∀ w ∈ wsL_law, w.before #[Value.ref b] s = true := fun w hw => hts w (wsL_law_in w hw)
  have hA : ∀ q : Nat, s.heap.size ≤ q → (fun q : Nat => s.heap.size ≤ q) q := fun _ h => h
  have hbA : ¬ (fun q : Nat => s.heap.size ≤ q) b := Nat.not_le.mpr hbl
  obtain ⟨T, R, S, X, M, P, n, k, z, a, h, w, f, d, v, th, o, V9⟩ := σ
  obtain ⟨hT, hR, hS9, hn, hk9, hP9⟩ := hok
  dsimp only at hT hR hS9 hn hk9 hP9
  have hP : va_P D vwCl (wW q cq o9 co qm cm V9 T R S X M P (nI n) h (nI k) w f d v (nI z) T R S X (nI n) h (nI k) th (nI a) o) H := hP
  have hD : va_D (fun q : Nat => s.heap.size ≤ q) (wW q cq o9 co qm cm V9 T R S X M P (nI n) h (nI k) w f d v (nI z) T R S X (nI n) h (nI k) th (nI a) o) := hD
  refine lv_aload_n hx hb dL_law_614 rfl (lv_at hl 1 rfl) ?_
  have hPc := hP.sub (ws' := (wB q cq T R S X M P (nI n) h (nI k) w f d v (nI z))) [1, 2, 3, 4, 5, 6, 7, 8] rfl
  have hKc := hK.sub (tys' := (tyB cq)) [1, 2, 3, 4, 5, 6] rfl
  have hDc := hD.sub (ws' := (wB q cq T R S X M P (nI n) h (nI k) w f d v (nI z))) [1, 2, 3, 4, 5, 6, 7, 8] (by decide) rfl
  have hFc := va_free (wc := (wB q cq T R S X M P (nI n) h (nI k) w f d v (nI z))) hD hS hA [1, 2, 3, 4, 5, 6, 7, 8] rfl
  refine va_calli (va_runV (As := []) (rest := []) ⟨hx, hb, hml, hown, hts⟩ (c_X1_clearText l D q cq H.size T R S X M P (nI n) h k w f d v (nI z)) (cwV 0 hts gL_law_X1_clearText rfl rfl rfl (by decide +kernel) ⟨Nat.le_of_ble_eq_true rfl, Nat.le_of_ble_eq_true rfl⟩) ⟨fun a U g mk z => ⟨z.1, z.2.1, z.2.2.1, va_K.moved (u := U) (U := U.calling g mk a) (Vm.Alike.refl U.vm) z.2.2.2.1, z.2.2.2.2.1, z.2.2.2.2.2.blind g mk a⟩, va_recv hKc hPc (ci := 1) (q0 := 0) rfl rfl, fun U hU hW => ⟨rfl, by rw [hU], by rw [hU]; exact hPc, va_K.moved hW.alike hKc, hDc.weaken (fun _ _ _ _ => trivial), hE.at hS hU hW hFc⟩⟩ rfl rfl hl.1 rfl (lv_room (Nat.le_of_ble_eq_true rfl)) dL_law_615 ⟨(by show cells ≤ 1049; omega), (by show slots ≤ 8580; omega)⟩) hS (fun q _ h => hFc q h) hFc (fun r9 u9 t8 H1 locs ht hvm hw hB hz1 hk1 hS => ?_)
  obtain ⟨hP1, hD1⟩ := hB
  rw [ht] at hP1
  obtain ⟨hP, hD⟩ := va_join (wr := ((o9, .inl (co, (1, .inr (.inl V9)))) :: wM qm cm T R S X (nI n) h (nI k) th (nI a) o)) (w1 := (wB q cq T R S X M P (nI n) h (nI (fX1_clearText k).2) w f d v (nI z))) hP hD [1, 2, 3, 4, 5, 6, 7, 8] [0, 9, 10, 11, 12, 13] rfl rfl (by decide) (by decide) hk1 hFc hP1 hD1
  have hP := hP.sub (ws' := (wW q cq o9 co qm cm V9 T R S X M P (nI n) h (nI (fX1_clearText k).2) w f d v (nI z) T R S X (nI n) h (nI k) th (nI a) o)) [0, 6, 7, 8, 9, 10, 11, 12, 13, 1, 2, 3, 4, 5] rfl
  have hD := hD.sub (ws' := (wW q cq o9 co qm cm V9 T R S X M P (nI n) h (nI (fX1_clearText k).2) w f d v (nI z) T R S X (nI n) h (nI k) th (nI a) o)) [0, 6, 7, 8, 9, 10, 11, 12, 13, 1, 2, 3, 4, 5] (by decide) rfl
  generalize H1 = H at hP hS ⊢
  subst r9
  refine lv_aload_n hx hb dL_law_618 rfl (lv_at hl 2 rfl) ?_
  have hPc := hP.sub (ws' := (wM qm cm T R S X (nI n) h (nI k) th (nI a) o)) [9, 10, 11, 12, 13] rfl
  have hKc := hK.sub (tys' := (tyM cm)) [7, 8, 9, 10] rfl
  have hDc := hD.sub (ws' := (wM qm cm T R S X (nI n) h (nI k) th (nI a) o)) [9, 10, 11, 12, 13] (by decide) rfl
  have hFc := va_free (wc := (wM qm cm T R S X (nI n) h (nI k) th (nI a) o)) hD hS hA [9, 10, 11, 12, 13] rfl
  refine va_calli (va_runV (As := []) (rest := [.int ((fX1_clearText k).1)]) ⟨hx, hb, hml, hown, hts⟩ (c_X2_clearText l D qm cm H.size T R S X (nI n) h k th (nI a) o) (cwV 0 hts gL_law_X2_clearText rfl rfl rfl (by decide +kernel) ⟨Nat.le_of_ble_eq_true rfl, Nat.le_of_ble_eq_true rfl⟩) ⟨fun a U g mk z => ⟨z.1, z.2.1, z.2.2.1, va_K.moved (u := U) (U := U.calling g mk a) (Vm.Alike.refl U.vm) z.2.2.2.1, z.2.2.2.2.1, z.2.2.2.2.2.blind g mk a⟩, va_recv hKc hPc (ci := 2) (q0 := 0) rfl rfl, fun U hU hW => ⟨rfl, by rw [hU], by rw [hU]; exact hPc, va_K.moved hW.alike hKc, hDc.weaken (fun _ _ _ _ => trivial), hE.at hS hU hW hFc⟩⟩ rfl rfl hl.1 rfl (lv_room (Nat.le_of_ble_eq_true rfl)) dL_law_619 ⟨(by show cells ≤ 1049; omega), (by show slots ≤ 8580; omega)⟩) hS (fun q _ h => hFc q h) hFc (fun r9 u9 t8 H1 locs ht hvm hw hB hz1 hk1 hS => ?_)
  obtain ⟨hP1, hD1⟩ := hB
  rw [ht] at hP1
  obtain ⟨hP, hD⟩ := va_join (wr := (wL q cq o9 co V9 T R S X M P (nI n) h (nI (fX1_clearText k).2) w f d v (nI z))) (w1 := (wM qm cm T R S X (nI n) h (nI (fX2_clearText k).2.1) ((fX2_clearText k).2.2) (nI a) o)) hP hD [9, 10, 11, 12, 13] [0, 1, 2, 3, 4, 5, 6, 7, 8] rfl rfl (by decide) (by decide) hk1 hFc hP1 hD1
  generalize H1 = H at hP hS ⊢
  have hP : va_P D vwCl (wW q cq o9 co qm cm V9 T R S X M P (nI n) h (nI (fX1_clearText k).2) w f d v (nI z) T R S X (nI n) h (nI (fX2_clearText k).2.1) ((fX2_clearText k).2.2) (nI a) o) H := hP
  have hD : va_D (fun q : Nat => s.heap.size ≤ q) (wW q cq o9 co qm cm V9 T R S X M P (nI n) h (nI (fX1_clearText k).2) w f d v (nI z) T R S X (nI n) h (nI (fX2_clearText k).2.1) ((fX2_clearText k).2.2) (nI a) o) := hD
  subst r9
  have he := True.intro
  refine lv_icmp_eq (tgt := 1659) hx hb dL_law_622 (by decide) (fun c1 => ?_) (fun c1 => absurd (rfl) c1)
  refine W.widen (k := cells + 1) (n := slots + 6) (by show cells ≤ _; omega) (by show slots ≤ _; omega) ?_
  exact kk ⟨T, R, S, X, M, P, (n), ((fX1_clearText k).2), (z), (a), h, w, f, d, v, ((fX2_clearText k).2.2), o, V9⟩ ⟨hT, hR, hS9, hn, Nat.zero_le _, hP9⟩ H _ hP hD hS ls (lv_sub hl [0, 1, 2, 3, 4] rfl)
set_option maxHeartbeats 4000000 in
set_option maxRecDepth 100000 in
theorem k_textError {p : Program} {l : Launch} (hst : l.stackTraces = false) {e : Env} {s : State} {m : MethodId} {below : List Frame} {meth : Method} {c : Code} {b L : Nat} {xs : Nat → Int32} (hL : L ≤ 2560) (C0 : lw_At p s m meth c b L xs) (hE : envE (fun q : Nat => s.heap.size ≤ q) s) {D : va_G} {q : Nat → Nat} {cq : Nat → ClassId} {o9 : Nat} {co : ClassId} {qm : Nat → Nat} {cm : Nat → ClassId} (hK : va_K D vwCl (tyA cq co cm) s) (σ : LwS) (hok : okS σ) (H : Heap) (locs : List Loc) (hP : va_P D vwCl (wA q cq o9 co qm cm σ) H) (hD : va_D (fun q : Nat => s.heap.size ≤ q) (wA q cq o9 co qm cm σ)) (hS : va_S (fun q : Nat => s.heap.size ≤ q) s.heap H locs) (i : Nat) (hi : i + 5 ≤ L) (ls : Array Slot) (hl : lv_has ls 7 (lvA b q o9 qm i)) {cells slots : Nat} (hc : cells + 1 ≤ 1049) (hs : slots + 6 ≤ 8580) {Q : State → Prop} (kk : ∀ σ2 : LwS, okS σ2 → ∀ (H2 : Heap) (locs2 : List Loc), va_P D vwCl (wA q cq o9 co qm cm σ2) H2 → va_D (fun q : Nat => s.heap.size ≤ q) (wA q cq o9 co qm cm σ2) → va_S (fun q : Nat => s.heap.size ≤ q) s.heap H2 locs2 → ∀ ls2 : Array Slot, lv_has ls2 7 (lvA b q o9 qm i) → W p l e room_1 s m #[Value.ref b] below meth c H2 locs2 (cells + 1) (slots + 6) Q (F0 m 1659 ls2 [])) : W p l e room_1 s m #[Value.ref b] below meth c H locs cells slots Q (F0 m 627 ls []) := by
  obtain ⟨hx, hb, hr, hml, hown, hts, hX, hbl, hlocks, hgv⟩ := C0
  have hown : s.vm.findClass RL = some m.cls := hown
  have hts : ∀ w ∈ wsL_law, w.before #[Value.ref b] s = true := fun w hw => hts w (wsL_law_in w hw)
  have hA : ∀ q : Nat, s.heap.size ≤ q → (fun q : Nat => s.heap.size ≤ q) q := fun _ h => h
  have hbA : ¬ (fun q : Nat => s.heap.size ≤ q) b := Nat.not_le.mpr hbl
  obtain ⟨T, R, S, X, M, P, n, k, z, a, h, w, f, d, v, th, o, V9⟩ := σ
  obtain ⟨hT, hR, hS9, hn, hk9, hP9⟩ := hok
  dsimp only at hT hR hS9 hn hk9 hP9
  have hP : va_P D vwCl (wW q cq o9 co qm cm V9 T R S X M P (nI n) h (nI k) w f d v (nI z) T R S X (nI n) h (nI k) th (nI a) o) H := hP
  have hD : va_D (fun q : Nat => s.heap.size ≤ q) (wW q cq o9 co qm cm V9 T R S X M P (nI n) h (nI k) w f d v (nI z) T R S X (nI n) h (nI k) th (nI a) o) := hD
  refine lv_aload_n hx hb dL_law_627 rfl (lv_at hl 1 rfl) ?_
  have hPc := hP.sub (ws' := (wB q cq T R S X M P (nI n) h (nI k) w f d v (nI z))) [1, 2, 3, 4, 5, 6, 7, 8] rfl
  have hKc := hK.sub (tys' := (tyB cq)) [1, 2, 3, 4, 5, 6] rfl
  have hDc := hD.sub (ws' := (wB q cq T R S X M P (nI n) h (nI k) w f d v (nI z))) [1, 2, 3, 4, 5, 6, 7, 8] (by decide) rfl
  have hFc := va_free (wc := (wB q cq T R S X M P (nI n) h (nI k) w f d v (nI z))) hD hS hA [1, 2, 3, 4, 5, 6, 7, 8] rfl
  refine va_calli (va_runV (As := []) (rest := []) ⟨hx, hb, hml, hown, hts⟩ (c_X1_textError l D q cq H.size T R S X M P (nI n) h k w f d v (nI z) hk9) (cwV 0 hts gL_law_X1_textError rfl rfl rfl (by decide +kernel) ⟨Nat.le_of_ble_eq_true rfl, Nat.le_of_ble_eq_true rfl⟩) ⟨fun a U g mk z => ⟨z.1, z.2.1, z.2.2.1, va_K.moved (u := U) (U := U.calling g mk a) (Vm.Alike.refl U.vm) z.2.2.2.1, z.2.2.2.2.1, z.2.2.2.2.2.blind g mk a⟩, va_recv hKc hPc (ci := 1) (q0 := 0) rfl rfl, fun U hU hW => ⟨rfl, by rw [hU], by rw [hU]; exact hPc, va_K.moved hW.alike hKc, hDc.weaken (fun _ _ _ _ => trivial), hE.at hS hU hW hFc⟩⟩ rfl rfl hl.1 rfl (lv_room (Nat.le_of_ble_eq_true rfl)) dL_law_628 ⟨(by show cells ≤ 1049; omega), (by show slots ≤ 8580; omega)⟩) hS (fun q _ h => hFc q h) hFc (fun r9 u9 t8 H1 locs ht hvm hw hB hz1 hk1 hS => ?_)
  obtain ⟨hP1, hD1⟩ := hB
  rw [ht] at hP1
  obtain ⟨hP, hD⟩ := va_join (wr := ((o9, .inl (co, (1, .inr (.inl V9)))) :: wM qm cm T R S X (nI n) h (nI k) th (nI a) o)) (w1 := (wB q cq T R S X M P (nI n) h (nI k) ((fX1_textError X k).2.1) ((fX1_textError X k).2.2.1) ((fX1_textError X k).2.2.2.1) ((fX1_textError X k).2.2.2.2) (nI z))) hP hD [1, 2, 3, 4, 5, 6, 7, 8] [0, 9, 10, 11, 12, 13] rfl rfl (by decide) (by decide) hk1 hFc hP1 hD1
  have hP := hP.sub (ws' := (wW q cq o9 co qm cm V9 T R S X M P (nI n) h (nI k) ((fX1_textError X k).2.1) ((fX1_textError X k).2.2.1) ((fX1_textError X k).2.2.2.1) ((fX1_textError X k).2.2.2.2) (nI z) T R S X (nI n) h (nI k) th (nI a) o)) [0, 6, 7, 8, 9, 10, 11, 12, 13, 1, 2, 3, 4, 5] rfl
  have hD := hD.sub (ws' := (wW q cq o9 co qm cm V9 T R S X M P (nI n) h (nI k) ((fX1_textError X k).2.1) ((fX1_textError X k).2.2.1) ((fX1_textError X k).2.2.2.1) ((fX1_textError X k).2.2.2.2) (nI z) T R S X (nI n) h (nI k) th (nI a) o)) [0, 6, 7, 8, 9, 10, 11, 12, 13, 1, 2, 3, 4, 5] (by decide) rfl
  generalize H1 = H at hP hS ⊢
  subst r9
  refine lv_aload_n hx hb dL_law_631 rfl (lv_at hl 2 rfl) ?_
  have hPc := hP.sub (ws' := (wM qm cm T R S X (nI n) h (nI k) th (nI a) o)) [9, 10, 11, 12, 13] rfl
  have hKc := hK.sub (tys' := (tyM cm)) [7, 8, 9, 10] rfl
  have hDc := hD.sub (ws' := (wM qm cm T R S X (nI n) h (nI k) th (nI a) o)) [9, 10, 11, 12, 13] (by decide) rfl
  have hFc := va_free (wc := (wM qm cm T R S X (nI n) h (nI k) th (nI a) o)) hD hS hA [9, 10, 11, 12, 13] rfl
  refine va_calli (va_runV (As := []) (rest := [.int ((fX1_textError X k).1)]) ⟨hx, hb, hml, hown, hts⟩ (c_X2_textError l D qm cm H.size T R S X (nI n) h k th a o hk9) (cwV 0 hts gL_law_X2_textError rfl rfl rfl (by decide +kernel) ⟨Nat.le_of_ble_eq_true rfl, Nat.le_of_ble_eq_true rfl⟩) ⟨fun a U g mk z => ⟨z.1, z.2.1, z.2.2.1, va_K.moved (u := U) (U := U.calling g mk a) (Vm.Alike.refl U.vm) z.2.2.2.1, z.2.2.2.2.1, z.2.2.2.2.2.blind g mk a⟩, va_recv hKc hPc (ci := 2) (q0 := 0) rfl rfl, fun U hU hW => ⟨rfl, by rw [hU], by rw [hU]; exact hPc, va_K.moved hW.alike hKc, hDc.weaken (fun _ _ _ _ => trivial), hE.at hS hU hW hFc⟩⟩ rfl rfl hl.1 rfl (lv_room (Nat.le_of_ble_eq_true rfl)) dL_law_632 ⟨(by show cells ≤ 1049; omega), (by show slots ≤ 8580; omega)⟩) hS (fun q _ h => hFc q h) hFc (fun r9 u9 t8 H1 locs ht hvm hw hB hz1 hk1 hS => ?_)
  obtain ⟨hP1, hD1⟩ := hB
  rw [ht] at hP1
  obtain ⟨hP, hD⟩ := va_join (wr := (wL q cq o9 co V9 T R S X M P (nI n) h (nI k) ((fX1_textError X k).2.1) ((fX1_textError X k).2.2.1) ((fX1_textError X k).2.2.2.1) ((fX1_textError X k).2.2.2.2) (nI z))) (w1 := (wM qm cm T R S X (nI n) h (nI k) ((fX2_textError X k).2.1) (nI (fX2_textError X k).2.2.1) ((fX2_textError X k).2.2.2))) hP hD [9, 10, 11, 12, 13] [0, 1, 2, 3, 4, 5, 6, 7, 8] rfl rfl (by decide) (by decide) hk1 hFc hP1 hD1
  generalize H1 = H at hP hS ⊢
  have hP : va_P D vwCl (wW q cq o9 co qm cm V9 T R S X M P (nI n) h (nI k) ((fX1_textError X k).2.1) ((fX1_textError X k).2.2.1) ((fX1_textError X k).2.2.2.1) ((fX1_textError X k).2.2.2.2) (nI z) T R S X (nI n) h (nI k) ((fX2_textError X k).2.1) (nI (fX2_textError X k).2.2.1) ((fX2_textError X k).2.2.2)) H := hP
  have hD : va_D (fun q : Nat => s.heap.size ≤ q) (wW q cq o9 co qm cm V9 T R S X M P (nI n) h (nI k) ((fX1_textError X k).2.1) ((fX1_textError X k).2.2.1) ((fX1_textError X k).2.2.2.1) ((fX1_textError X k).2.2.2.2) (nI z) T R S X (nI n) h (nI k) ((fX2_textError X k).2.1) (nI (fX2_textError X k).2.2.1) ((fX2_textError X k).2.2.2)) := hD
  subst r9
  have he := e_textError X hk9
  refine lv_icmp_eq (tgt := 1659) hx hb dL_law_635 (by decide) (fun c1 => ?_) (fun c1 => absurd (he.1) c1)
  refine W.widen (k := cells + 1) (n := slots + 6) (by show cells ≤ _; omega) (by show slots ≤ _; omega) ?_
  exact kk ⟨T, R, S, X, M, P, (n), (k), (z), ((fX2_textError X k).2.2.1), h, ((fX1_textError X k).2.1), ((fX1_textError X k).2.2.1), ((fX1_textError X k).2.2.2.1), ((fX1_textError X k).2.2.2.2), ((fX2_textError X k).2.1), ((fX2_textError X k).2.2.2), V9⟩ ⟨hT, hR, hS9, hn, hk9, hP9⟩ H _ hP hD hS ls (lv_sub hl [0, 1, 2, 3, 4] rfl)
set_option maxHeartbeats 4000000 in
set_option maxRecDepth 100000 in
theorem k_textProducts {p : Program} {l : Launch} (hst : l.stackTraces = false) {e : Env} {s : State} {m : MethodId} {below : List Frame} {meth : Method} {c : Code} {b L : Nat} {xs : Nat → Int32} (hL : L ≤ 2560) (C0 : lw_At p s m meth c b L xs) (hE : envE (fun q : Nat => s.heap.size ≤ q) s) {D : va_G} {q : Nat → Nat} {cq : Nat → ClassId} {o9 : Nat} {co : ClassId} {qm : Nat → Nat} {cm : Nat → ClassId} (hK : va_K D vwCl (tyA cq co cm) s) (σ : LwS) (hok : okS σ) (H : Heap) (locs : List Loc) (hP : va_P D vwCl (wA q cq o9 co qm cm σ) H) (hD : va_D (fun q : Nat => s.heap.size ≤ q) (wA q cq o9 co qm cm σ)) (hS : va_S (fun q : Nat => s.heap.size ≤ q) s.heap H locs) (i : Nat) (hi : i + 5 ≤ L) (ls : Array Slot) (hl : lv_has ls 7 (lvA b q o9 qm i)) {cells slots : Nat} (hc : cells + 1 ≤ 1049) (hs : slots + 6 ≤ 8580) {Q : State → Prop} (kk : ∀ σ2 : LwS, okS σ2 → ∀ (H2 : Heap) (locs2 : List Loc), va_P D vwCl (wA q cq o9 co qm cm σ2) H2 → va_D (fun q : Nat => s.heap.size ≤ q) (wA q cq o9 co qm cm σ2) → va_S (fun q : Nat => s.heap.size ≤ q) s.heap H2 locs2 → ∀ ls2 : Array Slot, lv_has ls2 7 (lvA b q o9 qm i) → W p l e room_1 s m #[Value.ref b] below meth c H2 locs2 (cells + 1) (slots + 6) Q (F0 m 1659 ls2 [])) : W p l e room_1 s m #[Value.ref b] below meth c H locs cells slots Q (F0 m 640 ls []) := by
  obtain ⟨hx, hb, hr, hml, hown, hts, hX, hbl, hlocks, hgv⟩ := C0
  have hown : s.vm.findClass RL = some m.cls := hown
  have hts : ∀ w ∈ wsL_law, w.before #[Value.ref b] s = true := fun w hw => hts w (wsL_law_in w hw)
  have hA : ∀ q : Nat, s.heap.size ≤ q → (fun q : Nat => s.heap.size ≤ q) q := fun _ h => h
  have hbA : ¬ (fun q : Nat => s.heap.size ≤ q) b := Nat.not_le.mpr hbl
  obtain ⟨T, R, S, X, M, P, n, k, z, a, h, w, f, d, v, th, o, V9⟩ := σ
  obtain ⟨hT, hR, hS9, hn, hk9, hP9⟩ := hok
  dsimp only at hT hR hS9 hn hk9 hP9
  have hP : va_P D vwCl (wW q cq o9 co qm cm V9 T R S X M P (nI n) h (nI k) w f d v (nI z) T R S X (nI n) h (nI k) th (nI a) o) H := hP
  have hD : va_D (fun q : Nat => s.heap.size ≤ q) (wW q cq o9 co qm cm V9 T R S X M P (nI n) h (nI k) w f d v (nI z) T R S X (nI n) h (nI k) th (nI a) o) := hD
  refine lv_aload_n hx hb dL_law_640 rfl (lv_at hl 1 rfl) ?_
  refine lv_aload_n hx hb dL_law_641 rfl (lv_at hl 3 rfl) ?_
  have hPc := hP.sub (ws' := (wL q cq o9 co V9 T R S X M P (nI n) h (nI k) w f d v (nI z))) [0, 1, 2, 3, 4, 5, 6, 7, 8] rfl
  have hKc := hK.sub (tys' := (tyL cq co)) [0, 1, 2, 3, 4, 5, 6] rfl
  have hDc := hD.sub (ws' := (wL q cq o9 co V9 T R S X M P (nI n) h (nI k) w f d v (nI z))) [0, 1, 2, 3, 4, 5, 6, 7, 8] (by decide) rfl
  have hFc := va_free (wc := (wL q cq o9 co V9 T R S X M P (nI n) h (nI k) w f d v (nI z))) hD hS hA [0, 1, 2, 3, 4, 5, 6, 7, 8] rfl
  refine va_calli (vx_runSW (As := [.ref (q 0), .ref o9]) (rest := []) ⟨hx, hb, hml, hown, hts⟩ (c_L_textProducts l hst D q cq o9 co V9 H.size T R S X M P (nI n) h k w f d v (nI z) hk9) (vx_cwSW 2 hts gL_law_L_textProducts rfl rfl rfl (by decide +kernel) ⟨Nat.le_of_ble_eq_true rfl, Nat.le_of_ble_eq_true rfl⟩) ⟨fun a U g mk z => ⟨z.1, z.2.1, z.2.2.1, va_K.moved (u := U) (U := U.calling g mk a) (Vm.Alike.refl U.vm) z.2.2.2.1, z.2.2.2.2.1, z.2.2.2.2.2.blind g mk a⟩, fun U hU hW => ⟨rfl, by rw [hU], by rw [hU]; exact hPc, va_K.moved hW.alike hKc, hDc.weaken (fun _ _ _ _ => trivial), hE.at hS hU hW hFc⟩⟩ rfl rfl hl.1 rfl (lv_room (Nat.le_of_ble_eq_true rfl)) dL_law_642 ⟨(by show cells + 1 ≤ 1049; omega), (by show slots + 6 ≤ 8580; omega)⟩) hS (fun q _ h => hFc q h) hFc (fun r9 u9 t8 H1 locs ht hvm hw hB hz1 hk1 hS => ?_)
  obtain ⟨hP1, hD1⟩ := hB
  rw [ht] at hP1
  obtain ⟨hP, hD⟩ := va_join (wr := (wM qm cm T R S X (nI n) h (nI k) th (nI a) o)) (w1 := (wL q cq o9 co (VO (kX1_textProducts X k) V9 ((fX1_textProducts X k).1).toInt64) T R S X M P (nI n) h (nI k) ((fX1_textProducts X k).2.1) ((fX1_textProducts X k).2.2.1) ((fX1_textProducts X k).2.2.2.1) ((fX1_textProducts X k).2.2.2.2) (nI z))) hP hD [0, 1, 2, 3, 4, 5, 6, 7, 8] [9, 10, 11, 12, 13] rfl rfl (by decide) (by decide) hk1 hFc hP1 hD1
  have hP := hP.sub (ws' := (wW q cq o9 co qm cm (VO (kX1_textProducts X k) V9 ((fX1_textProducts X k).1).toInt64) T R S X M P (nI n) h (nI k) ((fX1_textProducts X k).2.1) ((fX1_textProducts X k).2.2.1) ((fX1_textProducts X k).2.2.2.1) ((fX1_textProducts X k).2.2.2.2) (nI z) T R S X (nI n) h (nI k) th (nI a) o)) [5, 6, 7, 8, 9, 10, 11, 12, 13, 0, 1, 2, 3, 4] rfl
  have hD := hD.sub (ws' := (wW q cq o9 co qm cm (VO (kX1_textProducts X k) V9 ((fX1_textProducts X k).1).toInt64) T R S X M P (nI n) h (nI k) ((fX1_textProducts X k).2.1) ((fX1_textProducts X k).2.2.1) ((fX1_textProducts X k).2.2.2.1) ((fX1_textProducts X k).2.2.2.2) (nI z) T R S X (nI n) h (nI k) th (nI a) o)) [5, 6, 7, 8, 9, 10, 11, 12, 13, 0, 1, 2, 3, 4] (by decide) rfl
  generalize H1 = H at hP hS ⊢
  subst r9
  refine lv_istore (lv' := [(5, .int (cd1 (kX1_textProducts X k))), (0, .ref b), (1, .ref (q 0)), (2, .ref (qm 0)), (3, .ref o9), (4, .int (nI i))]) hx hb dL_law_645 hl (by decide) rfl (fun ls hl => ?_)
  refine lv_aload_n hx hb dL_law_647 rfl (lv_at hl 3 rfl) ?_
  have hPc := hP.sub (ws' := (wM qm cm T R S X (nI n) h (nI k) th (nI a) o)) [9, 10, 11, 12, 13] rfl
  have hKc := hK.sub (tys' := (tyM cm)) [7, 8, 9, 10] rfl
  have hDc := hD.sub (ws' := (wM qm cm T R S X (nI n) h (nI k) th (nI a) o)) [9, 10, 11, 12, 13] (by decide) rfl
  have hFc := va_free (wc := (wM qm cm T R S X (nI n) h (nI k) th (nI a) o)) hD hS hA [9, 10, 11, 12, 13] rfl
  refine va_calli (va_runV (As := []) (rest := []) ⟨hx, hb, hml, hown, hts⟩ (c_X2_textProducts l D qm cm H.size T R S X (nI n) h k th a o hk9) (cwV 0 hts gL_law_X2_textProducts rfl rfl rfl (by decide +kernel) ⟨Nat.le_of_ble_eq_true rfl, Nat.le_of_ble_eq_true rfl⟩) ⟨fun a U g mk z => ⟨z.1, z.2.1, z.2.2.1, va_K.moved (u := U) (U := U.calling g mk a) (Vm.Alike.refl U.vm) z.2.2.2.1, z.2.2.2.2.1, z.2.2.2.2.2.blind g mk a⟩, va_recv hKc hPc (ci := 2) (q0 := 0) rfl rfl, fun U hU hW => ⟨rfl, by rw [hU], by rw [hU]; exact hPc, va_K.moved hW.alike hKc, hDc.weaken (fun _ _ _ _ => trivial), hE.at hS hU hW hFc⟩⟩ rfl rfl hl.1 rfl (lv_room (Nat.le_of_ble_eq_true rfl)) dL_law_648 ⟨(by show cells + 1 ≤ 1049; omega), (by show slots + 6 ≤ 8580; omega)⟩) hS (fun q _ h => hFc q h) hFc (fun r9 u9 t8 H1 locs ht hvm hw hB hz1 hk1 hS => ?_)
  obtain ⟨hP1, hD1⟩ := hB
  rw [ht] at hP1
  obtain ⟨hP, hD⟩ := va_join (wr := (wL q cq o9 co (VO (kX1_textProducts X k) V9 ((fX1_textProducts X k).1).toInt64) T R S X M P (nI n) h (nI k) ((fX1_textProducts X k).2.1) ((fX1_textProducts X k).2.2.1) ((fX1_textProducts X k).2.2.2.1) ((fX1_textProducts X k).2.2.2.2) (nI z))) (w1 := (wM qm cm T R S X (nI n) h (nI k) ((fX2_textProducts X k).2.1) (nI (fX2_textProducts X k).2.2.1) ((fX2_textProducts X k).2.2.2))) hP hD [9, 10, 11, 12, 13] [0, 1, 2, 3, 4, 5, 6, 7, 8] rfl rfl (by decide) (by decide) hk1 hFc hP1 hD1
  generalize H1 = H at hP hS ⊢
  have hP : va_P D vwCl (wW q cq o9 co qm cm (VO (kX1_textProducts X k) V9 ((fX1_textProducts X k).1).toInt64) T R S X M P (nI n) h (nI k) ((fX1_textProducts X k).2.1) ((fX1_textProducts X k).2.2.1) ((fX1_textProducts X k).2.2.2.1) ((fX1_textProducts X k).2.2.2.2) (nI z) T R S X (nI n) h (nI k) ((fX2_textProducts X k).2.1) (nI (fX2_textProducts X k).2.2.1) ((fX2_textProducts X k).2.2.2)) H := hP
  have hD : va_D (fun q : Nat => s.heap.size ≤ q) (wW q cq o9 co qm cm (VO (kX1_textProducts X k) V9 ((fX1_textProducts X k).1).toInt64) T R S X M P (nI n) h (nI k) ((fX1_textProducts X k).2.1) ((fX1_textProducts X k).2.2.1) ((fX1_textProducts X k).2.2.2.1) ((fX1_textProducts X k).2.2.2.2) (nI z) T R S X (nI n) h (nI k) ((fX2_textProducts X k).2.1) (nI (fX2_textProducts X k).2.2.1) ((fX2_textProducts X k).2.2.2)) := hD
  subst r9
  have he := e_textProducts X hk9
  refine lv_istore (lv' := [(6, .int ((fX2_textProducts X k).1)), (5, .int (cd1 (kX1_textProducts X k))), (0, .ref b), (1, .ref (q 0)), (2, .ref (qm 0)), (3, .ref o9), (4, .int (nI i))]) hx hb dL_law_651 hl (by decide) rfl (fun ls hl => ?_)
  refine lv_aload_n hx hb dL_law_653 rfl (lv_at hl 4 rfl) ?_
  have hPc := hP.sub (ws' := (wM qm cm T R S X (nI (n)) h (nI (k)) ((fX2_textProducts X k).2.1) (nI ((fX2_textProducts X k).2.2.1)) ((fX2_textProducts X k).2.2.2))) [9, 10, 11, 12, 13] rfl
  have hKc := hK.sub (tys' := (tyM cm)) [7, 8, 9, 10] rfl
  refine vp_callSi (va_Run.run (va_runV (As := []) (rest := []) ⟨hx, hb, hml, hown, hts⟩ (c_X2_thrown l D qm cm T R S X (nI (n)) h (nI (k)) ((fX2_textProducts X k).2.1) (nI ((fX2_textProducts X k).2.2.1)) ((fX2_textProducts X k).2.2.2)) (cwV 0 hts gL_law_X2_thrown rfl rfl rfl (by decide +kernel) ⟨Nat.le_of_ble_eq_true rfl, Nat.le_of_ble_eq_true rfl⟩) ⟨fun a U g mk z => ⟨z.1, z.2.1, va_K.moved (u := U) (U := U.calling g mk a) (Vm.Alike.refl U.vm) z.2.2.1, z.2.2.2.blind g mk a⟩, va_recv hKc hPc (ci := 2) (q0 := 0) rfl rfl, fun U hU hW => ⟨rfl, by rw [hU]; exact hPc, va_K.moved hW.alike hKc, hE.at0 hS hU hW⟩⟩ rfl rfl hl.1 rfl (lv_room (Nat.le_of_ble_eq_true rfl)) dL_law_654 ⟨(by show cells + 1 ≤ 1049; omega), (by show slots + 6 ≤ 8580; omega)⟩)) (fun r9 hr9 => ?_)
  subst r9
  refine lv_iload hx hb dL_law_657 (lv_at hl 1 rfl) ?_
  have halt := he
  have hth : ((fX2_textProducts X k).2.1) = cd1 (kX1_textProducts X k) := by
    rcases halt with ⟨h1, h2, h3⟩ | ⟨h1, h2⟩ <;> (rw [h1, h2]; rfl)
  have hval : (kX1_textProducts X k) = 0 → (fX1_textProducts X k).1 = (fX2_textProducts X k).1 := by
    intro h0
    rcases halt with ⟨h1, h2, h3⟩ | ⟨h1, h2⟩
    · exact h3
    · rw [h1] at h0; exact absurd h0 (by decide)
  refine lv_icmp_eq (tgt := 664) hx hb dL_law_659 (by decide) (fun c1 => ?_) (fun c1 => absurd (show fX2_thrown ((fX2_textProducts X k).2.1) = cd1 (kX1_textProducts X k) from hth) c1)
  refine lv_iload hx hb dL_law_664 (lv_at hl 1 rfl) ?_
  have kend : W p l e room_1 s m #[Value.ref b] below meth c H locs (cells + 1) (slots + 6) Q (F0 m 681 ls []) := by
    refine lv_goto (tgt := 1659) hx hb dL_law_681 (by decide) ?_
    exact kk ⟨T, R, S, X, M, P, (n), (k), (z), ((fX2_textProducts X k).2.2.1), h, ((fX1_textProducts X k).2.1), ((fX1_textProducts X k).2.2.1), ((fX1_textProducts X k).2.2.2.1), ((fX1_textProducts X k).2.2.2.2), ((fX2_textProducts X k).2.1), ((fX2_textProducts X k).2.2.2), (VO (kX1_textProducts X k) V9 ((fX1_textProducts X k).1).toInt64)⟩ ⟨hT, hR, hS9, hn, hk9, hP9⟩ H _ hP hD hS ls (lv_sub hl [2, 3, 4, 5, 6] rfl)
  refine lv_if_ne (tgt := 681) hx hb dL_law_666 (by decide) (fun c2 => kend) (fun c2 => ?_)
  have hK0 : (kX1_textProducts X k) = 0 := cd1_0 c2
  have hV0 : VO (kX1_textProducts X k) V9 ((fX1_textProducts X k).1).toInt64 = vp_updL V9 0 ((fX1_textProducts X k).1).toInt64 := if_pos hK0
  refine lv_aload_n hx hb dL_law_669 rfl (lv_at hl 5 rfl) ?_
  refine lv_iconst (v := 0) hx hb dL_law_670 (by decide) ?_
  refine va_lald hx hb hK hP 0 0 rfl rfl (i := 0) (vp_in_nI (n := 0) (N := 1) (by decide) (by decide)) dL_law_671 ?_
  refine lv_isL (((fX1_textProducts X k).1).toInt64) (by rw [hV0]; rfl) ?_
  refine lv_iload hx hb dL_law_672 (lv_at hl 0 rfl) ?_
  refine lv_i2l hx hb dL_law_674 rfl ?_
  rw [hval hK0]
  refine W.lcmp hx hb dL_law_675 ?_
  exact lv_if_eq (tgt := 681) hx hb dL_law_676 (by decide) (fun c3 => kend) (fun c3 => absurd (lg_self _) c3)
set_option maxHeartbeats 4000000 in
set_option maxRecDepth 100000 in
theorem k_undo {p : Program} {l : Launch} (hst : l.stackTraces = false) {e : Env} {s : State} {m : MethodId} {below : List Frame} {meth : Method} {c : Code} {b L : Nat} {xs : Nat → Int32} (hL : L ≤ 2560) (C0 : lw_At p s m meth c b L xs) (hE : envE (fun q : Nat => s.heap.size ≤ q) s) {D : va_G} {q : Nat → Nat} {cq : Nat → ClassId} {o9 : Nat} {co : ClassId} {qm : Nat → Nat} {cm : Nat → ClassId} (hK : va_K D vwCl (tyA cq co cm) s) (σ : LwS) (hok : okS σ) (H : Heap) (locs : List Loc) (hP : va_P D vwCl (wA q cq o9 co qm cm σ) H) (hD : va_D (fun q : Nat => s.heap.size ≤ q) (wA q cq o9 co qm cm σ)) (hS : va_S (fun q : Nat => s.heap.size ≤ q) s.heap H locs) (i : Nat) (hi : i + 5 ≤ L) (ls : Array Slot) (hl : lv_has ls 7 (lvA b q o9 qm i)) {cells slots : Nat} (hc : cells + 1 ≤ 1049) (hs : slots + 6 ≤ 8580) {Q : State → Prop} (kk : ∀ σ2 : LwS, okS σ2 → ∀ (H2 : Heap) (locs2 : List Loc), va_P D vwCl (wA q cq o9 co qm cm σ2) H2 → va_D (fun q : Nat => s.heap.size ≤ q) (wA q cq o9 co qm cm σ2) → va_S (fun q : Nat => s.heap.size ≤ q) s.heap H2 locs2 → ∀ ls2 : Array Slot, lv_has ls2 7 (lvA b q o9 qm i) → W p l e room_1 s m #[Value.ref b] below meth c H2 locs2 (cells + 1) (slots + 6) Q (F0 m 1659 ls2 [])) : W p l e room_1 s m #[Value.ref b] below meth c H locs cells slots Q (F0 m 684 ls []) := by
  obtain ⟨hx, hb, hr, hml, hown, hts, hX, hbl, hlocks, hgv⟩ := C0
  have hown : s.vm.findClass RL = some m.cls := hown
  have hts : ∀ w ∈ wsL_law, w.before #[Value.ref b] s = true := fun w hw => hts w (wsL_law_in w hw)
  have hA : ∀ q : Nat, s.heap.size ≤ q → (fun q : Nat => s.heap.size ≤ q) q := fun _ h => h
  have hbA : ¬ (fun q : Nat => s.heap.size ≤ q) b := Nat.not_le.mpr hbl
  obtain ⟨T, R, S, X, M, P, n, k, z, a, h, w, f, d, v, th, o, V9⟩ := σ
  obtain ⟨hT, hR, hS9, hn, hk9, hP9⟩ := hok
  dsimp only at hT hR hS9 hn hk9 hP9
  have hP : va_P D vwCl (wW q cq o9 co qm cm V9 T R S X M P (nI n) h (nI k) w f d v (nI z) T R S X (nI n) h (nI k) th (nI a) o) H := hP
  have hD : va_D (fun q : Nat => s.heap.size ≤ q) (wW q cq o9 co qm cm V9 T R S X M P (nI n) h (nI k) w f d v (nI z) T R S X (nI n) h (nI k) th (nI a) o) := hD
  refine lv_aload_n hx hb dL_law_684 rfl (lv_at hl 1 rfl) ?_
  refine lv_aload_n hx hb dL_law_685 rfl (lv_at hl 3 rfl) ?_
  have hPc := hP.sub (ws' := (wL q cq o9 co V9 T R S X M P (nI n) h (nI k) w f d v (nI z))) [0, 1, 2, 3, 4, 5, 6, 7, 8] rfl
  have hKc := hK.sub (tys' := (tyL cq co)) [0, 1, 2, 3, 4, 5, 6] rfl
  have hDc := hD.sub (ws' := (wL q cq o9 co V9 T R S X M P (nI n) h (nI k) w f d v (nI z))) [0, 1, 2, 3, 4, 5, 6, 7, 8] (by decide) rfl
  have hFc := va_free (wc := (wL q cq o9 co V9 T R S X M P (nI n) h (nI k) w f d v (nI z))) hD hS hA [0, 1, 2, 3, 4, 5, 6, 7, 8] rfl
  refine va_calli (vx_runSW (As := [.ref (q 0), .ref o9]) (rest := []) ⟨hx, hb, hml, hown, hts⟩ (c_L_undo l hst D q cq o9 co V9 H.size T R S X M P n h (nI k) w f d v (nI z) hn) (vx_cwSW 2 hts gL_law_L_undo rfl rfl rfl (by decide +kernel) ⟨Nat.le_of_ble_eq_true rfl, Nat.le_of_ble_eq_true rfl⟩) ⟨fun a U g mk z => ⟨z.1, z.2.1, z.2.2.1, va_K.moved (u := U) (U := U.calling g mk a) (Vm.Alike.refl U.vm) z.2.2.2.1, z.2.2.2.2.1, z.2.2.2.2.2.blind g mk a⟩, fun U hU hW => ⟨rfl, by rw [hU], by rw [hU]; exact hPc, va_K.moved hW.alike hKc, hDc.weaken (fun _ _ _ _ => trivial), hE.at hS hU hW hFc⟩⟩ rfl rfl hl.1 rfl (lv_room (Nat.le_of_ble_eq_true rfl)) dL_law_686 ⟨(by show cells + 1 ≤ 1049; omega), (by show slots + 6 ≤ 8580; omega)⟩) hS (fun q _ h => hFc q h) hFc (fun r9 u9 t8 H1 locs ht hvm hw hB hz1 hk1 hS => ?_)
  obtain ⟨hP1, hD1⟩ := hB
  rw [ht] at hP1
  obtain ⟨hP, hD⟩ := va_join (wr := (wM qm cm T R S X (nI n) h (nI k) th (nI a) o)) (w1 := (wL q cq o9 co (VO (kX1_undo n) V9 ((fX1_undo T R n).1).toInt64) ((fX1_undo T R n).2.1) R S X M P (nI (fX1_undo T R n).2.2) h (nI k) w f d v (nI z))) hP hD [0, 1, 2, 3, 4, 5, 6, 7, 8] [9, 10, 11, 12, 13] rfl rfl (by decide) (by decide) hk1 hFc hP1 hD1
  have hP := hP.sub (ws' := (wW q cq o9 co qm cm (VO (kX1_undo n) V9 ((fX1_undo T R n).1).toInt64) ((fX1_undo T R n).2.1) R S X M P (nI (fX1_undo T R n).2.2) h (nI k) w f d v (nI z) T R S X (nI n) h (nI k) th (nI a) o)) [5, 6, 7, 8, 9, 10, 11, 12, 13, 0, 1, 2, 3, 4] rfl
  have hD := hD.sub (ws' := (wW q cq o9 co qm cm (VO (kX1_undo n) V9 ((fX1_undo T R n).1).toInt64) ((fX1_undo T R n).2.1) R S X M P (nI (fX1_undo T R n).2.2) h (nI k) w f d v (nI z) T R S X (nI n) h (nI k) th (nI a) o)) [5, 6, 7, 8, 9, 10, 11, 12, 13, 0, 1, 2, 3, 4] (by decide) rfl
  generalize H1 = H at hP hS ⊢
  subst r9
  refine lv_istore (lv' := [(5, .int (cd1 (kX1_undo n))), (0, .ref b), (1, .ref (q 0)), (2, .ref (qm 0)), (3, .ref o9), (4, .int (nI i))]) hx hb dL_law_689 hl (by decide) rfl (fun ls hl => ?_)
  refine lv_aload_n hx hb dL_law_691 rfl (lv_at hl 3 rfl) ?_
  have hPc := hP.sub (ws' := (wM qm cm T R S X (nI n) h (nI k) th (nI a) o)) [9, 10, 11, 12, 13] rfl
  have hKc := hK.sub (tys' := (tyM cm)) [7, 8, 9, 10] rfl
  have hDc := hD.sub (ws' := (wM qm cm T R S X (nI n) h (nI k) th (nI a) o)) [9, 10, 11, 12, 13] (by decide) rfl
  have hFc := va_free (wc := (wM qm cm T R S X (nI n) h (nI k) th (nI a) o)) hD hS hA [9, 10, 11, 12, 13] rfl
  refine va_calli (va_runV (As := []) (rest := []) ⟨hx, hb, hml, hown, hts⟩ (c_X2_undo l D qm cm H.size T R S X n h (nI k) th (nI a) o hn) (cwV 0 hts gL_law_X2_undo rfl rfl rfl (by decide +kernel) ⟨Nat.le_of_ble_eq_true rfl, Nat.le_of_ble_eq_true rfl⟩) ⟨fun a U g mk z => ⟨z.1, z.2.1, z.2.2.1, va_K.moved (u := U) (U := U.calling g mk a) (Vm.Alike.refl U.vm) z.2.2.2.1, z.2.2.2.2.1, z.2.2.2.2.2.blind g mk a⟩, va_recv hKc hPc (ci := 2) (q0 := 0) rfl rfl, fun U hU hW => ⟨rfl, by rw [hU], by rw [hU]; exact hPc, va_K.moved hW.alike hKc, hDc.weaken (fun _ _ _ _ => trivial), hE.at hS hU hW hFc⟩⟩ rfl rfl hl.1 rfl (lv_room (Nat.le_of_ble_eq_true rfl)) dL_law_692 ⟨(by show cells + 1 ≤ 1049; omega), (by show slots + 6 ≤ 8580; omega)⟩) hS (fun q _ h => hFc q h) hFc (fun r9 u9 t8 H1 locs ht hvm hw hB hz1 hk1 hS => ?_)
  obtain ⟨hP1, hD1⟩ := hB
  rw [ht] at hP1
  obtain ⟨hP, hD⟩ := va_join (wr := (wL q cq o9 co (VO (kX1_undo n) V9 ((fX1_undo T R n).1).toInt64) ((fX1_undo T R n).2.1) R S X M P (nI (fX1_undo T R n).2.2) h (nI k) w f d v (nI z))) (w1 := (wM qm cm ((fX2_undo T R n).2.1) R S X (nI (fX2_undo T R n).2.2.1) h (nI k) ((fX2_undo T R n).2.2.2) (nI a) o)) hP hD [9, 10, 11, 12, 13] [0, 1, 2, 3, 4, 5, 6, 7, 8] rfl rfl (by decide) (by decide) hk1 hFc hP1 hD1
  generalize H1 = H at hP hS ⊢
  have hP : va_P D vwCl (wW q cq o9 co qm cm (VO (kX1_undo n) V9 ((fX1_undo T R n).1).toInt64) ((fX1_undo T R n).2.1) R S X M P (nI (fX1_undo T R n).2.2) h (nI k) w f d v (nI z) ((fX2_undo T R n).2.1) R S X (nI (fX2_undo T R n).2.2.1) h (nI k) ((fX2_undo T R n).2.2.2) (nI a) o) H := hP
  have hD : va_D (fun q : Nat => s.heap.size ≤ q) (wW q cq o9 co qm cm (VO (kX1_undo n) V9 ((fX1_undo T R n).1).toInt64) ((fX1_undo T R n).2.1) R S X M P (nI (fX1_undo T R n).2.2) h (nI k) w f d v (nI z) ((fX2_undo T R n).2.1) R S X (nI (fX2_undo T R n).2.2.1) h (nI k) ((fX2_undo T R n).2.2.2) (nI a) o) := hD
  subst r9
  have he := e_undo hT hR hn
  rw [he.2.1.1, he.2.1.2] at hP hD
  refine lv_istore (lv' := [(6, .int ((fX2_undo T R n).1)), (5, .int (cd1 (kX1_undo n))), (0, .ref b), (1, .ref (q 0)), (2, .ref (qm 0)), (3, .ref o9), (4, .int (nI i))]) hx hb dL_law_695 hl (by decide) rfl (fun ls hl => ?_)
  refine lv_aload_n hx hb dL_law_697 rfl (lv_at hl 4 rfl) ?_
  have hPc := hP.sub (ws' := (wM qm cm ((fX1_undo T R n).2.1) R S X (nI ((fX1_undo T R n).2.2)) h (nI (k)) ((fX2_undo T R n).2.2.2) (nI (a)) o)) [9, 10, 11, 12, 13] rfl
  have hKc := hK.sub (tys' := (tyM cm)) [7, 8, 9, 10] rfl
  refine vp_callSi (va_Run.run (va_runV (As := []) (rest := []) ⟨hx, hb, hml, hown, hts⟩ (c_X2_thrown l D qm cm ((fX1_undo T R n).2.1) R S X (nI ((fX1_undo T R n).2.2)) h (nI (k)) ((fX2_undo T R n).2.2.2) (nI (a)) o) (cwV 0 hts gL_law_X2_thrown rfl rfl rfl (by decide +kernel) ⟨Nat.le_of_ble_eq_true rfl, Nat.le_of_ble_eq_true rfl⟩) ⟨fun a U g mk z => ⟨z.1, z.2.1, va_K.moved (u := U) (U := U.calling g mk a) (Vm.Alike.refl U.vm) z.2.2.1, z.2.2.2.blind g mk a⟩, va_recv hKc hPc (ci := 2) (q0 := 0) rfl rfl, fun U hU hW => ⟨rfl, by rw [hU]; exact hPc, va_K.moved hW.alike hKc, hE.at0 hS hU hW⟩⟩ rfl rfl hl.1 rfl (lv_room (Nat.le_of_ble_eq_true rfl)) dL_law_698 ⟨(by show cells + 1 ≤ 1049; omega), (by show slots + 6 ≤ 8580; omega)⟩)) (fun r9 hr9 => ?_)
  subst r9
  refine lv_iload hx hb dL_law_701 (lv_at hl 1 rfl) ?_
  have halt := he.1
  have hth : ((fX2_undo T R n).2.2.2) = cd1 (kX1_undo n) := by
    rcases halt with ⟨h1, h2, h3⟩ | ⟨h1, h2⟩ <;> (rw [h1, h2]; rfl)
  have hval : (kX1_undo n) = 0 → (fX1_undo T R n).1 = (fX2_undo T R n).1 := by
    intro h0
    rcases halt with ⟨h1, h2, h3⟩ | ⟨h1, h2⟩
    · exact h3
    · rw [h1] at h0; exact absurd h0 (by decide)
  refine lv_icmp_eq (tgt := 708) hx hb dL_law_703 (by decide) (fun c1 => ?_) (fun c1 => absurd (show fX2_thrown ((fX2_undo T R n).2.2.2) = cd1 (kX1_undo n) from hth) c1)
  refine lv_iload hx hb dL_law_708 (lv_at hl 1 rfl) ?_
  have kend : W p l e room_1 s m #[Value.ref b] below meth c H locs (cells + 1) (slots + 6) Q (F0 m 725 ls []) := by
    refine lv_goto (tgt := 1659) hx hb dL_law_725 (by decide) ?_
    exact kk ⟨((fX1_undo T R n).2.1), R, S, X, M, P, ((fX1_undo T R n).2.2), (k), (z), (a), h, w, f, d, v, ((fX2_undo T R n).2.2.2), o, (VO (kX1_undo n) V9 ((fX1_undo T R n).1).toInt64)⟩ ⟨he.2.2.1, hR, hS9, he.2.2.2, hk9, hP9⟩ H _ hP hD hS ls (lv_sub hl [2, 3, 4, 5, 6] rfl)
  refine lv_if_ne (tgt := 725) hx hb dL_law_710 (by decide) (fun c2 => kend) (fun c2 => ?_)
  have hK0 : (kX1_undo n) = 0 := cd1_0 c2
  have hV0 : VO (kX1_undo n) V9 ((fX1_undo T R n).1).toInt64 = vp_updL V9 0 ((fX1_undo T R n).1).toInt64 := if_pos hK0
  refine lv_aload_n hx hb dL_law_713 rfl (lv_at hl 5 rfl) ?_
  refine lv_iconst (v := 0) hx hb dL_law_714 (by decide) ?_
  refine va_lald hx hb hK hP 0 0 rfl rfl (i := 0) (vp_in_nI (n := 0) (N := 1) (by decide) (by decide)) dL_law_715 ?_
  refine lv_isL (((fX1_undo T R n).1).toInt64) (by rw [hV0]; rfl) ?_
  refine lv_iload hx hb dL_law_716 (lv_at hl 0 rfl) ?_
  refine lv_i2l hx hb dL_law_718 rfl ?_
  rw [hval hK0]
  refine W.lcmp hx hb dL_law_719 ?_
  exact lv_if_eq (tgt := 725) hx hb dL_law_720 (by decide) (fun c3 => kend) (fun c3 => absurd (lg_self _) c3)
set_option maxHeartbeats 4000000 in
set_option maxRecDepth 100000 in
theorem k_takeSnapshot {p : Program} {l : Launch} (hst : l.stackTraces = false) {e : Env} {s : State} {m : MethodId} {below : List Frame} {meth : Method} {c : Code} {b L : Nat} {xs : Nat → Int32} (hL : L ≤ 2560) (C0 : lw_At p s m meth c b L xs) (hE : envE (fun q : Nat => s.heap.size ≤ q) s) {D : va_G} {q : Nat → Nat} {cq : Nat → ClassId} {o9 : Nat} {co : ClassId} {qm : Nat → Nat} {cm : Nat → ClassId} (hK : va_K D vwCl (tyA cq co cm) s) (σ : LwS) (hok : okS σ) (H : Heap) (locs : List Loc) (hP : va_P D vwCl (wA q cq o9 co qm cm σ) H) (hD : va_D (fun q : Nat => s.heap.size ≤ q) (wA q cq o9 co qm cm σ)) (hS : va_S (fun q : Nat => s.heap.size ≤ q) s.heap H locs) (i : Nat) (hi : i + 5 ≤ L) (ls : Array Slot) (hl : lv_has ls 7 (lvA b q o9 qm i)) {cells slots : Nat} (hc : cells + 1 ≤ 1049) (hs : slots + 6 ≤ 8580) {Q : State → Prop} (kk : ∀ σ2 : LwS, okS σ2 → ∀ (H2 : Heap) (locs2 : List Loc), va_P D vwCl (wA q cq o9 co qm cm σ2) H2 → va_D (fun q : Nat => s.heap.size ≤ q) (wA q cq o9 co qm cm σ2) → va_S (fun q : Nat => s.heap.size ≤ q) s.heap H2 locs2 → ∀ ls2 : Array Slot, lv_has ls2 7 (lvA b q o9 qm i) → W p l e room_1 s m #[Value.ref b] below meth c H2 locs2 (cells + 1) (slots + 6) Q (F0 m 1659 ls2 [])) : W p l e room_1 s m #[Value.ref b] below meth c H locs cells slots Q (F0 m 728 ls []) := by
  obtain ⟨hx, hb, hr, hml, hown, hts, hX, hbl, hlocks, hgv⟩ := C0
  have hown : s.vm.findClass RL = some m.cls := hown
  have hts : ∀ w ∈ wsL_law, w.before #[Value.ref b] s = true := fun w hw => hts w (wsL_law_in w hw)
  have hA : ∀ q : Nat, s.heap.size ≤ q → (fun q : Nat => s.heap.size ≤ q) q := fun _ h => h
  have hbA : ¬ (fun q : Nat => s.heap.size ≤ q) b := Nat.not_le.mpr hbl
  obtain ⟨T, R, S, X, M, P, n, k, z, a, h, w, f, d, v, th, o, V9⟩ := σ
  obtain ⟨hT, hR, hS9, hn, hk9, hP9⟩ := hok
  dsimp only at hT hR hS9 hn hk9 hP9
  have hP : va_P D vwCl (wW q cq o9 co qm cm V9 T R S X M P (nI n) h (nI k) w f d v (nI z) T R S X (nI n) h (nI k) th (nI a) o) H := hP
  have hD : va_D (fun q : Nat => s.heap.size ≤ q) (wW q cq o9 co qm cm V9 T R S X M P (nI n) h (nI k) w f d v (nI z) T R S X (nI n) h (nI k) th (nI a) o) := hD
  refine lv_aload_n hx hb dL_law_728 rfl (lv_at hl 1 rfl) ?_
  have hPc := hP.sub (ws' := (wB q cq T R S X M P (nI n) h (nI k) w f d v (nI z))) [1, 2, 3, 4, 5, 6, 7, 8] rfl
  have hKc := hK.sub (tys' := (tyB cq)) [1, 2, 3, 4, 5, 6] rfl
  have hDc := hD.sub (ws' := (wB q cq T R S X M P (nI n) h (nI k) w f d v (nI z))) [1, 2, 3, 4, 5, 6, 7, 8] (by decide) rfl
  have hFc := va_free (wc := (wB q cq T R S X M P (nI n) h (nI k) w f d v (nI z))) hD hS hA [1, 2, 3, 4, 5, 6, 7, 8] rfl
  refine va_calli (va_runV (As := []) (rest := []) ⟨hx, hb, hml, hown, hts⟩ (c_X1_takeSnapshot l D q cq H.size T R S X M P (nI n) h (nI k) w f d v (nI z)) (cwV 0 hts gL_law_X1_takeSnapshot rfl rfl rfl (by decide +kernel) ⟨Nat.le_of_ble_eq_true rfl, Nat.le_of_ble_eq_true rfl⟩) ⟨fun a U g mk z => ⟨z.1, z.2.1, z.2.2.1, va_K.moved (u := U) (U := U.calling g mk a) (Vm.Alike.refl U.vm) z.2.2.2.1, z.2.2.2.2.1, z.2.2.2.2.2.blind g mk a⟩, va_recv hKc hPc (ci := 1) (q0 := 0) rfl rfl, fun U hU hW => ⟨rfl, by rw [hU], by rw [hU]; exact hPc, va_K.moved hW.alike hKc, hDc.weaken (fun _ _ _ _ => trivial), hE.at hS hU hW hFc⟩⟩ rfl rfl hl.1 rfl (lv_room (Nat.le_of_ble_eq_true rfl)) dL_law_729 ⟨(by show cells ≤ 1049; omega), (by show slots ≤ 8580; omega)⟩) hS (fun q _ h => hFc q h) hFc (fun r9 u9 t8 H1 locs ht hvm hw hB hz1 hk1 hS => ?_)
  obtain ⟨hP1, hD1⟩ := hB
  rw [ht] at hP1
  obtain ⟨hP, hD⟩ := va_join (wr := ((o9, .inl (co, (1, .inr (.inl V9)))) :: wM qm cm T R S X (nI n) h (nI k) th (nI a) o)) (w1 := (wB q cq T R ((fX1_takeSnapshot T S).2.1) X M P (nI n) ((fX1_takeSnapshot T S).2.2) (nI k) w f d v (nI z))) hP hD [1, 2, 3, 4, 5, 6, 7, 8] [0, 9, 10, 11, 12, 13] rfl rfl (by decide) (by decide) hk1 hFc hP1 hD1
  have hP := hP.sub (ws' := (wW q cq o9 co qm cm V9 T R ((fX1_takeSnapshot T S).2.1) X M P (nI n) ((fX1_takeSnapshot T S).2.2) (nI k) w f d v (nI z) T R S X (nI n) h (nI k) th (nI a) o)) [0, 6, 7, 8, 9, 10, 11, 12, 13, 1, 2, 3, 4, 5] rfl
  have hD := hD.sub (ws' := (wW q cq o9 co qm cm V9 T R ((fX1_takeSnapshot T S).2.1) X M P (nI n) ((fX1_takeSnapshot T S).2.2) (nI k) w f d v (nI z) T R S X (nI n) h (nI k) th (nI a) o)) [0, 6, 7, 8, 9, 10, 11, 12, 13, 1, 2, 3, 4, 5] (by decide) rfl
  generalize H1 = H at hP hS ⊢
  subst r9
  refine lv_aload_n hx hb dL_law_732 rfl (lv_at hl 2 rfl) ?_
  have hPc := hP.sub (ws' := (wM qm cm T R S X (nI n) h (nI k) th (nI a) o)) [9, 10, 11, 12, 13] rfl
  have hKc := hK.sub (tys' := (tyM cm)) [7, 8, 9, 10] rfl
  have hDc := hD.sub (ws' := (wM qm cm T R S X (nI n) h (nI k) th (nI a) o)) [9, 10, 11, 12, 13] (by decide) rfl
  have hFc := va_free (wc := (wM qm cm T R S X (nI n) h (nI k) th (nI a) o)) hD hS hA [9, 10, 11, 12, 13] rfl
  refine va_calli (va_runV (As := []) (rest := [.int ((fX1_takeSnapshot T S).1)]) ⟨hx, hb, hml, hown, hts⟩ (c_X2_takeSnapshot l D qm cm H.size T R S X (nI n) h (nI k) th (nI a) o) (cwV 0 hts gL_law_X2_takeSnapshot rfl rfl rfl (by decide +kernel) ⟨Nat.le_of_ble_eq_true rfl, Nat.le_of_ble_eq_true rfl⟩) ⟨fun a U g mk z => ⟨z.1, z.2.1, z.2.2.1, va_K.moved (u := U) (U := U.calling g mk a) (Vm.Alike.refl U.vm) z.2.2.2.1, z.2.2.2.2.1, z.2.2.2.2.2.blind g mk a⟩, va_recv hKc hPc (ci := 2) (q0 := 0) rfl rfl, fun U hU hW => ⟨rfl, by rw [hU], by rw [hU]; exact hPc, va_K.moved hW.alike hKc, hDc.weaken (fun _ _ _ _ => trivial), hE.at hS hU hW hFc⟩⟩ rfl rfl hl.1 rfl (lv_room (Nat.le_of_ble_eq_true rfl)) dL_law_733 ⟨(by show cells ≤ 1049; omega), (by show slots ≤ 8580; omega)⟩) hS (fun q _ h => hFc q h) hFc (fun r9 u9 t8 H1 locs ht hvm hw hB hz1 hk1 hS => ?_)
  obtain ⟨hP1, hD1⟩ := hB
  rw [ht] at hP1
  obtain ⟨hP, hD⟩ := va_join (wr := (wL q cq o9 co V9 T R ((fX1_takeSnapshot T S).2.1) X M P (nI n) ((fX1_takeSnapshot T S).2.2) (nI k) w f d v (nI z))) (w1 := (wM qm cm T R ((fX2_takeSnapshot T S).2.1) X (nI n) ((fX2_takeSnapshot T S).2.2.1) (nI k) ((fX2_takeSnapshot T S).2.2.2) (nI a) o)) hP hD [9, 10, 11, 12, 13] [0, 1, 2, 3, 4, 5, 6, 7, 8] rfl rfl (by decide) (by decide) hk1 hFc hP1 hD1
  generalize H1 = H at hP hS ⊢
  have hP : va_P D vwCl (wW q cq o9 co qm cm V9 T R ((fX1_takeSnapshot T S).2.1) X M P (nI n) ((fX1_takeSnapshot T S).2.2) (nI k) w f d v (nI z) T R ((fX2_takeSnapshot T S).2.1) X (nI n) ((fX2_takeSnapshot T S).2.2.1) (nI k) ((fX2_takeSnapshot T S).2.2.2) (nI a) o) H := hP
  have hD : va_D (fun q : Nat => s.heap.size ≤ q) (wW q cq o9 co qm cm V9 T R ((fX1_takeSnapshot T S).2.1) X M P (nI n) ((fX1_takeSnapshot T S).2.2) (nI k) w f d v (nI z) T R ((fX2_takeSnapshot T S).2.1) X (nI n) ((fX2_takeSnapshot T S).2.2.1) (nI k) ((fX2_takeSnapshot T S).2.2.2) (nI a) o) := hD
  subst r9
  have he := e_takeSnapshot hT hS9
  rw [he.2.1, he.2.2.1] at hP hD
  refine lv_icmp_eq (tgt := 1659) hx hb dL_law_736 (by decide) (fun c1 => ?_) (fun c1 => absurd (he.1) c1)
  refine W.widen (k := cells + 1) (n := slots + 6) (by show cells ≤ _; omega) (by show slots ≤ _; omega) ?_
  exact kk ⟨T, R, ((fX1_takeSnapshot T S).2.1), X, M, P, (n), (k), (z), (a), ((fX1_takeSnapshot T S).2.2), w, f, d, v, ((fX2_takeSnapshot T S).2.2.2), o, V9⟩ ⟨hT, hR, he.2.2.2.2, hn, hk9, hP9⟩ H _ hP hD hS ls (lv_sub hl [0, 1, 2, 3, 4] rfl)
set_option maxHeartbeats 4000000 in
set_option maxRecDepth 100000 in
theorem k_restoreSnapshot {p : Program} {l : Launch} (hst : l.stackTraces = false) {e : Env} {s : State} {m : MethodId} {below : List Frame} {meth : Method} {c : Code} {b L : Nat} {xs : Nat → Int32} (hL : L ≤ 2560) (C0 : lw_At p s m meth c b L xs) (hE : envE (fun q : Nat => s.heap.size ≤ q) s) {D : va_G} {q : Nat → Nat} {cq : Nat → ClassId} {o9 : Nat} {co : ClassId} {qm : Nat → Nat} {cm : Nat → ClassId} (hK : va_K D vwCl (tyA cq co cm) s) (σ : LwS) (hok : okS σ) (H : Heap) (locs : List Loc) (hP : va_P D vwCl (wA q cq o9 co qm cm σ) H) (hD : va_D (fun q : Nat => s.heap.size ≤ q) (wA q cq o9 co qm cm σ)) (hS : va_S (fun q : Nat => s.heap.size ≤ q) s.heap H locs) (i : Nat) (hi : i + 5 ≤ L) (ls : Array Slot) (hl : lv_has ls 7 (lvA b q o9 qm i)) {cells slots : Nat} (hc : cells + 1 ≤ 1049) (hs : slots + 6 ≤ 8580) {Q : State → Prop} (kk : ∀ σ2 : LwS, okS σ2 → ∀ (H2 : Heap) (locs2 : List Loc), va_P D vwCl (wA q cq o9 co qm cm σ2) H2 → va_D (fun q : Nat => s.heap.size ≤ q) (wA q cq o9 co qm cm σ2) → va_S (fun q : Nat => s.heap.size ≤ q) s.heap H2 locs2 → ∀ ls2 : Array Slot, lv_has ls2 7 (lvA b q o9 qm i) → W p l e room_1 s m #[Value.ref b] below meth c H2 locs2 (cells + 1) (slots + 6) Q (F0 m 1659 ls2 [])) : W p l e room_1 s m #[Value.ref b] below meth c H locs cells slots Q (F0 m 741 ls []) := by
  obtain ⟨hx, hb, hr, hml, hown, hts, hX, hbl, hlocks, hgv⟩ := C0
  have hown : s.vm.findClass RL = some m.cls := hown
  have hts : ∀ w ∈ wsL_law, w.before #[Value.ref b] s = true := fun w hw => hts w (wsL_law_in w hw)
  have hA : ∀ q : Nat, s.heap.size ≤ q → (fun q : Nat => s.heap.size ≤ q) q := fun _ h => h
  have hbA : ¬ (fun q : Nat => s.heap.size ≤ q) b := Nat.not_le.mpr hbl
  obtain ⟨T, R, S, X, M, P, n, k, z, a, h, w, f, d, v, th, o, V9⟩ := σ
  obtain ⟨hT, hR, hS9, hn, hk9, hP9⟩ := hok
  dsimp only at hT hR hS9 hn hk9 hP9
  have hP : va_P D vwCl (wW q cq o9 co qm cm V9 T R S X M P (nI n) h (nI k) w f d v (nI z) T R S X (nI n) h (nI k) th (nI a) o) H := hP
  have hD : va_D (fun q : Nat => s.heap.size ≤ q) (wW q cq o9 co qm cm V9 T R S X M P (nI n) h (nI k) w f d v (nI z) T R S X (nI n) h (nI k) th (nI a) o) := hD
  refine lv_aload_n hx hb dL_law_741 rfl (lv_at hl 1 rfl) ?_
  refine lv_aload_n hx hb dL_law_742 rfl (lv_at hl 3 rfl) ?_
  have hPc := hP.sub (ws' := (wL q cq o9 co V9 T R S X M P (nI n) h (nI k) w f d v (nI z))) [0, 1, 2, 3, 4, 5, 6, 7, 8] rfl
  have hKc := hK.sub (tys' := (tyL cq co)) [0, 1, 2, 3, 4, 5, 6] rfl
  have hDc := hD.sub (ws' := (wL q cq o9 co V9 T R S X M P (nI n) h (nI k) w f d v (nI z))) [0, 1, 2, 3, 4, 5, 6, 7, 8] (by decide) rfl
  have hFc := va_free (wc := (wL q cq o9 co V9 T R S X M P (nI n) h (nI k) w f d v (nI z))) hD hS hA [0, 1, 2, 3, 4, 5, 6, 7, 8] rfl
  refine va_calli (vx_runSW (As := [.ref (q 0), .ref o9]) (rest := []) ⟨hx, hb, hml, hown, hts⟩ (c_L_restoreSnapshot l hst D q cq o9 co V9 H.size T R S X M P n h (nI k) w f d v (nI z) hn) (vx_cwSW 2 hts gL_law_L_restoreSnapshot rfl rfl rfl (by decide +kernel) ⟨Nat.le_of_ble_eq_true rfl, Nat.le_of_ble_eq_true rfl⟩) ⟨fun a U g mk z => ⟨z.1, z.2.1, z.2.2.1, va_K.moved (u := U) (U := U.calling g mk a) (Vm.Alike.refl U.vm) z.2.2.2.1, z.2.2.2.2.1, z.2.2.2.2.2.blind g mk a⟩, fun U hU hW => ⟨rfl, by rw [hU], by rw [hU]; exact hPc, va_K.moved hW.alike hKc, hDc.weaken (fun _ _ _ _ => trivial), hE.at hS hU hW hFc⟩⟩ rfl rfl hl.1 rfl (lv_room (Nat.le_of_ble_eq_true rfl)) dL_law_743 ⟨(by show cells + 1 ≤ 1049; omega), (by show slots + 6 ≤ 8580; omega)⟩) hS (fun q _ h => hFc q h) hFc (fun r9 u9 t8 H1 locs ht hvm hw hB hz1 hk1 hS => ?_)
  obtain ⟨hP1, hD1⟩ := hB
  rw [ht] at hP1
  obtain ⟨hP, hD⟩ := va_join (wr := (wM qm cm T R S X (nI n) h (nI k) th (nI a) o)) (w1 := (wL q cq o9 co (VO (kX1_restoreSnapshot h) V9 ((fX1_restoreSnapshot T R S n h).1).toInt64) ((fX1_restoreSnapshot T R S n h).2.1) ((fX1_restoreSnapshot T R S n h).2.2.1) S X M P (nI (fX1_restoreSnapshot T R S n h).2.2.2) h (nI k) w f d v (nI z))) hP hD [0, 1, 2, 3, 4, 5, 6, 7, 8] [9, 10, 11, 12, 13] rfl rfl (by decide) (by decide) hk1 hFc hP1 hD1
  have hP := hP.sub (ws' := (wW q cq o9 co qm cm (VO (kX1_restoreSnapshot h) V9 ((fX1_restoreSnapshot T R S n h).1).toInt64) ((fX1_restoreSnapshot T R S n h).2.1) ((fX1_restoreSnapshot T R S n h).2.2.1) S X M P (nI (fX1_restoreSnapshot T R S n h).2.2.2) h (nI k) w f d v (nI z) T R S X (nI n) h (nI k) th (nI a) o)) [5, 6, 7, 8, 9, 10, 11, 12, 13, 0, 1, 2, 3, 4] rfl
  have hD := hD.sub (ws' := (wW q cq o9 co qm cm (VO (kX1_restoreSnapshot h) V9 ((fX1_restoreSnapshot T R S n h).1).toInt64) ((fX1_restoreSnapshot T R S n h).2.1) ((fX1_restoreSnapshot T R S n h).2.2.1) S X M P (nI (fX1_restoreSnapshot T R S n h).2.2.2) h (nI k) w f d v (nI z) T R S X (nI n) h (nI k) th (nI a) o)) [5, 6, 7, 8, 9, 10, 11, 12, 13, 0, 1, 2, 3, 4] (by decide) rfl
  generalize H1 = H at hP hS ⊢
  subst r9
  refine lv_istore (lv' := [(5, .int (cd1 (kX1_restoreSnapshot h))), (0, .ref b), (1, .ref (q 0)), (2, .ref (qm 0)), (3, .ref o9), (4, .int (nI i))]) hx hb dL_law_746 hl (by decide) rfl (fun ls hl => ?_)
  refine lv_aload_n hx hb dL_law_748 rfl (lv_at hl 3 rfl) ?_
  have hPc := hP.sub (ws' := (wM qm cm T R S X (nI n) h (nI k) th (nI a) o)) [9, 10, 11, 12, 13] rfl
  have hKc := hK.sub (tys' := (tyM cm)) [7, 8, 9, 10] rfl
  have hDc := hD.sub (ws' := (wM qm cm T R S X (nI n) h (nI k) th (nI a) o)) [9, 10, 11, 12, 13] (by decide) rfl
  have hFc := va_free (wc := (wM qm cm T R S X (nI n) h (nI k) th (nI a) o)) hD hS hA [9, 10, 11, 12, 13] rfl
  refine va_calli (va_runV (As := []) (rest := []) ⟨hx, hb, hml, hown, hts⟩ (c_X2_restoreSnapshot l D qm cm H.size T R S X n h (nI k) th (nI a) o hn) (cwV 0 hts gL_law_X2_restoreSnapshot rfl rfl rfl (by decide +kernel) ⟨Nat.le_of_ble_eq_true rfl, Nat.le_of_ble_eq_true rfl⟩) ⟨fun a U g mk z => ⟨z.1, z.2.1, z.2.2.1, va_K.moved (u := U) (U := U.calling g mk a) (Vm.Alike.refl U.vm) z.2.2.2.1, z.2.2.2.2.1, z.2.2.2.2.2.blind g mk a⟩, va_recv hKc hPc (ci := 2) (q0 := 0) rfl rfl, fun U hU hW => ⟨rfl, by rw [hU], by rw [hU]; exact hPc, va_K.moved hW.alike hKc, hDc.weaken (fun _ _ _ _ => trivial), hE.at hS hU hW hFc⟩⟩ rfl rfl hl.1 rfl (lv_room (Nat.le_of_ble_eq_true rfl)) dL_law_749 ⟨(by show cells + 1 ≤ 1049; omega), (by show slots + 6 ≤ 8580; omega)⟩) hS (fun q _ h => hFc q h) hFc (fun r9 u9 t8 H1 locs ht hvm hw hB hz1 hk1 hS => ?_)
  obtain ⟨hP1, hD1⟩ := hB
  rw [ht] at hP1
  obtain ⟨hP, hD⟩ := va_join (wr := (wL q cq o9 co (VO (kX1_restoreSnapshot h) V9 ((fX1_restoreSnapshot T R S n h).1).toInt64) ((fX1_restoreSnapshot T R S n h).2.1) ((fX1_restoreSnapshot T R S n h).2.2.1) S X M P (nI (fX1_restoreSnapshot T R S n h).2.2.2) h (nI k) w f d v (nI z))) (w1 := (wM qm cm ((fX2_restoreSnapshot T R S n h).2.1) ((fX2_restoreSnapshot T R S n h).2.2.1) S X (nI (fX2_restoreSnapshot T R S n h).2.2.2.1) h (nI k) ((fX2_restoreSnapshot T R S n h).2.2.2.2) (nI a) o)) hP hD [9, 10, 11, 12, 13] [0, 1, 2, 3, 4, 5, 6, 7, 8] rfl rfl (by decide) (by decide) hk1 hFc hP1 hD1
  generalize H1 = H at hP hS ⊢
  have hP : va_P D vwCl (wW q cq o9 co qm cm (VO (kX1_restoreSnapshot h) V9 ((fX1_restoreSnapshot T R S n h).1).toInt64) ((fX1_restoreSnapshot T R S n h).2.1) ((fX1_restoreSnapshot T R S n h).2.2.1) S X M P (nI (fX1_restoreSnapshot T R S n h).2.2.2) h (nI k) w f d v (nI z) ((fX2_restoreSnapshot T R S n h).2.1) ((fX2_restoreSnapshot T R S n h).2.2.1) S X (nI (fX2_restoreSnapshot T R S n h).2.2.2.1) h (nI k) ((fX2_restoreSnapshot T R S n h).2.2.2.2) (nI a) o) H := hP
  have hD : va_D (fun q : Nat => s.heap.size ≤ q) (wW q cq o9 co qm cm (VO (kX1_restoreSnapshot h) V9 ((fX1_restoreSnapshot T R S n h).1).toInt64) ((fX1_restoreSnapshot T R S n h).2.1) ((fX1_restoreSnapshot T R S n h).2.2.1) S X M P (nI (fX1_restoreSnapshot T R S n h).2.2.2) h (nI k) w f d v (nI z) ((fX2_restoreSnapshot T R S n h).2.1) ((fX2_restoreSnapshot T R S n h).2.2.1) S X (nI (fX2_restoreSnapshot T R S n h).2.2.2.1) h (nI k) ((fX2_restoreSnapshot T R S n h).2.2.2.2) (nI a) o) := hD
  subst r9
  have he := e_restoreSnapshot hT hR hS9 hn h
  rw [he.2.1.1, he.2.1.2.1, he.2.1.2.2] at hP hD
  refine lv_istore (lv' := [(6, .int ((fX2_restoreSnapshot T R S n h).1)), (5, .int (cd1 (kX1_restoreSnapshot h))), (0, .ref b), (1, .ref (q 0)), (2, .ref (qm 0)), (3, .ref o9), (4, .int (nI i))]) hx hb dL_law_752 hl (by decide) rfl (fun ls hl => ?_)
  refine lv_aload_n hx hb dL_law_754 rfl (lv_at hl 4 rfl) ?_
  have hPc := hP.sub (ws' := (wM qm cm ((fX1_restoreSnapshot T R S n h).2.1) ((fX1_restoreSnapshot T R S n h).2.2.1) S X (nI ((fX1_restoreSnapshot T R S n h).2.2.2)) h (nI (k)) ((fX2_restoreSnapshot T R S n h).2.2.2.2) (nI (a)) o)) [9, 10, 11, 12, 13] rfl
  have hKc := hK.sub (tys' := (tyM cm)) [7, 8, 9, 10] rfl
  refine vp_callSi (va_Run.run (va_runV (As := []) (rest := []) ⟨hx, hb, hml, hown, hts⟩ (c_X2_thrown l D qm cm ((fX1_restoreSnapshot T R S n h).2.1) ((fX1_restoreSnapshot T R S n h).2.2.1) S X (nI ((fX1_restoreSnapshot T R S n h).2.2.2)) h (nI (k)) ((fX2_restoreSnapshot T R S n h).2.2.2.2) (nI (a)) o) (cwV 0 hts gL_law_X2_thrown rfl rfl rfl (by decide +kernel) ⟨Nat.le_of_ble_eq_true rfl, Nat.le_of_ble_eq_true rfl⟩) ⟨fun a U g mk z => ⟨z.1, z.2.1, va_K.moved (u := U) (U := U.calling g mk a) (Vm.Alike.refl U.vm) z.2.2.1, z.2.2.2.blind g mk a⟩, va_recv hKc hPc (ci := 2) (q0 := 0) rfl rfl, fun U hU hW => ⟨rfl, by rw [hU]; exact hPc, va_K.moved hW.alike hKc, hE.at0 hS hU hW⟩⟩ rfl rfl hl.1 rfl (lv_room (Nat.le_of_ble_eq_true rfl)) dL_law_755 ⟨(by show cells + 1 ≤ 1049; omega), (by show slots + 6 ≤ 8580; omega)⟩)) (fun r9 hr9 => ?_)
  subst r9
  refine lv_iload hx hb dL_law_758 (lv_at hl 1 rfl) ?_
  have halt := he.1
  have hth : ((fX2_restoreSnapshot T R S n h).2.2.2.2) = cd1 (kX1_restoreSnapshot h) := by
    rcases halt with ⟨h1, h2, h3⟩ | ⟨h1, h2⟩ <;> (rw [h1, h2]; rfl)
  have hval : (kX1_restoreSnapshot h) = 0 → (fX1_restoreSnapshot T R S n h).1 = (fX2_restoreSnapshot T R S n h).1 := by
    intro h0
    rcases halt with ⟨h1, h2, h3⟩ | ⟨h1, h2⟩
    · exact h3
    · rw [h1] at h0; exact absurd h0 (by decide)
  refine lv_icmp_eq (tgt := 765) hx hb dL_law_760 (by decide) (fun c1 => ?_) (fun c1 => absurd (show fX2_thrown ((fX2_restoreSnapshot T R S n h).2.2.2.2) = cd1 (kX1_restoreSnapshot h) from hth) c1)
  refine lv_iload hx hb dL_law_765 (lv_at hl 1 rfl) ?_
  have kend : W p l e room_1 s m #[Value.ref b] below meth c H locs (cells + 1) (slots + 6) Q (F0 m 782 ls []) := by
    refine lv_goto (tgt := 1659) hx hb dL_law_782 (by decide) ?_
    exact kk ⟨((fX1_restoreSnapshot T R S n h).2.1), ((fX1_restoreSnapshot T R S n h).2.2.1), S, X, M, P, ((fX1_restoreSnapshot T R S n h).2.2.2), (k), (z), (a), h, w, f, d, v, ((fX2_restoreSnapshot T R S n h).2.2.2.2), o, (VO (kX1_restoreSnapshot h) V9 ((fX1_restoreSnapshot T R S n h).1).toInt64)⟩ ⟨he.2.2.1, he.2.2.2.1, hS9, he.2.2.2.2, hk9, hP9⟩ H _ hP hD hS ls (lv_sub hl [2, 3, 4, 5, 6] rfl)
  refine lv_if_ne (tgt := 782) hx hb dL_law_767 (by decide) (fun c2 => kend) (fun c2 => ?_)
  have hK0 : (kX1_restoreSnapshot h) = 0 := cd1_0 c2
  have hV0 : VO (kX1_restoreSnapshot h) V9 ((fX1_restoreSnapshot T R S n h).1).toInt64 = vp_updL V9 0 ((fX1_restoreSnapshot T R S n h).1).toInt64 := if_pos hK0
  refine lv_aload_n hx hb dL_law_770 rfl (lv_at hl 5 rfl) ?_
  refine lv_iconst (v := 0) hx hb dL_law_771 (by decide) ?_
  refine va_lald hx hb hK hP 0 0 rfl rfl (i := 0) (vp_in_nI (n := 0) (N := 1) (by decide) (by decide)) dL_law_772 ?_
  refine lv_isL (((fX1_restoreSnapshot T R S n h).1).toInt64) (by rw [hV0]; rfl) ?_
  refine lv_iload hx hb dL_law_773 (lv_at hl 0 rfl) ?_
  refine lv_i2l hx hb dL_law_775 rfl ?_
  rw [hval hK0]
  refine W.lcmp hx hb dL_law_776 ?_
  exact lv_if_eq (tgt := 782) hx hb dL_law_777 (by decide) (fun c3 => kend) (fun c3 => absurd (lg_self _) c3)
set_option maxHeartbeats 4000000 in
set_option maxRecDepth 100000 in
theorem k_tableOf {p : Program} {l : Launch} (hst : l.stackTraces = false) {e : Env} {s : State} {m : MethodId} {below : List Frame} {meth : Method} {c : Code} {b L : Nat} {xs : Nat → Int32} (hL : L ≤ 2560) (C0 : lw_At p s m meth c b L xs) (hE : envE (fun q : Nat => s.heap.size ≤ q) s) {D : va_G} {q : Nat → Nat} {cq : Nat → ClassId} {o9 : Nat} {co : ClassId} {qm : Nat → Nat} {cm : Nat → ClassId} (hK : va_K D vwCl (tyA cq co cm) s) (σ : LwS) (hok : okS σ) (H : Heap) (locs : List Loc) (hP : va_P D vwCl (wA q cq o9 co qm cm σ) H) (hD : va_D (fun q : Nat => s.heap.size ≤ q) (wA q cq o9 co qm cm σ)) (hS : va_S (fun q : Nat => s.heap.size ≤ q) s.heap H locs) (i : Nat) (hi : i + 5 ≤ L) (ls : Array Slot) (hl : lv_has ls 7 (lvA b q o9 qm i)) {cells slots : Nat} (hc : cells + 1 ≤ 1049) (hs : slots + 6 ≤ 8580) {Q : State → Prop} (kk : ∀ σ2 : LwS, okS σ2 → ∀ (H2 : Heap) (locs2 : List Loc), va_P D vwCl (wA q cq o9 co qm cm σ2) H2 → va_D (fun q : Nat => s.heap.size ≤ q) (wA q cq o9 co qm cm σ2) → va_S (fun q : Nat => s.heap.size ≤ q) s.heap H2 locs2 → ∀ ls2 : Array Slot, lv_has ls2 7 (lvA b q o9 qm i) → W p l e room_1 s m #[Value.ref b] below meth c H2 locs2 (cells + 1) (slots + 6) Q (F0 m 1659 ls2 [])) : W p l e room_1 s m #[Value.ref b] below meth c H locs cells slots Q (F0 m 785 ls []) := by
  obtain ⟨hx, hb, hr, hml, hown, hts, hX, hbl, hlocks, hgv⟩ := C0
  have hown : s.vm.findClass RL = some m.cls := hown
  have hts : ∀ w ∈ wsL_law, w.before #[Value.ref b] s = true := fun w hw => hts w (wsL_law_in w hw)
  have hA : ∀ q : Nat, s.heap.size ≤ q → (fun q : Nat => s.heap.size ≤ q) q := fun _ h => h
  have hbA : ¬ (fun q : Nat => s.heap.size ≤ q) b := Nat.not_le.mpr hbl
  obtain ⟨T, R, S, X, M, P, n, k, z, a, h, w, f, d, v, th, o, V9⟩ := σ
  obtain ⟨hT, hR, hS9, hn, hk9, hP9⟩ := hok
  dsimp only at hT hR hS9 hn hk9 hP9
  have hP : va_P D vwCl (wW q cq o9 co qm cm V9 T R S X M P (nI n) h (nI k) w f d v (nI z) T R S X (nI n) h (nI k) th (nI a) o) H := hP
  have hD : va_D (fun q : Nat => s.heap.size ≤ q) (wW q cq o9 co qm cm V9 T R S X M P (nI n) h (nI k) w f d v (nI z) T R S X (nI n) h (nI k) th (nI a) o) := hD
  refine lv_aload_n hx hb dL_law_785 rfl (lv_at hl 1 rfl) ?_
  refine lv_aload_n hx hb dL_law_786 rfl (lv_at hl 0 rfl) ?_
  refine lv_iload hx hb dL_law_787 (lv_at hl 4 rfl) ?_
  refine lv_iconst (v := 1) hx hb dL_law_789 (by decide) ?_
  refine lv_iadd hx hb dL_law_790 ?_
  refine lv_is (nI (i + 1)) (nI_add i 1) ?_
  refine va_sld hx hb hX hbl hbA hS (i := nI (i + 1)) (vp_in_nI (by omega) (by omega)) dL_law_791 ?_
  refine lv_is (xs (i + 1)) (by rw [nI_clamp (by omega)]) ?_
  refine lv_aload_n hx hb dL_law_792 rfl (lv_at hl 3 rfl) ?_
  have hPc := hP.sub (ws' := (wL q cq o9 co V9 T R S X M P (nI n) h (nI k) w f d v (nI z))) [0, 1, 2, 3, 4, 5, 6, 7, 8] rfl
  have hKc := hK.sub (tys' := (tyL cq co)) [0, 1, 2, 3, 4, 5, 6] rfl
  have hDc := hD.sub (ws' := (wL q cq o9 co V9 T R S X M P (nI n) h (nI k) w f d v (nI z))) [0, 1, 2, 3, 4, 5, 6, 7, 8] (by decide) rfl
  have hFc := va_free (wc := (wL q cq o9 co V9 T R S X M P (nI n) h (nI k) w f d v (nI z))) hD hS hA [0, 1, 2, 3, 4, 5, 6, 7, 8] rfl
  refine va_calli (vx_runSW (As := [.ref (q 0), .int (xs (i + 1)), .ref o9]) (rest := []) ⟨hx, hb, hml, hown, hts⟩ (c_L_tableOf l hst D q cq o9 co V9 H.size T R S X M P (nI n) h (nI k) w f d v (nI z) (xs (i + 1))) (vx_cwSW 3 hts gL_law_L_tableOf rfl rfl rfl (by decide +kernel) ⟨Nat.le_of_ble_eq_true rfl, Nat.le_of_ble_eq_true rfl⟩) ⟨fun a U g mk z => ⟨z.1, z.2.1, z.2.2.1, va_K.moved (u := U) (U := U.calling g mk a) (Vm.Alike.refl U.vm) z.2.2.2.1, z.2.2.2.2.1, z.2.2.2.2.2.blind g mk a⟩, fun U hU hW => ⟨rfl, by rw [hU], by rw [hU]; exact hPc, va_K.moved hW.alike hKc, hDc.weaken (fun _ _ _ _ => trivial), hE.at hS hU hW hFc⟩⟩ rfl rfl hl.1 rfl (lv_room (Nat.le_of_ble_eq_true rfl)) dL_law_793 ⟨(by show cells + 1 ≤ 1049; omega), (by show slots + 6 ≤ 8580; omega)⟩) hS (fun q _ h => hFc q h) hFc (fun r9 u9 t8 H1 locs ht hvm hw hB hz1 hk1 hS => ?_)
  obtain ⟨hP1, hD1⟩ := hB
  rw [ht] at hP1
  obtain ⟨hP, hD⟩ := va_join (wr := (wM qm cm T R S X (nI n) h (nI k) th (nI a) o)) (w1 := (wL q cq o9 co (VO (kX1_tableOf (xs (i + 1))) V9 (fX1_tableOf T (xs (i + 1))).toInt64) T R S X M P (nI n) h (nI k) w f d v (nI z))) hP hD [0, 1, 2, 3, 4, 5, 6, 7, 8] [9, 10, 11, 12, 13] rfl rfl (by decide) (by decide) hk1 hFc hP1 hD1
  have hP := hP.sub (ws' := (wW q cq o9 co qm cm (VO (kX1_tableOf (xs (i + 1))) V9 (fX1_tableOf T (xs (i + 1))).toInt64) T R S X M P (nI n) h (nI k) w f d v (nI z) T R S X (nI n) h (nI k) th (nI a) o)) [5, 6, 7, 8, 9, 10, 11, 12, 13, 0, 1, 2, 3, 4] rfl
  have hD := hD.sub (ws' := (wW q cq o9 co qm cm (VO (kX1_tableOf (xs (i + 1))) V9 (fX1_tableOf T (xs (i + 1))).toInt64) T R S X M P (nI n) h (nI k) w f d v (nI z) T R S X (nI n) h (nI k) th (nI a) o)) [5, 6, 7, 8, 9, 10, 11, 12, 13, 0, 1, 2, 3, 4] (by decide) rfl
  generalize H1 = H at hP hS ⊢
  subst r9
  refine lv_istore (lv' := [(5, .int (cd1 (kX1_tableOf (xs (i + 1))))), (0, .ref b), (1, .ref (q 0)), (2, .ref (qm 0)), (3, .ref o9), (4, .int (nI i))]) hx hb dL_law_796 hl (by decide) rfl (fun ls hl => ?_)
  refine lv_aload_n hx hb dL_law_798 rfl (lv_at hl 3 rfl) ?_
  refine lv_aload_n hx hb dL_law_799 rfl (lv_at hl 1 rfl) ?_
  refine lv_iload hx hb dL_law_800 (lv_at hl 5 rfl) ?_
  refine lv_iconst (v := 1) hx hb dL_law_802 (by decide) ?_
  refine lv_iadd hx hb dL_law_803 ?_
  refine lv_is (nI (i + 1)) (nI_add i 1) ?_
  refine va_sld hx hb hX hbl hbA hS (i := nI (i + 1)) (vp_in_nI (by omega) (by omega)) dL_law_804 ?_
  refine lv_is (xs (i + 1)) (by rw [nI_clamp (by omega)]) ?_
  have hPc := hP.sub (ws' := (wM qm cm T R S X (nI n) h (nI k) th (nI a) o)) [9, 10, 11, 12, 13] rfl
  have hKc := hK.sub (tys' := (tyM cm)) [7, 8, 9, 10] rfl
  have hDc := hD.sub (ws' := (wM qm cm T R S X (nI n) h (nI k) th (nI a) o)) [9, 10, 11, 12, 13] (by decide) rfl
  have hFc := va_free (wc := (wM qm cm T R S X (nI n) h (nI k) th (nI a) o)) hD hS hA [9, 10, 11, 12, 13] rfl
  refine va_calli (va_runV (As := [.int (xs (i + 1))]) (rest := []) ⟨hx, hb, hml, hown, hts⟩ (c_X2_tableOf l D qm cm H.size T R S X (nI n) h (nI k) th (nI a) o (xs (i + 1))) (cwV 1 hts gL_law_X2_tableOf rfl rfl rfl (by decide +kernel) ⟨Nat.le_of_ble_eq_true rfl, Nat.le_of_ble_eq_true rfl⟩) ⟨fun a U g mk z => ⟨z.1, z.2.1, z.2.2.1, va_K.moved (u := U) (U := U.calling g mk a) (Vm.Alike.refl U.vm) z.2.2.2.1, z.2.2.2.2.1, z.2.2.2.2.2.blind g mk a⟩, va_recv hKc hPc (ci := 2) (q0 := 0) rfl rfl, fun U hU hW => ⟨rfl, by rw [hU], by rw [hU]; exact hPc, va_K.moved hW.alike hKc, hDc.weaken (fun _ _ _ _ => trivial), hE.at hS hU hW hFc⟩⟩ rfl rfl hl.1 rfl (lv_room (Nat.le_of_ble_eq_true rfl)) dL_law_805 ⟨(by show cells + 1 ≤ 1049; omega), (by show slots + 6 ≤ 8580; omega)⟩) hS (fun q _ h => hFc q h) hFc (fun r9 u9 t8 H1 locs ht hvm hw hB hz1 hk1 hS => ?_)
  obtain ⟨hP1, hD1⟩ := hB
  rw [ht] at hP1
  obtain ⟨hP, hD⟩ := va_join (wr := (wL q cq o9 co (VO (kX1_tableOf (xs (i + 1))) V9 (fX1_tableOf T (xs (i + 1))).toInt64) T R S X M P (nI n) h (nI k) w f d v (nI z))) (w1 := (wM qm cm T R S X (nI n) h (nI k) ((fX2_tableOf T (xs (i + 1))).2) (nI a) o)) hP hD [9, 10, 11, 12, 13] [0, 1, 2, 3, 4, 5, 6, 7, 8] rfl rfl (by decide) (by decide) hk1 hFc hP1 hD1
  generalize H1 = H at hP hS ⊢
  have hP : va_P D vwCl (wW q cq o9 co qm cm (VO (kX1_tableOf (xs (i + 1))) V9 (fX1_tableOf T (xs (i + 1))).toInt64) T R S X M P (nI n) h (nI k) w f d v (nI z) T R S X (nI n) h (nI k) ((fX2_tableOf T (xs (i + 1))).2) (nI a) o) H := hP
  have hD : va_D (fun q : Nat => s.heap.size ≤ q) (wW q cq o9 co qm cm (VO (kX1_tableOf (xs (i + 1))) V9 (fX1_tableOf T (xs (i + 1))).toInt64) T R S X M P (nI n) h (nI k) w f d v (nI z) T R S X (nI n) h (nI k) ((fX2_tableOf T (xs (i + 1))).2) (nI a) o) := hD
  subst r9
  have he := e_tableOf T (xs (i + 1))
  refine lv_istore (lv' := [(6, .int ((fX2_tableOf T (xs (i + 1))).1)), (5, .int (cd1 (kX1_tableOf (xs (i + 1))))), (0, .ref b), (1, .ref (q 0)), (2, .ref (qm 0)), (3, .ref o9), (4, .int (nI i))]) hx hb dL_law_808 hl (by decide) rfl (fun ls hl => ?_)
  refine lv_aload_n hx hb dL_law_810 rfl (lv_at hl 4 rfl) ?_
  have hPc := hP.sub (ws' := (wM qm cm T R S X (nI (n)) h (nI (k)) ((fX2_tableOf T (xs (i + 1))).2) (nI (a)) o)) [9, 10, 11, 12, 13] rfl
  have hKc := hK.sub (tys' := (tyM cm)) [7, 8, 9, 10] rfl
  refine vp_callSi (va_Run.run (va_runV (As := []) (rest := []) ⟨hx, hb, hml, hown, hts⟩ (c_X2_thrown l D qm cm T R S X (nI (n)) h (nI (k)) ((fX2_tableOf T (xs (i + 1))).2) (nI (a)) o) (cwV 0 hts gL_law_X2_thrown rfl rfl rfl (by decide +kernel) ⟨Nat.le_of_ble_eq_true rfl, Nat.le_of_ble_eq_true rfl⟩) ⟨fun a U g mk z => ⟨z.1, z.2.1, va_K.moved (u := U) (U := U.calling g mk a) (Vm.Alike.refl U.vm) z.2.2.1, z.2.2.2.blind g mk a⟩, va_recv hKc hPc (ci := 2) (q0 := 0) rfl rfl, fun U hU hW => ⟨rfl, by rw [hU]; exact hPc, va_K.moved hW.alike hKc, hE.at0 hS hU hW⟩⟩ rfl rfl hl.1 rfl (lv_room (Nat.le_of_ble_eq_true rfl)) dL_law_811 ⟨(by show cells + 1 ≤ 1049; omega), (by show slots + 6 ≤ 8580; omega)⟩)) (fun r9 hr9 => ?_)
  subst r9
  refine lv_iload hx hb dL_law_814 (lv_at hl 1 rfl) ?_
  have halt := he
  have hth : ((fX2_tableOf T (xs (i + 1))).2) = cd1 (kX1_tableOf (xs (i + 1))) := by
    rcases halt with ⟨h1, h2, h3⟩ | ⟨h1, h2⟩ <;> (rw [h1, h2]; rfl)
  have hval : (kX1_tableOf (xs (i + 1))) = 0 → (fX1_tableOf T (xs (i + 1))) = (fX2_tableOf T (xs (i + 1))).1 := by
    intro h0
    rcases halt with ⟨h1, h2, h3⟩ | ⟨h1, h2⟩
    · exact h3
    · rw [h1] at h0; exact absurd h0 (by decide)
  refine lv_icmp_eq (tgt := 821) hx hb dL_law_816 (by decide) (fun c1 => ?_) (fun c1 => absurd (show fX2_thrown ((fX2_tableOf T (xs (i + 1))).2) = cd1 (kX1_tableOf (xs (i + 1))) from hth) c1)
  refine lv_iload hx hb dL_law_821 (lv_at hl 1 rfl) ?_
  have kend : W p l e room_1 s m #[Value.ref b] below meth c H locs (cells + 1) (slots + 6) Q (F0 m 838 ls []) := by
    refine lv_goto (tgt := 1659) hx hb dL_law_838 (by decide) ?_
    exact kk ⟨T, R, S, X, M, P, (n), (k), (z), (a), h, w, f, d, v, ((fX2_tableOf T (xs (i + 1))).2), o, (VO (kX1_tableOf (xs (i + 1))) V9 (fX1_tableOf T (xs (i + 1))).toInt64)⟩ ⟨hT, hR, hS9, hn, hk9, hP9⟩ H _ hP hD hS ls (lv_sub hl [2, 3, 4, 5, 6] rfl)
  refine lv_if_ne (tgt := 838) hx hb dL_law_823 (by decide) (fun c2 => kend) (fun c2 => ?_)
  have hK0 : (kX1_tableOf (xs (i + 1))) = 0 := cd1_0 c2
  have hV0 : VO (kX1_tableOf (xs (i + 1))) V9 (fX1_tableOf T (xs (i + 1))).toInt64 = vp_updL V9 0 (fX1_tableOf T (xs (i + 1))).toInt64 := if_pos hK0
  refine lv_aload_n hx hb dL_law_826 rfl (lv_at hl 5 rfl) ?_
  refine lv_iconst (v := 0) hx hb dL_law_827 (by decide) ?_
  refine va_lald hx hb hK hP 0 0 rfl rfl (i := 0) (vp_in_nI (n := 0) (N := 1) (by decide) (by decide)) dL_law_828 ?_
  refine lv_isL ((fX1_tableOf T (xs (i + 1))).toInt64) (by rw [hV0]; rfl) ?_
  refine lv_iload hx hb dL_law_829 (lv_at hl 0 rfl) ?_
  refine lv_i2l hx hb dL_law_831 rfl ?_
  rw [hval hK0]
  refine W.lcmp hx hb dL_law_832 ?_
  exact lv_if_eq (tgt := 838) hx hb dL_law_833 (by decide) (fun c3 => kend) (fun c3 => absurd (lg_self _) c3)
set_option maxHeartbeats 4000000 in
set_option maxRecDepth 100000 in
theorem k_valueAt {p : Program} {l : Launch} (hst : l.stackTraces = false) {e : Env} {s : State} {m : MethodId} {below : List Frame} {meth : Method} {c : Code} {b L : Nat} {xs : Nat → Int32} (hL : L ≤ 2560) (C0 : lw_At p s m meth c b L xs) (hE : envE (fun q : Nat => s.heap.size ≤ q) s) {D : va_G} {q : Nat → Nat} {cq : Nat → ClassId} {o9 : Nat} {co : ClassId} {qm : Nat → Nat} {cm : Nat → ClassId} (hK : va_K D vwCl (tyA cq co cm) s) (σ : LwS) (hok : okS σ) (H : Heap) (locs : List Loc) (hP : va_P D vwCl (wA q cq o9 co qm cm σ) H) (hD : va_D (fun q : Nat => s.heap.size ≤ q) (wA q cq o9 co qm cm σ)) (hS : va_S (fun q : Nat => s.heap.size ≤ q) s.heap H locs) (i : Nat) (hi : i + 5 ≤ L) (ls : Array Slot) (hl : lv_has ls 7 (lvA b q o9 qm i)) {cells slots : Nat} (hc : cells + 1 ≤ 1049) (hs : slots + 6 ≤ 8580) {Q : State → Prop} (kk : ∀ σ2 : LwS, okS σ2 → ∀ (H2 : Heap) (locs2 : List Loc), va_P D vwCl (wA q cq o9 co qm cm σ2) H2 → va_D (fun q : Nat => s.heap.size ≤ q) (wA q cq o9 co qm cm σ2) → va_S (fun q : Nat => s.heap.size ≤ q) s.heap H2 locs2 → ∀ ls2 : Array Slot, lv_has ls2 7 (lvA b q o9 qm i) → W p l e room_1 s m #[Value.ref b] below meth c H2 locs2 (cells + 1) (slots + 6) Q (F0 m 1659 ls2 [])) : W p l e room_1 s m #[Value.ref b] below meth c H locs cells slots Q (F0 m 841 ls []) := by
  obtain ⟨hx, hb, hr, hml, hown, hts, hX, hbl, hlocks, hgv⟩ := C0
  have hown : s.vm.findClass RL = some m.cls := hown
  have hts : ∀ w ∈ wsL_law, w.before #[Value.ref b] s = true := fun w hw => hts w (wsL_law_in w hw)
  have hA : ∀ q : Nat, s.heap.size ≤ q → (fun q : Nat => s.heap.size ≤ q) q := fun _ h => h
  have hbA : ¬ (fun q : Nat => s.heap.size ≤ q) b := Nat.not_le.mpr hbl
  obtain ⟨T, R, S, X, M, P, n, k, z, a, h, w, f, d, v, th, o, V9⟩ := σ
  obtain ⟨hT, hR, hS9, hn, hk9, hP9⟩ := hok
  dsimp only at hT hR hS9 hn hk9 hP9
  have hP : va_P D vwCl (wW q cq o9 co qm cm V9 T R S X M P (nI n) h (nI k) w f d v (nI z) T R S X (nI n) h (nI k) th (nI a) o) H := hP
  have hD : va_D (fun q : Nat => s.heap.size ≤ q) (wW q cq o9 co qm cm V9 T R S X M P (nI n) h (nI k) w f d v (nI z) T R S X (nI n) h (nI k) th (nI a) o) := hD
  refine lv_aload_n hx hb dL_law_841 rfl (lv_at hl 1 rfl) ?_
  refine lv_aload_n hx hb dL_law_842 rfl (lv_at hl 0 rfl) ?_
  refine lv_iload hx hb dL_law_843 (lv_at hl 4 rfl) ?_
  refine lv_iconst (v := 1) hx hb dL_law_845 (by decide) ?_
  refine lv_iadd hx hb dL_law_846 ?_
  refine lv_is (nI (i + 1)) (nI_add i 1) ?_
  refine va_sld hx hb hX hbl hbA hS (i := nI (i + 1)) (vp_in_nI (by omega) (by omega)) dL_law_847 ?_
  refine lv_is (xs (i + 1)) (by rw [nI_clamp (by omega)]) ?_
  refine lv_aload_n hx hb dL_law_848 rfl (lv_at hl 0 rfl) ?_
  refine lv_iload hx hb dL_law_849 (lv_at hl 4 rfl) ?_
  refine lv_iconst (v := 2) hx hb dL_law_851 (by decide) ?_
  refine lv_iadd hx hb dL_law_852 ?_
  refine lv_is (nI (i + 2)) (nI_add i 2) ?_
  refine va_sld hx hb hX hbl hbA hS (i := nI (i + 2)) (vp_in_nI (by omega) (by omega)) dL_law_853 ?_
  refine lv_is (xs (i + 2)) (by rw [nI_clamp (by omega)]) ?_
  refine lv_aload_n hx hb dL_law_854 rfl (lv_at hl 3 rfl) ?_
  have hPc := hP.sub (ws' := (wL q cq o9 co V9 T R S X M P (nI n) h (nI k) w f d v (nI z))) [0, 1, 2, 3, 4, 5, 6, 7, 8] rfl
  have hKc := hK.sub (tys' := (tyL cq co)) [0, 1, 2, 3, 4, 5, 6] rfl
  have hDc := hD.sub (ws' := (wL q cq o9 co V9 T R S X M P (nI n) h (nI k) w f d v (nI z))) [0, 1, 2, 3, 4, 5, 6, 7, 8] (by decide) rfl
  have hFc := va_free (wc := (wL q cq o9 co V9 T R S X M P (nI n) h (nI k) w f d v (nI z))) hD hS hA [0, 1, 2, 3, 4, 5, 6, 7, 8] rfl
  refine va_calli (vx_runSW (As := [.ref (q 0), .int (xs (i + 1)), .int (xs (i + 2)), .ref o9]) (rest := []) ⟨hx, hb, hml, hown, hts⟩ (c_L_valueAt l hst D q cq o9 co V9 H.size T R S X M P (nI n) h (nI k) w f d v (nI z) (xs (i + 1)) (xs (i + 2))) (vx_cwSW 4 hts gL_law_L_valueAt rfl rfl rfl (by decide +kernel) ⟨Nat.le_of_ble_eq_true rfl, Nat.le_of_ble_eq_true rfl⟩) ⟨fun a U g mk z => ⟨z.1, z.2.1, z.2.2.1, va_K.moved (u := U) (U := U.calling g mk a) (Vm.Alike.refl U.vm) z.2.2.2.1, z.2.2.2.2.1, z.2.2.2.2.2.blind g mk a⟩, fun U hU hW => ⟨rfl, by rw [hU], by rw [hU]; exact hPc, va_K.moved hW.alike hKc, hDc.weaken (fun _ _ _ _ => trivial), hE.at hS hU hW hFc⟩⟩ rfl rfl hl.1 rfl (lv_room (Nat.le_of_ble_eq_true rfl)) dL_law_855 ⟨(by show cells + 1 ≤ 1049; omega), (by show slots + 6 ≤ 8580; omega)⟩) hS (fun q _ h => hFc q h) hFc (fun r9 u9 t8 H1 locs ht hvm hw hB hz1 hk1 hS => ?_)
  obtain ⟨hP1, hD1⟩ := hB
  rw [ht] at hP1
  obtain ⟨hP, hD⟩ := va_join (wr := (wM qm cm T R S X (nI n) h (nI k) th (nI a) o)) (w1 := (wL q cq o9 co (VO (kX1_valueAt (xs (i + 1)) (xs (i + 2))) V9 (fX1_valueAt T (xs (i + 1)) (xs (i + 2))).toInt64) T R S X M P (nI n) h (nI k) w f d v (nI z))) hP hD [0, 1, 2, 3, 4, 5, 6, 7, 8] [9, 10, 11, 12, 13] rfl rfl (by decide) (by decide) hk1 hFc hP1 hD1
  have hP := hP.sub (ws' := (wW q cq o9 co qm cm (VO (kX1_valueAt (xs (i + 1)) (xs (i + 2))) V9 (fX1_valueAt T (xs (i + 1)) (xs (i + 2))).toInt64) T R S X M P (nI n) h (nI k) w f d v (nI z) T R S X (nI n) h (nI k) th (nI a) o)) [5, 6, 7, 8, 9, 10, 11, 12, 13, 0, 1, 2, 3, 4] rfl
  have hD := hD.sub (ws' := (wW q cq o9 co qm cm (VO (kX1_valueAt (xs (i + 1)) (xs (i + 2))) V9 (fX1_valueAt T (xs (i + 1)) (xs (i + 2))).toInt64) T R S X M P (nI n) h (nI k) w f d v (nI z) T R S X (nI n) h (nI k) th (nI a) o)) [5, 6, 7, 8, 9, 10, 11, 12, 13, 0, 1, 2, 3, 4] (by decide) rfl
  generalize H1 = H at hP hS ⊢
  subst r9
  refine lv_istore (lv' := [(5, .int (cd1 (kX1_valueAt (xs (i + 1)) (xs (i + 2))))), (0, .ref b), (1, .ref (q 0)), (2, .ref (qm 0)), (3, .ref o9), (4, .int (nI i))]) hx hb dL_law_858 hl (by decide) rfl (fun ls hl => ?_)
  refine lv_aload_n hx hb dL_law_860 rfl (lv_at hl 3 rfl) ?_
  refine lv_aload_n hx hb dL_law_861 rfl (lv_at hl 1 rfl) ?_
  refine lv_iload hx hb dL_law_862 (lv_at hl 5 rfl) ?_
  refine lv_iconst (v := 1) hx hb dL_law_864 (by decide) ?_
  refine lv_iadd hx hb dL_law_865 ?_
  refine lv_is (nI (i + 1)) (nI_add i 1) ?_
  refine va_sld hx hb hX hbl hbA hS (i := nI (i + 1)) (vp_in_nI (by omega) (by omega)) dL_law_866 ?_
  refine lv_is (xs (i + 1)) (by rw [nI_clamp (by omega)]) ?_
  refine lv_aload_n hx hb dL_law_867 rfl (lv_at hl 1 rfl) ?_
  refine lv_iload hx hb dL_law_868 (lv_at hl 5 rfl) ?_
  refine lv_iconst (v := 2) hx hb dL_law_870 (by decide) ?_
  refine lv_iadd hx hb dL_law_871 ?_
  refine lv_is (nI (i + 2)) (nI_add i 2) ?_
  refine va_sld hx hb hX hbl hbA hS (i := nI (i + 2)) (vp_in_nI (by omega) (by omega)) dL_law_872 ?_
  refine lv_is (xs (i + 2)) (by rw [nI_clamp (by omega)]) ?_
  have hPc := hP.sub (ws' := (wM qm cm T R S X (nI n) h (nI k) th (nI a) o)) [9, 10, 11, 12, 13] rfl
  have hKc := hK.sub (tys' := (tyM cm)) [7, 8, 9, 10] rfl
  have hDc := hD.sub (ws' := (wM qm cm T R S X (nI n) h (nI k) th (nI a) o)) [9, 10, 11, 12, 13] (by decide) rfl
  have hFc := va_free (wc := (wM qm cm T R S X (nI n) h (nI k) th (nI a) o)) hD hS hA [9, 10, 11, 12, 13] rfl
  refine va_calli (va_runV (As := [.int (xs (i + 1)), .int (xs (i + 2))]) (rest := []) ⟨hx, hb, hml, hown, hts⟩ (c_X2_valueAt l D qm cm H.size T R S X (nI n) h (nI k) th (nI a) o (xs (i + 1)) (xs (i + 2))) (cwV 2 hts gL_law_X2_valueAt rfl rfl rfl (by decide +kernel) ⟨Nat.le_of_ble_eq_true rfl, Nat.le_of_ble_eq_true rfl⟩) ⟨fun a U g mk z => ⟨z.1, z.2.1, z.2.2.1, va_K.moved (u := U) (U := U.calling g mk a) (Vm.Alike.refl U.vm) z.2.2.2.1, z.2.2.2.2.1, z.2.2.2.2.2.blind g mk a⟩, va_recv hKc hPc (ci := 2) (q0 := 0) rfl rfl, fun U hU hW => ⟨rfl, by rw [hU], by rw [hU]; exact hPc, va_K.moved hW.alike hKc, hDc.weaken (fun _ _ _ _ => trivial), hE.at hS hU hW hFc⟩⟩ rfl rfl hl.1 rfl (lv_room (Nat.le_of_ble_eq_true rfl)) dL_law_873 ⟨(by show cells + 1 ≤ 1049; omega), (by show slots + 6 ≤ 8580; omega)⟩) hS (fun q _ h => hFc q h) hFc (fun r9 u9 t8 H1 locs ht hvm hw hB hz1 hk1 hS => ?_)
  obtain ⟨hP1, hD1⟩ := hB
  rw [ht] at hP1
  obtain ⟨hP, hD⟩ := va_join (wr := (wL q cq o9 co (VO (kX1_valueAt (xs (i + 1)) (xs (i + 2))) V9 (fX1_valueAt T (xs (i + 1)) (xs (i + 2))).toInt64) T R S X M P (nI n) h (nI k) w f d v (nI z))) (w1 := (wM qm cm T R S X (nI n) h (nI k) ((fX2_valueAt T (xs (i + 1)) (xs (i + 2))).2) (nI a) o)) hP hD [9, 10, 11, 12, 13] [0, 1, 2, 3, 4, 5, 6, 7, 8] rfl rfl (by decide) (by decide) hk1 hFc hP1 hD1
  generalize H1 = H at hP hS ⊢
  have hP : va_P D vwCl (wW q cq o9 co qm cm (VO (kX1_valueAt (xs (i + 1)) (xs (i + 2))) V9 (fX1_valueAt T (xs (i + 1)) (xs (i + 2))).toInt64) T R S X M P (nI n) h (nI k) w f d v (nI z) T R S X (nI n) h (nI k) ((fX2_valueAt T (xs (i + 1)) (xs (i + 2))).2) (nI a) o) H := hP
  have hD : va_D (fun q : Nat => s.heap.size ≤ q) (wW q cq o9 co qm cm (VO (kX1_valueAt (xs (i + 1)) (xs (i + 2))) V9 (fX1_valueAt T (xs (i + 1)) (xs (i + 2))).toInt64) T R S X M P (nI n) h (nI k) w f d v (nI z) T R S X (nI n) h (nI k) ((fX2_valueAt T (xs (i + 1)) (xs (i + 2))).2) (nI a) o) := hD
  subst r9
  have he := e_valueAt T (xs (i + 1)) (xs (i + 2))
  refine lv_istore (lv' := [(6, .int ((fX2_valueAt T (xs (i + 1)) (xs (i + 2))).1)), (5, .int (cd1 (kX1_valueAt (xs (i + 1)) (xs (i + 2))))), (0, .ref b), (1, .ref (q 0)), (2, .ref (qm 0)), (3, .ref o9), (4, .int (nI i))]) hx hb dL_law_876 hl (by decide) rfl (fun ls hl => ?_)
  refine lv_aload_n hx hb dL_law_878 rfl (lv_at hl 4 rfl) ?_
  have hPc := hP.sub (ws' := (wM qm cm T R S X (nI (n)) h (nI (k)) ((fX2_valueAt T (xs (i + 1)) (xs (i + 2))).2) (nI (a)) o)) [9, 10, 11, 12, 13] rfl
  have hKc := hK.sub (tys' := (tyM cm)) [7, 8, 9, 10] rfl
  refine vp_callSi (va_Run.run (va_runV (As := []) (rest := []) ⟨hx, hb, hml, hown, hts⟩ (c_X2_thrown l D qm cm T R S X (nI (n)) h (nI (k)) ((fX2_valueAt T (xs (i + 1)) (xs (i + 2))).2) (nI (a)) o) (cwV 0 hts gL_law_X2_thrown rfl rfl rfl (by decide +kernel) ⟨Nat.le_of_ble_eq_true rfl, Nat.le_of_ble_eq_true rfl⟩) ⟨fun a U g mk z => ⟨z.1, z.2.1, va_K.moved (u := U) (U := U.calling g mk a) (Vm.Alike.refl U.vm) z.2.2.1, z.2.2.2.blind g mk a⟩, va_recv hKc hPc (ci := 2) (q0 := 0) rfl rfl, fun U hU hW => ⟨rfl, by rw [hU]; exact hPc, va_K.moved hW.alike hKc, hE.at0 hS hU hW⟩⟩ rfl rfl hl.1 rfl (lv_room (Nat.le_of_ble_eq_true rfl)) dL_law_879 ⟨(by show cells + 1 ≤ 1049; omega), (by show slots + 6 ≤ 8580; omega)⟩)) (fun r9 hr9 => ?_)
  subst r9
  refine lv_iload hx hb dL_law_882 (lv_at hl 1 rfl) ?_
  have halt := he
  have hth : ((fX2_valueAt T (xs (i + 1)) (xs (i + 2))).2) = cd1 (kX1_valueAt (xs (i + 1)) (xs (i + 2))) := by
    rcases halt with ⟨h1, h2, h3⟩ | ⟨h1, h2⟩ <;> (rw [h1, h2]; rfl)
  have hval : (kX1_valueAt (xs (i + 1)) (xs (i + 2))) = 0 → (fX1_valueAt T (xs (i + 1)) (xs (i + 2))) = (fX2_valueAt T (xs (i + 1)) (xs (i + 2))).1 := by
    intro h0
    rcases halt with ⟨h1, h2, h3⟩ | ⟨h1, h2⟩
    · exact h3
    · rw [h1] at h0; exact absurd h0 (by decide)
  refine lv_icmp_eq (tgt := 889) hx hb dL_law_884 (by decide) (fun c1 => ?_) (fun c1 => absurd (show fX2_thrown ((fX2_valueAt T (xs (i + 1)) (xs (i + 2))).2) = cd1 (kX1_valueAt (xs (i + 1)) (xs (i + 2))) from hth) c1)
  refine lv_iload hx hb dL_law_889 (lv_at hl 1 rfl) ?_
  have kend : W p l e room_1 s m #[Value.ref b] below meth c H locs (cells + 1) (slots + 6) Q (F0 m 906 ls []) := by
    refine lv_goto (tgt := 1659) hx hb dL_law_906 (by decide) ?_
    exact kk ⟨T, R, S, X, M, P, (n), (k), (z), (a), h, w, f, d, v, ((fX2_valueAt T (xs (i + 1)) (xs (i + 2))).2), o, (VO (kX1_valueAt (xs (i + 1)) (xs (i + 2))) V9 (fX1_valueAt T (xs (i + 1)) (xs (i + 2))).toInt64)⟩ ⟨hT, hR, hS9, hn, hk9, hP9⟩ H _ hP hD hS ls (lv_sub hl [2, 3, 4, 5, 6] rfl)
  refine lv_if_ne (tgt := 906) hx hb dL_law_891 (by decide) (fun c2 => kend) (fun c2 => ?_)
  have hK0 : (kX1_valueAt (xs (i + 1)) (xs (i + 2))) = 0 := cd1_0 c2
  have hV0 : VO (kX1_valueAt (xs (i + 1)) (xs (i + 2))) V9 (fX1_valueAt T (xs (i + 1)) (xs (i + 2))).toInt64 = vp_updL V9 0 (fX1_valueAt T (xs (i + 1)) (xs (i + 2))).toInt64 := if_pos hK0
  refine lv_aload_n hx hb dL_law_894 rfl (lv_at hl 5 rfl) ?_
  refine lv_iconst (v := 0) hx hb dL_law_895 (by decide) ?_
  refine va_lald hx hb hK hP 0 0 rfl rfl (i := 0) (vp_in_nI (n := 0) (N := 1) (by decide) (by decide)) dL_law_896 ?_
  refine lv_isL ((fX1_valueAt T (xs (i + 1)) (xs (i + 2))).toInt64) (by rw [hV0]; rfl) ?_
  refine lv_iload hx hb dL_law_897 (lv_at hl 0 rfl) ?_
  refine lv_i2l hx hb dL_law_899 rfl ?_
  rw [hval hK0]
  refine W.lcmp hx hb dL_law_900 ?_
  exact lv_if_eq (tgt := 906) hx hb dL_law_901 (by decide) (fun c3 => kend) (fun c3 => absurd (lg_self _) c3)
set_option maxHeartbeats 4000000 in
set_option maxRecDepth 100000 in
theorem k_weightOf {p : Program} {l : Launch} (hst : l.stackTraces = false) {e : Env} {s : State} {m : MethodId} {below : List Frame} {meth : Method} {c : Code} {b L : Nat} {xs : Nat → Int32} (hL : L ≤ 2560) (C0 : lw_At p s m meth c b L xs) (hE : envE (fun q : Nat => s.heap.size ≤ q) s) {D : va_G} {q : Nat → Nat} {cq : Nat → ClassId} {o9 : Nat} {co : ClassId} {qm : Nat → Nat} {cm : Nat → ClassId} (hK : va_K D vwCl (tyA cq co cm) s) (σ : LwS) (hok : okS σ) (H : Heap) (locs : List Loc) (hP : va_P D vwCl (wA q cq o9 co qm cm σ) H) (hD : va_D (fun q : Nat => s.heap.size ≤ q) (wA q cq o9 co qm cm σ)) (hS : va_S (fun q : Nat => s.heap.size ≤ q) s.heap H locs) (i : Nat) (hi : i + 5 ≤ L) (ls : Array Slot) (hl : lv_has ls 7 (lvA b q o9 qm i)) {cells slots : Nat} (hc : cells + 1 ≤ 1049) (hs : slots + 6 ≤ 8580) {Q : State → Prop} (kk : ∀ σ2 : LwS, okS σ2 → ∀ (H2 : Heap) (locs2 : List Loc), va_P D vwCl (wA q cq o9 co qm cm σ2) H2 → va_D (fun q : Nat => s.heap.size ≤ q) (wA q cq o9 co qm cm σ2) → va_S (fun q : Nat => s.heap.size ≤ q) s.heap H2 locs2 → ∀ ls2 : Array Slot, lv_has ls2 7 (lvA b q o9 qm i) → W p l e room_1 s m #[Value.ref b] below meth c H2 locs2 (cells + 1) (slots + 6) Q (F0 m 1659 ls2 [])) : W p l e room_1 s m #[Value.ref b] below meth c H locs cells slots Q (F0 m 909 ls []) := by
  obtain ⟨hx, hb, hr, hml, hown, hts, hX, hbl, hlocks, hgv⟩ := C0
  have hown : s.vm.findClass RL = some m.cls := hown
  have hts : ∀ w ∈ wsL_law, w.before #[Value.ref b] s = true := fun w hw => hts w (wsL_law_in w hw)
  have hA : ∀ q : Nat, s.heap.size ≤ q → (fun q : Nat => s.heap.size ≤ q) q := fun _ h => h
  have hbA : ¬ (fun q : Nat => s.heap.size ≤ q) b := Nat.not_le.mpr hbl
  obtain ⟨T, R, S, X, M, P, n, k, z, a, h, w, f, d, v, th, o, V9⟩ := σ
  obtain ⟨hT, hR, hS9, hn, hk9, hP9⟩ := hok
  dsimp only at hT hR hS9 hn hk9 hP9
  have hP : va_P D vwCl (wW q cq o9 co qm cm V9 T R S X M P (nI n) h (nI k) w f d v (nI z) T R S X (nI n) h (nI k) th (nI a) o) H := hP
  have hD : va_D (fun q : Nat => s.heap.size ≤ q) (wW q cq o9 co qm cm V9 T R S X M P (nI n) h (nI k) w f d v (nI z) T R S X (nI n) h (nI k) th (nI a) o) := hD
  refine lv_aload_n hx hb dL_law_909 rfl (lv_at hl 1 rfl) ?_
  refine lv_aload_n hx hb dL_law_910 rfl (lv_at hl 0 rfl) ?_
  refine lv_iload hx hb dL_law_911 (lv_at hl 4 rfl) ?_
  refine lv_iconst (v := 1) hx hb dL_law_913 (by decide) ?_
  refine lv_iadd hx hb dL_law_914 ?_
  refine lv_is (nI (i + 1)) (nI_add i 1) ?_
  refine va_sld hx hb hX hbl hbA hS (i := nI (i + 1)) (vp_in_nI (by omega) (by omega)) dL_law_915 ?_
  refine lv_is (xs (i + 1)) (by rw [nI_clamp (by omega)]) ?_
  refine lv_aload_n hx hb dL_law_916 rfl (lv_at hl 3 rfl) ?_
  have hPc := hP.sub (ws' := (wL q cq o9 co V9 T R S X M P (nI n) h (nI k) w f d v (nI z))) [0, 1, 2, 3, 4, 5, 6, 7, 8] rfl
  have hKc := hK.sub (tys' := (tyL cq co)) [0, 1, 2, 3, 4, 5, 6] rfl
  have hDc := hD.sub (ws' := (wL q cq o9 co V9 T R S X M P (nI n) h (nI k) w f d v (nI z))) [0, 1, 2, 3, 4, 5, 6, 7, 8] (by decide) rfl
  have hFc := va_free (wc := (wL q cq o9 co V9 T R S X M P (nI n) h (nI k) w f d v (nI z))) hD hS hA [0, 1, 2, 3, 4, 5, 6, 7, 8] rfl
  refine va_calli (vx_runSW (As := [.ref (q 0), .int (xs (i + 1)), .ref o9]) (rest := []) ⟨hx, hb, hml, hown, hts⟩ (c_L_weightOf l hst D q cq o9 co V9 H.size T R S X M P (nI n) h (nI k) w f d v (nI z) (xs (i + 1))) (vx_cwSW 3 hts gL_law_L_weightOf rfl rfl rfl (by decide +kernel) ⟨Nat.le_of_ble_eq_true rfl, Nat.le_of_ble_eq_true rfl⟩) ⟨fun a U g mk z => ⟨z.1, z.2.1, z.2.2.1, va_K.moved (u := U) (U := U.calling g mk a) (Vm.Alike.refl U.vm) z.2.2.2.1, z.2.2.2.2.1, z.2.2.2.2.2.blind g mk a⟩, fun U hU hW => ⟨rfl, by rw [hU], by rw [hU]; exact hPc, va_K.moved hW.alike hKc, hDc.weaken (fun _ _ _ _ => trivial), hE.at hS hU hW hFc⟩⟩ rfl rfl hl.1 rfl (lv_room (Nat.le_of_ble_eq_true rfl)) dL_law_917 ⟨(by show cells + 1 ≤ 1049; omega), (by show slots + 6 ≤ 8580; omega)⟩) hS (fun q _ h => hFc q h) hFc (fun r9 u9 t8 H1 locs ht hvm hw hB hz1 hk1 hS => ?_)
  obtain ⟨hP1, hD1⟩ := hB
  rw [ht] at hP1
  obtain ⟨hP, hD⟩ := va_join (wr := (wM qm cm T R S X (nI n) h (nI k) th (nI a) o)) (w1 := (wL q cq o9 co (VO (kX1_weightOf (xs (i + 1))) V9 (fX1_weightOf T (xs (i + 1))).toInt64) T R S X M P (nI n) h (nI k) w f d v (nI z))) hP hD [0, 1, 2, 3, 4, 5, 6, 7, 8] [9, 10, 11, 12, 13] rfl rfl (by decide) (by decide) hk1 hFc hP1 hD1
  have hP := hP.sub (ws' := (wW q cq o9 co qm cm (VO (kX1_weightOf (xs (i + 1))) V9 (fX1_weightOf T (xs (i + 1))).toInt64) T R S X M P (nI n) h (nI k) w f d v (nI z) T R S X (nI n) h (nI k) th (nI a) o)) [5, 6, 7, 8, 9, 10, 11, 12, 13, 0, 1, 2, 3, 4] rfl
  have hD := hD.sub (ws' := (wW q cq o9 co qm cm (VO (kX1_weightOf (xs (i + 1))) V9 (fX1_weightOf T (xs (i + 1))).toInt64) T R S X M P (nI n) h (nI k) w f d v (nI z) T R S X (nI n) h (nI k) th (nI a) o)) [5, 6, 7, 8, 9, 10, 11, 12, 13, 0, 1, 2, 3, 4] (by decide) rfl
  generalize H1 = H at hP hS ⊢
  subst r9
  refine lv_istore (lv' := [(5, .int (cd1 (kX1_weightOf (xs (i + 1))))), (0, .ref b), (1, .ref (q 0)), (2, .ref (qm 0)), (3, .ref o9), (4, .int (nI i))]) hx hb dL_law_920 hl (by decide) rfl (fun ls hl => ?_)
  refine lv_aload_n hx hb dL_law_922 rfl (lv_at hl 3 rfl) ?_
  refine lv_aload_n hx hb dL_law_923 rfl (lv_at hl 1 rfl) ?_
  refine lv_iload hx hb dL_law_924 (lv_at hl 5 rfl) ?_
  refine lv_iconst (v := 1) hx hb dL_law_926 (by decide) ?_
  refine lv_iadd hx hb dL_law_927 ?_
  refine lv_is (nI (i + 1)) (nI_add i 1) ?_
  refine va_sld hx hb hX hbl hbA hS (i := nI (i + 1)) (vp_in_nI (by omega) (by omega)) dL_law_928 ?_
  refine lv_is (xs (i + 1)) (by rw [nI_clamp (by omega)]) ?_
  have hPc := hP.sub (ws' := (wM qm cm T R S X (nI n) h (nI k) th (nI a) o)) [9, 10, 11, 12, 13] rfl
  have hKc := hK.sub (tys' := (tyM cm)) [7, 8, 9, 10] rfl
  have hDc := hD.sub (ws' := (wM qm cm T R S X (nI n) h (nI k) th (nI a) o)) [9, 10, 11, 12, 13] (by decide) rfl
  have hFc := va_free (wc := (wM qm cm T R S X (nI n) h (nI k) th (nI a) o)) hD hS hA [9, 10, 11, 12, 13] rfl
  refine va_calli (va_runV (As := [.int (xs (i + 1))]) (rest := []) ⟨hx, hb, hml, hown, hts⟩ (c_X2_weightOf l D qm cm H.size T R S X (nI n) h (nI k) th (nI a) o (xs (i + 1))) (cwV 1 hts gL_law_X2_weightOf rfl rfl rfl (by decide +kernel) ⟨Nat.le_of_ble_eq_true rfl, Nat.le_of_ble_eq_true rfl⟩) ⟨fun a U g mk z => ⟨z.1, z.2.1, z.2.2.1, va_K.moved (u := U) (U := U.calling g mk a) (Vm.Alike.refl U.vm) z.2.2.2.1, z.2.2.2.2.1, z.2.2.2.2.2.blind g mk a⟩, va_recv hKc hPc (ci := 2) (q0 := 0) rfl rfl, fun U hU hW => ⟨rfl, by rw [hU], by rw [hU]; exact hPc, va_K.moved hW.alike hKc, hDc.weaken (fun _ _ _ _ => trivial), hE.at hS hU hW hFc⟩⟩ rfl rfl hl.1 rfl (lv_room (Nat.le_of_ble_eq_true rfl)) dL_law_929 ⟨(by show cells + 1 ≤ 1049; omega), (by show slots + 6 ≤ 8580; omega)⟩) hS (fun q _ h => hFc q h) hFc (fun r9 u9 t8 H1 locs ht hvm hw hB hz1 hk1 hS => ?_)
  obtain ⟨hP1, hD1⟩ := hB
  rw [ht] at hP1
  obtain ⟨hP, hD⟩ := va_join (wr := (wL q cq o9 co (VO (kX1_weightOf (xs (i + 1))) V9 (fX1_weightOf T (xs (i + 1))).toInt64) T R S X M P (nI n) h (nI k) w f d v (nI z))) (w1 := (wM qm cm T R S X (nI n) h (nI k) ((fX2_weightOf T (xs (i + 1))).2) (nI a) o)) hP hD [9, 10, 11, 12, 13] [0, 1, 2, 3, 4, 5, 6, 7, 8] rfl rfl (by decide) (by decide) hk1 hFc hP1 hD1
  generalize H1 = H at hP hS ⊢
  have hP : va_P D vwCl (wW q cq o9 co qm cm (VO (kX1_weightOf (xs (i + 1))) V9 (fX1_weightOf T (xs (i + 1))).toInt64) T R S X M P (nI n) h (nI k) w f d v (nI z) T R S X (nI n) h (nI k) ((fX2_weightOf T (xs (i + 1))).2) (nI a) o) H := hP
  have hD : va_D (fun q : Nat => s.heap.size ≤ q) (wW q cq o9 co qm cm (VO (kX1_weightOf (xs (i + 1))) V9 (fX1_weightOf T (xs (i + 1))).toInt64) T R S X M P (nI n) h (nI k) w f d v (nI z) T R S X (nI n) h (nI k) ((fX2_weightOf T (xs (i + 1))).2) (nI a) o) := hD
  subst r9
  have he := e_weightOf hT (xs (i + 1))
  refine lv_istore (lv' := [(6, .int ((fX2_weightOf T (xs (i + 1))).1)), (5, .int (cd1 (kX1_weightOf (xs (i + 1))))), (0, .ref b), (1, .ref (q 0)), (2, .ref (qm 0)), (3, .ref o9), (4, .int (nI i))]) hx hb dL_law_932 hl (by decide) rfl (fun ls hl => ?_)
  refine lv_aload_n hx hb dL_law_934 rfl (lv_at hl 4 rfl) ?_
  have hPc := hP.sub (ws' := (wM qm cm T R S X (nI (n)) h (nI (k)) ((fX2_weightOf T (xs (i + 1))).2) (nI (a)) o)) [9, 10, 11, 12, 13] rfl
  have hKc := hK.sub (tys' := (tyM cm)) [7, 8, 9, 10] rfl
  refine vp_callSi (va_Run.run (va_runV (As := []) (rest := []) ⟨hx, hb, hml, hown, hts⟩ (c_X2_thrown l D qm cm T R S X (nI (n)) h (nI (k)) ((fX2_weightOf T (xs (i + 1))).2) (nI (a)) o) (cwV 0 hts gL_law_X2_thrown rfl rfl rfl (by decide +kernel) ⟨Nat.le_of_ble_eq_true rfl, Nat.le_of_ble_eq_true rfl⟩) ⟨fun a U g mk z => ⟨z.1, z.2.1, va_K.moved (u := U) (U := U.calling g mk a) (Vm.Alike.refl U.vm) z.2.2.1, z.2.2.2.blind g mk a⟩, va_recv hKc hPc (ci := 2) (q0 := 0) rfl rfl, fun U hU hW => ⟨rfl, by rw [hU]; exact hPc, va_K.moved hW.alike hKc, hE.at0 hS hU hW⟩⟩ rfl rfl hl.1 rfl (lv_room (Nat.le_of_ble_eq_true rfl)) dL_law_935 ⟨(by show cells + 1 ≤ 1049; omega), (by show slots + 6 ≤ 8580; omega)⟩)) (fun r9 hr9 => ?_)
  subst r9
  refine lv_iload hx hb dL_law_938 (lv_at hl 1 rfl) ?_
  have halt := he
  have hth : ((fX2_weightOf T (xs (i + 1))).2) = cd1 (kX1_weightOf (xs (i + 1))) := by
    rcases halt with ⟨h1, h2, h3⟩ | ⟨h1, h2⟩ <;> (rw [h1, h2]; rfl)
  have hval : (kX1_weightOf (xs (i + 1))) = 0 → (fX1_weightOf T (xs (i + 1))) = (fX2_weightOf T (xs (i + 1))).1 := by
    intro h0
    rcases halt with ⟨h1, h2, h3⟩ | ⟨h1, h2⟩
    · exact h3
    · rw [h1] at h0; exact absurd h0 (by decide)
  refine lv_icmp_eq (tgt := 945) hx hb dL_law_940 (by decide) (fun c1 => ?_) (fun c1 => absurd (show fX2_thrown ((fX2_weightOf T (xs (i + 1))).2) = cd1 (kX1_weightOf (xs (i + 1))) from hth) c1)
  refine lv_iload hx hb dL_law_945 (lv_at hl 1 rfl) ?_
  have kend : W p l e room_1 s m #[Value.ref b] below meth c H locs (cells + 1) (slots + 6) Q (F0 m 962 ls []) := by
    refine lv_goto (tgt := 1659) hx hb dL_law_962 (by decide) ?_
    exact kk ⟨T, R, S, X, M, P, (n), (k), (z), (a), h, w, f, d, v, ((fX2_weightOf T (xs (i + 1))).2), o, (VO (kX1_weightOf (xs (i + 1))) V9 (fX1_weightOf T (xs (i + 1))).toInt64)⟩ ⟨hT, hR, hS9, hn, hk9, hP9⟩ H _ hP hD hS ls (lv_sub hl [2, 3, 4, 5, 6] rfl)
  refine lv_if_ne (tgt := 962) hx hb dL_law_947 (by decide) (fun c2 => kend) (fun c2 => ?_)
  have hK0 : (kX1_weightOf (xs (i + 1))) = 0 := cd1_0 c2
  have hV0 : VO (kX1_weightOf (xs (i + 1))) V9 (fX1_weightOf T (xs (i + 1))).toInt64 = vp_updL V9 0 (fX1_weightOf T (xs (i + 1))).toInt64 := if_pos hK0
  refine lv_aload_n hx hb dL_law_950 rfl (lv_at hl 5 rfl) ?_
  refine lv_iconst (v := 0) hx hb dL_law_951 (by decide) ?_
  refine va_lald hx hb hK hP 0 0 rfl rfl (i := 0) (vp_in_nI (n := 0) (N := 1) (by decide) (by decide)) dL_law_952 ?_
  refine lv_isL ((fX1_weightOf T (xs (i + 1))).toInt64) (by rw [hV0]; rfl) ?_
  refine lv_iload hx hb dL_law_953 (lv_at hl 0 rfl) ?_
  refine lv_i2l hx hb dL_law_955 rfl ?_
  rw [hval hK0]
  refine W.lcmp hx hb dL_law_956 ?_
  exact lv_if_eq (tgt := 962) hx hb dL_law_957 (by decide) (fun c3 => kend) (fun c3 => absurd (lg_self _) c3)
set_option maxHeartbeats 4000000 in
set_option maxRecDepth 100000 in
theorem k_dependsOn {p : Program} {l : Launch} (hst : l.stackTraces = false) {e : Env} {s : State} {m : MethodId} {below : List Frame} {meth : Method} {c : Code} {b L : Nat} {xs : Nat → Int32} (hL : L ≤ 2560) (C0 : lw_At p s m meth c b L xs) (hE : envE (fun q : Nat => s.heap.size ≤ q) s) {D : va_G} {q : Nat → Nat} {cq : Nat → ClassId} {o9 : Nat} {co : ClassId} {qm : Nat → Nat} {cm : Nat → ClassId} (hK : va_K D vwCl (tyA cq co cm) s) (σ : LwS) (hok : okS σ) (H : Heap) (locs : List Loc) (hP : va_P D vwCl (wA q cq o9 co qm cm σ) H) (hD : va_D (fun q : Nat => s.heap.size ≤ q) (wA q cq o9 co qm cm σ)) (hS : va_S (fun q : Nat => s.heap.size ≤ q) s.heap H locs) (i : Nat) (hi : i + 5 ≤ L) (ls : Array Slot) (hl : lv_has ls 7 (lvA b q o9 qm i)) {cells slots : Nat} (hc : cells + 1 ≤ 1049) (hs : slots + 6 ≤ 8580) {Q : State → Prop} (kk : ∀ σ2 : LwS, okS σ2 → ∀ (H2 : Heap) (locs2 : List Loc), va_P D vwCl (wA q cq o9 co qm cm σ2) H2 → va_D (fun q : Nat => s.heap.size ≤ q) (wA q cq o9 co qm cm σ2) → va_S (fun q : Nat => s.heap.size ≤ q) s.heap H2 locs2 → ∀ ls2 : Array Slot, lv_has ls2 7 (lvA b q o9 qm i) → W p l e room_1 s m #[Value.ref b] below meth c H2 locs2 (cells + 1) (slots + 6) Q (F0 m 1659 ls2 [])) : W p l e room_1 s m #[Value.ref b] below meth c H locs cells slots Q (F0 m 965 ls []) := by
  obtain ⟨hx, hb, hr, hml, hown, hts, hX, hbl, hlocks, hgv⟩ := C0
  have hown : s.vm.findClass RL = some m.cls := hown
  have hts : ∀ w ∈ wsL_law, w.before #[Value.ref b] s = true := fun w hw => hts w (wsL_law_in w hw)
  have hA : ∀ q : Nat, s.heap.size ≤ q → (fun q : Nat => s.heap.size ≤ q) q := fun _ h => h
  have hbA : ¬ (fun q : Nat => s.heap.size ≤ q) b := Nat.not_le.mpr hbl
  obtain ⟨T, R, S, X, M, P, n, k, z, a, h, w, f, d, v, th, o, V9⟩ := σ
  obtain ⟨hT, hR, hS9, hn, hk9, hP9⟩ := hok
  dsimp only at hT hR hS9 hn hk9 hP9
  have hP : va_P D vwCl (wW q cq o9 co qm cm V9 T R S X M P (nI n) h (nI k) w f d v (nI z) T R S X (nI n) h (nI k) th (nI a) o) H := hP
  have hD : va_D (fun q : Nat => s.heap.size ≤ q) (wW q cq o9 co qm cm V9 T R S X M P (nI n) h (nI k) w f d v (nI z) T R S X (nI n) h (nI k) th (nI a) o) := hD
  refine lv_aload_n hx hb dL_law_965 rfl (lv_at hl 1 rfl) ?_
  refine lv_aload_n hx hb dL_law_966 rfl (lv_at hl 0 rfl) ?_
  refine lv_iload hx hb dL_law_967 (lv_at hl 4 rfl) ?_
  refine lv_iconst (v := 1) hx hb dL_law_969 (by decide) ?_
  refine lv_iadd hx hb dL_law_970 ?_
  refine lv_is (nI (i + 1)) (nI_add i 1) ?_
  refine va_sld hx hb hX hbl hbA hS (i := nI (i + 1)) (vp_in_nI (by omega) (by omega)) dL_law_971 ?_
  refine lv_is (xs (i + 1)) (by rw [nI_clamp (by omega)]) ?_
  refine lv_aload_n hx hb dL_law_972 rfl (lv_at hl 0 rfl) ?_
  refine lv_iload hx hb dL_law_973 (lv_at hl 4 rfl) ?_
  refine lv_iconst (v := 2) hx hb dL_law_975 (by decide) ?_
  refine lv_iadd hx hb dL_law_976 ?_
  refine lv_is (nI (i + 2)) (nI_add i 2) ?_
  refine va_sld hx hb hX hbl hbA hS (i := nI (i + 2)) (vp_in_nI (by omega) (by omega)) dL_law_977 ?_
  refine lv_is (xs (i + 2)) (by rw [nI_clamp (by omega)]) ?_
  refine lv_aload_n hx hb dL_law_978 rfl (lv_at hl 3 rfl) ?_
  have hPc := hP.sub (ws' := (wL q cq o9 co V9 T R S X M P (nI n) h (nI k) w f d v (nI z))) [0, 1, 2, 3, 4, 5, 6, 7, 8] rfl
  have hKc := hK.sub (tys' := (tyL cq co)) [0, 1, 2, 3, 4, 5, 6] rfl
  have hDc := hD.sub (ws' := (wL q cq o9 co V9 T R S X M P (nI n) h (nI k) w f d v (nI z))) [0, 1, 2, 3, 4, 5, 6, 7, 8] (by decide) rfl
  have hFc := va_free (wc := (wL q cq o9 co V9 T R S X M P (nI n) h (nI k) w f d v (nI z))) hD hS hA [0, 1, 2, 3, 4, 5, 6, 7, 8] rfl
  refine va_calli (vx_runSW (As := [.ref (q 0), .int (xs (i + 1)), .int (xs (i + 2)), .ref o9]) (rest := []) ⟨hx, hb, hml, hown, hts⟩ (c_L_dependsOn l hst D q cq o9 co V9 H.size T R S X M P (nI n) h (nI k) w f d v (nI z) (xs (i + 1)) (xs (i + 2))) (vx_cwSW 4 hts gL_law_L_dependsOn rfl rfl rfl (by decide +kernel) ⟨Nat.le_of_ble_eq_true rfl, Nat.le_of_ble_eq_true rfl⟩) ⟨fun a U g mk z => ⟨z.1, z.2.1, z.2.2.1, va_K.moved (u := U) (U := U.calling g mk a) (Vm.Alike.refl U.vm) z.2.2.2.1, z.2.2.2.2.1, z.2.2.2.2.2.blind g mk a⟩, fun U hU hW => ⟨rfl, by rw [hU], by rw [hU]; exact hPc, va_K.moved hW.alike hKc, hDc.weaken (fun _ _ _ _ => trivial), hE.at hS hU hW hFc⟩⟩ rfl rfl hl.1 rfl (lv_room (Nat.le_of_ble_eq_true rfl)) dL_law_979 ⟨(by show cells + 1 ≤ 1049; omega), (by show slots + 6 ≤ 8580; omega)⟩) hS (fun q _ h => hFc q h) hFc (fun r9 u9 t8 H1 locs ht hvm hw hB hz1 hk1 hS => ?_)
  obtain ⟨hP1, hD1⟩ := hB
  rw [ht] at hP1
  obtain ⟨hP, hD⟩ := va_join (wr := (wM qm cm T R S X (nI n) h (nI k) th (nI a) o)) (w1 := (wL q cq o9 co (VO (kX1_dependsOn T (xs (i + 1)) (xs (i + 2))) V9 (if (fX1_dependsOn T (xs (i + 1)) (xs (i + 2))) = 0 then 0 else 1 : Int64)) T R S X M P (nI n) h (nI k) w f d v (nI z))) hP hD [0, 1, 2, 3, 4, 5, 6, 7, 8] [9, 10, 11, 12, 13] rfl rfl (by decide) (by decide) hk1 hFc hP1 hD1
  have hP := hP.sub (ws' := (wW q cq o9 co qm cm (VO (kX1_dependsOn T (xs (i + 1)) (xs (i + 2))) V9 (if (fX1_dependsOn T (xs (i + 1)) (xs (i + 2))) = 0 then 0 else 1 : Int64)) T R S X M P (nI n) h (nI k) w f d v (nI z) T R S X (nI n) h (nI k) th (nI a) o)) [5, 6, 7, 8, 9, 10, 11, 12, 13, 0, 1, 2, 3, 4] rfl
  have hD := hD.sub (ws' := (wW q cq o9 co qm cm (VO (kX1_dependsOn T (xs (i + 1)) (xs (i + 2))) V9 (if (fX1_dependsOn T (xs (i + 1)) (xs (i + 2))) = 0 then 0 else 1 : Int64)) T R S X M P (nI n) h (nI k) w f d v (nI z) T R S X (nI n) h (nI k) th (nI a) o)) [5, 6, 7, 8, 9, 10, 11, 12, 13, 0, 1, 2, 3, 4] (by decide) rfl
  generalize H1 = H at hP hS ⊢
  subst r9
  refine lv_istore (lv' := [(5, .int (cd1 (kX1_dependsOn T (xs (i + 1)) (xs (i + 2))))), (0, .ref b), (1, .ref (q 0)), (2, .ref (qm 0)), (3, .ref o9), (4, .int (nI i))]) hx hb dL_law_982 hl (by decide) rfl (fun ls hl => ?_)
  refine lv_aload_n hx hb dL_law_984 rfl (lv_at hl 3 rfl) ?_
  refine lv_aload_n hx hb dL_law_985 rfl (lv_at hl 1 rfl) ?_
  refine lv_iload hx hb dL_law_986 (lv_at hl 5 rfl) ?_
  refine lv_iconst (v := 1) hx hb dL_law_988 (by decide) ?_
  refine lv_iadd hx hb dL_law_989 ?_
  refine lv_is (nI (i + 1)) (nI_add i 1) ?_
  refine va_sld hx hb hX hbl hbA hS (i := nI (i + 1)) (vp_in_nI (by omega) (by omega)) dL_law_990 ?_
  refine lv_is (xs (i + 1)) (by rw [nI_clamp (by omega)]) ?_
  refine lv_aload_n hx hb dL_law_991 rfl (lv_at hl 1 rfl) ?_
  refine lv_iload hx hb dL_law_992 (lv_at hl 5 rfl) ?_
  refine lv_iconst (v := 2) hx hb dL_law_994 (by decide) ?_
  refine lv_iadd hx hb dL_law_995 ?_
  refine lv_is (nI (i + 2)) (nI_add i 2) ?_
  refine va_sld hx hb hX hbl hbA hS (i := nI (i + 2)) (vp_in_nI (by omega) (by omega)) dL_law_996 ?_
  refine lv_is (xs (i + 2)) (by rw [nI_clamp (by omega)]) ?_
  have hPc := hP.sub (ws' := (wM qm cm T R S X (nI n) h (nI k) th (nI a) o)) [9, 10, 11, 12, 13] rfl
  have hKc := hK.sub (tys' := (tyM cm)) [7, 8, 9, 10] rfl
  have hDc := hD.sub (ws' := (wM qm cm T R S X (nI n) h (nI k) th (nI a) o)) [9, 10, 11, 12, 13] (by decide) rfl
  have hFc := va_free (wc := (wM qm cm T R S X (nI n) h (nI k) th (nI a) o)) hD hS hA [9, 10, 11, 12, 13] rfl
  refine va_calli (va_runV (As := [.int (xs (i + 1)), .int (xs (i + 2))]) (rest := []) ⟨hx, hb, hml, hown, hts⟩ (c_X2_dependsOn l D qm cm H.size T R S X (nI n) h (nI k) th (nI a) o (xs (i + 1)) (xs (i + 2))) (cwV 2 hts gL_law_X2_dependsOn rfl rfl rfl (by decide +kernel) ⟨Nat.le_of_ble_eq_true rfl, Nat.le_of_ble_eq_true rfl⟩) ⟨fun a U g mk z => ⟨z.1, z.2.1, z.2.2.1, va_K.moved (u := U) (U := U.calling g mk a) (Vm.Alike.refl U.vm) z.2.2.2.1, z.2.2.2.2.1, z.2.2.2.2.2.blind g mk a⟩, va_recv hKc hPc (ci := 2) (q0 := 0) rfl rfl, fun U hU hW => ⟨rfl, by rw [hU], by rw [hU]; exact hPc, va_K.moved hW.alike hKc, hDc.weaken (fun _ _ _ _ => trivial), hE.at hS hU hW hFc⟩⟩ rfl rfl hl.1 rfl (lv_room (Nat.le_of_ble_eq_true rfl)) dL_law_997 ⟨(by show cells + 1 ≤ 1049; omega), (by show slots + 6 ≤ 8580; omega)⟩) hS (fun q _ h => hFc q h) hFc (fun r9 u9 t8 H1 locs ht hvm hw hB hz1 hk1 hS => ?_)
  obtain ⟨hP1, hD1⟩ := hB
  rw [ht] at hP1
  obtain ⟨hP, hD⟩ := va_join (wr := (wL q cq o9 co (VO (kX1_dependsOn T (xs (i + 1)) (xs (i + 2))) V9 (if (fX1_dependsOn T (xs (i + 1)) (xs (i + 2))) = 0 then 0 else 1 : Int64)) T R S X M P (nI n) h (nI k) w f d v (nI z))) (w1 := (wM qm cm T R S X (nI n) h (nI k) ((fX2_dependsOn T (xs (i + 1)) (xs (i + 2))).2) (nI a) o)) hP hD [9, 10, 11, 12, 13] [0, 1, 2, 3, 4, 5, 6, 7, 8] rfl rfl (by decide) (by decide) hk1 hFc hP1 hD1
  generalize H1 = H at hP hS ⊢
  have hP : va_P D vwCl (wW q cq o9 co qm cm (VO (kX1_dependsOn T (xs (i + 1)) (xs (i + 2))) V9 (if (fX1_dependsOn T (xs (i + 1)) (xs (i + 2))) = 0 then 0 else 1 : Int64)) T R S X M P (nI n) h (nI k) w f d v (nI z) T R S X (nI n) h (nI k) ((fX2_dependsOn T (xs (i + 1)) (xs (i + 2))).2) (nI a) o) H := hP
  have hD : va_D (fun q : Nat => s.heap.size ≤ q) (wW q cq o9 co qm cm (VO (kX1_dependsOn T (xs (i + 1)) (xs (i + 2))) V9 (if (fX1_dependsOn T (xs (i + 1)) (xs (i + 2))) = 0 then 0 else 1 : Int64)) T R S X M P (nI n) h (nI k) w f d v (nI z) T R S X (nI n) h (nI k) ((fX2_dependsOn T (xs (i + 1)) (xs (i + 2))).2) (nI a) o) := hD
  subst r9
  have he := e_dependsOn hT (xs (i + 1)) (xs (i + 2))
  refine lv_istore (lv' := [(6, .int ((fX2_dependsOn T (xs (i + 1)) (xs (i + 2))).1)), (5, .int (cd1 (kX1_dependsOn T (xs (i + 1)) (xs (i + 2))))), (0, .ref b), (1, .ref (q 0)), (2, .ref (qm 0)), (3, .ref o9), (4, .int (nI i))]) hx hb dL_law_1000 hl (by decide) rfl (fun ls hl => ?_)
  refine lv_aload_n hx hb dL_law_1002 rfl (lv_at hl 4 rfl) ?_
  have hPc := hP.sub (ws' := (wM qm cm T R S X (nI (n)) h (nI (k)) ((fX2_dependsOn T (xs (i + 1)) (xs (i + 2))).2) (nI (a)) o)) [9, 10, 11, 12, 13] rfl
  have hKc := hK.sub (tys' := (tyM cm)) [7, 8, 9, 10] rfl
  refine vp_callSi (va_Run.run (va_runV (As := []) (rest := []) ⟨hx, hb, hml, hown, hts⟩ (c_X2_thrown l D qm cm T R S X (nI (n)) h (nI (k)) ((fX2_dependsOn T (xs (i + 1)) (xs (i + 2))).2) (nI (a)) o) (cwV 0 hts gL_law_X2_thrown rfl rfl rfl (by decide +kernel) ⟨Nat.le_of_ble_eq_true rfl, Nat.le_of_ble_eq_true rfl⟩) ⟨fun a U g mk z => ⟨z.1, z.2.1, va_K.moved (u := U) (U := U.calling g mk a) (Vm.Alike.refl U.vm) z.2.2.1, z.2.2.2.blind g mk a⟩, va_recv hKc hPc (ci := 2) (q0 := 0) rfl rfl, fun U hU hW => ⟨rfl, by rw [hU]; exact hPc, va_K.moved hW.alike hKc, hE.at0 hS hU hW⟩⟩ rfl rfl hl.1 rfl (lv_room (Nat.le_of_ble_eq_true rfl)) dL_law_1003 ⟨(by show cells + 1 ≤ 1049; omega), (by show slots + 6 ≤ 8580; omega)⟩)) (fun r9 hr9 => ?_)
  subst r9
  refine lv_iload hx hb dL_law_1006 (lv_at hl 1 rfl) ?_
  have halt := he
  have hth : ((fX2_dependsOn T (xs (i + 1)) (xs (i + 2))).2) = cd1 (kX1_dependsOn T (xs (i + 1)) (xs (i + 2))) := by
    rcases halt with ⟨h1, h2, h3⟩ | ⟨h1, h2⟩ <;> (rw [h1, h2]; rfl)
  have hval : (kX1_dependsOn T (xs (i + 1)) (xs (i + 2))) = 0 → (fX1_dependsOn T (xs (i + 1)) (xs (i + 2))) = (fX2_dependsOn T (xs (i + 1)) (xs (i + 2))).1 := by
    intro h0
    rcases halt with ⟨h1, h2, h3⟩ | ⟨h1, h2⟩
    · exact h3
    · rw [h1] at h0; exact absurd h0 (by decide)
  refine lv_icmp_eq (tgt := 1013) hx hb dL_law_1008 (by decide) (fun c1 => ?_) (fun c1 => absurd (show fX2_thrown ((fX2_dependsOn T (xs (i + 1)) (xs (i + 2))).2) = cd1 (kX1_dependsOn T (xs (i + 1)) (xs (i + 2))) from hth) c1)
  refine lv_iload hx hb dL_law_1013 (lv_at hl 1 rfl) ?_
  have kend : W p l e room_1 s m #[Value.ref b] below meth c H locs (cells + 1) (slots + 6) Q (F0 m 1037 ls []) := by
    refine lv_goto (tgt := 1659) hx hb dL_law_1037 (by decide) ?_
    exact kk ⟨T, R, S, X, M, P, (n), (k), (z), (a), h, w, f, d, v, ((fX2_dependsOn T (xs (i + 1)) (xs (i + 2))).2), o, (VO (kX1_dependsOn T (xs (i + 1)) (xs (i + 2))) V9 (if (fX1_dependsOn T (xs (i + 1)) (xs (i + 2))) = 0 then 0 else 1 : Int64))⟩ ⟨hT, hR, hS9, hn, hk9, hP9⟩ H _ hP hD hS ls (lv_sub hl [2, 3, 4, 5, 6] rfl)
  refine lv_if_ne (tgt := 1037) hx hb dL_law_1015 (by decide) (fun c2 => kend) (fun c2 => ?_)
  have hK0 : (kX1_dependsOn T (xs (i + 1)) (xs (i + 2))) = 0 := cd1_0 c2
  have hV0 : VO (kX1_dependsOn T (xs (i + 1)) (xs (i + 2))) V9 (if (fX1_dependsOn T (xs (i + 1)) (xs (i + 2))) = 0 then 0 else 1 : Int64) = vp_updL V9 0 (if (fX1_dependsOn T (xs (i + 1)) (xs (i + 2))) = 0 then 0 else 1 : Int64) := if_pos hK0
  refine lv_aload_n hx hb dL_law_1018 rfl (lv_at hl 5 rfl) ?_
  refine lv_iconst (v := 0) hx hb dL_law_1019 (by decide) ?_
  refine va_lald hx hb hK hP 0 0 rfl rfl (i := 0) (vp_in_nI (n := 0) (N := 1) (by decide) (by decide)) dL_law_1020 ?_
  refine lv_isL (if (fX1_dependsOn T (xs (i + 1)) (xs (i + 2))) = 0 then 0 else 1 : Int64) (by rw [hV0]; rfl) ?_
  refine lv_iload hx hb dL_law_1021 (lv_at hl 0 rfl) ?_
  refine lv_ternL hx hb dL_law_1023 dL_law_1026 dL_law_1027 dL_law_1030 ?_
  rw [hval hK0]
  refine W.lcmp hx hb dL_law_1031 ?_
  exact lv_if_eq (tgt := 1037) hx hb dL_law_1032 (by decide) (fun c3 => kend) (fun c3 => absurd (lg_self _) c3)
set_option maxHeartbeats 4000000 in
set_option maxRecDepth 100000 in
theorem k_productsByHalves {p : Program} {l : Launch} (hst : l.stackTraces = false) {e : Env} {s : State} {m : MethodId} {below : List Frame} {meth : Method} {c : Code} {b L : Nat} {xs : Nat → Int32} (hL : L ≤ 2560) (C0 : lw_At p s m meth c b L xs) (hE : envE (fun q : Nat => s.heap.size ≤ q) s) {D : va_G} {q : Nat → Nat} {cq : Nat → ClassId} {o9 : Nat} {co : ClassId} {qm : Nat → Nat} {cm : Nat → ClassId} (hK : va_K D vwCl (tyA cq co cm) s) (σ : LwS) (hok : okS σ) (H : Heap) (locs : List Loc) (hP : va_P D vwCl (wA q cq o9 co qm cm σ) H) (hD : va_D (fun q : Nat => s.heap.size ≤ q) (wA q cq o9 co qm cm σ)) (hS : va_S (fun q : Nat => s.heap.size ≤ q) s.heap H locs) (i : Nat) (hi : i + 5 ≤ L) (ls : Array Slot) (hl : lv_has ls 7 (lvA b q o9 qm i)) {cells slots : Nat} (hc : cells + 1 ≤ 1049) (hs : slots + 6 ≤ 8580) {Q : State → Prop} (kk : ∀ σ2 : LwS, okS σ2 → ∀ (H2 : Heap) (locs2 : List Loc), va_P D vwCl (wA q cq o9 co qm cm σ2) H2 → va_D (fun q : Nat => s.heap.size ≤ q) (wA q cq o9 co qm cm σ2) → va_S (fun q : Nat => s.heap.size ≤ q) s.heap H2 locs2 → ∀ ls2 : Array Slot, lv_has ls2 7 (lvA b q o9 qm i) → W p l e room_1 s m #[Value.ref b] below meth c H2 locs2 (cells + 1) (slots + 6) Q (F0 m 1659 ls2 [])) : W p l e room_1 s m #[Value.ref b] below meth c H locs cells slots Q (F0 m 1040 ls []) := by
  obtain ⟨hx, hb, hr, hml, hown, hts, hX, hbl, hlocks, hgv⟩ := C0
  have hown : s.vm.findClass RL = some m.cls := hown
  have hts : ∀ w ∈ wsL_law, w.before #[Value.ref b] s = true := fun w hw => hts w (wsL_law_in w hw)
  have hA : ∀ q : Nat, s.heap.size ≤ q → (fun q : Nat => s.heap.size ≤ q) q := fun _ h => h
  have hbA : ¬ (fun q : Nat => s.heap.size ≤ q) b := Nat.not_le.mpr hbl
  obtain ⟨T, R, S, X, M, P, n, k, z, a, h, w, f, d, v, th, o, V9⟩ := σ
  obtain ⟨hT, hR, hS9, hn, hk9, hP9⟩ := hok
  dsimp only at hT hR hS9 hn hk9 hP9
  have hP : va_P D vwCl (wW q cq o9 co qm cm V9 T R S X M P (nI n) h (nI k) w f d v (nI z) T R S X (nI n) h (nI k) th (nI a) o) H := hP
  have hD : va_D (fun q : Nat => s.heap.size ≤ q) (wW q cq o9 co qm cm V9 T R S X M P (nI n) h (nI k) w f d v (nI z) T R S X (nI n) h (nI k) th (nI a) o) := hD
  refine lv_aload_n hx hb dL_law_1040 rfl (lv_at hl 1 rfl) ?_
  refine lv_aload_n hx hb dL_law_1041 rfl (lv_at hl 0 rfl) ?_
  refine lv_iload hx hb dL_law_1042 (lv_at hl 4 rfl) ?_
  refine lv_iconst (v := 1) hx hb dL_law_1044 (by decide) ?_
  refine lv_iadd hx hb dL_law_1045 ?_
  refine lv_is (nI (i + 1)) (nI_add i 1) ?_
  refine va_sld hx hb hX hbl hbA hS (i := nI (i + 1)) (vp_in_nI (by omega) (by omega)) dL_law_1046 ?_
  refine lv_is (xs (i + 1)) (by rw [nI_clamp (by omega)]) ?_
  refine lv_aload_n hx hb dL_law_1047 rfl (lv_at hl 3 rfl) ?_
  have hPc := hP.sub (ws' := (wL q cq o9 co V9 T R S X M P (nI n) h (nI k) w f d v (nI z))) [0, 1, 2, 3, 4, 5, 6, 7, 8] rfl
  have hKc := hK.sub (tys' := (tyL cq co)) [0, 1, 2, 3, 4, 5, 6] rfl
  have hDc := hD.sub (ws' := (wL q cq o9 co V9 T R S X M P (nI n) h (nI k) w f d v (nI z))) [0, 1, 2, 3, 4, 5, 6, 7, 8] (by decide) rfl
  have hFc := va_free (wc := (wL q cq o9 co V9 T R S X M P (nI n) h (nI k) w f d v (nI z))) hD hS hA [0, 1, 2, 3, 4, 5, 6, 7, 8] rfl
  refine va_calli (vx_runSW (As := [.ref (q 0), .int (xs (i + 1)), .ref o9]) (rest := []) ⟨hx, hb, hml, hown, hts⟩ (c_L_productsByHalves l hst D q cq o9 co V9 H.size T R S X M P (nI n) h (nI k) w f d v (nI z) (xs (i + 1))) (vx_cwSW 3 hts gL_law_L_productsByHalves rfl rfl rfl (by decide +kernel) ⟨Nat.le_of_ble_eq_true rfl, Nat.le_of_ble_eq_true rfl⟩) ⟨fun a U g mk z => ⟨z.1, z.2.1, z.2.2.1, va_K.moved (u := U) (U := U.calling g mk a) (Vm.Alike.refl U.vm) z.2.2.2.1, z.2.2.2.2.1, z.2.2.2.2.2.blind g mk a⟩, fun U hU hW => ⟨rfl, by rw [hU], by rw [hU]; exact hPc, va_K.moved hW.alike hKc, hDc.weaken (fun _ _ _ _ => trivial), hE.at hS hU hW hFc⟩⟩ rfl rfl hl.1 rfl (lv_room (Nat.le_of_ble_eq_true rfl)) dL_law_1048 ⟨(by show cells + 1 ≤ 1049; omega), (by show slots + 6 ≤ 8580; omega)⟩) hS (fun q _ h => hFc q h) hFc (fun r9 u9 t8 H1 locs ht hvm hw hB hz1 hk1 hS => ?_)
  obtain ⟨hP1, hD1⟩ := hB
  rw [ht] at hP1
  obtain ⟨hP, hD⟩ := va_join (wr := (wM qm cm T R S X (nI n) h (nI k) th (nI a) o)) (w1 := (wL q cq o9 co (VO (kX1_productsByHalves (xs (i + 1))) V9 (fX1_productsByHalves T (xs (i + 1))).toInt64) T R S X M P (nI n) h (nI k) w f d v (nI z))) hP hD [0, 1, 2, 3, 4, 5, 6, 7, 8] [9, 10, 11, 12, 13] rfl rfl (by decide) (by decide) hk1 hFc hP1 hD1
  have hP := hP.sub (ws' := (wW q cq o9 co qm cm (VO (kX1_productsByHalves (xs (i + 1))) V9 (fX1_productsByHalves T (xs (i + 1))).toInt64) T R S X M P (nI n) h (nI k) w f d v (nI z) T R S X (nI n) h (nI k) th (nI a) o)) [5, 6, 7, 8, 9, 10, 11, 12, 13, 0, 1, 2, 3, 4] rfl
  have hD := hD.sub (ws' := (wW q cq o9 co qm cm (VO (kX1_productsByHalves (xs (i + 1))) V9 (fX1_productsByHalves T (xs (i + 1))).toInt64) T R S X M P (nI n) h (nI k) w f d v (nI z) T R S X (nI n) h (nI k) th (nI a) o)) [5, 6, 7, 8, 9, 10, 11, 12, 13, 0, 1, 2, 3, 4] (by decide) rfl
  generalize H1 = H at hP hS ⊢
  subst r9
  refine lv_istore (lv' := [(5, .int (cd1 (kX1_productsByHalves (xs (i + 1))))), (0, .ref b), (1, .ref (q 0)), (2, .ref (qm 0)), (3, .ref o9), (4, .int (nI i))]) hx hb dL_law_1051 hl (by decide) rfl (fun ls hl => ?_)
  refine lv_aload_n hx hb dL_law_1053 rfl (lv_at hl 3 rfl) ?_
  refine lv_aload_n hx hb dL_law_1054 rfl (lv_at hl 1 rfl) ?_
  refine lv_iload hx hb dL_law_1055 (lv_at hl 5 rfl) ?_
  refine lv_iconst (v := 1) hx hb dL_law_1057 (by decide) ?_
  refine lv_iadd hx hb dL_law_1058 ?_
  refine lv_is (nI (i + 1)) (nI_add i 1) ?_
  refine va_sld hx hb hX hbl hbA hS (i := nI (i + 1)) (vp_in_nI (by omega) (by omega)) dL_law_1059 ?_
  refine lv_is (xs (i + 1)) (by rw [nI_clamp (by omega)]) ?_
  have hPc := hP.sub (ws' := (wM qm cm T R S X (nI n) h (nI k) th (nI a) o)) [9, 10, 11, 12, 13] rfl
  have hKc := hK.sub (tys' := (tyM cm)) [7, 8, 9, 10] rfl
  have hDc := hD.sub (ws' := (wM qm cm T R S X (nI n) h (nI k) th (nI a) o)) [9, 10, 11, 12, 13] (by decide) rfl
  have hFc := va_free (wc := (wM qm cm T R S X (nI n) h (nI k) th (nI a) o)) hD hS hA [9, 10, 11, 12, 13] rfl
  refine va_calli (va_runV (As := [.int (xs (i + 1))]) (rest := []) ⟨hx, hb, hml, hown, hts⟩ (c_X2_productsByHalves l D qm cm H.size T R S X (nI n) h (nI k) th (nI a) o (xs (i + 1))) (cwV 1 hts gL_law_X2_productsByHalves rfl rfl rfl (by decide +kernel) ⟨Nat.le_of_ble_eq_true rfl, Nat.le_of_ble_eq_true rfl⟩) ⟨fun a U g mk z => ⟨z.1, z.2.1, z.2.2.1, va_K.moved (u := U) (U := U.calling g mk a) (Vm.Alike.refl U.vm) z.2.2.2.1, z.2.2.2.2.1, z.2.2.2.2.2.blind g mk a⟩, va_recv hKc hPc (ci := 2) (q0 := 0) rfl rfl, fun U hU hW => ⟨rfl, by rw [hU], by rw [hU]; exact hPc, va_K.moved hW.alike hKc, hDc.weaken (fun _ _ _ _ => trivial), hE.at hS hU hW hFc⟩⟩ rfl rfl hl.1 rfl (lv_room (Nat.le_of_ble_eq_true rfl)) dL_law_1060 ⟨(by show cells + 1 ≤ 1049; omega), (by show slots + 6 ≤ 8580; omega)⟩) hS (fun q _ h => hFc q h) hFc (fun r9 u9 t8 H1 locs ht hvm hw hB hz1 hk1 hS => ?_)
  obtain ⟨hP1, hD1⟩ := hB
  rw [ht] at hP1
  obtain ⟨hP, hD⟩ := va_join (wr := (wL q cq o9 co (VO (kX1_productsByHalves (xs (i + 1))) V9 (fX1_productsByHalves T (xs (i + 1))).toInt64) T R S X M P (nI n) h (nI k) w f d v (nI z))) (w1 := (wM qm cm T R S X (nI n) h (nI k) ((fX2_productsByHalves T (xs (i + 1))).2) (nI a) o)) hP hD [9, 10, 11, 12, 13] [0, 1, 2, 3, 4, 5, 6, 7, 8] rfl rfl (by decide) (by decide) hk1 hFc hP1 hD1
  generalize H1 = H at hP hS ⊢
  have hP : va_P D vwCl (wW q cq o9 co qm cm (VO (kX1_productsByHalves (xs (i + 1))) V9 (fX1_productsByHalves T (xs (i + 1))).toInt64) T R S X M P (nI n) h (nI k) w f d v (nI z) T R S X (nI n) h (nI k) ((fX2_productsByHalves T (xs (i + 1))).2) (nI a) o) H := hP
  have hD : va_D (fun q : Nat => s.heap.size ≤ q) (wW q cq o9 co qm cm (VO (kX1_productsByHalves (xs (i + 1))) V9 (fX1_productsByHalves T (xs (i + 1))).toInt64) T R S X M P (nI n) h (nI k) w f d v (nI z) T R S X (nI n) h (nI k) ((fX2_productsByHalves T (xs (i + 1))).2) (nI a) o) := hD
  subst r9
  have he := e_productsByHalves hT (xs (i + 1))
  refine lv_istore (lv' := [(6, .int ((fX2_productsByHalves T (xs (i + 1))).1)), (5, .int (cd1 (kX1_productsByHalves (xs (i + 1))))), (0, .ref b), (1, .ref (q 0)), (2, .ref (qm 0)), (3, .ref o9), (4, .int (nI i))]) hx hb dL_law_1063 hl (by decide) rfl (fun ls hl => ?_)
  refine lv_aload_n hx hb dL_law_1065 rfl (lv_at hl 4 rfl) ?_
  have hPc := hP.sub (ws' := (wM qm cm T R S X (nI (n)) h (nI (k)) ((fX2_productsByHalves T (xs (i + 1))).2) (nI (a)) o)) [9, 10, 11, 12, 13] rfl
  have hKc := hK.sub (tys' := (tyM cm)) [7, 8, 9, 10] rfl
  refine vp_callSi (va_Run.run (va_runV (As := []) (rest := []) ⟨hx, hb, hml, hown, hts⟩ (c_X2_thrown l D qm cm T R S X (nI (n)) h (nI (k)) ((fX2_productsByHalves T (xs (i + 1))).2) (nI (a)) o) (cwV 0 hts gL_law_X2_thrown rfl rfl rfl (by decide +kernel) ⟨Nat.le_of_ble_eq_true rfl, Nat.le_of_ble_eq_true rfl⟩) ⟨fun a U g mk z => ⟨z.1, z.2.1, va_K.moved (u := U) (U := U.calling g mk a) (Vm.Alike.refl U.vm) z.2.2.1, z.2.2.2.blind g mk a⟩, va_recv hKc hPc (ci := 2) (q0 := 0) rfl rfl, fun U hU hW => ⟨rfl, by rw [hU]; exact hPc, va_K.moved hW.alike hKc, hE.at0 hS hU hW⟩⟩ rfl rfl hl.1 rfl (lv_room (Nat.le_of_ble_eq_true rfl)) dL_law_1066 ⟨(by show cells + 1 ≤ 1049; omega), (by show slots + 6 ≤ 8580; omega)⟩)) (fun r9 hr9 => ?_)
  subst r9
  refine lv_iload hx hb dL_law_1069 (lv_at hl 1 rfl) ?_
  have halt := he
  have hth : ((fX2_productsByHalves T (xs (i + 1))).2) = cd1 (kX1_productsByHalves (xs (i + 1))) := by
    rcases halt with ⟨h1, h2, h3⟩ | ⟨h1, h2⟩ <;> (rw [h1, h2]; rfl)
  have hval : (kX1_productsByHalves (xs (i + 1))) = 0 → (fX1_productsByHalves T (xs (i + 1))) = (fX2_productsByHalves T (xs (i + 1))).1 := by
    intro h0
    rcases halt with ⟨h1, h2, h3⟩ | ⟨h1, h2⟩
    · exact h3
    · rw [h1] at h0; exact absurd h0 (by decide)
  refine lv_icmp_eq (tgt := 1076) hx hb dL_law_1071 (by decide) (fun c1 => ?_) (fun c1 => absurd (show fX2_thrown ((fX2_productsByHalves T (xs (i + 1))).2) = cd1 (kX1_productsByHalves (xs (i + 1))) from hth) c1)
  refine lv_iload hx hb dL_law_1076 (lv_at hl 1 rfl) ?_
  have kend : W p l e room_1 s m #[Value.ref b] below meth c H locs (cells + 1) (slots + 6) Q (F0 m 1093 ls []) := by
    refine lv_goto (tgt := 1659) hx hb dL_law_1093 (by decide) ?_
    exact kk ⟨T, R, S, X, M, P, (n), (k), (z), (a), h, w, f, d, v, ((fX2_productsByHalves T (xs (i + 1))).2), o, (VO (kX1_productsByHalves (xs (i + 1))) V9 (fX1_productsByHalves T (xs (i + 1))).toInt64)⟩ ⟨hT, hR, hS9, hn, hk9, hP9⟩ H _ hP hD hS ls (lv_sub hl [2, 3, 4, 5, 6] rfl)
  refine lv_if_ne (tgt := 1093) hx hb dL_law_1078 (by decide) (fun c2 => kend) (fun c2 => ?_)
  have hK0 : (kX1_productsByHalves (xs (i + 1))) = 0 := cd1_0 c2
  have hV0 : VO (kX1_productsByHalves (xs (i + 1))) V9 (fX1_productsByHalves T (xs (i + 1))).toInt64 = vp_updL V9 0 (fX1_productsByHalves T (xs (i + 1))).toInt64 := if_pos hK0
  refine lv_aload_n hx hb dL_law_1081 rfl (lv_at hl 5 rfl) ?_
  refine lv_iconst (v := 0) hx hb dL_law_1082 (by decide) ?_
  refine va_lald hx hb hK hP 0 0 rfl rfl (i := 0) (vp_in_nI (n := 0) (N := 1) (by decide) (by decide)) dL_law_1083 ?_
  refine lv_isL ((fX1_productsByHalves T (xs (i + 1))).toInt64) (by rw [hV0]; rfl) ?_
  refine lv_iload hx hb dL_law_1084 (lv_at hl 0 rfl) ?_
  refine lv_i2l hx hb dL_law_1086 rfl ?_
  rw [hval hK0]
  refine W.lcmp hx hb dL_law_1087 ?_
  exact lv_if_eq (tgt := 1093) hx hb dL_law_1088 (by decide) (fun c3 => kend) (fun c3 => absurd (lg_self _) c3)
set_option maxHeartbeats 4000000 in
set_option maxRecDepth 100000 in
theorem k_productsBySums {p : Program} {l : Launch} (hst : l.stackTraces = false) {e : Env} {s : State} {m : MethodId} {below : List Frame} {meth : Method} {c : Code} {b L : Nat} {xs : Nat → Int32} (hL : L ≤ 2560) (C0 : lw_At p s m meth c b L xs) (hE : envE (fun q : Nat => s.heap.size ≤ q) s) {D : va_G} {q : Nat → Nat} {cq : Nat → ClassId} {o9 : Nat} {co : ClassId} {qm : Nat → Nat} {cm : Nat → ClassId} (hK : va_K D vwCl (tyA cq co cm) s) (σ : LwS) (hok : okS σ) (H : Heap) (locs : List Loc) (hP : va_P D vwCl (wA q cq o9 co qm cm σ) H) (hD : va_D (fun q : Nat => s.heap.size ≤ q) (wA q cq o9 co qm cm σ)) (hS : va_S (fun q : Nat => s.heap.size ≤ q) s.heap H locs) (i : Nat) (hi : i + 5 ≤ L) (ls : Array Slot) (hl : lv_has ls 7 (lvA b q o9 qm i)) {cells slots : Nat} (hc : cells + 1 ≤ 1049) (hs : slots + 6 ≤ 8580) {Q : State → Prop} (kk : ∀ σ2 : LwS, okS σ2 → ∀ (H2 : Heap) (locs2 : List Loc), va_P D vwCl (wA q cq o9 co qm cm σ2) H2 → va_D (fun q : Nat => s.heap.size ≤ q) (wA q cq o9 co qm cm σ2) → va_S (fun q : Nat => s.heap.size ≤ q) s.heap H2 locs2 → ∀ ls2 : Array Slot, lv_has ls2 7 (lvA b q o9 qm i) → W p l e room_1 s m #[Value.ref b] below meth c H2 locs2 (cells + 1) (slots + 6) Q (F0 m 1659 ls2 [])) : W p l e room_1 s m #[Value.ref b] below meth c H locs cells slots Q (F0 m 1096 ls []) := by
  obtain ⟨hx, hb, hr, hml, hown, hts, hX, hbl, hlocks, hgv⟩ := C0
  have hown : s.vm.findClass RL = some m.cls := hown
  have hts : ∀ w ∈ wsL_law, w.before #[Value.ref b] s = true := fun w hw => hts w (wsL_law_in w hw)
  have hA : ∀ q : Nat, s.heap.size ≤ q → (fun q : Nat => s.heap.size ≤ q) q := fun _ h => h
  have hbA : ¬ (fun q : Nat => s.heap.size ≤ q) b := Nat.not_le.mpr hbl
  obtain ⟨T, R, S, X, M, P, n, k, z, a, h, w, f, d, v, th, o, V9⟩ := σ
  obtain ⟨hT, hR, hS9, hn, hk9, hP9⟩ := hok
  dsimp only at hT hR hS9 hn hk9 hP9
  have hP : va_P D vwCl (wW q cq o9 co qm cm V9 T R S X M P (nI n) h (nI k) w f d v (nI z) T R S X (nI n) h (nI k) th (nI a) o) H := hP
  have hD : va_D (fun q : Nat => s.heap.size ≤ q) (wW q cq o9 co qm cm V9 T R S X M P (nI n) h (nI k) w f d v (nI z) T R S X (nI n) h (nI k) th (nI a) o) := hD
  refine lv_aload_n hx hb dL_law_1096 rfl (lv_at hl 1 rfl) ?_
  refine lv_aload_n hx hb dL_law_1097 rfl (lv_at hl 0 rfl) ?_
  refine lv_iload hx hb dL_law_1098 (lv_at hl 4 rfl) ?_
  refine lv_iconst (v := 1) hx hb dL_law_1100 (by decide) ?_
  refine lv_iadd hx hb dL_law_1101 ?_
  refine lv_is (nI (i + 1)) (nI_add i 1) ?_
  refine va_sld hx hb hX hbl hbA hS (i := nI (i + 1)) (vp_in_nI (by omega) (by omega)) dL_law_1102 ?_
  refine lv_is (xs (i + 1)) (by rw [nI_clamp (by omega)]) ?_
  refine lv_aload_n hx hb dL_law_1103 rfl (lv_at hl 3 rfl) ?_
  have hPc := hP.sub (ws' := (wL q cq o9 co V9 T R S X M P (nI n) h (nI k) w f d v (nI z))) [0, 1, 2, 3, 4, 5, 6, 7, 8] rfl
  have hKc := hK.sub (tys' := (tyL cq co)) [0, 1, 2, 3, 4, 5, 6] rfl
  have hDc := hD.sub (ws' := (wL q cq o9 co V9 T R S X M P (nI n) h (nI k) w f d v (nI z))) [0, 1, 2, 3, 4, 5, 6, 7, 8] (by decide) rfl
  have hFc := va_free (wc := (wL q cq o9 co V9 T R S X M P (nI n) h (nI k) w f d v (nI z))) hD hS hA [0, 1, 2, 3, 4, 5, 6, 7, 8] rfl
  refine va_calli (vx_runSW (As := [.ref (q 0), .int (xs (i + 1)), .ref o9]) (rest := []) ⟨hx, hb, hml, hown, hts⟩ (c_L_productsBySums l hst D q cq o9 co V9 H.size T R S X M P (nI n) h (nI k) w f d v (nI z) (xs (i + 1))) (vx_cwSW 3 hts gL_law_L_productsBySums rfl rfl rfl (by decide +kernel) ⟨Nat.le_of_ble_eq_true rfl, Nat.le_of_ble_eq_true rfl⟩) ⟨fun a U g mk z => ⟨z.1, z.2.1, z.2.2.1, va_K.moved (u := U) (U := U.calling g mk a) (Vm.Alike.refl U.vm) z.2.2.2.1, z.2.2.2.2.1, z.2.2.2.2.2.blind g mk a⟩, fun U hU hW => ⟨rfl, by rw [hU], by rw [hU]; exact hPc, va_K.moved hW.alike hKc, hDc.weaken (fun _ _ _ _ => trivial), hE.at hS hU hW hFc⟩⟩ rfl rfl hl.1 rfl (lv_room (Nat.le_of_ble_eq_true rfl)) dL_law_1104 ⟨(by show cells + 1 ≤ 1049; omega), (by show slots + 6 ≤ 8580; omega)⟩) hS (fun q _ h => hFc q h) hFc (fun r9 u9 t8 H1 locs ht hvm hw hB hz1 hk1 hS => ?_)
  obtain ⟨hP1, hD1⟩ := hB
  rw [ht] at hP1
  obtain ⟨hP, hD⟩ := va_join (wr := (wM qm cm T R S X (nI n) h (nI k) th (nI a) o)) (w1 := (wL q cq o9 co (VO (kX1_productsBySums (xs (i + 1))) V9 (fX1_productsBySums T (xs (i + 1))).toInt64) T R S X M P (nI n) h (nI k) w f d v (nI z))) hP hD [0, 1, 2, 3, 4, 5, 6, 7, 8] [9, 10, 11, 12, 13] rfl rfl (by decide) (by decide) hk1 hFc hP1 hD1
  have hP := hP.sub (ws' := (wW q cq o9 co qm cm (VO (kX1_productsBySums (xs (i + 1))) V9 (fX1_productsBySums T (xs (i + 1))).toInt64) T R S X M P (nI n) h (nI k) w f d v (nI z) T R S X (nI n) h (nI k) th (nI a) o)) [5, 6, 7, 8, 9, 10, 11, 12, 13, 0, 1, 2, 3, 4] rfl
  have hD := hD.sub (ws' := (wW q cq o9 co qm cm (VO (kX1_productsBySums (xs (i + 1))) V9 (fX1_productsBySums T (xs (i + 1))).toInt64) T R S X M P (nI n) h (nI k) w f d v (nI z) T R S X (nI n) h (nI k) th (nI a) o)) [5, 6, 7, 8, 9, 10, 11, 12, 13, 0, 1, 2, 3, 4] (by decide) rfl
  generalize H1 = H at hP hS ⊢
  subst r9
  refine lv_istore (lv' := [(5, .int (cd1 (kX1_productsBySums (xs (i + 1))))), (0, .ref b), (1, .ref (q 0)), (2, .ref (qm 0)), (3, .ref o9), (4, .int (nI i))]) hx hb dL_law_1107 hl (by decide) rfl (fun ls hl => ?_)
  refine lv_aload_n hx hb dL_law_1109 rfl (lv_at hl 3 rfl) ?_
  refine lv_aload_n hx hb dL_law_1110 rfl (lv_at hl 1 rfl) ?_
  refine lv_iload hx hb dL_law_1111 (lv_at hl 5 rfl) ?_
  refine lv_iconst (v := 1) hx hb dL_law_1113 (by decide) ?_
  refine lv_iadd hx hb dL_law_1114 ?_
  refine lv_is (nI (i + 1)) (nI_add i 1) ?_
  refine va_sld hx hb hX hbl hbA hS (i := nI (i + 1)) (vp_in_nI (by omega) (by omega)) dL_law_1115 ?_
  refine lv_is (xs (i + 1)) (by rw [nI_clamp (by omega)]) ?_
  have hPc := hP.sub (ws' := (wM qm cm T R S X (nI n) h (nI k) th (nI a) o)) [9, 10, 11, 12, 13] rfl
  have hKc := hK.sub (tys' := (tyM cm)) [7, 8, 9, 10] rfl
  have hDc := hD.sub (ws' := (wM qm cm T R S X (nI n) h (nI k) th (nI a) o)) [9, 10, 11, 12, 13] (by decide) rfl
  have hFc := va_free (wc := (wM qm cm T R S X (nI n) h (nI k) th (nI a) o)) hD hS hA [9, 10, 11, 12, 13] rfl
  refine va_calli (va_runV (As := [.int (xs (i + 1))]) (rest := []) ⟨hx, hb, hml, hown, hts⟩ (c_X2_productsBySums l D qm cm H.size T R S X (nI n) h (nI k) th (nI a) o (xs (i + 1))) (cwV 1 hts gL_law_X2_productsBySums rfl rfl rfl (by decide +kernel) ⟨Nat.le_of_ble_eq_true rfl, Nat.le_of_ble_eq_true rfl⟩) ⟨fun a U g mk z => ⟨z.1, z.2.1, z.2.2.1, va_K.moved (u := U) (U := U.calling g mk a) (Vm.Alike.refl U.vm) z.2.2.2.1, z.2.2.2.2.1, z.2.2.2.2.2.blind g mk a⟩, va_recv hKc hPc (ci := 2) (q0 := 0) rfl rfl, fun U hU hW => ⟨rfl, by rw [hU], by rw [hU]; exact hPc, va_K.moved hW.alike hKc, hDc.weaken (fun _ _ _ _ => trivial), hE.at hS hU hW hFc⟩⟩ rfl rfl hl.1 rfl (lv_room (Nat.le_of_ble_eq_true rfl)) dL_law_1116 ⟨(by show cells + 1 ≤ 1049; omega), (by show slots + 6 ≤ 8580; omega)⟩) hS (fun q _ h => hFc q h) hFc (fun r9 u9 t8 H1 locs ht hvm hw hB hz1 hk1 hS => ?_)
  obtain ⟨hP1, hD1⟩ := hB
  rw [ht] at hP1
  obtain ⟨hP, hD⟩ := va_join (wr := (wL q cq o9 co (VO (kX1_productsBySums (xs (i + 1))) V9 (fX1_productsBySums T (xs (i + 1))).toInt64) T R S X M P (nI n) h (nI k) w f d v (nI z))) (w1 := (wM qm cm T R S X (nI n) h (nI k) ((fX2_productsBySums T (xs (i + 1))).2) (nI a) o)) hP hD [9, 10, 11, 12, 13] [0, 1, 2, 3, 4, 5, 6, 7, 8] rfl rfl (by decide) (by decide) hk1 hFc hP1 hD1
  generalize H1 = H at hP hS ⊢
  have hP : va_P D vwCl (wW q cq o9 co qm cm (VO (kX1_productsBySums (xs (i + 1))) V9 (fX1_productsBySums T (xs (i + 1))).toInt64) T R S X M P (nI n) h (nI k) w f d v (nI z) T R S X (nI n) h (nI k) ((fX2_productsBySums T (xs (i + 1))).2) (nI a) o) H := hP
  have hD : va_D (fun q : Nat => s.heap.size ≤ q) (wW q cq o9 co qm cm (VO (kX1_productsBySums (xs (i + 1))) V9 (fX1_productsBySums T (xs (i + 1))).toInt64) T R S X M P (nI n) h (nI k) w f d v (nI z) T R S X (nI n) h (nI k) ((fX2_productsBySums T (xs (i + 1))).2) (nI a) o) := hD
  subst r9
  have he := e_productsBySums T (xs (i + 1))
  refine lv_istore (lv' := [(6, .int ((fX2_productsBySums T (xs (i + 1))).1)), (5, .int (cd1 (kX1_productsBySums (xs (i + 1))))), (0, .ref b), (1, .ref (q 0)), (2, .ref (qm 0)), (3, .ref o9), (4, .int (nI i))]) hx hb dL_law_1119 hl (by decide) rfl (fun ls hl => ?_)
  refine lv_aload_n hx hb dL_law_1121 rfl (lv_at hl 4 rfl) ?_
  have hPc := hP.sub (ws' := (wM qm cm T R S X (nI (n)) h (nI (k)) ((fX2_productsBySums T (xs (i + 1))).2) (nI (a)) o)) [9, 10, 11, 12, 13] rfl
  have hKc := hK.sub (tys' := (tyM cm)) [7, 8, 9, 10] rfl
  refine vp_callSi (va_Run.run (va_runV (As := []) (rest := []) ⟨hx, hb, hml, hown, hts⟩ (c_X2_thrown l D qm cm T R S X (nI (n)) h (nI (k)) ((fX2_productsBySums T (xs (i + 1))).2) (nI (a)) o) (cwV 0 hts gL_law_X2_thrown rfl rfl rfl (by decide +kernel) ⟨Nat.le_of_ble_eq_true rfl, Nat.le_of_ble_eq_true rfl⟩) ⟨fun a U g mk z => ⟨z.1, z.2.1, va_K.moved (u := U) (U := U.calling g mk a) (Vm.Alike.refl U.vm) z.2.2.1, z.2.2.2.blind g mk a⟩, va_recv hKc hPc (ci := 2) (q0 := 0) rfl rfl, fun U hU hW => ⟨rfl, by rw [hU]; exact hPc, va_K.moved hW.alike hKc, hE.at0 hS hU hW⟩⟩ rfl rfl hl.1 rfl (lv_room (Nat.le_of_ble_eq_true rfl)) dL_law_1122 ⟨(by show cells + 1 ≤ 1049; omega), (by show slots + 6 ≤ 8580; omega)⟩)) (fun r9 hr9 => ?_)
  subst r9
  refine lv_iload hx hb dL_law_1125 (lv_at hl 1 rfl) ?_
  have halt := he
  have hth : ((fX2_productsBySums T (xs (i + 1))).2) = cd1 (kX1_productsBySums (xs (i + 1))) := by
    rcases halt with ⟨h1, h2, h3⟩ | ⟨h1, h2⟩ <;> (rw [h1, h2]; rfl)
  have hval : (kX1_productsBySums (xs (i + 1))) = 0 → (fX1_productsBySums T (xs (i + 1))) = (fX2_productsBySums T (xs (i + 1))).1 := by
    intro h0
    rcases halt with ⟨h1, h2, h3⟩ | ⟨h1, h2⟩
    · exact h3
    · rw [h1] at h0; exact absurd h0 (by decide)
  refine lv_icmp_eq (tgt := 1132) hx hb dL_law_1127 (by decide) (fun c1 => ?_) (fun c1 => absurd (show fX2_thrown ((fX2_productsBySums T (xs (i + 1))).2) = cd1 (kX1_productsBySums (xs (i + 1))) from hth) c1)
  refine lv_iload hx hb dL_law_1132 (lv_at hl 1 rfl) ?_
  have kend : W p l e room_1 s m #[Value.ref b] below meth c H locs (cells + 1) (slots + 6) Q (F0 m 1149 ls []) := by
    refine lv_goto (tgt := 1659) hx hb dL_law_1149 (by decide) ?_
    exact kk ⟨T, R, S, X, M, P, (n), (k), (z), (a), h, w, f, d, v, ((fX2_productsBySums T (xs (i + 1))).2), o, (VO (kX1_productsBySums (xs (i + 1))) V9 (fX1_productsBySums T (xs (i + 1))).toInt64)⟩ ⟨hT, hR, hS9, hn, hk9, hP9⟩ H _ hP hD hS ls (lv_sub hl [2, 3, 4, 5, 6] rfl)
  refine lv_if_ne (tgt := 1149) hx hb dL_law_1134 (by decide) (fun c2 => kend) (fun c2 => ?_)
  have hK0 : (kX1_productsBySums (xs (i + 1))) = 0 := cd1_0 c2
  have hV0 : VO (kX1_productsBySums (xs (i + 1))) V9 (fX1_productsBySums T (xs (i + 1))).toInt64 = vp_updL V9 0 (fX1_productsBySums T (xs (i + 1))).toInt64 := if_pos hK0
  refine lv_aload_n hx hb dL_law_1137 rfl (lv_at hl 5 rfl) ?_
  refine lv_iconst (v := 0) hx hb dL_law_1138 (by decide) ?_
  refine va_lald hx hb hK hP 0 0 rfl rfl (i := 0) (vp_in_nI (n := 0) (N := 1) (by decide) (by decide)) dL_law_1139 ?_
  refine lv_isL ((fX1_productsBySums T (xs (i + 1))).toInt64) (by rw [hV0]; rfl) ?_
  refine lv_iload hx hb dL_law_1140 (lv_at hl 0 rfl) ?_
  refine lv_i2l hx hb dL_law_1142 rfl ?_
  rw [hval hK0]
  refine W.lcmp hx hb dL_law_1143 ?_
  exact lv_if_eq (tgt := 1149) hx hb dL_law_1144 (by decide) (fun c3 => kend) (fun c3 => absurd (lg_self _) c3)
set_option maxHeartbeats 4000000 in
set_option maxRecDepth 100000 in
theorem k_degreeOf {p : Program} {l : Launch} (hst : l.stackTraces = false) {e : Env} {s : State} {m : MethodId} {below : List Frame} {meth : Method} {c : Code} {b L : Nat} {xs : Nat → Int32} (hL : L ≤ 2560) (C0 : lw_At p s m meth c b L xs) (hE : envE (fun q : Nat => s.heap.size ≤ q) s) {D : va_G} {q : Nat → Nat} {cq : Nat → ClassId} {o9 : Nat} {co : ClassId} {qm : Nat → Nat} {cm : Nat → ClassId} (hK : va_K D vwCl (tyA cq co cm) s) (σ : LwS) (hok : okS σ) (H : Heap) (locs : List Loc) (hP : va_P D vwCl (wA q cq o9 co qm cm σ) H) (hD : va_D (fun q : Nat => s.heap.size ≤ q) (wA q cq o9 co qm cm σ)) (hS : va_S (fun q : Nat => s.heap.size ≤ q) s.heap H locs) (i : Nat) (hi : i + 5 ≤ L) (ls : Array Slot) (hl : lv_has ls 7 (lvA b q o9 qm i)) {cells slots : Nat} (hc : cells + 1 ≤ 1049) (hs : slots + 6 ≤ 8580) {Q : State → Prop} (kk : ∀ σ2 : LwS, okS σ2 → ∀ (H2 : Heap) (locs2 : List Loc), va_P D vwCl (wA q cq o9 co qm cm σ2) H2 → va_D (fun q : Nat => s.heap.size ≤ q) (wA q cq o9 co qm cm σ2) → va_S (fun q : Nat => s.heap.size ≤ q) s.heap H2 locs2 → ∀ ls2 : Array Slot, lv_has ls2 7 (lvA b q o9 qm i) → W p l e room_1 s m #[Value.ref b] below meth c H2 locs2 (cells + 1) (slots + 6) Q (F0 m 1659 ls2 [])) : W p l e room_1 s m #[Value.ref b] below meth c H locs cells slots Q (F0 m 1152 ls []) := by
  obtain ⟨hx, hb, hr, hml, hown, hts, hX, hbl, hlocks, hgv⟩ := C0
  have hown : s.vm.findClass RL = some m.cls := hown
  have hts : ∀ w ∈ wsL_law, w.before #[Value.ref b] s = true := fun w hw => hts w (wsL_law_in w hw)
  have hA : ∀ q : Nat, s.heap.size ≤ q → (fun q : Nat => s.heap.size ≤ q) q := fun _ h => h
  have hbA : ¬ (fun q : Nat => s.heap.size ≤ q) b := Nat.not_le.mpr hbl
  obtain ⟨T, R, S, X, M, P, n, k, z, a, h, w, f, d, v, th, o, V9⟩ := σ
  obtain ⟨hT, hR, hS9, hn, hk9, hP9⟩ := hok
  dsimp only at hT hR hS9 hn hk9 hP9
  have hP : va_P D vwCl (wW q cq o9 co qm cm V9 T R S X M P (nI n) h (nI k) w f d v (nI z) T R S X (nI n) h (nI k) th (nI a) o) H := hP
  have hD : va_D (fun q : Nat => s.heap.size ≤ q) (wW q cq o9 co qm cm V9 T R S X M P (nI n) h (nI k) w f d v (nI z) T R S X (nI n) h (nI k) th (nI a) o) := hD
  refine lv_aload_n hx hb dL_law_1152 rfl (lv_at hl 1 rfl) ?_
  refine lv_aload_n hx hb dL_law_1153 rfl (lv_at hl 0 rfl) ?_
  refine lv_iload hx hb dL_law_1154 (lv_at hl 4 rfl) ?_
  refine lv_iconst (v := 1) hx hb dL_law_1156 (by decide) ?_
  refine lv_iadd hx hb dL_law_1157 ?_
  refine lv_is (nI (i + 1)) (nI_add i 1) ?_
  refine va_sld hx hb hX hbl hbA hS (i := nI (i + 1)) (vp_in_nI (by omega) (by omega)) dL_law_1158 ?_
  refine lv_is (xs (i + 1)) (by rw [nI_clamp (by omega)]) ?_
  refine lv_aload_n hx hb dL_law_1159 rfl (lv_at hl 3 rfl) ?_
  have hPc := hP.sub (ws' := (wL q cq o9 co V9 T R S X M P (nI n) h (nI k) w f d v (nI z))) [0, 1, 2, 3, 4, 5, 6, 7, 8] rfl
  have hKc := hK.sub (tys' := (tyL cq co)) [0, 1, 2, 3, 4, 5, 6] rfl
  have hDc := hD.sub (ws' := (wL q cq o9 co V9 T R S X M P (nI n) h (nI k) w f d v (nI z))) [0, 1, 2, 3, 4, 5, 6, 7, 8] (by decide) rfl
  have hFc := va_free (wc := (wL q cq o9 co V9 T R S X M P (nI n) h (nI k) w f d v (nI z))) hD hS hA [0, 1, 2, 3, 4, 5, 6, 7, 8] rfl
  refine va_calli (vx_runSW (As := [.ref (q 0), .int (xs (i + 1)), .ref o9]) (rest := []) ⟨hx, hb, hml, hown, hts⟩ (c_L_degreeOf l hst D q cq o9 co V9 H.size T R S X M P (nI n) h (nI k) w f d v (nI z) (xs (i + 1))) (vx_cwSW 3 hts gL_law_L_degreeOf rfl rfl rfl (by decide +kernel) ⟨Nat.le_of_ble_eq_true rfl, Nat.le_of_ble_eq_true rfl⟩) ⟨fun a U g mk z => ⟨z.1, z.2.1, z.2.2.1, va_K.moved (u := U) (U := U.calling g mk a) (Vm.Alike.refl U.vm) z.2.2.2.1, z.2.2.2.2.1, z.2.2.2.2.2.blind g mk a⟩, fun U hU hW => ⟨rfl, by rw [hU], by rw [hU]; exact hPc, va_K.moved hW.alike hKc, hDc.weaken (fun _ _ _ _ => trivial), hE.at hS hU hW hFc⟩⟩ rfl rfl hl.1 rfl (lv_room (Nat.le_of_ble_eq_true rfl)) dL_law_1160 ⟨(by show cells + 1 ≤ 1049; omega), (by show slots + 6 ≤ 8580; omega)⟩) hS (fun q _ h => hFc q h) hFc (fun r9 u9 t8 H1 locs ht hvm hw hB hz1 hk1 hS => ?_)
  obtain ⟨hP1, hD1⟩ := hB
  rw [ht] at hP1
  obtain ⟨hP, hD⟩ := va_join (wr := (wM qm cm T R S X (nI n) h (nI k) th (nI a) o)) (w1 := (wL q cq o9 co (VO (kX1_degreeOf (xs (i + 1))) V9 (fX1_degreeOf T (xs (i + 1))).toInt64) T R S X M P (nI n) h (nI k) w f d v (nI z))) hP hD [0, 1, 2, 3, 4, 5, 6, 7, 8] [9, 10, 11, 12, 13] rfl rfl (by decide) (by decide) hk1 hFc hP1 hD1
  have hP := hP.sub (ws' := (wW q cq o9 co qm cm (VO (kX1_degreeOf (xs (i + 1))) V9 (fX1_degreeOf T (xs (i + 1))).toInt64) T R S X M P (nI n) h (nI k) w f d v (nI z) T R S X (nI n) h (nI k) th (nI a) o)) [5, 6, 7, 8, 9, 10, 11, 12, 13, 0, 1, 2, 3, 4] rfl
  have hD := hD.sub (ws' := (wW q cq o9 co qm cm (VO (kX1_degreeOf (xs (i + 1))) V9 (fX1_degreeOf T (xs (i + 1))).toInt64) T R S X M P (nI n) h (nI k) w f d v (nI z) T R S X (nI n) h (nI k) th (nI a) o)) [5, 6, 7, 8, 9, 10, 11, 12, 13, 0, 1, 2, 3, 4] (by decide) rfl
  generalize H1 = H at hP hS ⊢
  subst r9
  refine lv_istore (lv' := [(5, .int (cd1 (kX1_degreeOf (xs (i + 1))))), (0, .ref b), (1, .ref (q 0)), (2, .ref (qm 0)), (3, .ref o9), (4, .int (nI i))]) hx hb dL_law_1163 hl (by decide) rfl (fun ls hl => ?_)
  refine lv_aload_n hx hb dL_law_1165 rfl (lv_at hl 3 rfl) ?_
  refine lv_aload_n hx hb dL_law_1166 rfl (lv_at hl 1 rfl) ?_
  refine lv_iload hx hb dL_law_1167 (lv_at hl 5 rfl) ?_
  refine lv_iconst (v := 1) hx hb dL_law_1169 (by decide) ?_
  refine lv_iadd hx hb dL_law_1170 ?_
  refine lv_is (nI (i + 1)) (nI_add i 1) ?_
  refine va_sld hx hb hX hbl hbA hS (i := nI (i + 1)) (vp_in_nI (by omega) (by omega)) dL_law_1171 ?_
  refine lv_is (xs (i + 1)) (by rw [nI_clamp (by omega)]) ?_
  have hPc := hP.sub (ws' := (wM qm cm T R S X (nI n) h (nI k) th (nI a) o)) [9, 10, 11, 12, 13] rfl
  have hKc := hK.sub (tys' := (tyM cm)) [7, 8, 9, 10] rfl
  have hDc := hD.sub (ws' := (wM qm cm T R S X (nI n) h (nI k) th (nI a) o)) [9, 10, 11, 12, 13] (by decide) rfl
  have hFc := va_free (wc := (wM qm cm T R S X (nI n) h (nI k) th (nI a) o)) hD hS hA [9, 10, 11, 12, 13] rfl
  refine va_calli (va_runV (As := [.int (xs (i + 1))]) (rest := []) ⟨hx, hb, hml, hown, hts⟩ (c_X2_degreeOf l D qm cm H.size T R S X (nI n) h (nI k) th (nI a) o (xs (i + 1))) (cwV 1 hts gL_law_X2_degreeOf rfl rfl rfl (by decide +kernel) ⟨Nat.le_of_ble_eq_true rfl, Nat.le_of_ble_eq_true rfl⟩) ⟨fun a U g mk z => ⟨z.1, z.2.1, z.2.2.1, va_K.moved (u := U) (U := U.calling g mk a) (Vm.Alike.refl U.vm) z.2.2.2.1, z.2.2.2.2.1, z.2.2.2.2.2.blind g mk a⟩, va_recv hKc hPc (ci := 2) (q0 := 0) rfl rfl, fun U hU hW => ⟨rfl, by rw [hU], by rw [hU]; exact hPc, va_K.moved hW.alike hKc, hDc.weaken (fun _ _ _ _ => trivial), hE.at hS hU hW hFc⟩⟩ rfl rfl hl.1 rfl (lv_room (Nat.le_of_ble_eq_true rfl)) dL_law_1172 ⟨(by show cells + 1 ≤ 1049; omega), (by show slots + 6 ≤ 8580; omega)⟩) hS (fun q _ h => hFc q h) hFc (fun r9 u9 t8 H1 locs ht hvm hw hB hz1 hk1 hS => ?_)
  obtain ⟨hP1, hD1⟩ := hB
  rw [ht] at hP1
  obtain ⟨hP, hD⟩ := va_join (wr := (wL q cq o9 co (VO (kX1_degreeOf (xs (i + 1))) V9 (fX1_degreeOf T (xs (i + 1))).toInt64) T R S X M P (nI n) h (nI k) w f d v (nI z))) (w1 := (wM qm cm T R S X (nI n) h (nI k) ((fX2_degreeOf T (xs (i + 1))).2) (nI a) o)) hP hD [9, 10, 11, 12, 13] [0, 1, 2, 3, 4, 5, 6, 7, 8] rfl rfl (by decide) (by decide) hk1 hFc hP1 hD1
  generalize H1 = H at hP hS ⊢
  have hP : va_P D vwCl (wW q cq o9 co qm cm (VO (kX1_degreeOf (xs (i + 1))) V9 (fX1_degreeOf T (xs (i + 1))).toInt64) T R S X M P (nI n) h (nI k) w f d v (nI z) T R S X (nI n) h (nI k) ((fX2_degreeOf T (xs (i + 1))).2) (nI a) o) H := hP
  have hD : va_D (fun q : Nat => s.heap.size ≤ q) (wW q cq o9 co qm cm (VO (kX1_degreeOf (xs (i + 1))) V9 (fX1_degreeOf T (xs (i + 1))).toInt64) T R S X M P (nI n) h (nI k) w f d v (nI z) T R S X (nI n) h (nI k) ((fX2_degreeOf T (xs (i + 1))).2) (nI a) o) := hD
  subst r9
  have he := e_degreeOf hT (xs (i + 1))
  refine lv_istore (lv' := [(6, .int ((fX2_degreeOf T (xs (i + 1))).1)), (5, .int (cd1 (kX1_degreeOf (xs (i + 1))))), (0, .ref b), (1, .ref (q 0)), (2, .ref (qm 0)), (3, .ref o9), (4, .int (nI i))]) hx hb dL_law_1175 hl (by decide) rfl (fun ls hl => ?_)
  refine lv_aload_n hx hb dL_law_1177 rfl (lv_at hl 4 rfl) ?_
  have hPc := hP.sub (ws' := (wM qm cm T R S X (nI (n)) h (nI (k)) ((fX2_degreeOf T (xs (i + 1))).2) (nI (a)) o)) [9, 10, 11, 12, 13] rfl
  have hKc := hK.sub (tys' := (tyM cm)) [7, 8, 9, 10] rfl
  refine vp_callSi (va_Run.run (va_runV (As := []) (rest := []) ⟨hx, hb, hml, hown, hts⟩ (c_X2_thrown l D qm cm T R S X (nI (n)) h (nI (k)) ((fX2_degreeOf T (xs (i + 1))).2) (nI (a)) o) (cwV 0 hts gL_law_X2_thrown rfl rfl rfl (by decide +kernel) ⟨Nat.le_of_ble_eq_true rfl, Nat.le_of_ble_eq_true rfl⟩) ⟨fun a U g mk z => ⟨z.1, z.2.1, va_K.moved (u := U) (U := U.calling g mk a) (Vm.Alike.refl U.vm) z.2.2.1, z.2.2.2.blind g mk a⟩, va_recv hKc hPc (ci := 2) (q0 := 0) rfl rfl, fun U hU hW => ⟨rfl, by rw [hU]; exact hPc, va_K.moved hW.alike hKc, hE.at0 hS hU hW⟩⟩ rfl rfl hl.1 rfl (lv_room (Nat.le_of_ble_eq_true rfl)) dL_law_1178 ⟨(by show cells + 1 ≤ 1049; omega), (by show slots + 6 ≤ 8580; omega)⟩)) (fun r9 hr9 => ?_)
  subst r9
  refine lv_iload hx hb dL_law_1181 (lv_at hl 1 rfl) ?_
  have halt := he
  have hth : ((fX2_degreeOf T (xs (i + 1))).2) = cd1 (kX1_degreeOf (xs (i + 1))) := by
    rcases halt with ⟨h1, h2, h3⟩ | ⟨h1, h2⟩ <;> (rw [h1, h2]; rfl)
  have hval : (kX1_degreeOf (xs (i + 1))) = 0 → (fX1_degreeOf T (xs (i + 1))) = (fX2_degreeOf T (xs (i + 1))).1 := by
    intro h0
    rcases halt with ⟨h1, h2, h3⟩ | ⟨h1, h2⟩
    · exact h3
    · rw [h1] at h0; exact absurd h0 (by decide)
  refine lv_icmp_eq (tgt := 1188) hx hb dL_law_1183 (by decide) (fun c1 => ?_) (fun c1 => absurd (show fX2_thrown ((fX2_degreeOf T (xs (i + 1))).2) = cd1 (kX1_degreeOf (xs (i + 1))) from hth) c1)
  refine lv_iload hx hb dL_law_1188 (lv_at hl 1 rfl) ?_
  have kend : W p l e room_1 s m #[Value.ref b] below meth c H locs (cells + 1) (slots + 6) Q (F0 m 1205 ls []) := by
    refine lv_goto (tgt := 1659) hx hb dL_law_1205 (by decide) ?_
    exact kk ⟨T, R, S, X, M, P, (n), (k), (z), (a), h, w, f, d, v, ((fX2_degreeOf T (xs (i + 1))).2), o, (VO (kX1_degreeOf (xs (i + 1))) V9 (fX1_degreeOf T (xs (i + 1))).toInt64)⟩ ⟨hT, hR, hS9, hn, hk9, hP9⟩ H _ hP hD hS ls (lv_sub hl [2, 3, 4, 5, 6] rfl)
  refine lv_if_ne (tgt := 1205) hx hb dL_law_1190 (by decide) (fun c2 => kend) (fun c2 => ?_)
  have hK0 : (kX1_degreeOf (xs (i + 1))) = 0 := cd1_0 c2
  have hV0 : VO (kX1_degreeOf (xs (i + 1))) V9 (fX1_degreeOf T (xs (i + 1))).toInt64 = vp_updL V9 0 (fX1_degreeOf T (xs (i + 1))).toInt64 := if_pos hK0
  refine lv_aload_n hx hb dL_law_1193 rfl (lv_at hl 5 rfl) ?_
  refine lv_iconst (v := 0) hx hb dL_law_1194 (by decide) ?_
  refine va_lald hx hb hK hP 0 0 rfl rfl (i := 0) (vp_in_nI (n := 0) (N := 1) (by decide) (by decide)) dL_law_1195 ?_
  refine lv_isL ((fX1_degreeOf T (xs (i + 1))).toInt64) (by rw [hV0]; rfl) ?_
  refine lv_iload hx hb dL_law_1196 (lv_at hl 0 rfl) ?_
  refine lv_i2l hx hb dL_law_1198 rfl ?_
  rw [hval hK0]
  refine W.lcmp hx hb dL_law_1199 ?_
  exact lv_if_eq (tgt := 1205) hx hb dL_law_1200 (by decide) (fun c3 => kend) (fun c3 => absurd (lg_self _) c3)
set_option maxHeartbeats 4000000 in
set_option maxRecDepth 100000 in
theorem k_printedLength {p : Program} {l : Launch} (hst : l.stackTraces = false) {e : Env} {s : State} {m : MethodId} {below : List Frame} {meth : Method} {c : Code} {b L : Nat} {xs : Nat → Int32} (hL : L ≤ 2560) (C0 : lw_At p s m meth c b L xs) (hE : envE (fun q : Nat => s.heap.size ≤ q) s) {D : va_G} {q : Nat → Nat} {cq : Nat → ClassId} {o9 : Nat} {co : ClassId} {qm : Nat → Nat} {cm : Nat → ClassId} (hK : va_K D vwCl (tyA cq co cm) s) (σ : LwS) (hok : okS σ) (H : Heap) (locs : List Loc) (hP : va_P D vwCl (wA q cq o9 co qm cm σ) H) (hD : va_D (fun q : Nat => s.heap.size ≤ q) (wA q cq o9 co qm cm σ)) (hS : va_S (fun q : Nat => s.heap.size ≤ q) s.heap H locs) (i : Nat) (hi : i + 5 ≤ L) (ls : Array Slot) (hl : lv_has ls 7 (lvA b q o9 qm i)) {cells slots : Nat} (hc : cells + 1 ≤ 1049) (hs : slots + 6 ≤ 8580) {Q : State → Prop} (kk : ∀ σ2 : LwS, okS σ2 → ∀ (H2 : Heap) (locs2 : List Loc), va_P D vwCl (wA q cq o9 co qm cm σ2) H2 → va_D (fun q : Nat => s.heap.size ≤ q) (wA q cq o9 co qm cm σ2) → va_S (fun q : Nat => s.heap.size ≤ q) s.heap H2 locs2 → ∀ ls2 : Array Slot, lv_has ls2 7 (lvA b q o9 qm i) → W p l e room_1 s m #[Value.ref b] below meth c H2 locs2 (cells + 1) (slots + 6) Q (F0 m 1659 ls2 [])) : W p l e room_1 s m #[Value.ref b] below meth c H locs cells slots Q (F0 m 1208 ls []) := by
  obtain ⟨hx, hb, hr, hml, hown, hts, hX, hbl, hlocks, hgv⟩ := C0
  have hown : s.vm.findClass RL = some m.cls := hown
  have hts : ∀ w ∈ wsL_law, w.before #[Value.ref b] s = true := fun w hw => hts w (wsL_law_in w hw)
  have hA : ∀ q : Nat, s.heap.size ≤ q → (fun q : Nat => s.heap.size ≤ q) q := fun _ h => h
  have hbA : ¬ (fun q : Nat => s.heap.size ≤ q) b := Nat.not_le.mpr hbl
  obtain ⟨T, R, S, X, M, P, n, k, z, a, h, w, f, d, v, th, o, V9⟩ := σ
  obtain ⟨hT, hR, hS9, hn, hk9, hP9⟩ := hok
  dsimp only at hT hR hS9 hn hk9 hP9
  have hP : va_P D vwCl (wW q cq o9 co qm cm V9 T R S X M P (nI n) h (nI k) w f d v (nI z) T R S X (nI n) h (nI k) th (nI a) o) H := hP
  have hD : va_D (fun q : Nat => s.heap.size ≤ q) (wW q cq o9 co qm cm V9 T R S X M P (nI n) h (nI k) w f d v (nI z) T R S X (nI n) h (nI k) th (nI a) o) := hD
  refine lv_aload_n hx hb dL_law_1208 rfl (lv_at hl 1 rfl) ?_
  refine lv_aload_n hx hb dL_law_1209 rfl (lv_at hl 0 rfl) ?_
  refine lv_iload hx hb dL_law_1210 (lv_at hl 4 rfl) ?_
  refine lv_iconst (v := 1) hx hb dL_law_1212 (by decide) ?_
  refine lv_iadd hx hb dL_law_1213 ?_
  refine lv_is (nI (i + 1)) (nI_add i 1) ?_
  refine va_sld hx hb hX hbl hbA hS (i := nI (i + 1)) (vp_in_nI (by omega) (by omega)) dL_law_1214 ?_
  refine lv_is (xs (i + 1)) (by rw [nI_clamp (by omega)]) ?_
  refine lv_aload_n hx hb dL_law_1215 rfl (lv_at hl 3 rfl) ?_
  have hPc := hP.sub (ws' := (wL q cq o9 co V9 T R S X M P (nI n) h (nI k) w f d v (nI z))) [0, 1, 2, 3, 4, 5, 6, 7, 8] rfl
  have hKc := hK.sub (tys' := (tyL cq co)) [0, 1, 2, 3, 4, 5, 6] rfl
  have hDc := hD.sub (ws' := (wL q cq o9 co V9 T R S X M P (nI n) h (nI k) w f d v (nI z))) [0, 1, 2, 3, 4, 5, 6, 7, 8] (by decide) rfl
  have hFc := va_free (wc := (wL q cq o9 co V9 T R S X M P (nI n) h (nI k) w f d v (nI z))) hD hS hA [0, 1, 2, 3, 4, 5, 6, 7, 8] rfl
  refine va_calli (vx_runSW (As := [.ref (q 0), .int (xs (i + 1)), .ref o9]) (rest := []) ⟨hx, hb, hml, hown, hts⟩ (c_L_printedLength l hst D q cq o9 co V9 H.size T R S X M P (nI n) h (nI k) w f d v z (xs (i + 1))) (vx_cwSW 3 hts gL_law_L_printedLength rfl rfl rfl (by decide +kernel) ⟨Nat.le_of_ble_eq_true rfl, Nat.le_of_ble_eq_true rfl⟩) ⟨fun a U g mk z => ⟨z.1, z.2.1, z.2.2.1, va_K.moved (u := U) (U := U.calling g mk a) (Vm.Alike.refl U.vm) z.2.2.2.1, z.2.2.2.2.1, z.2.2.2.2.2.blind g mk a⟩, fun U hU hW => ⟨rfl, by rw [hU], by rw [hU]; exact hPc, va_K.moved hW.alike hKc, hDc.weaken (fun _ _ _ _ => trivial), hE.at hS hU hW hFc⟩⟩ rfl rfl hl.1 rfl (lv_room (Nat.le_of_ble_eq_true rfl)) dL_law_1216 ⟨(by show cells + 1 ≤ 1049; omega), (by show slots + 6 ≤ 8580; omega)⟩) hS (fun q _ h => hFc q h) hFc (fun r9 u9 t8 H1 locs ht hvm hw hB hz1 hk1 hS => ?_)
  obtain ⟨hP1, hD1⟩ := hB
  rw [ht] at hP1
  obtain ⟨hP, hD⟩ := va_join (wr := (wM qm cm T R S X (nI n) h (nI k) th (nI a) o)) (w1 := (wL q cq o9 co (VO (kX1_printedLength (xs (i + 1))) V9 ((fX1_printedLength T P z (xs (i + 1))).1).toInt64) T R S X M ((fX1_printedLength T P z (xs (i + 1))).2.1) (nI n) h (nI k) w f d v (nI (fX1_printedLength T P z (xs (i + 1))).2.2))) hP hD [0, 1, 2, 3, 4, 5, 6, 7, 8] [9, 10, 11, 12, 13] rfl rfl (by decide) (by decide) hk1 hFc hP1 hD1
  have hP := hP.sub (ws' := (wW q cq o9 co qm cm (VO (kX1_printedLength (xs (i + 1))) V9 ((fX1_printedLength T P z (xs (i + 1))).1).toInt64) T R S X M ((fX1_printedLength T P z (xs (i + 1))).2.1) (nI n) h (nI k) w f d v (nI (fX1_printedLength T P z (xs (i + 1))).2.2) T R S X (nI n) h (nI k) th (nI a) o)) [5, 6, 7, 8, 9, 10, 11, 12, 13, 0, 1, 2, 3, 4] rfl
  have hD := hD.sub (ws' := (wW q cq o9 co qm cm (VO (kX1_printedLength (xs (i + 1))) V9 ((fX1_printedLength T P z (xs (i + 1))).1).toInt64) T R S X M ((fX1_printedLength T P z (xs (i + 1))).2.1) (nI n) h (nI k) w f d v (nI (fX1_printedLength T P z (xs (i + 1))).2.2) T R S X (nI n) h (nI k) th (nI a) o)) [5, 6, 7, 8, 9, 10, 11, 12, 13, 0, 1, 2, 3, 4] (by decide) rfl
  generalize H1 = H at hP hS ⊢
  subst r9
  refine lv_istore (lv' := [(5, .int (cd1 (kX1_printedLength (xs (i + 1))))), (0, .ref b), (1, .ref (q 0)), (2, .ref (qm 0)), (3, .ref o9), (4, .int (nI i))]) hx hb dL_law_1219 hl (by decide) rfl (fun ls hl => ?_)
  refine lv_aload_n hx hb dL_law_1221 rfl (lv_at hl 3 rfl) ?_
  refine lv_aload_n hx hb dL_law_1222 rfl (lv_at hl 1 rfl) ?_
  refine lv_iload hx hb dL_law_1223 (lv_at hl 5 rfl) ?_
  refine lv_iconst (v := 1) hx hb dL_law_1225 (by decide) ?_
  refine lv_iadd hx hb dL_law_1226 ?_
  refine lv_is (nI (i + 1)) (nI_add i 1) ?_
  refine va_sld hx hb hX hbl hbA hS (i := nI (i + 1)) (vp_in_nI (by omega) (by omega)) dL_law_1227 ?_
  refine lv_is (xs (i + 1)) (by rw [nI_clamp (by omega)]) ?_
  have hPc := hP.sub (ws' := (wM qm cm T R S X (nI n) h (nI k) th (nI a) o)) [9, 10, 11, 12, 13] rfl
  have hKc := hK.sub (tys' := (tyM cm)) [7, 8, 9, 10] rfl
  have hDc := hD.sub (ws' := (wM qm cm T R S X (nI n) h (nI k) th (nI a) o)) [9, 10, 11, 12, 13] (by decide) rfl
  have hFc := va_free (wc := (wM qm cm T R S X (nI n) h (nI k) th (nI a) o)) hD hS hA [9, 10, 11, 12, 13] rfl
  refine va_calli (va_runV (As := [.int (xs (i + 1))]) (rest := []) ⟨hx, hb, hml, hown, hts⟩ (c_X2_printedLength l D qm cm H.size T R S X (nI n) h (nI k) th (nI a) o (xs (i + 1))) (cwV 1 hts gL_law_X2_printedLength rfl rfl rfl (by decide +kernel) ⟨Nat.le_of_ble_eq_true rfl, Nat.le_of_ble_eq_true rfl⟩) ⟨fun a U g mk z => ⟨z.1, z.2.1, z.2.2.1, va_K.moved (u := U) (U := U.calling g mk a) (Vm.Alike.refl U.vm) z.2.2.2.1, z.2.2.2.2.1, z.2.2.2.2.2.blind g mk a⟩, va_recv hKc hPc (ci := 2) (q0 := 0) rfl rfl, fun U hU hW => ⟨rfl, by rw [hU], by rw [hU]; exact hPc, va_K.moved hW.alike hKc, hDc.weaken (fun _ _ _ _ => trivial), hE.at hS hU hW hFc⟩⟩ rfl rfl hl.1 rfl (lv_room (Nat.le_of_ble_eq_true rfl)) dL_law_1228 ⟨(by show cells + 1 ≤ 1049; omega), (by show slots + 6 ≤ 8580; omega)⟩) hS (fun q _ h => hFc q h) hFc (fun r9 u9 t8 H1 locs ht hvm hw hB hz1 hk1 hS => ?_)
  obtain ⟨hP1, hD1⟩ := hB
  rw [ht] at hP1
  obtain ⟨hP, hD⟩ := va_join (wr := (wL q cq o9 co (VO (kX1_printedLength (xs (i + 1))) V9 ((fX1_printedLength T P z (xs (i + 1))).1).toInt64) T R S X M ((fX1_printedLength T P z (xs (i + 1))).2.1) (nI n) h (nI k) w f d v (nI (fX1_printedLength T P z (xs (i + 1))).2.2))) (w1 := (wM qm cm T R S X (nI n) h (nI k) ((fX2_printedLength T (xs (i + 1))).2) (nI a) o)) hP hD [9, 10, 11, 12, 13] [0, 1, 2, 3, 4, 5, 6, 7, 8] rfl rfl (by decide) (by decide) hk1 hFc hP1 hD1
  generalize H1 = H at hP hS ⊢
  have hP : va_P D vwCl (wW q cq o9 co qm cm (VO (kX1_printedLength (xs (i + 1))) V9 ((fX1_printedLength T P z (xs (i + 1))).1).toInt64) T R S X M ((fX1_printedLength T P z (xs (i + 1))).2.1) (nI n) h (nI k) w f d v (nI (fX1_printedLength T P z (xs (i + 1))).2.2) T R S X (nI n) h (nI k) ((fX2_printedLength T (xs (i + 1))).2) (nI a) o) H := hP
  have hD : va_D (fun q : Nat => s.heap.size ≤ q) (wW q cq o9 co qm cm (VO (kX1_printedLength (xs (i + 1))) V9 ((fX1_printedLength T P z (xs (i + 1))).1).toInt64) T R S X M ((fX1_printedLength T P z (xs (i + 1))).2.1) (nI n) h (nI k) w f d v (nI (fX1_printedLength T P z (xs (i + 1))).2.2) T R S X (nI n) h (nI k) ((fX2_printedLength T (xs (i + 1))).2) (nI a) o) := hD
  subst r9
  have he := e_printedLength hT P z (xs (i + 1))
  refine lv_istore (lv' := [(6, .int ((fX2_printedLength T (xs (i + 1))).1)), (5, .int (cd1 (kX1_printedLength (xs (i + 1))))), (0, .ref b), (1, .ref (q 0)), (2, .ref (qm 0)), (3, .ref o9), (4, .int (nI i))]) hx hb dL_law_1231 hl (by decide) rfl (fun ls hl => ?_)
  refine lv_aload_n hx hb dL_law_1233 rfl (lv_at hl 4 rfl) ?_
  have hPc := hP.sub (ws' := (wM qm cm T R S X (nI (n)) h (nI (k)) ((fX2_printedLength T (xs (i + 1))).2) (nI (a)) o)) [9, 10, 11, 12, 13] rfl
  have hKc := hK.sub (tys' := (tyM cm)) [7, 8, 9, 10] rfl
  refine vp_callSi (va_Run.run (va_runV (As := []) (rest := []) ⟨hx, hb, hml, hown, hts⟩ (c_X2_thrown l D qm cm T R S X (nI (n)) h (nI (k)) ((fX2_printedLength T (xs (i + 1))).2) (nI (a)) o) (cwV 0 hts gL_law_X2_thrown rfl rfl rfl (by decide +kernel) ⟨Nat.le_of_ble_eq_true rfl, Nat.le_of_ble_eq_true rfl⟩) ⟨fun a U g mk z => ⟨z.1, z.2.1, va_K.moved (u := U) (U := U.calling g mk a) (Vm.Alike.refl U.vm) z.2.2.1, z.2.2.2.blind g mk a⟩, va_recv hKc hPc (ci := 2) (q0 := 0) rfl rfl, fun U hU hW => ⟨rfl, by rw [hU]; exact hPc, va_K.moved hW.alike hKc, hE.at0 hS hU hW⟩⟩ rfl rfl hl.1 rfl (lv_room (Nat.le_of_ble_eq_true rfl)) dL_law_1234 ⟨(by show cells + 1 ≤ 1049; omega), (by show slots + 6 ≤ 8580; omega)⟩)) (fun r9 hr9 => ?_)
  subst r9
  refine lv_iload hx hb dL_law_1237 (lv_at hl 1 rfl) ?_
  have halt := he
  have hth : ((fX2_printedLength T (xs (i + 1))).2) = cd1 (kX1_printedLength (xs (i + 1))) := by
    rcases halt with ⟨h1, h2, h3⟩ | ⟨h1, h2⟩ <;> (rw [h1, h2]; rfl)
  have hval : (kX1_printedLength (xs (i + 1))) = 0 → (fX1_printedLength T P z (xs (i + 1))).1 = (fX2_printedLength T (xs (i + 1))).1 := by
    intro h0
    rcases halt with ⟨h1, h2, h3⟩ | ⟨h1, h2⟩
    · exact h3
    · rw [h1] at h0; exact absurd h0 (by decide)
  refine lv_icmp_eq (tgt := 1244) hx hb dL_law_1239 (by decide) (fun c1 => ?_) (fun c1 => absurd (show fX2_thrown ((fX2_printedLength T (xs (i + 1))).2) = cd1 (kX1_printedLength (xs (i + 1))) from hth) c1)
  refine lv_iload hx hb dL_law_1244 (lv_at hl 1 rfl) ?_
  have kend : W p l e room_1 s m #[Value.ref b] below meth c H locs (cells + 1) (slots + 6) Q (F0 m 1261 ls []) := by
    refine lv_goto (tgt := 1659) hx hb dL_law_1261 (by decide) ?_
    exact kk ⟨T, R, S, X, M, ((fX1_printedLength T P z (xs (i + 1))).2.1), (n), (k), ((fX1_printedLength T P z (xs (i + 1))).2.2), (a), h, w, f, d, v, ((fX2_printedLength T (xs (i + 1))).2), o, (VO (kX1_printedLength (xs (i + 1))) V9 ((fX1_printedLength T P z (xs (i + 1))).1).toInt64)⟩ ⟨hT, hR, hS9, hn, hk9, pch_len hP9 z (xs (i + 1))⟩ H _ hP hD hS ls (lv_sub hl [2, 3, 4, 5, 6] rfl)
  refine lv_if_ne (tgt := 1261) hx hb dL_law_1246 (by decide) (fun c2 => kend) (fun c2 => ?_)
  have hK0 : (kX1_printedLength (xs (i + 1))) = 0 := cd1_0 c2
  have hV0 : VO (kX1_printedLength (xs (i + 1))) V9 ((fX1_printedLength T P z (xs (i + 1))).1).toInt64 = vp_updL V9 0 ((fX1_printedLength T P z (xs (i + 1))).1).toInt64 := if_pos hK0
  refine lv_aload_n hx hb dL_law_1249 rfl (lv_at hl 5 rfl) ?_
  refine lv_iconst (v := 0) hx hb dL_law_1250 (by decide) ?_
  refine va_lald hx hb hK hP 0 0 rfl rfl (i := 0) (vp_in_nI (n := 0) (N := 1) (by decide) (by decide)) dL_law_1251 ?_
  refine lv_isL (((fX1_printedLength T P z (xs (i + 1))).1).toInt64) (by rw [hV0]; rfl) ?_
  refine lv_iload hx hb dL_law_1252 (lv_at hl 0 rfl) ?_
  refine lv_i2l hx hb dL_law_1254 rfl ?_
  rw [hval hK0]
  refine W.lcmp hx hb dL_law_1255 ?_
  exact lv_if_eq (tgt := 1261) hx hb dL_law_1256 (by decide) (fun c3 => kend) (fun c3 => absurd (lg_self _) c3)
set_option maxHeartbeats 4000000 in
set_option maxRecDepth 100000 in
theorem k_printedLetter {p : Program} {l : Launch} (hst : l.stackTraces = false) {e : Env} {s : State} {m : MethodId} {below : List Frame} {meth : Method} {c : Code} {b L : Nat} {xs : Nat → Int32} (hL : L ≤ 2560) (C0 : lw_At p s m meth c b L xs) (hE : envE (fun q : Nat => s.heap.size ≤ q) s) {D : va_G} {q : Nat → Nat} {cq : Nat → ClassId} {o9 : Nat} {co : ClassId} {qm : Nat → Nat} {cm : Nat → ClassId} (hK : va_K D vwCl (tyA cq co cm) s) (σ : LwS) (hok : okS σ) (H : Heap) (locs : List Loc) (hP : va_P D vwCl (wA q cq o9 co qm cm σ) H) (hD : va_D (fun q : Nat => s.heap.size ≤ q) (wA q cq o9 co qm cm σ)) (hS : va_S (fun q : Nat => s.heap.size ≤ q) s.heap H locs) (i : Nat) (hi : i + 5 ≤ L) (ls : Array Slot) (hl : lv_has ls 7 (lvA b q o9 qm i)) {cells slots : Nat} (hc : cells + 1 ≤ 1049) (hs : slots + 6 ≤ 8580) {Q : State → Prop} (kk : ∀ σ2 : LwS, okS σ2 → ∀ (H2 : Heap) (locs2 : List Loc), va_P D vwCl (wA q cq o9 co qm cm σ2) H2 → va_D (fun q : Nat => s.heap.size ≤ q) (wA q cq o9 co qm cm σ2) → va_S (fun q : Nat => s.heap.size ≤ q) s.heap H2 locs2 → ∀ ls2 : Array Slot, lv_has ls2 7 (lvA b q o9 qm i) → W p l e room_1 s m #[Value.ref b] below meth c H2 locs2 (cells + 1) (slots + 6) Q (F0 m 1659 ls2 [])) : W p l e room_1 s m #[Value.ref b] below meth c H locs cells slots Q (F0 m 1264 ls []) := by
  obtain ⟨hx, hb, hr, hml, hown, hts, hX, hbl, hlocks, hgv⟩ := C0
  have hown : s.vm.findClass RL = some m.cls := hown
  have hts : ∀ w ∈ wsL_law, w.before #[Value.ref b] s = true := fun w hw => hts w (wsL_law_in w hw)
  have hA : ∀ q : Nat, s.heap.size ≤ q → (fun q : Nat => s.heap.size ≤ q) q := fun _ h => h
  have hbA : ¬ (fun q : Nat => s.heap.size ≤ q) b := Nat.not_le.mpr hbl
  obtain ⟨T, R, S, X, M, P, n, k, z, a, h, w, f, d, v, th, o, V9⟩ := σ
  obtain ⟨hT, hR, hS9, hn, hk9, hP9⟩ := hok
  dsimp only at hT hR hS9 hn hk9 hP9
  have hP : va_P D vwCl (wW q cq o9 co qm cm V9 T R S X M P (nI n) h (nI k) w f d v (nI z) T R S X (nI n) h (nI k) th (nI a) o) H := hP
  have hD : va_D (fun q : Nat => s.heap.size ≤ q) (wW q cq o9 co qm cm V9 T R S X M P (nI n) h (nI k) w f d v (nI z) T R S X (nI n) h (nI k) th (nI a) o) := hD
  refine lv_aload_n hx hb dL_law_1264 rfl (lv_at hl 1 rfl) ?_
  refine lv_aload_n hx hb dL_law_1265 rfl (lv_at hl 0 rfl) ?_
  refine lv_iload hx hb dL_law_1266 (lv_at hl 4 rfl) ?_
  refine lv_iconst (v := 1) hx hb dL_law_1268 (by decide) ?_
  refine lv_iadd hx hb dL_law_1269 ?_
  refine lv_is (nI (i + 1)) (nI_add i 1) ?_
  refine va_sld hx hb hX hbl hbA hS (i := nI (i + 1)) (vp_in_nI (by omega) (by omega)) dL_law_1270 ?_
  refine lv_is (xs (i + 1)) (by rw [nI_clamp (by omega)]) ?_
  refine lv_aload_n hx hb dL_law_1271 rfl (lv_at hl 0 rfl) ?_
  refine lv_iload hx hb dL_law_1272 (lv_at hl 4 rfl) ?_
  refine lv_iconst (v := 2) hx hb dL_law_1274 (by decide) ?_
  refine lv_iadd hx hb dL_law_1275 ?_
  refine lv_is (nI (i + 2)) (nI_add i 2) ?_
  refine va_sld hx hb hX hbl hbA hS (i := nI (i + 2)) (vp_in_nI (by omega) (by omega)) dL_law_1276 ?_
  refine lv_is (xs (i + 2)) (by rw [nI_clamp (by omega)]) ?_
  refine lv_aload_n hx hb dL_law_1277 rfl (lv_at hl 3 rfl) ?_
  have hPc := hP.sub (ws' := (wL q cq o9 co V9 T R S X M P (nI n) h (nI k) w f d v (nI z))) [0, 1, 2, 3, 4, 5, 6, 7, 8] rfl
  have hKc := hK.sub (tys' := (tyL cq co)) [0, 1, 2, 3, 4, 5, 6] rfl
  have hDc := hD.sub (ws' := (wL q cq o9 co V9 T R S X M P (nI n) h (nI k) w f d v (nI z))) [0, 1, 2, 3, 4, 5, 6, 7, 8] (by decide) rfl
  have hFc := va_free (wc := (wL q cq o9 co V9 T R S X M P (nI n) h (nI k) w f d v (nI z))) hD hS hA [0, 1, 2, 3, 4, 5, 6, 7, 8] rfl
  refine va_calli (vx_runSW (As := [.ref (q 0), .int (xs (i + 1)), .int (xs (i + 2)), .ref o9]) (rest := []) ⟨hx, hb, hml, hown, hts⟩ (c_L_printedLetter l hst D q cq o9 co V9 H.size T R S X M P (nI n) h (nI k) w f d v z (xs (i + 1)) (xs (i + 2)) hP9) (vx_cwSW 4 hts gL_law_L_printedLetter rfl rfl rfl (by decide +kernel) ⟨Nat.le_of_ble_eq_true rfl, Nat.le_of_ble_eq_true rfl⟩) ⟨fun a U g mk z => ⟨z.1, z.2.1, z.2.2.1, va_K.moved (u := U) (U := U.calling g mk a) (Vm.Alike.refl U.vm) z.2.2.2.1, z.2.2.2.2.1, z.2.2.2.2.2.blind g mk a⟩, fun U hU hW => ⟨rfl, by rw [hU], by rw [hU]; exact hPc, va_K.moved hW.alike hKc, hDc.weaken (fun _ _ _ _ => trivial), hE.at hS hU hW hFc⟩⟩ rfl rfl hl.1 rfl (lv_room (Nat.le_of_ble_eq_true rfl)) dL_law_1278 ⟨(by show cells + 1 ≤ 1049; omega), (by show slots + 6 ≤ 8580; omega)⟩) hS (fun q _ h => hFc q h) hFc (fun r9 u9 t8 H1 locs ht hvm hw hB hz1 hk1 hS => ?_)
  obtain ⟨hP1, hD1⟩ := hB
  rw [ht] at hP1
  obtain ⟨hP, hD⟩ := va_join (wr := (wM qm cm T R S X (nI n) h (nI k) th (nI a) o)) (w1 := (wL q cq o9 co (VO (kX1_printedLetter T P (xs (i + 1)) (xs (i + 2))) V9 ((fX1_printedLetter T P z (xs (i + 1)) (xs (i + 2))).1).toInt64) T R S X M ((fX1_printedLetter T P z (xs (i + 1)) (xs (i + 2))).2.1) (nI n) h (nI k) w f d v (nI (fX1_printedLetter T P z (xs (i + 1)) (xs (i + 2))).2.2))) hP hD [0, 1, 2, 3, 4, 5, 6, 7, 8] [9, 10, 11, 12, 13] rfl rfl (by decide) (by decide) hk1 hFc hP1 hD1
  have hP := hP.sub (ws' := (wW q cq o9 co qm cm (VO (kX1_printedLetter T P (xs (i + 1)) (xs (i + 2))) V9 ((fX1_printedLetter T P z (xs (i + 1)) (xs (i + 2))).1).toInt64) T R S X M ((fX1_printedLetter T P z (xs (i + 1)) (xs (i + 2))).2.1) (nI n) h (nI k) w f d v (nI (fX1_printedLetter T P z (xs (i + 1)) (xs (i + 2))).2.2) T R S X (nI n) h (nI k) th (nI a) o)) [5, 6, 7, 8, 9, 10, 11, 12, 13, 0, 1, 2, 3, 4] rfl
  have hD := hD.sub (ws' := (wW q cq o9 co qm cm (VO (kX1_printedLetter T P (xs (i + 1)) (xs (i + 2))) V9 ((fX1_printedLetter T P z (xs (i + 1)) (xs (i + 2))).1).toInt64) T R S X M ((fX1_printedLetter T P z (xs (i + 1)) (xs (i + 2))).2.1) (nI n) h (nI k) w f d v (nI (fX1_printedLetter T P z (xs (i + 1)) (xs (i + 2))).2.2) T R S X (nI n) h (nI k) th (nI a) o)) [5, 6, 7, 8, 9, 10, 11, 12, 13, 0, 1, 2, 3, 4] (by decide) rfl
  generalize H1 = H at hP hS ⊢
  subst r9
  refine lv_istore (lv' := [(5, .int (cd1 (kX1_printedLetter T P (xs (i + 1)) (xs (i + 2))))), (0, .ref b), (1, .ref (q 0)), (2, .ref (qm 0)), (3, .ref o9), (4, .int (nI i))]) hx hb dL_law_1281 hl (by decide) rfl (fun ls hl => ?_)
  refine lv_aload_n hx hb dL_law_1283 rfl (lv_at hl 3 rfl) ?_
  refine lv_aload_n hx hb dL_law_1284 rfl (lv_at hl 1 rfl) ?_
  refine lv_iload hx hb dL_law_1285 (lv_at hl 5 rfl) ?_
  refine lv_iconst (v := 1) hx hb dL_law_1287 (by decide) ?_
  refine lv_iadd hx hb dL_law_1288 ?_
  refine lv_is (nI (i + 1)) (nI_add i 1) ?_
  refine va_sld hx hb hX hbl hbA hS (i := nI (i + 1)) (vp_in_nI (by omega) (by omega)) dL_law_1289 ?_
  refine lv_is (xs (i + 1)) (by rw [nI_clamp (by omega)]) ?_
  refine lv_aload_n hx hb dL_law_1290 rfl (lv_at hl 1 rfl) ?_
  refine lv_iload hx hb dL_law_1291 (lv_at hl 5 rfl) ?_
  refine lv_iconst (v := 2) hx hb dL_law_1293 (by decide) ?_
  refine lv_iadd hx hb dL_law_1294 ?_
  refine lv_is (nI (i + 2)) (nI_add i 2) ?_
  refine va_sld hx hb hX hbl hbA hS (i := nI (i + 2)) (vp_in_nI (by omega) (by omega)) dL_law_1295 ?_
  refine lv_is (xs (i + 2)) (by rw [nI_clamp (by omega)]) ?_
  have hPc := hP.sub (ws' := (wM qm cm T R S X (nI n) h (nI k) th (nI a) o)) [9, 10, 11, 12, 13] rfl
  have hKc := hK.sub (tys' := (tyM cm)) [7, 8, 9, 10] rfl
  have hDc := hD.sub (ws' := (wM qm cm T R S X (nI n) h (nI k) th (nI a) o)) [9, 10, 11, 12, 13] (by decide) rfl
  have hFc := va_free (wc := (wM qm cm T R S X (nI n) h (nI k) th (nI a) o)) hD hS hA [9, 10, 11, 12, 13] rfl
  refine va_calli (va_runV (As := [.int (xs (i + 1)), .int (xs (i + 2))]) (rest := []) ⟨hx, hb, hml, hown, hts⟩ (c_X2_printedLetter l D qm cm H.size T R S X (nI n) h (nI k) th (nI a) o (xs (i + 1)) (xs (i + 2))) (cwV 2 hts gL_law_X2_printedLetter rfl rfl rfl (by decide +kernel) ⟨Nat.le_of_ble_eq_true rfl, Nat.le_of_ble_eq_true rfl⟩) ⟨fun a U g mk z => ⟨z.1, z.2.1, z.2.2.1, va_K.moved (u := U) (U := U.calling g mk a) (Vm.Alike.refl U.vm) z.2.2.2.1, z.2.2.2.2.1, z.2.2.2.2.2.blind g mk a⟩, va_recv hKc hPc (ci := 2) (q0 := 0) rfl rfl, fun U hU hW => ⟨rfl, by rw [hU], by rw [hU]; exact hPc, va_K.moved hW.alike hKc, hDc.weaken (fun _ _ _ _ => trivial), hE.at hS hU hW hFc⟩⟩ rfl rfl hl.1 rfl (lv_room (Nat.le_of_ble_eq_true rfl)) dL_law_1296 ⟨(by show cells + 1 ≤ 1049; omega), (by show slots + 6 ≤ 8580; omega)⟩) hS (fun q _ h => hFc q h) hFc (fun r9 u9 t8 H1 locs ht hvm hw hB hz1 hk1 hS => ?_)
  obtain ⟨hP1, hD1⟩ := hB
  rw [ht] at hP1
  obtain ⟨hP, hD⟩ := va_join (wr := (wL q cq o9 co (VO (kX1_printedLetter T P (xs (i + 1)) (xs (i + 2))) V9 ((fX1_printedLetter T P z (xs (i + 1)) (xs (i + 2))).1).toInt64) T R S X M ((fX1_printedLetter T P z (xs (i + 1)) (xs (i + 2))).2.1) (nI n) h (nI k) w f d v (nI (fX1_printedLetter T P z (xs (i + 1)) (xs (i + 2))).2.2))) (w1 := (wM qm cm T R S X (nI n) h (nI k) ((fX2_printedLetter T (xs (i + 1)) (xs (i + 2))).2) (nI a) o)) hP hD [9, 10, 11, 12, 13] [0, 1, 2, 3, 4, 5, 6, 7, 8] rfl rfl (by decide) (by decide) hk1 hFc hP1 hD1
  generalize H1 = H at hP hS ⊢
  have hP : va_P D vwCl (wW q cq o9 co qm cm (VO (kX1_printedLetter T P (xs (i + 1)) (xs (i + 2))) V9 ((fX1_printedLetter T P z (xs (i + 1)) (xs (i + 2))).1).toInt64) T R S X M ((fX1_printedLetter T P z (xs (i + 1)) (xs (i + 2))).2.1) (nI n) h (nI k) w f d v (nI (fX1_printedLetter T P z (xs (i + 1)) (xs (i + 2))).2.2) T R S X (nI n) h (nI k) ((fX2_printedLetter T (xs (i + 1)) (xs (i + 2))).2) (nI a) o) H := hP
  have hD : va_D (fun q : Nat => s.heap.size ≤ q) (wW q cq o9 co qm cm (VO (kX1_printedLetter T P (xs (i + 1)) (xs (i + 2))) V9 ((fX1_printedLetter T P z (xs (i + 1)) (xs (i + 2))).1).toInt64) T R S X M ((fX1_printedLetter T P z (xs (i + 1)) (xs (i + 2))).2.1) (nI n) h (nI k) w f d v (nI (fX1_printedLetter T P z (xs (i + 1)) (xs (i + 2))).2.2) T R S X (nI n) h (nI k) ((fX2_printedLetter T (xs (i + 1)) (xs (i + 2))).2) (nI a) o) := hD
  subst r9
  have he := e_printedLetter hT P z (xs (i + 1)) (xs (i + 2))
  refine lv_istore (lv' := [(6, .int ((fX2_printedLetter T (xs (i + 1)) (xs (i + 2))).1)), (5, .int (cd1 (kX1_printedLetter T P (xs (i + 1)) (xs (i + 2))))), (0, .ref b), (1, .ref (q 0)), (2, .ref (qm 0)), (3, .ref o9), (4, .int (nI i))]) hx hb dL_law_1299 hl (by decide) rfl (fun ls hl => ?_)
  refine lv_aload_n hx hb dL_law_1301 rfl (lv_at hl 4 rfl) ?_
  have hPc := hP.sub (ws' := (wM qm cm T R S X (nI (n)) h (nI (k)) ((fX2_printedLetter T (xs (i + 1)) (xs (i + 2))).2) (nI (a)) o)) [9, 10, 11, 12, 13] rfl
  have hKc := hK.sub (tys' := (tyM cm)) [7, 8, 9, 10] rfl
  refine vp_callSi (va_Run.run (va_runV (As := []) (rest := []) ⟨hx, hb, hml, hown, hts⟩ (c_X2_thrown l D qm cm T R S X (nI (n)) h (nI (k)) ((fX2_printedLetter T (xs (i + 1)) (xs (i + 2))).2) (nI (a)) o) (cwV 0 hts gL_law_X2_thrown rfl rfl rfl (by decide +kernel) ⟨Nat.le_of_ble_eq_true rfl, Nat.le_of_ble_eq_true rfl⟩) ⟨fun a U g mk z => ⟨z.1, z.2.1, va_K.moved (u := U) (U := U.calling g mk a) (Vm.Alike.refl U.vm) z.2.2.1, z.2.2.2.blind g mk a⟩, va_recv hKc hPc (ci := 2) (q0 := 0) rfl rfl, fun U hU hW => ⟨rfl, by rw [hU]; exact hPc, va_K.moved hW.alike hKc, hE.at0 hS hU hW⟩⟩ rfl rfl hl.1 rfl (lv_room (Nat.le_of_ble_eq_true rfl)) dL_law_1302 ⟨(by show cells + 1 ≤ 1049; omega), (by show slots + 6 ≤ 8580; omega)⟩)) (fun r9 hr9 => ?_)
  subst r9
  refine lv_iload hx hb dL_law_1305 (lv_at hl 1 rfl) ?_
  have halt := he
  have hth : ((fX2_printedLetter T (xs (i + 1)) (xs (i + 2))).2) = cd1 (kX1_printedLetter T P (xs (i + 1)) (xs (i + 2))) := by
    rcases halt with ⟨h1, h2, h3⟩ | ⟨h1, h2⟩ <;> (rw [h1, h2]; rfl)
  have hval : (kX1_printedLetter T P (xs (i + 1)) (xs (i + 2))) = 0 → (fX1_printedLetter T P z (xs (i + 1)) (xs (i + 2))).1 = (fX2_printedLetter T (xs (i + 1)) (xs (i + 2))).1 := by
    intro h0
    rcases halt with ⟨h1, h2, h3⟩ | ⟨h1, h2⟩
    · exact h3
    · rw [h1] at h0; exact absurd h0 (by decide)
  refine lv_icmp_eq (tgt := 1312) hx hb dL_law_1307 (by decide) (fun c1 => ?_) (fun c1 => absurd (show fX2_thrown ((fX2_printedLetter T (xs (i + 1)) (xs (i + 2))).2) = cd1 (kX1_printedLetter T P (xs (i + 1)) (xs (i + 2))) from hth) c1)
  refine lv_iload hx hb dL_law_1312 (lv_at hl 1 rfl) ?_
  have kend : W p l e room_1 s m #[Value.ref b] below meth c H locs (cells + 1) (slots + 6) Q (F0 m 1329 ls []) := by
    refine lv_goto (tgt := 1659) hx hb dL_law_1329 (by decide) ?_
    exact kk ⟨T, R, S, X, M, ((fX1_printedLetter T P z (xs (i + 1)) (xs (i + 2))).2.1), (n), (k), ((fX1_printedLetter T P z (xs (i + 1)) (xs (i + 2))).2.2), (a), h, w, f, d, v, ((fX2_printedLetter T (xs (i + 1)) (xs (i + 2))).2), o, (VO (kX1_printedLetter T P (xs (i + 1)) (xs (i + 2))) V9 ((fX1_printedLetter T P z (xs (i + 1)) (xs (i + 2))).1).toInt64)⟩ ⟨hT, hR, hS9, hn, hk9, pch_let hP9 z (xs (i + 1)) (xs (i + 2))⟩ H _ hP hD hS ls (lv_sub hl [2, 3, 4, 5, 6] rfl)
  refine lv_if_ne (tgt := 1329) hx hb dL_law_1314 (by decide) (fun c2 => kend) (fun c2 => ?_)
  have hK0 : (kX1_printedLetter T P (xs (i + 1)) (xs (i + 2))) = 0 := cd1_0 c2
  have hV0 : VO (kX1_printedLetter T P (xs (i + 1)) (xs (i + 2))) V9 ((fX1_printedLetter T P z (xs (i + 1)) (xs (i + 2))).1).toInt64 = vp_updL V9 0 ((fX1_printedLetter T P z (xs (i + 1)) (xs (i + 2))).1).toInt64 := if_pos hK0
  refine lv_aload_n hx hb dL_law_1317 rfl (lv_at hl 5 rfl) ?_
  refine lv_iconst (v := 0) hx hb dL_law_1318 (by decide) ?_
  refine va_lald hx hb hK hP 0 0 rfl rfl (i := 0) (vp_in_nI (n := 0) (N := 1) (by decide) (by decide)) dL_law_1319 ?_
  refine lv_isL (((fX1_printedLetter T P z (xs (i + 1)) (xs (i + 2))).1).toInt64) (by rw [hV0]; rfl) ?_
  refine lv_iload hx hb dL_law_1320 (lv_at hl 0 rfl) ?_
  refine lv_i2l hx hb dL_law_1322 rfl ?_
  rw [hval hK0]
  refine W.lcmp hx hb dL_law_1323 ?_
  exact lv_if_eq (tgt := 1329) hx hb dL_law_1324 (by decide) (fun c3 => kend) (fun c3 => absurd (lg_self _) c3)
set_option maxHeartbeats 4000000 in
set_option maxRecDepth 100000 in
theorem k_distanceByTrying {p : Program} {l : Launch} (hst : l.stackTraces = false) {e : Env} {s : State} {m : MethodId} {below : List Frame} {meth : Method} {c : Code} {b L : Nat} {xs : Nat → Int32} (hL : L ≤ 2560) (C0 : lw_At p s m meth c b L xs) (hE : envE (fun q : Nat => s.heap.size ≤ q) s) {D : va_G} {q : Nat → Nat} {cq : Nat → ClassId} {o9 : Nat} {co : ClassId} {qm : Nat → Nat} {cm : Nat → ClassId} (hK : va_K D vwCl (tyA cq co cm) s) (σ : LwS) (hok : okS σ) (H : Heap) (locs : List Loc) (hP : va_P D vwCl (wA q cq o9 co qm cm σ) H) (hD : va_D (fun q : Nat => s.heap.size ≤ q) (wA q cq o9 co qm cm σ)) (hS : va_S (fun q : Nat => s.heap.size ≤ q) s.heap H locs) (i : Nat) (hi : i + 5 ≤ L) (ls : Array Slot) (hl : lv_has ls 7 (lvA b q o9 qm i)) {cells slots : Nat} (hc : cells + 1 ≤ 1049) (hs : slots + 6 ≤ 8580) {Q : State → Prop} (kk : ∀ σ2 : LwS, okS σ2 → ∀ (H2 : Heap) (locs2 : List Loc), va_P D vwCl (wA q cq o9 co qm cm σ2) H2 → va_D (fun q : Nat => s.heap.size ≤ q) (wA q cq o9 co qm cm σ2) → va_S (fun q : Nat => s.heap.size ≤ q) s.heap H2 locs2 → ∀ ls2 : Array Slot, lv_has ls2 7 (lvA b q o9 qm i) → W p l e room_1 s m #[Value.ref b] below meth c H2 locs2 (cells + 1) (slots + 6) Q (F0 m 1659 ls2 [])) : W p l e room_1 s m #[Value.ref b] below meth c H locs cells slots Q (F0 m 1332 ls []) := by
  obtain ⟨hx, hb, hr, hml, hown, hts, hX, hbl, hlocks, hgv⟩ := C0
  have hown : s.vm.findClass RL = some m.cls := hown
  have hts : ∀ w ∈ wsL_law, w.before #[Value.ref b] s = true := fun w hw => hts w (wsL_law_in w hw)
  have hA : ∀ q : Nat, s.heap.size ≤ q → (fun q : Nat => s.heap.size ≤ q) q := fun _ h => h
  have hbA : ¬ (fun q : Nat => s.heap.size ≤ q) b := Nat.not_le.mpr hbl
  obtain ⟨T, R, S, X, M, P, n, k, z, a, h, w, f, d, v, th, o, V9⟩ := σ
  obtain ⟨hT, hR, hS9, hn, hk9, hP9⟩ := hok
  dsimp only at hT hR hS9 hn hk9 hP9
  have hP : va_P D vwCl (wW q cq o9 co qm cm V9 T R S X M P (nI n) h (nI k) w f d v (nI z) T R S X (nI n) h (nI k) th (nI a) o) H := hP
  have hD : va_D (fun q : Nat => s.heap.size ≤ q) (wW q cq o9 co qm cm V9 T R S X M P (nI n) h (nI k) w f d v (nI z) T R S X (nI n) h (nI k) th (nI a) o) := hD
  refine lv_aload_n hx hb dL_law_1332 rfl (lv_at hl 1 rfl) ?_
  refine lv_aload_n hx hb dL_law_1333 rfl (lv_at hl 0 rfl) ?_
  refine lv_iload hx hb dL_law_1334 (lv_at hl 4 rfl) ?_
  refine lv_iconst (v := 1) hx hb dL_law_1336 (by decide) ?_
  refine lv_iadd hx hb dL_law_1337 ?_
  refine lv_is (nI (i + 1)) (nI_add i 1) ?_
  refine va_sld hx hb hX hbl hbA hS (i := nI (i + 1)) (vp_in_nI (by omega) (by omega)) dL_law_1338 ?_
  refine lv_is (xs (i + 1)) (by rw [nI_clamp (by omega)]) ?_
  refine lv_aload_n hx hb dL_law_1339 rfl (lv_at hl 3 rfl) ?_
  have hPc := hP.sub (ws' := (wL q cq o9 co V9 T R S X M P (nI n) h (nI k) w f d v (nI z))) [0, 1, 2, 3, 4, 5, 6, 7, 8] rfl
  have hKc := hK.sub (tys' := (tyL cq co)) [0, 1, 2, 3, 4, 5, 6] rfl
  have hDc := hD.sub (ws' := (wL q cq o9 co V9 T R S X M P (nI n) h (nI k) w f d v (nI z))) [0, 1, 2, 3, 4, 5, 6, 7, 8] (by decide) rfl
  have hFc := va_free (wc := (wL q cq o9 co V9 T R S X M P (nI n) h (nI k) w f d v (nI z))) hD hS hA [0, 1, 2, 3, 4, 5, 6, 7, 8] rfl
  refine va_calli (vx_runSW (As := [.ref (q 0), .int (xs (i + 1)), .ref o9]) (rest := []) ⟨hx, hb, hml, hown, hts⟩ (c_L_distanceByTrying l hst D q cq o9 co V9 H.size T R S X M P (nI n) h (nI k) w f d v (nI z) (xs (i + 1))) (vx_cwSW 3 hts gL_law_L_distanceByTrying rfl rfl rfl (by decide +kernel) ⟨Nat.le_of_ble_eq_true rfl, Nat.le_of_ble_eq_true rfl⟩) ⟨fun a U g mk z => ⟨z.1, z.2.1, z.2.2.1, va_K.moved (u := U) (U := U.calling g mk a) (Vm.Alike.refl U.vm) z.2.2.2.1, z.2.2.2.2.1, z.2.2.2.2.2.blind g mk a⟩, fun U hU hW => ⟨rfl, by rw [hU], by rw [hU]; exact hPc, va_K.moved hW.alike hKc, hDc.weaken (fun _ _ _ _ => trivial), hE.at hS hU hW hFc⟩⟩ rfl rfl hl.1 rfl (lv_room (Nat.le_of_ble_eq_true rfl)) dL_law_1340 ⟨(by show cells + 1 ≤ 1049; omega), (by show slots + 6 ≤ 8580; omega)⟩) hS (fun q _ h => hFc q h) hFc (fun r9 u9 t8 H1 locs ht hvm hw hB hz1 hk1 hS => ?_)
  obtain ⟨hP1, hD1⟩ := hB
  rw [ht] at hP1
  obtain ⟨hP, hD⟩ := va_join (wr := (wM qm cm T R S X (nI n) h (nI k) th (nI a) o)) (w1 := (wL q cq o9 co (VO (kX1_distanceByTrying (xs (i + 1))) V9 (fX1_distanceByTrying T (xs (i + 1))).toInt64) T R S X M P (nI n) h (nI k) w f d v (nI z))) hP hD [0, 1, 2, 3, 4, 5, 6, 7, 8] [9, 10, 11, 12, 13] rfl rfl (by decide) (by decide) hk1 hFc hP1 hD1
  have hP := hP.sub (ws' := (wW q cq o9 co qm cm (VO (kX1_distanceByTrying (xs (i + 1))) V9 (fX1_distanceByTrying T (xs (i + 1))).toInt64) T R S X M P (nI n) h (nI k) w f d v (nI z) T R S X (nI n) h (nI k) th (nI a) o)) [5, 6, 7, 8, 9, 10, 11, 12, 13, 0, 1, 2, 3, 4] rfl
  have hD := hD.sub (ws' := (wW q cq o9 co qm cm (VO (kX1_distanceByTrying (xs (i + 1))) V9 (fX1_distanceByTrying T (xs (i + 1))).toInt64) T R S X M P (nI n) h (nI k) w f d v (nI z) T R S X (nI n) h (nI k) th (nI a) o)) [5, 6, 7, 8, 9, 10, 11, 12, 13, 0, 1, 2, 3, 4] (by decide) rfl
  generalize H1 = H at hP hS ⊢
  subst r9
  refine lv_istore (lv' := [(5, .int (cd1 (kX1_distanceByTrying (xs (i + 1))))), (0, .ref b), (1, .ref (q 0)), (2, .ref (qm 0)), (3, .ref o9), (4, .int (nI i))]) hx hb dL_law_1343 hl (by decide) rfl (fun ls hl => ?_)
  refine lv_aload_n hx hb dL_law_1345 rfl (lv_at hl 3 rfl) ?_
  refine lv_aload_n hx hb dL_law_1346 rfl (lv_at hl 1 rfl) ?_
  refine lv_iload hx hb dL_law_1347 (lv_at hl 5 rfl) ?_
  refine lv_iconst (v := 1) hx hb dL_law_1349 (by decide) ?_
  refine lv_iadd hx hb dL_law_1350 ?_
  refine lv_is (nI (i + 1)) (nI_add i 1) ?_
  refine va_sld hx hb hX hbl hbA hS (i := nI (i + 1)) (vp_in_nI (by omega) (by omega)) dL_law_1351 ?_
  refine lv_is (xs (i + 1)) (by rw [nI_clamp (by omega)]) ?_
  have hPc := hP.sub (ws' := (wM qm cm T R S X (nI n) h (nI k) th (nI a) o)) [9, 10, 11, 12, 13] rfl
  have hKc := hK.sub (tys' := (tyM cm)) [7, 8, 9, 10] rfl
  have hDc := hD.sub (ws' := (wM qm cm T R S X (nI n) h (nI k) th (nI a) o)) [9, 10, 11, 12, 13] (by decide) rfl
  have hFc := va_free (wc := (wM qm cm T R S X (nI n) h (nI k) th (nI a) o)) hD hS hA [9, 10, 11, 12, 13] rfl
  refine va_calli (va_runV (As := [.int (xs (i + 1))]) (rest := []) ⟨hx, hb, hml, hown, hts⟩ (c_X2_distanceByTrying l D qm cm H.size T R S X (nI n) h (nI k) th (nI a) o (xs (i + 1))) (cwV 1 hts gL_law_X2_distanceByTrying rfl rfl rfl (by decide +kernel) ⟨Nat.le_of_ble_eq_true rfl, Nat.le_of_ble_eq_true rfl⟩) ⟨fun a U g mk z => ⟨z.1, z.2.1, z.2.2.1, va_K.moved (u := U) (U := U.calling g mk a) (Vm.Alike.refl U.vm) z.2.2.2.1, z.2.2.2.2.1, z.2.2.2.2.2.blind g mk a⟩, va_recv hKc hPc (ci := 2) (q0 := 0) rfl rfl, fun U hU hW => ⟨rfl, by rw [hU], by rw [hU]; exact hPc, va_K.moved hW.alike hKc, hDc.weaken (fun _ _ _ _ => trivial), hE.at hS hU hW hFc⟩⟩ rfl rfl hl.1 rfl (lv_room (Nat.le_of_ble_eq_true rfl)) dL_law_1352 ⟨(by show cells + 1 ≤ 1049; omega), (by show slots + 6 ≤ 8580; omega)⟩) hS (fun q _ h => hFc q h) hFc (fun r9 u9 t8 H1 locs ht hvm hw hB hz1 hk1 hS => ?_)
  obtain ⟨hP1, hD1⟩ := hB
  rw [ht] at hP1
  obtain ⟨hP, hD⟩ := va_join (wr := (wL q cq o9 co (VO (kX1_distanceByTrying (xs (i + 1))) V9 (fX1_distanceByTrying T (xs (i + 1))).toInt64) T R S X M P (nI n) h (nI k) w f d v (nI z))) (w1 := (wM qm cm T R S X (nI n) h (nI k) ((fX2_distanceByTrying T (xs (i + 1))).2) (nI a) o)) hP hD [9, 10, 11, 12, 13] [0, 1, 2, 3, 4, 5, 6, 7, 8] rfl rfl (by decide) (by decide) hk1 hFc hP1 hD1
  generalize H1 = H at hP hS ⊢
  have hP : va_P D vwCl (wW q cq o9 co qm cm (VO (kX1_distanceByTrying (xs (i + 1))) V9 (fX1_distanceByTrying T (xs (i + 1))).toInt64) T R S X M P (nI n) h (nI k) w f d v (nI z) T R S X (nI n) h (nI k) ((fX2_distanceByTrying T (xs (i + 1))).2) (nI a) o) H := hP
  have hD : va_D (fun q : Nat => s.heap.size ≤ q) (wW q cq o9 co qm cm (VO (kX1_distanceByTrying (xs (i + 1))) V9 (fX1_distanceByTrying T (xs (i + 1))).toInt64) T R S X M P (nI n) h (nI k) w f d v (nI z) T R S X (nI n) h (nI k) ((fX2_distanceByTrying T (xs (i + 1))).2) (nI a) o) := hD
  subst r9
  have he := e_distanceByTrying hT (xs (i + 1))
  refine lv_istore (lv' := [(6, .int ((fX2_distanceByTrying T (xs (i + 1))).1)), (5, .int (cd1 (kX1_distanceByTrying (xs (i + 1))))), (0, .ref b), (1, .ref (q 0)), (2, .ref (qm 0)), (3, .ref o9), (4, .int (nI i))]) hx hb dL_law_1355 hl (by decide) rfl (fun ls hl => ?_)
  refine lv_aload_n hx hb dL_law_1357 rfl (lv_at hl 4 rfl) ?_
  have hPc := hP.sub (ws' := (wM qm cm T R S X (nI (n)) h (nI (k)) ((fX2_distanceByTrying T (xs (i + 1))).2) (nI (a)) o)) [9, 10, 11, 12, 13] rfl
  have hKc := hK.sub (tys' := (tyM cm)) [7, 8, 9, 10] rfl
  refine vp_callSi (va_Run.run (va_runV (As := []) (rest := []) ⟨hx, hb, hml, hown, hts⟩ (c_X2_thrown l D qm cm T R S X (nI (n)) h (nI (k)) ((fX2_distanceByTrying T (xs (i + 1))).2) (nI (a)) o) (cwV 0 hts gL_law_X2_thrown rfl rfl rfl (by decide +kernel) ⟨Nat.le_of_ble_eq_true rfl, Nat.le_of_ble_eq_true rfl⟩) ⟨fun a U g mk z => ⟨z.1, z.2.1, va_K.moved (u := U) (U := U.calling g mk a) (Vm.Alike.refl U.vm) z.2.2.1, z.2.2.2.blind g mk a⟩, va_recv hKc hPc (ci := 2) (q0 := 0) rfl rfl, fun U hU hW => ⟨rfl, by rw [hU]; exact hPc, va_K.moved hW.alike hKc, hE.at0 hS hU hW⟩⟩ rfl rfl hl.1 rfl (lv_room (Nat.le_of_ble_eq_true rfl)) dL_law_1358 ⟨(by show cells + 1 ≤ 1049; omega), (by show slots + 6 ≤ 8580; omega)⟩)) (fun r9 hr9 => ?_)
  subst r9
  refine lv_iload hx hb dL_law_1361 (lv_at hl 1 rfl) ?_
  have halt := he
  have hth : ((fX2_distanceByTrying T (xs (i + 1))).2) = cd1 (kX1_distanceByTrying (xs (i + 1))) := by
    rcases halt with ⟨h1, h2, h3⟩ | ⟨h1, h2⟩ <;> (rw [h1, h2]; rfl)
  have hval : (kX1_distanceByTrying (xs (i + 1))) = 0 → (fX1_distanceByTrying T (xs (i + 1))) = (fX2_distanceByTrying T (xs (i + 1))).1 := by
    intro h0
    rcases halt with ⟨h1, h2, h3⟩ | ⟨h1, h2⟩
    · exact h3
    · rw [h1] at h0; exact absurd h0 (by decide)
  refine lv_icmp_eq (tgt := 1368) hx hb dL_law_1363 (by decide) (fun c1 => ?_) (fun c1 => absurd (show fX2_thrown ((fX2_distanceByTrying T (xs (i + 1))).2) = cd1 (kX1_distanceByTrying (xs (i + 1))) from hth) c1)
  refine lv_iload hx hb dL_law_1368 (lv_at hl 1 rfl) ?_
  have kend : W p l e room_1 s m #[Value.ref b] below meth c H locs (cells + 1) (slots + 6) Q (F0 m 1385 ls []) := by
    refine lv_goto (tgt := 1659) hx hb dL_law_1385 (by decide) ?_
    exact kk ⟨T, R, S, X, M, P, (n), (k), (z), (a), h, w, f, d, v, ((fX2_distanceByTrying T (xs (i + 1))).2), o, (VO (kX1_distanceByTrying (xs (i + 1))) V9 (fX1_distanceByTrying T (xs (i + 1))).toInt64)⟩ ⟨hT, hR, hS9, hn, hk9, hP9⟩ H _ hP hD hS ls (lv_sub hl [2, 3, 4, 5, 6] rfl)
  refine lv_if_ne (tgt := 1385) hx hb dL_law_1370 (by decide) (fun c2 => kend) (fun c2 => ?_)
  have hK0 : (kX1_distanceByTrying (xs (i + 1))) = 0 := cd1_0 c2
  have hV0 : VO (kX1_distanceByTrying (xs (i + 1))) V9 (fX1_distanceByTrying T (xs (i + 1))).toInt64 = vp_updL V9 0 (fX1_distanceByTrying T (xs (i + 1))).toInt64 := if_pos hK0
  refine lv_aload_n hx hb dL_law_1373 rfl (lv_at hl 5 rfl) ?_
  refine lv_iconst (v := 0) hx hb dL_law_1374 (by decide) ?_
  refine va_lald hx hb hK hP 0 0 rfl rfl (i := 0) (vp_in_nI (n := 0) (N := 1) (by decide) (by decide)) dL_law_1375 ?_
  refine lv_isL ((fX1_distanceByTrying T (xs (i + 1))).toInt64) (by rw [hV0]; rfl) ?_
  refine lv_iload hx hb dL_law_1376 (lv_at hl 0 rfl) ?_
  refine lv_i2l hx hb dL_law_1378 rfl ?_
  rw [hval hK0]
  refine W.lcmp hx hb dL_law_1379 ?_
  exact lv_if_eq (tgt := 1385) hx hb dL_law_1380 (by decide) (fun c3 => kend) (fun c3 => absurd (lg_self _) c3)
set_option maxHeartbeats 4000000 in
set_option maxRecDepth 100000 in
theorem k_distanceBySums {p : Program} {l : Launch} (hst : l.stackTraces = false) {e : Env} {s : State} {m : MethodId} {below : List Frame} {meth : Method} {c : Code} {b L : Nat} {xs : Nat → Int32} (hL : L ≤ 2560) (C0 : lw_At p s m meth c b L xs) (hE : envE (fun q : Nat => s.heap.size ≤ q) s) {D : va_G} {q : Nat → Nat} {cq : Nat → ClassId} {o9 : Nat} {co : ClassId} {qm : Nat → Nat} {cm : Nat → ClassId} (hK : va_K D vwCl (tyA cq co cm) s) (σ : LwS) (hok : okS σ) (H : Heap) (locs : List Loc) (hP : va_P D vwCl (wA q cq o9 co qm cm σ) H) (hD : va_D (fun q : Nat => s.heap.size ≤ q) (wA q cq o9 co qm cm σ)) (hS : va_S (fun q : Nat => s.heap.size ≤ q) s.heap H locs) (i : Nat) (hi : i + 5 ≤ L) (ls : Array Slot) (hl : lv_has ls 7 (lvA b q o9 qm i)) {cells slots : Nat} (hc : cells + 1 ≤ 1049) (hs : slots + 6 ≤ 8580) {Q : State → Prop} (kk : ∀ σ2 : LwS, okS σ2 → ∀ (H2 : Heap) (locs2 : List Loc), va_P D vwCl (wA q cq o9 co qm cm σ2) H2 → va_D (fun q : Nat => s.heap.size ≤ q) (wA q cq o9 co qm cm σ2) → va_S (fun q : Nat => s.heap.size ≤ q) s.heap H2 locs2 → ∀ ls2 : Array Slot, lv_has ls2 7 (lvA b q o9 qm i) → W p l e room_1 s m #[Value.ref b] below meth c H2 locs2 (cells + 1) (slots + 6) Q (F0 m 1659 ls2 [])) : W p l e room_1 s m #[Value.ref b] below meth c H locs cells slots Q (F0 m 1388 ls []) := by
  obtain ⟨hx, hb, hr, hml, hown, hts, hX, hbl, hlocks, hgv⟩ := C0
  have hown : s.vm.findClass RL = some m.cls := hown
  have hts : ∀ w ∈ wsL_law, w.before #[Value.ref b] s = true := fun w hw => hts w (wsL_law_in w hw)
  have hA : ∀ q : Nat, s.heap.size ≤ q → (fun q : Nat => s.heap.size ≤ q) q := fun _ h => h
  have hbA : ¬ (fun q : Nat => s.heap.size ≤ q) b := Nat.not_le.mpr hbl
  obtain ⟨T, R, S, X, M, P, n, k, z, a, h, w, f, d, v, th, o, V9⟩ := σ
  obtain ⟨hT, hR, hS9, hn, hk9, hP9⟩ := hok
  dsimp only at hT hR hS9 hn hk9 hP9
  have hP : va_P D vwCl (wW q cq o9 co qm cm V9 T R S X M P (nI n) h (nI k) w f d v (nI z) T R S X (nI n) h (nI k) th (nI a) o) H := hP
  have hD : va_D (fun q : Nat => s.heap.size ≤ q) (wW q cq o9 co qm cm V9 T R S X M P (nI n) h (nI k) w f d v (nI z) T R S X (nI n) h (nI k) th (nI a) o) := hD
  refine lv_aload_n hx hb dL_law_1388 rfl (lv_at hl 1 rfl) ?_
  refine lv_aload_n hx hb dL_law_1389 rfl (lv_at hl 0 rfl) ?_
  refine lv_iload hx hb dL_law_1390 (lv_at hl 4 rfl) ?_
  refine lv_iconst (v := 1) hx hb dL_law_1392 (by decide) ?_
  refine lv_iadd hx hb dL_law_1393 ?_
  refine lv_is (nI (i + 1)) (nI_add i 1) ?_
  refine va_sld hx hb hX hbl hbA hS (i := nI (i + 1)) (vp_in_nI (by omega) (by omega)) dL_law_1394 ?_
  refine lv_is (xs (i + 1)) (by rw [nI_clamp (by omega)]) ?_
  refine lv_aload_n hx hb dL_law_1395 rfl (lv_at hl 3 rfl) ?_
  have hPc := hP.sub (ws' := (wL q cq o9 co V9 T R S X M P (nI n) h (nI k) w f d v (nI z))) [0, 1, 2, 3, 4, 5, 6, 7, 8] rfl
  have hKc := hK.sub (tys' := (tyL cq co)) [0, 1, 2, 3, 4, 5, 6] rfl
  have hDc := hD.sub (ws' := (wL q cq o9 co V9 T R S X M P (nI n) h (nI k) w f d v (nI z))) [0, 1, 2, 3, 4, 5, 6, 7, 8] (by decide) rfl
  have hFc := va_free (wc := (wL q cq o9 co V9 T R S X M P (nI n) h (nI k) w f d v (nI z))) hD hS hA [0, 1, 2, 3, 4, 5, 6, 7, 8] rfl
  refine va_calli (vx_runSW (As := [.ref (q 0), .int (xs (i + 1)), .ref o9]) (rest := []) ⟨hx, hb, hml, hown, hts⟩ (c_L_distanceBySums l hst D q cq o9 co V9 H.size T R S X M P (nI n) h (nI k) w f d v (nI z) (xs (i + 1))) (vx_cwSW 3 hts gL_law_L_distanceBySums rfl rfl rfl (by decide +kernel) ⟨Nat.le_of_ble_eq_true rfl, Nat.le_of_ble_eq_true rfl⟩) ⟨fun a U g mk z => ⟨z.1, z.2.1, z.2.2.1, va_K.moved (u := U) (U := U.calling g mk a) (Vm.Alike.refl U.vm) z.2.2.2.1, z.2.2.2.2.1, z.2.2.2.2.2.blind g mk a⟩, fun U hU hW => ⟨rfl, by rw [hU], by rw [hU]; exact hPc, va_K.moved hW.alike hKc, hDc.weaken (fun _ _ _ _ => trivial), hE.at hS hU hW hFc⟩⟩ rfl rfl hl.1 rfl (lv_room (Nat.le_of_ble_eq_true rfl)) dL_law_1396 ⟨(by show cells + 1 ≤ 1049; omega), (by show slots + 6 ≤ 8580; omega)⟩) hS (fun q _ h => hFc q h) hFc (fun r9 u9 t8 H1 locs ht hvm hw hB hz1 hk1 hS => ?_)
  obtain ⟨hP1, hD1⟩ := hB
  rw [ht] at hP1
  obtain ⟨hP, hD⟩ := va_join (wr := (wM qm cm T R S X (nI n) h (nI k) th (nI a) o)) (w1 := (wL q cq o9 co (VO (kX1_distanceBySums (xs (i + 1))) V9 ((fX1_distanceBySums T M (xs (i + 1))).1).toInt64) T R S X ((fX1_distanceBySums T M (xs (i + 1))).2) P (nI n) h (nI k) w f d v (nI z))) hP hD [0, 1, 2, 3, 4, 5, 6, 7, 8] [9, 10, 11, 12, 13] rfl rfl (by decide) (by decide) hk1 hFc hP1 hD1
  have hP := hP.sub (ws' := (wW q cq o9 co qm cm (VO (kX1_distanceBySums (xs (i + 1))) V9 ((fX1_distanceBySums T M (xs (i + 1))).1).toInt64) T R S X ((fX1_distanceBySums T M (xs (i + 1))).2) P (nI n) h (nI k) w f d v (nI z) T R S X (nI n) h (nI k) th (nI a) o)) [5, 6, 7, 8, 9, 10, 11, 12, 13, 0, 1, 2, 3, 4] rfl
  have hD := hD.sub (ws' := (wW q cq o9 co qm cm (VO (kX1_distanceBySums (xs (i + 1))) V9 ((fX1_distanceBySums T M (xs (i + 1))).1).toInt64) T R S X ((fX1_distanceBySums T M (xs (i + 1))).2) P (nI n) h (nI k) w f d v (nI z) T R S X (nI n) h (nI k) th (nI a) o)) [5, 6, 7, 8, 9, 10, 11, 12, 13, 0, 1, 2, 3, 4] (by decide) rfl
  generalize H1 = H at hP hS ⊢
  subst r9
  refine lv_istore (lv' := [(5, .int (cd1 (kX1_distanceBySums (xs (i + 1))))), (0, .ref b), (1, .ref (q 0)), (2, .ref (qm 0)), (3, .ref o9), (4, .int (nI i))]) hx hb dL_law_1399 hl (by decide) rfl (fun ls hl => ?_)
  refine lv_aload_n hx hb dL_law_1401 rfl (lv_at hl 3 rfl) ?_
  refine lv_aload_n hx hb dL_law_1402 rfl (lv_at hl 1 rfl) ?_
  refine lv_iload hx hb dL_law_1403 (lv_at hl 5 rfl) ?_
  refine lv_iconst (v := 1) hx hb dL_law_1405 (by decide) ?_
  refine lv_iadd hx hb dL_law_1406 ?_
  refine lv_is (nI (i + 1)) (nI_add i 1) ?_
  refine va_sld hx hb hX hbl hbA hS (i := nI (i + 1)) (vp_in_nI (by omega) (by omega)) dL_law_1407 ?_
  refine lv_is (xs (i + 1)) (by rw [nI_clamp (by omega)]) ?_
  have hPc := hP.sub (ws' := (wM qm cm T R S X (nI n) h (nI k) th (nI a) o)) [9, 10, 11, 12, 13] rfl
  have hKc := hK.sub (tys' := (tyM cm)) [7, 8, 9, 10] rfl
  have hDc := hD.sub (ws' := (wM qm cm T R S X (nI n) h (nI k) th (nI a) o)) [9, 10, 11, 12, 13] (by decide) rfl
  have hFc := va_free (wc := (wM qm cm T R S X (nI n) h (nI k) th (nI a) o)) hD hS hA [9, 10, 11, 12, 13] rfl
  refine va_calli (va_runV (As := [.int (xs (i + 1))]) (rest := []) ⟨hx, hb, hml, hown, hts⟩ (c_X2_distanceBySums l D qm cm H.size T R S X (nI n) h (nI k) th (nI a) o (xs (i + 1))) (cwV 1 hts gL_law_X2_distanceBySums rfl rfl rfl (by decide +kernel) ⟨Nat.le_of_ble_eq_true rfl, Nat.le_of_ble_eq_true rfl⟩) ⟨fun a U g mk z => ⟨z.1, z.2.1, z.2.2.1, va_K.moved (u := U) (U := U.calling g mk a) (Vm.Alike.refl U.vm) z.2.2.2.1, z.2.2.2.2.1, z.2.2.2.2.2.blind g mk a⟩, va_recv hKc hPc (ci := 2) (q0 := 0) rfl rfl, fun U hU hW => ⟨rfl, by rw [hU], by rw [hU]; exact hPc, va_K.moved hW.alike hKc, hDc.weaken (fun _ _ _ _ => trivial), hE.at hS hU hW hFc⟩⟩ rfl rfl hl.1 rfl (lv_room (Nat.le_of_ble_eq_true rfl)) dL_law_1408 ⟨(by show cells + 1 ≤ 1049; omega), (by show slots + 6 ≤ 8580; omega)⟩) hS (fun q _ h => hFc q h) hFc (fun r9 u9 t8 H1 locs ht hvm hw hB hz1 hk1 hS => ?_)
  obtain ⟨hP1, hD1⟩ := hB
  rw [ht] at hP1
  obtain ⟨hP, hD⟩ := va_join (wr := (wL q cq o9 co (VO (kX1_distanceBySums (xs (i + 1))) V9 ((fX1_distanceBySums T M (xs (i + 1))).1).toInt64) T R S X ((fX1_distanceBySums T M (xs (i + 1))).2) P (nI n) h (nI k) w f d v (nI z))) (w1 := (wM qm cm T R S X (nI n) h (nI k) ((fX2_distanceBySums T (xs (i + 1))).2) (nI a) o)) hP hD [9, 10, 11, 12, 13] [0, 1, 2, 3, 4, 5, 6, 7, 8] rfl rfl (by decide) (by decide) hk1 hFc hP1 hD1
  generalize H1 = H at hP hS ⊢
  have hP : va_P D vwCl (wW q cq o9 co qm cm (VO (kX1_distanceBySums (xs (i + 1))) V9 ((fX1_distanceBySums T M (xs (i + 1))).1).toInt64) T R S X ((fX1_distanceBySums T M (xs (i + 1))).2) P (nI n) h (nI k) w f d v (nI z) T R S X (nI n) h (nI k) ((fX2_distanceBySums T (xs (i + 1))).2) (nI a) o) H := hP
  have hD : va_D (fun q : Nat => s.heap.size ≤ q) (wW q cq o9 co qm cm (VO (kX1_distanceBySums (xs (i + 1))) V9 ((fX1_distanceBySums T M (xs (i + 1))).1).toInt64) T R S X ((fX1_distanceBySums T M (xs (i + 1))).2) P (nI n) h (nI k) w f d v (nI z) T R S X (nI n) h (nI k) ((fX2_distanceBySums T (xs (i + 1))).2) (nI a) o) := hD
  subst r9
  have he := e_distanceBySums T M (xs (i + 1))
  refine lv_istore (lv' := [(6, .int ((fX2_distanceBySums T (xs (i + 1))).1)), (5, .int (cd1 (kX1_distanceBySums (xs (i + 1))))), (0, .ref b), (1, .ref (q 0)), (2, .ref (qm 0)), (3, .ref o9), (4, .int (nI i))]) hx hb dL_law_1411 hl (by decide) rfl (fun ls hl => ?_)
  refine lv_aload_n hx hb dL_law_1413 rfl (lv_at hl 4 rfl) ?_
  have hPc := hP.sub (ws' := (wM qm cm T R S X (nI (n)) h (nI (k)) ((fX2_distanceBySums T (xs (i + 1))).2) (nI (a)) o)) [9, 10, 11, 12, 13] rfl
  have hKc := hK.sub (tys' := (tyM cm)) [7, 8, 9, 10] rfl
  refine vp_callSi (va_Run.run (va_runV (As := []) (rest := []) ⟨hx, hb, hml, hown, hts⟩ (c_X2_thrown l D qm cm T R S X (nI (n)) h (nI (k)) ((fX2_distanceBySums T (xs (i + 1))).2) (nI (a)) o) (cwV 0 hts gL_law_X2_thrown rfl rfl rfl (by decide +kernel) ⟨Nat.le_of_ble_eq_true rfl, Nat.le_of_ble_eq_true rfl⟩) ⟨fun a U g mk z => ⟨z.1, z.2.1, va_K.moved (u := U) (U := U.calling g mk a) (Vm.Alike.refl U.vm) z.2.2.1, z.2.2.2.blind g mk a⟩, va_recv hKc hPc (ci := 2) (q0 := 0) rfl rfl, fun U hU hW => ⟨rfl, by rw [hU]; exact hPc, va_K.moved hW.alike hKc, hE.at0 hS hU hW⟩⟩ rfl rfl hl.1 rfl (lv_room (Nat.le_of_ble_eq_true rfl)) dL_law_1414 ⟨(by show cells + 1 ≤ 1049; omega), (by show slots + 6 ≤ 8580; omega)⟩)) (fun r9 hr9 => ?_)
  subst r9
  refine lv_iload hx hb dL_law_1417 (lv_at hl 1 rfl) ?_
  have halt := he
  have hth : ((fX2_distanceBySums T (xs (i + 1))).2) = cd1 (kX1_distanceBySums (xs (i + 1))) := by
    rcases halt with ⟨h1, h2, h3⟩ | ⟨h1, h2⟩ <;> (rw [h1, h2]; rfl)
  have hval : (kX1_distanceBySums (xs (i + 1))) = 0 → (fX1_distanceBySums T M (xs (i + 1))).1 = (fX2_distanceBySums T (xs (i + 1))).1 := by
    intro h0
    rcases halt with ⟨h1, h2, h3⟩ | ⟨h1, h2⟩
    · exact h3
    · rw [h1] at h0; exact absurd h0 (by decide)
  refine lv_icmp_eq (tgt := 1424) hx hb dL_law_1419 (by decide) (fun c1 => ?_) (fun c1 => absurd (show fX2_thrown ((fX2_distanceBySums T (xs (i + 1))).2) = cd1 (kX1_distanceBySums (xs (i + 1))) from hth) c1)
  refine lv_iload hx hb dL_law_1424 (lv_at hl 1 rfl) ?_
  have kend : W p l e room_1 s m #[Value.ref b] below meth c H locs (cells + 1) (slots + 6) Q (F0 m 1441 ls []) := by
    refine lv_goto (tgt := 1659) hx hb dL_law_1441 (by decide) ?_
    exact kk ⟨T, R, S, X, ((fX1_distanceBySums T M (xs (i + 1))).2), P, (n), (k), (z), (a), h, w, f, d, v, ((fX2_distanceBySums T (xs (i + 1))).2), o, (VO (kX1_distanceBySums (xs (i + 1))) V9 ((fX1_distanceBySums T M (xs (i + 1))).1).toInt64)⟩ ⟨hT, hR, hS9, hn, hk9, hP9⟩ H _ hP hD hS ls (lv_sub hl [2, 3, 4, 5, 6] rfl)
  refine lv_if_ne (tgt := 1441) hx hb dL_law_1426 (by decide) (fun c2 => kend) (fun c2 => ?_)
  have hK0 : (kX1_distanceBySums (xs (i + 1))) = 0 := cd1_0 c2
  have hV0 : VO (kX1_distanceBySums (xs (i + 1))) V9 ((fX1_distanceBySums T M (xs (i + 1))).1).toInt64 = vp_updL V9 0 ((fX1_distanceBySums T M (xs (i + 1))).1).toInt64 := if_pos hK0
  refine lv_aload_n hx hb dL_law_1429 rfl (lv_at hl 5 rfl) ?_
  refine lv_iconst (v := 0) hx hb dL_law_1430 (by decide) ?_
  refine va_lald hx hb hK hP 0 0 rfl rfl (i := 0) (vp_in_nI (n := 0) (N := 1) (by decide) (by decide)) dL_law_1431 ?_
  refine lv_isL (((fX1_distanceBySums T M (xs (i + 1))).1).toInt64) (by rw [hV0]; rfl) ?_
  refine lv_iload hx hb dL_law_1432 (lv_at hl 0 rfl) ?_
  refine lv_i2l hx hb dL_law_1434 rfl ?_
  rw [hval hK0]
  refine W.lcmp hx hb dL_law_1435 ?_
  exact lv_if_eq (tgt := 1441) hx hb dL_law_1436 (by decide) (fun c3 => kend) (fun c3 => absurd (lg_self _) c3)
set_option maxHeartbeats 4000000 in
set_option maxRecDepth 100000 in
theorem k_isSelfDual {p : Program} {l : Launch} (hst : l.stackTraces = false) {e : Env} {s : State} {m : MethodId} {below : List Frame} {meth : Method} {c : Code} {b L : Nat} {xs : Nat → Int32} (hL : L ≤ 2560) (C0 : lw_At p s m meth c b L xs) (hE : envE (fun q : Nat => s.heap.size ≤ q) s) {D : va_G} {q : Nat → Nat} {cq : Nat → ClassId} {o9 : Nat} {co : ClassId} {qm : Nat → Nat} {cm : Nat → ClassId} (hK : va_K D vwCl (tyA cq co cm) s) (σ : LwS) (hok : okS σ) (H : Heap) (locs : List Loc) (hP : va_P D vwCl (wA q cq o9 co qm cm σ) H) (hD : va_D (fun q : Nat => s.heap.size ≤ q) (wA q cq o9 co qm cm σ)) (hS : va_S (fun q : Nat => s.heap.size ≤ q) s.heap H locs) (i : Nat) (hi : i + 5 ≤ L) (ls : Array Slot) (hl : lv_has ls 7 (lvA b q o9 qm i)) {cells slots : Nat} (hc : cells + 1 ≤ 1049) (hs : slots + 6 ≤ 8580) {Q : State → Prop} (kk : ∀ σ2 : LwS, okS σ2 → ∀ (H2 : Heap) (locs2 : List Loc), va_P D vwCl (wA q cq o9 co qm cm σ2) H2 → va_D (fun q : Nat => s.heap.size ≤ q) (wA q cq o9 co qm cm σ2) → va_S (fun q : Nat => s.heap.size ≤ q) s.heap H2 locs2 → ∀ ls2 : Array Slot, lv_has ls2 7 (lvA b q o9 qm i) → W p l e room_1 s m #[Value.ref b] below meth c H2 locs2 (cells + 1) (slots + 6) Q (F0 m 1659 ls2 [])) : W p l e room_1 s m #[Value.ref b] below meth c H locs cells slots Q (F0 m 1444 ls []) := by
  obtain ⟨hx, hb, hr, hml, hown, hts, hX, hbl, hlocks, hgv⟩ := C0
  have hown : s.vm.findClass RL = some m.cls := hown
  have hts : ∀ w ∈ wsL_law, w.before #[Value.ref b] s = true := fun w hw => hts w (wsL_law_in w hw)
  have hA : ∀ q : Nat, s.heap.size ≤ q → (fun q : Nat => s.heap.size ≤ q) q := fun _ h => h
  have hbA : ¬ (fun q : Nat => s.heap.size ≤ q) b := Nat.not_le.mpr hbl
  obtain ⟨T, R, S, X, M, P, n, k, z, a, h, w, f, d, v, th, o, V9⟩ := σ
  obtain ⟨hT, hR, hS9, hn, hk9, hP9⟩ := hok
  dsimp only at hT hR hS9 hn hk9 hP9
  have hP : va_P D vwCl (wW q cq o9 co qm cm V9 T R S X M P (nI n) h (nI k) w f d v (nI z) T R S X (nI n) h (nI k) th (nI a) o) H := hP
  have hD : va_D (fun q : Nat => s.heap.size ≤ q) (wW q cq o9 co qm cm V9 T R S X M P (nI n) h (nI k) w f d v (nI z) T R S X (nI n) h (nI k) th (nI a) o) := hD
  refine lv_aload_n hx hb dL_law_1444 rfl (lv_at hl 1 rfl) ?_
  refine lv_aload_n hx hb dL_law_1445 rfl (lv_at hl 0 rfl) ?_
  refine lv_iload hx hb dL_law_1446 (lv_at hl 4 rfl) ?_
  refine lv_iconst (v := 1) hx hb dL_law_1448 (by decide) ?_
  refine lv_iadd hx hb dL_law_1449 ?_
  refine lv_is (nI (i + 1)) (nI_add i 1) ?_
  refine va_sld hx hb hX hbl hbA hS (i := nI (i + 1)) (vp_in_nI (by omega) (by omega)) dL_law_1450 ?_
  refine lv_is (xs (i + 1)) (by rw [nI_clamp (by omega)]) ?_
  refine lv_aload_n hx hb dL_law_1451 rfl (lv_at hl 3 rfl) ?_
  have hPc := hP.sub (ws' := (wL q cq o9 co V9 T R S X M P (nI n) h (nI k) w f d v (nI z))) [0, 1, 2, 3, 4, 5, 6, 7, 8] rfl
  have hKc := hK.sub (tys' := (tyL cq co)) [0, 1, 2, 3, 4, 5, 6] rfl
  have hDc := hD.sub (ws' := (wL q cq o9 co V9 T R S X M P (nI n) h (nI k) w f d v (nI z))) [0, 1, 2, 3, 4, 5, 6, 7, 8] (by decide) rfl
  have hFc := va_free (wc := (wL q cq o9 co V9 T R S X M P (nI n) h (nI k) w f d v (nI z))) hD hS hA [0, 1, 2, 3, 4, 5, 6, 7, 8] rfl
  refine va_calli (vx_runSW (As := [.ref (q 0), .int (xs (i + 1)), .ref o9]) (rest := []) ⟨hx, hb, hml, hown, hts⟩ (c_L_isSelfDual l hst D q cq o9 co V9 H.size T R S X M P (nI n) h (nI k) w f d v (nI z) (xs (i + 1))) (vx_cwSW 3 hts gL_law_L_isSelfDual rfl rfl rfl (by decide +kernel) ⟨Nat.le_of_ble_eq_true rfl, Nat.le_of_ble_eq_true rfl⟩) ⟨fun a U g mk z => ⟨z.1, z.2.1, z.2.2.1, va_K.moved (u := U) (U := U.calling g mk a) (Vm.Alike.refl U.vm) z.2.2.2.1, z.2.2.2.2.1, z.2.2.2.2.2.blind g mk a⟩, fun U hU hW => ⟨rfl, by rw [hU], by rw [hU]; exact hPc, va_K.moved hW.alike hKc, hDc.weaken (fun _ _ _ _ => trivial), hE.at hS hU hW hFc⟩⟩ rfl rfl hl.1 rfl (lv_room (Nat.le_of_ble_eq_true rfl)) dL_law_1452 ⟨(by show cells + 1 ≤ 1049; omega), (by show slots + 6 ≤ 8580; omega)⟩) hS (fun q _ h => hFc q h) hFc (fun r9 u9 t8 H1 locs ht hvm hw hB hz1 hk1 hS => ?_)
  obtain ⟨hP1, hD1⟩ := hB
  rw [ht] at hP1
  obtain ⟨hP, hD⟩ := va_join (wr := (wM qm cm T R S X (nI n) h (nI k) th (nI a) o)) (w1 := (wL q cq o9 co (VO (kX1_isSelfDual (xs (i + 1))) V9 (if (fX1_isSelfDual T (xs (i + 1))) = 0 then 0 else 1 : Int64)) T R S X M P (nI n) h (nI k) w f d v (nI z))) hP hD [0, 1, 2, 3, 4, 5, 6, 7, 8] [9, 10, 11, 12, 13] rfl rfl (by decide) (by decide) hk1 hFc hP1 hD1
  have hP := hP.sub (ws' := (wW q cq o9 co qm cm (VO (kX1_isSelfDual (xs (i + 1))) V9 (if (fX1_isSelfDual T (xs (i + 1))) = 0 then 0 else 1 : Int64)) T R S X M P (nI n) h (nI k) w f d v (nI z) T R S X (nI n) h (nI k) th (nI a) o)) [5, 6, 7, 8, 9, 10, 11, 12, 13, 0, 1, 2, 3, 4] rfl
  have hD := hD.sub (ws' := (wW q cq o9 co qm cm (VO (kX1_isSelfDual (xs (i + 1))) V9 (if (fX1_isSelfDual T (xs (i + 1))) = 0 then 0 else 1 : Int64)) T R S X M P (nI n) h (nI k) w f d v (nI z) T R S X (nI n) h (nI k) th (nI a) o)) [5, 6, 7, 8, 9, 10, 11, 12, 13, 0, 1, 2, 3, 4] (by decide) rfl
  generalize H1 = H at hP hS ⊢
  subst r9
  refine lv_istore (lv' := [(5, .int (cd1 (kX1_isSelfDual (xs (i + 1))))), (0, .ref b), (1, .ref (q 0)), (2, .ref (qm 0)), (3, .ref o9), (4, .int (nI i))]) hx hb dL_law_1455 hl (by decide) rfl (fun ls hl => ?_)
  refine lv_aload_n hx hb dL_law_1457 rfl (lv_at hl 3 rfl) ?_
  refine lv_aload_n hx hb dL_law_1458 rfl (lv_at hl 1 rfl) ?_
  refine lv_iload hx hb dL_law_1459 (lv_at hl 5 rfl) ?_
  refine lv_iconst (v := 1) hx hb dL_law_1461 (by decide) ?_
  refine lv_iadd hx hb dL_law_1462 ?_
  refine lv_is (nI (i + 1)) (nI_add i 1) ?_
  refine va_sld hx hb hX hbl hbA hS (i := nI (i + 1)) (vp_in_nI (by omega) (by omega)) dL_law_1463 ?_
  refine lv_is (xs (i + 1)) (by rw [nI_clamp (by omega)]) ?_
  have hPc := hP.sub (ws' := (wM qm cm T R S X (nI n) h (nI k) th (nI a) o)) [9, 10, 11, 12, 13] rfl
  have hKc := hK.sub (tys' := (tyM cm)) [7, 8, 9, 10] rfl
  have hDc := hD.sub (ws' := (wM qm cm T R S X (nI n) h (nI k) th (nI a) o)) [9, 10, 11, 12, 13] (by decide) rfl
  have hFc := va_free (wc := (wM qm cm T R S X (nI n) h (nI k) th (nI a) o)) hD hS hA [9, 10, 11, 12, 13] rfl
  refine va_calli (va_runV (As := [.int (xs (i + 1))]) (rest := []) ⟨hx, hb, hml, hown, hts⟩ (c_X2_isSelfDual l D qm cm H.size T R S X (nI n) h (nI k) th (nI a) o (xs (i + 1))) (cwV 1 hts gL_law_X2_isSelfDual rfl rfl rfl (by decide +kernel) ⟨Nat.le_of_ble_eq_true rfl, Nat.le_of_ble_eq_true rfl⟩) ⟨fun a U g mk z => ⟨z.1, z.2.1, z.2.2.1, va_K.moved (u := U) (U := U.calling g mk a) (Vm.Alike.refl U.vm) z.2.2.2.1, z.2.2.2.2.1, z.2.2.2.2.2.blind g mk a⟩, va_recv hKc hPc (ci := 2) (q0 := 0) rfl rfl, fun U hU hW => ⟨rfl, by rw [hU], by rw [hU]; exact hPc, va_K.moved hW.alike hKc, hDc.weaken (fun _ _ _ _ => trivial), hE.at hS hU hW hFc⟩⟩ rfl rfl hl.1 rfl (lv_room (Nat.le_of_ble_eq_true rfl)) dL_law_1464 ⟨(by show cells + 1 ≤ 1049; omega), (by show slots + 6 ≤ 8580; omega)⟩) hS (fun q _ h => hFc q h) hFc (fun r9 u9 t8 H1 locs ht hvm hw hB hz1 hk1 hS => ?_)
  obtain ⟨hP1, hD1⟩ := hB
  rw [ht] at hP1
  obtain ⟨hP, hD⟩ := va_join (wr := (wL q cq o9 co (VO (kX1_isSelfDual (xs (i + 1))) V9 (if (fX1_isSelfDual T (xs (i + 1))) = 0 then 0 else 1 : Int64)) T R S X M P (nI n) h (nI k) w f d v (nI z))) (w1 := (wM qm cm T R S X (nI n) h (nI k) ((fX2_isSelfDual T (xs (i + 1))).2) (nI a) o)) hP hD [9, 10, 11, 12, 13] [0, 1, 2, 3, 4, 5, 6, 7, 8] rfl rfl (by decide) (by decide) hk1 hFc hP1 hD1
  generalize H1 = H at hP hS ⊢
  have hP : va_P D vwCl (wW q cq o9 co qm cm (VO (kX1_isSelfDual (xs (i + 1))) V9 (if (fX1_isSelfDual T (xs (i + 1))) = 0 then 0 else 1 : Int64)) T R S X M P (nI n) h (nI k) w f d v (nI z) T R S X (nI n) h (nI k) ((fX2_isSelfDual T (xs (i + 1))).2) (nI a) o) H := hP
  have hD : va_D (fun q : Nat => s.heap.size ≤ q) (wW q cq o9 co qm cm (VO (kX1_isSelfDual (xs (i + 1))) V9 (if (fX1_isSelfDual T (xs (i + 1))) = 0 then 0 else 1 : Int64)) T R S X M P (nI n) h (nI k) w f d v (nI z) T R S X (nI n) h (nI k) ((fX2_isSelfDual T (xs (i + 1))).2) (nI a) o) := hD
  subst r9
  have he := e_isSelfDual T (xs (i + 1))
  refine lv_istore (lv' := [(6, .int ((fX2_isSelfDual T (xs (i + 1))).1)), (5, .int (cd1 (kX1_isSelfDual (xs (i + 1))))), (0, .ref b), (1, .ref (q 0)), (2, .ref (qm 0)), (3, .ref o9), (4, .int (nI i))]) hx hb dL_law_1467 hl (by decide) rfl (fun ls hl => ?_)
  refine lv_aload_n hx hb dL_law_1469 rfl (lv_at hl 4 rfl) ?_
  have hPc := hP.sub (ws' := (wM qm cm T R S X (nI (n)) h (nI (k)) ((fX2_isSelfDual T (xs (i + 1))).2) (nI (a)) o)) [9, 10, 11, 12, 13] rfl
  have hKc := hK.sub (tys' := (tyM cm)) [7, 8, 9, 10] rfl
  refine vp_callSi (va_Run.run (va_runV (As := []) (rest := []) ⟨hx, hb, hml, hown, hts⟩ (c_X2_thrown l D qm cm T R S X (nI (n)) h (nI (k)) ((fX2_isSelfDual T (xs (i + 1))).2) (nI (a)) o) (cwV 0 hts gL_law_X2_thrown rfl rfl rfl (by decide +kernel) ⟨Nat.le_of_ble_eq_true rfl, Nat.le_of_ble_eq_true rfl⟩) ⟨fun a U g mk z => ⟨z.1, z.2.1, va_K.moved (u := U) (U := U.calling g mk a) (Vm.Alike.refl U.vm) z.2.2.1, z.2.2.2.blind g mk a⟩, va_recv hKc hPc (ci := 2) (q0 := 0) rfl rfl, fun U hU hW => ⟨rfl, by rw [hU]; exact hPc, va_K.moved hW.alike hKc, hE.at0 hS hU hW⟩⟩ rfl rfl hl.1 rfl (lv_room (Nat.le_of_ble_eq_true rfl)) dL_law_1470 ⟨(by show cells + 1 ≤ 1049; omega), (by show slots + 6 ≤ 8580; omega)⟩)) (fun r9 hr9 => ?_)
  subst r9
  refine lv_iload hx hb dL_law_1473 (lv_at hl 1 rfl) ?_
  have halt := he
  have hth : ((fX2_isSelfDual T (xs (i + 1))).2) = cd1 (kX1_isSelfDual (xs (i + 1))) := by
    rcases halt with ⟨h1, h2, h3⟩ | ⟨h1, h2⟩ <;> (rw [h1, h2]; rfl)
  have hval : (kX1_isSelfDual (xs (i + 1))) = 0 → (fX1_isSelfDual T (xs (i + 1))) = (fX2_isSelfDual T (xs (i + 1))).1 := by
    intro h0
    rcases halt with ⟨h1, h2, h3⟩ | ⟨h1, h2⟩
    · exact h3
    · rw [h1] at h0; exact absurd h0 (by decide)
  refine lv_icmp_eq (tgt := 1480) hx hb dL_law_1475 (by decide) (fun c1 => ?_) (fun c1 => absurd (show fX2_thrown ((fX2_isSelfDual T (xs (i + 1))).2) = cd1 (kX1_isSelfDual (xs (i + 1))) from hth) c1)
  refine lv_iload hx hb dL_law_1480 (lv_at hl 1 rfl) ?_
  have kend : W p l e room_1 s m #[Value.ref b] below meth c H locs (cells + 1) (slots + 6) Q (F0 m 1504 ls []) := by
    refine lv_goto (tgt := 1659) hx hb dL_law_1504 (by decide) ?_
    exact kk ⟨T, R, S, X, M, P, (n), (k), (z), (a), h, w, f, d, v, ((fX2_isSelfDual T (xs (i + 1))).2), o, (VO (kX1_isSelfDual (xs (i + 1))) V9 (if (fX1_isSelfDual T (xs (i + 1))) = 0 then 0 else 1 : Int64))⟩ ⟨hT, hR, hS9, hn, hk9, hP9⟩ H _ hP hD hS ls (lv_sub hl [2, 3, 4, 5, 6] rfl)
  refine lv_if_ne (tgt := 1504) hx hb dL_law_1482 (by decide) (fun c2 => kend) (fun c2 => ?_)
  have hK0 : (kX1_isSelfDual (xs (i + 1))) = 0 := cd1_0 c2
  have hV0 : VO (kX1_isSelfDual (xs (i + 1))) V9 (if (fX1_isSelfDual T (xs (i + 1))) = 0 then 0 else 1 : Int64) = vp_updL V9 0 (if (fX1_isSelfDual T (xs (i + 1))) = 0 then 0 else 1 : Int64) := if_pos hK0
  refine lv_aload_n hx hb dL_law_1485 rfl (lv_at hl 5 rfl) ?_
  refine lv_iconst (v := 0) hx hb dL_law_1486 (by decide) ?_
  refine va_lald hx hb hK hP 0 0 rfl rfl (i := 0) (vp_in_nI (n := 0) (N := 1) (by decide) (by decide)) dL_law_1487 ?_
  refine lv_isL (if (fX1_isSelfDual T (xs (i + 1))) = 0 then 0 else 1 : Int64) (by rw [hV0]; rfl) ?_
  refine lv_iload hx hb dL_law_1488 (lv_at hl 0 rfl) ?_
  refine lv_ternL hx hb dL_law_1490 dL_law_1493 dL_law_1494 dL_law_1497 ?_
  rw [hval hK0]
  refine W.lcmp hx hb dL_law_1498 ?_
  exact lv_if_eq (tgt := 1504) hx hb dL_law_1499 (by decide) (fun c3 => kend) (fun c3 => absurd (lg_self _) c3)
set_option maxHeartbeats 4000000 in
set_option maxRecDepth 100000 in
theorem k_isMonotone {p : Program} {l : Launch} (hst : l.stackTraces = false) {e : Env} {s : State} {m : MethodId} {below : List Frame} {meth : Method} {c : Code} {b L : Nat} {xs : Nat → Int32} (hL : L ≤ 2560) (C0 : lw_At p s m meth c b L xs) (hE : envE (fun q : Nat => s.heap.size ≤ q) s) {D : va_G} {q : Nat → Nat} {cq : Nat → ClassId} {o9 : Nat} {co : ClassId} {qm : Nat → Nat} {cm : Nat → ClassId} (hK : va_K D vwCl (tyA cq co cm) s) (σ : LwS) (hok : okS σ) (H : Heap) (locs : List Loc) (hP : va_P D vwCl (wA q cq o9 co qm cm σ) H) (hD : va_D (fun q : Nat => s.heap.size ≤ q) (wA q cq o9 co qm cm σ)) (hS : va_S (fun q : Nat => s.heap.size ≤ q) s.heap H locs) (i : Nat) (hi : i + 5 ≤ L) (ls : Array Slot) (hl : lv_has ls 7 (lvA b q o9 qm i)) {cells slots : Nat} (hc : cells + 1 ≤ 1049) (hs : slots + 6 ≤ 8580) {Q : State → Prop} (kk : ∀ σ2 : LwS, okS σ2 → ∀ (H2 : Heap) (locs2 : List Loc), va_P D vwCl (wA q cq o9 co qm cm σ2) H2 → va_D (fun q : Nat => s.heap.size ≤ q) (wA q cq o9 co qm cm σ2) → va_S (fun q : Nat => s.heap.size ≤ q) s.heap H2 locs2 → ∀ ls2 : Array Slot, lv_has ls2 7 (lvA b q o9 qm i) → W p l e room_1 s m #[Value.ref b] below meth c H2 locs2 (cells + 1) (slots + 6) Q (F0 m 1659 ls2 [])) : W p l e room_1 s m #[Value.ref b] below meth c H locs cells slots Q (F0 m 1507 ls []) := by
  obtain ⟨hx, hb, hr, hml, hown, hts, hX, hbl, hlocks, hgv⟩ := C0
  have hown : s.vm.findClass RL = some m.cls := hown
  have hts : ∀ w ∈ wsL_law, w.before #[Value.ref b] s = true := fun w hw => hts w (wsL_law_in w hw)
  have hA : ∀ q : Nat, s.heap.size ≤ q → (fun q : Nat => s.heap.size ≤ q) q := fun _ h => h
  have hbA : ¬ (fun q : Nat => s.heap.size ≤ q) b := Nat.not_le.mpr hbl
  obtain ⟨T, R, S, X, M, P, n, k, z, a, h, w, f, d, v, th, o, V9⟩ := σ
  obtain ⟨hT, hR, hS9, hn, hk9, hP9⟩ := hok
  dsimp only at hT hR hS9 hn hk9 hP9
  have hP : va_P D vwCl (wW q cq o9 co qm cm V9 T R S X M P (nI n) h (nI k) w f d v (nI z) T R S X (nI n) h (nI k) th (nI a) o) H := hP
  have hD : va_D (fun q : Nat => s.heap.size ≤ q) (wW q cq o9 co qm cm V9 T R S X M P (nI n) h (nI k) w f d v (nI z) T R S X (nI n) h (nI k) th (nI a) o) := hD
  refine lv_aload_n hx hb dL_law_1507 rfl (lv_at hl 1 rfl) ?_
  refine lv_aload_n hx hb dL_law_1508 rfl (lv_at hl 0 rfl) ?_
  refine lv_iload hx hb dL_law_1509 (lv_at hl 4 rfl) ?_
  refine lv_iconst (v := 1) hx hb dL_law_1511 (by decide) ?_
  refine lv_iadd hx hb dL_law_1512 ?_
  refine lv_is (nI (i + 1)) (nI_add i 1) ?_
  refine va_sld hx hb hX hbl hbA hS (i := nI (i + 1)) (vp_in_nI (by omega) (by omega)) dL_law_1513 ?_
  refine lv_is (xs (i + 1)) (by rw [nI_clamp (by omega)]) ?_
  refine lv_aload_n hx hb dL_law_1514 rfl (lv_at hl 3 rfl) ?_
  have hPc := hP.sub (ws' := (wL q cq o9 co V9 T R S X M P (nI n) h (nI k) w f d v (nI z))) [0, 1, 2, 3, 4, 5, 6, 7, 8] rfl
  have hKc := hK.sub (tys' := (tyL cq co)) [0, 1, 2, 3, 4, 5, 6] rfl
  have hDc := hD.sub (ws' := (wL q cq o9 co V9 T R S X M P (nI n) h (nI k) w f d v (nI z))) [0, 1, 2, 3, 4, 5, 6, 7, 8] (by decide) rfl
  have hFc := va_free (wc := (wL q cq o9 co V9 T R S X M P (nI n) h (nI k) w f d v (nI z))) hD hS hA [0, 1, 2, 3, 4, 5, 6, 7, 8] rfl
  refine va_calli (vx_runSW (As := [.ref (q 0), .int (xs (i + 1)), .ref o9]) (rest := []) ⟨hx, hb, hml, hown, hts⟩ (c_L_isMonotone l hst D q cq o9 co V9 H.size T R S X M P (nI n) h (nI k) w f d v (nI z) (xs (i + 1))) (vx_cwSW 3 hts gL_law_L_isMonotone rfl rfl rfl (by decide +kernel) ⟨Nat.le_of_ble_eq_true rfl, Nat.le_of_ble_eq_true rfl⟩) ⟨fun a U g mk z => ⟨z.1, z.2.1, z.2.2.1, va_K.moved (u := U) (U := U.calling g mk a) (Vm.Alike.refl U.vm) z.2.2.2.1, z.2.2.2.2.1, z.2.2.2.2.2.blind g mk a⟩, fun U hU hW => ⟨rfl, by rw [hU], by rw [hU]; exact hPc, va_K.moved hW.alike hKc, hDc.weaken (fun _ _ _ _ => trivial), hE.at hS hU hW hFc⟩⟩ rfl rfl hl.1 rfl (lv_room (Nat.le_of_ble_eq_true rfl)) dL_law_1515 ⟨(by show cells + 1 ≤ 1049; omega), (by show slots + 6 ≤ 8580; omega)⟩) hS (fun q _ h => hFc q h) hFc (fun r9 u9 t8 H1 locs ht hvm hw hB hz1 hk1 hS => ?_)
  obtain ⟨hP1, hD1⟩ := hB
  rw [ht] at hP1
  obtain ⟨hP, hD⟩ := va_join (wr := (wM qm cm T R S X (nI n) h (nI k) th (nI a) o)) (w1 := (wL q cq o9 co (VO (kX1_isMonotone (xs (i + 1))) V9 (if (fX1_isMonotone T (xs (i + 1))) = 0 then 0 else 1 : Int64)) T R S X M P (nI n) h (nI k) w f d v (nI z))) hP hD [0, 1, 2, 3, 4, 5, 6, 7, 8] [9, 10, 11, 12, 13] rfl rfl (by decide) (by decide) hk1 hFc hP1 hD1
  have hP := hP.sub (ws' := (wW q cq o9 co qm cm (VO (kX1_isMonotone (xs (i + 1))) V9 (if (fX1_isMonotone T (xs (i + 1))) = 0 then 0 else 1 : Int64)) T R S X M P (nI n) h (nI k) w f d v (nI z) T R S X (nI n) h (nI k) th (nI a) o)) [5, 6, 7, 8, 9, 10, 11, 12, 13, 0, 1, 2, 3, 4] rfl
  have hD := hD.sub (ws' := (wW q cq o9 co qm cm (VO (kX1_isMonotone (xs (i + 1))) V9 (if (fX1_isMonotone T (xs (i + 1))) = 0 then 0 else 1 : Int64)) T R S X M P (nI n) h (nI k) w f d v (nI z) T R S X (nI n) h (nI k) th (nI a) o)) [5, 6, 7, 8, 9, 10, 11, 12, 13, 0, 1, 2, 3, 4] (by decide) rfl
  generalize H1 = H at hP hS ⊢
  subst r9
  refine lv_istore (lv' := [(5, .int (cd1 (kX1_isMonotone (xs (i + 1))))), (0, .ref b), (1, .ref (q 0)), (2, .ref (qm 0)), (3, .ref o9), (4, .int (nI i))]) hx hb dL_law_1518 hl (by decide) rfl (fun ls hl => ?_)
  refine lv_aload_n hx hb dL_law_1520 rfl (lv_at hl 3 rfl) ?_
  refine lv_aload_n hx hb dL_law_1521 rfl (lv_at hl 1 rfl) ?_
  refine lv_iload hx hb dL_law_1522 (lv_at hl 5 rfl) ?_
  refine lv_iconst (v := 1) hx hb dL_law_1524 (by decide) ?_
  refine lv_iadd hx hb dL_law_1525 ?_
  refine lv_is (nI (i + 1)) (nI_add i 1) ?_
  refine va_sld hx hb hX hbl hbA hS (i := nI (i + 1)) (vp_in_nI (by omega) (by omega)) dL_law_1526 ?_
  refine lv_is (xs (i + 1)) (by rw [nI_clamp (by omega)]) ?_
  have hPc := hP.sub (ws' := (wM qm cm T R S X (nI n) h (nI k) th (nI a) o)) [9, 10, 11, 12, 13] rfl
  have hKc := hK.sub (tys' := (tyM cm)) [7, 8, 9, 10] rfl
  have hDc := hD.sub (ws' := (wM qm cm T R S X (nI n) h (nI k) th (nI a) o)) [9, 10, 11, 12, 13] (by decide) rfl
  have hFc := va_free (wc := (wM qm cm T R S X (nI n) h (nI k) th (nI a) o)) hD hS hA [9, 10, 11, 12, 13] rfl
  refine va_calli (va_runV (As := [.int (xs (i + 1))]) (rest := []) ⟨hx, hb, hml, hown, hts⟩ (c_X2_isMonotone l D qm cm H.size T R S X (nI n) h (nI k) th (nI a) o (xs (i + 1))) (cwV 1 hts gL_law_X2_isMonotone rfl rfl rfl (by decide +kernel) ⟨Nat.le_of_ble_eq_true rfl, Nat.le_of_ble_eq_true rfl⟩) ⟨fun a U g mk z => ⟨z.1, z.2.1, z.2.2.1, va_K.moved (u := U) (U := U.calling g mk a) (Vm.Alike.refl U.vm) z.2.2.2.1, z.2.2.2.2.1, z.2.2.2.2.2.blind g mk a⟩, va_recv hKc hPc (ci := 2) (q0 := 0) rfl rfl, fun U hU hW => ⟨rfl, by rw [hU], by rw [hU]; exact hPc, va_K.moved hW.alike hKc, hDc.weaken (fun _ _ _ _ => trivial), hE.at hS hU hW hFc⟩⟩ rfl rfl hl.1 rfl (lv_room (Nat.le_of_ble_eq_true rfl)) dL_law_1527 ⟨(by show cells + 1 ≤ 1049; omega), (by show slots + 6 ≤ 8580; omega)⟩) hS (fun q _ h => hFc q h) hFc (fun r9 u9 t8 H1 locs ht hvm hw hB hz1 hk1 hS => ?_)
  obtain ⟨hP1, hD1⟩ := hB
  rw [ht] at hP1
  obtain ⟨hP, hD⟩ := va_join (wr := (wL q cq o9 co (VO (kX1_isMonotone (xs (i + 1))) V9 (if (fX1_isMonotone T (xs (i + 1))) = 0 then 0 else 1 : Int64)) T R S X M P (nI n) h (nI k) w f d v (nI z))) (w1 := (wM qm cm T R S X (nI n) h (nI k) ((fX2_isMonotone T (xs (i + 1))).2) (nI a) o)) hP hD [9, 10, 11, 12, 13] [0, 1, 2, 3, 4, 5, 6, 7, 8] rfl rfl (by decide) (by decide) hk1 hFc hP1 hD1
  generalize H1 = H at hP hS ⊢
  have hP : va_P D vwCl (wW q cq o9 co qm cm (VO (kX1_isMonotone (xs (i + 1))) V9 (if (fX1_isMonotone T (xs (i + 1))) = 0 then 0 else 1 : Int64)) T R S X M P (nI n) h (nI k) w f d v (nI z) T R S X (nI n) h (nI k) ((fX2_isMonotone T (xs (i + 1))).2) (nI a) o) H := hP
  have hD : va_D (fun q : Nat => s.heap.size ≤ q) (wW q cq o9 co qm cm (VO (kX1_isMonotone (xs (i + 1))) V9 (if (fX1_isMonotone T (xs (i + 1))) = 0 then 0 else 1 : Int64)) T R S X M P (nI n) h (nI k) w f d v (nI z) T R S X (nI n) h (nI k) ((fX2_isMonotone T (xs (i + 1))).2) (nI a) o) := hD
  subst r9
  have he := e_isMonotone hT (xs (i + 1))
  refine lv_istore (lv' := [(6, .int ((fX2_isMonotone T (xs (i + 1))).1)), (5, .int (cd1 (kX1_isMonotone (xs (i + 1))))), (0, .ref b), (1, .ref (q 0)), (2, .ref (qm 0)), (3, .ref o9), (4, .int (nI i))]) hx hb dL_law_1530 hl (by decide) rfl (fun ls hl => ?_)
  refine lv_aload_n hx hb dL_law_1532 rfl (lv_at hl 4 rfl) ?_
  have hPc := hP.sub (ws' := (wM qm cm T R S X (nI (n)) h (nI (k)) ((fX2_isMonotone T (xs (i + 1))).2) (nI (a)) o)) [9, 10, 11, 12, 13] rfl
  have hKc := hK.sub (tys' := (tyM cm)) [7, 8, 9, 10] rfl
  refine vp_callSi (va_Run.run (va_runV (As := []) (rest := []) ⟨hx, hb, hml, hown, hts⟩ (c_X2_thrown l D qm cm T R S X (nI (n)) h (nI (k)) ((fX2_isMonotone T (xs (i + 1))).2) (nI (a)) o) (cwV 0 hts gL_law_X2_thrown rfl rfl rfl (by decide +kernel) ⟨Nat.le_of_ble_eq_true rfl, Nat.le_of_ble_eq_true rfl⟩) ⟨fun a U g mk z => ⟨z.1, z.2.1, va_K.moved (u := U) (U := U.calling g mk a) (Vm.Alike.refl U.vm) z.2.2.1, z.2.2.2.blind g mk a⟩, va_recv hKc hPc (ci := 2) (q0 := 0) rfl rfl, fun U hU hW => ⟨rfl, by rw [hU]; exact hPc, va_K.moved hW.alike hKc, hE.at0 hS hU hW⟩⟩ rfl rfl hl.1 rfl (lv_room (Nat.le_of_ble_eq_true rfl)) dL_law_1533 ⟨(by show cells + 1 ≤ 1049; omega), (by show slots + 6 ≤ 8580; omega)⟩)) (fun r9 hr9 => ?_)
  subst r9
  refine lv_iload hx hb dL_law_1536 (lv_at hl 1 rfl) ?_
  have halt := he
  have hth : ((fX2_isMonotone T (xs (i + 1))).2) = cd1 (kX1_isMonotone (xs (i + 1))) := by
    rcases halt with ⟨h1, h2, h3⟩ | ⟨h1, h2⟩ <;> (rw [h1, h2]; rfl)
  have hval : (kX1_isMonotone (xs (i + 1))) = 0 → (fX1_isMonotone T (xs (i + 1))) = (fX2_isMonotone T (xs (i + 1))).1 := by
    intro h0
    rcases halt with ⟨h1, h2, h3⟩ | ⟨h1, h2⟩
    · exact h3
    · rw [h1] at h0; exact absurd h0 (by decide)
  refine lv_icmp_eq (tgt := 1543) hx hb dL_law_1538 (by decide) (fun c1 => ?_) (fun c1 => absurd (show fX2_thrown ((fX2_isMonotone T (xs (i + 1))).2) = cd1 (kX1_isMonotone (xs (i + 1))) from hth) c1)
  refine lv_iload hx hb dL_law_1543 (lv_at hl 1 rfl) ?_
  have kend : W p l e room_1 s m #[Value.ref b] below meth c H locs (cells + 1) (slots + 6) Q (F0 m 1567 ls []) := by
    refine lv_goto (tgt := 1659) hx hb dL_law_1567 (by decide) ?_
    exact kk ⟨T, R, S, X, M, P, (n), (k), (z), (a), h, w, f, d, v, ((fX2_isMonotone T (xs (i + 1))).2), o, (VO (kX1_isMonotone (xs (i + 1))) V9 (if (fX1_isMonotone T (xs (i + 1))) = 0 then 0 else 1 : Int64))⟩ ⟨hT, hR, hS9, hn, hk9, hP9⟩ H _ hP hD hS ls (lv_sub hl [2, 3, 4, 5, 6] rfl)
  refine lv_if_ne (tgt := 1567) hx hb dL_law_1545 (by decide) (fun c2 => kend) (fun c2 => ?_)
  have hK0 : (kX1_isMonotone (xs (i + 1))) = 0 := cd1_0 c2
  have hV0 : VO (kX1_isMonotone (xs (i + 1))) V9 (if (fX1_isMonotone T (xs (i + 1))) = 0 then 0 else 1 : Int64) = vp_updL V9 0 (if (fX1_isMonotone T (xs (i + 1))) = 0 then 0 else 1 : Int64) := if_pos hK0
  refine lv_aload_n hx hb dL_law_1548 rfl (lv_at hl 5 rfl) ?_
  refine lv_iconst (v := 0) hx hb dL_law_1549 (by decide) ?_
  refine va_lald hx hb hK hP 0 0 rfl rfl (i := 0) (vp_in_nI (n := 0) (N := 1) (by decide) (by decide)) dL_law_1550 ?_
  refine lv_isL (if (fX1_isMonotone T (xs (i + 1))) = 0 then 0 else 1 : Int64) (by rw [hV0]; rfl) ?_
  refine lv_iload hx hb dL_law_1551 (lv_at hl 0 rfl) ?_
  refine lv_ternL hx hb dL_law_1553 dL_law_1556 dL_law_1557 dL_law_1560 ?_
  rw [hval hK0]
  refine W.lcmp hx hb dL_law_1561 ?_
  exact lv_if_eq (tgt := 1567) hx hb dL_law_1562 (by decide) (fun c3 => kend) (fun c3 => absurd (lg_self _) c3)
set_option maxHeartbeats 4000000 in
set_option maxRecDepth 100000 in
theorem k_areEnough {p : Program} {l : Launch} (hst : l.stackTraces = false) {e : Env} {s : State} {m : MethodId} {below : List Frame} {meth : Method} {c : Code} {b L : Nat} {xs : Nat → Int32} (hL : L ≤ 2560) (C0 : lw_At p s m meth c b L xs) (hE : envE (fun q : Nat => s.heap.size ≤ q) s) {D : va_G} {q : Nat → Nat} {cq : Nat → ClassId} {o9 : Nat} {co : ClassId} {qm : Nat → Nat} {cm : Nat → ClassId} (hK : va_K D vwCl (tyA cq co cm) s) (σ : LwS) (hok : okS σ) (H : Heap) (locs : List Loc) (hP : va_P D vwCl (wA q cq o9 co qm cm σ) H) (hD : va_D (fun q : Nat => s.heap.size ≤ q) (wA q cq o9 co qm cm σ)) (hS : va_S (fun q : Nat => s.heap.size ≤ q) s.heap H locs) (i : Nat) (hi : i + 5 ≤ L) (ls : Array Slot) (hl : lv_has ls 7 (lvA b q o9 qm i)) {cells slots : Nat} (hc : cells + 1 ≤ 1049) (hs : slots + 6 ≤ 8580) {Q : State → Prop} (kk : ∀ σ2 : LwS, okS σ2 → ∀ (H2 : Heap) (locs2 : List Loc), va_P D vwCl (wA q cq o9 co qm cm σ2) H2 → va_D (fun q : Nat => s.heap.size ≤ q) (wA q cq o9 co qm cm σ2) → va_S (fun q : Nat => s.heap.size ≤ q) s.heap H2 locs2 → ∀ ls2 : Array Slot, lv_has ls2 7 (lvA b q o9 qm i) → W p l e room_1 s m #[Value.ref b] below meth c H2 locs2 (cells + 1) (slots + 6) Q (F0 m 1659 ls2 [])) : W p l e room_1 s m #[Value.ref b] below meth c H locs cells slots Q (F0 m 1570 ls []) := by
  obtain ⟨hx, hb, hr, hml, hown, hts, hX, hbl, hlocks, hgv⟩ := C0
  have hown : s.vm.findClass RL = some m.cls := hown
  have hts : ∀ w ∈ wsL_law, w.before #[Value.ref b] s = true := fun w hw => hts w (wsL_law_in w hw)
  have hA : ∀ q : Nat, s.heap.size ≤ q → (fun q : Nat => s.heap.size ≤ q) q := fun _ h => h
  have hbA : ¬ (fun q : Nat => s.heap.size ≤ q) b := Nat.not_le.mpr hbl
  obtain ⟨T, R, S, X, M, P, n, k, z, a, h, w, f, d, v, th, o, V9⟩ := σ
  obtain ⟨hT, hR, hS9, hn, hk9, hP9⟩ := hok
  dsimp only at hT hR hS9 hn hk9 hP9
  have hP : va_P D vwCl (wW q cq o9 co qm cm V9 T R S X M P (nI n) h (nI k) w f d v (nI z) T R S X (nI n) h (nI k) th (nI a) o) H := hP
  have hD : va_D (fun q : Nat => s.heap.size ≤ q) (wW q cq o9 co qm cm V9 T R S X M P (nI n) h (nI k) w f d v (nI z) T R S X (nI n) h (nI k) th (nI a) o) := hD
  refine lv_aload_n hx hb dL_law_1570 rfl (lv_at hl 1 rfl) ?_
  refine lv_aload_n hx hb dL_law_1571 rfl (lv_at hl 0 rfl) ?_
  refine lv_iload hx hb dL_law_1572 (lv_at hl 4 rfl) ?_
  refine lv_iconst (v := 1) hx hb dL_law_1574 (by decide) ?_
  refine lv_iadd hx hb dL_law_1575 ?_
  refine lv_is (nI (i + 1)) (nI_add i 1) ?_
  refine va_sld hx hb hX hbl hbA hS (i := nI (i + 1)) (vp_in_nI (by omega) (by omega)) dL_law_1576 ?_
  refine lv_is (xs (i + 1)) (by rw [nI_clamp (by omega)]) ?_
  refine lv_aload_n hx hb dL_law_1577 rfl (lv_at hl 3 rfl) ?_
  have hPc := hP.sub (ws' := (wL q cq o9 co V9 T R S X M P (nI n) h (nI k) w f d v (nI z))) [0, 1, 2, 3, 4, 5, 6, 7, 8] rfl
  have hKc := hK.sub (tys' := (tyL cq co)) [0, 1, 2, 3, 4, 5, 6] rfl
  have hDc := hD.sub (ws' := (wL q cq o9 co V9 T R S X M P (nI n) h (nI k) w f d v (nI z))) [0, 1, 2, 3, 4, 5, 6, 7, 8] (by decide) rfl
  have hFc := va_free (wc := (wL q cq o9 co V9 T R S X M P (nI n) h (nI k) w f d v (nI z))) hD hS hA [0, 1, 2, 3, 4, 5, 6, 7, 8] rfl
  refine va_calli (vx_runSW (As := [.ref (q 0), .int (xs (i + 1)), .ref o9]) (rest := []) ⟨hx, hb, hml, hown, hts⟩ (c_L_areEnough l hst D q cq o9 co V9 H.size T R S X M P (nI n) h (nI k) w f d v (nI z) (xs (i + 1))) (vx_cwSW 3 hts gL_law_L_areEnough rfl rfl rfl (by decide +kernel) ⟨Nat.le_of_ble_eq_true rfl, Nat.le_of_ble_eq_true rfl⟩) ⟨fun a U g mk z => ⟨z.1, z.2.1, z.2.2.1, va_K.moved (u := U) (U := U.calling g mk a) (Vm.Alike.refl U.vm) z.2.2.2.1, z.2.2.2.2.1, z.2.2.2.2.2.blind g mk a⟩, fun U hU hW => ⟨rfl, by rw [hU], by rw [hU]; exact hPc, va_K.moved hW.alike hKc, hDc.weaken (fun _ _ _ _ => trivial), hE.at hS hU hW hFc⟩⟩ rfl rfl hl.1 rfl (lv_room (Nat.le_of_ble_eq_true rfl)) dL_law_1578 ⟨(by show cells + 1 ≤ 1049; omega), (by show slots + 6 ≤ 8580; omega)⟩) hS (fun q _ h => hFc q h) hFc (fun r9 u9 t8 H1 locs ht hvm hw hB hz1 hk1 hS => ?_)
  obtain ⟨hP1, hD1⟩ := hB
  rw [ht] at hP1
  obtain ⟨hP, hD⟩ := va_join (wr := (wM qm cm T R S X (nI n) h (nI k) th (nI a) o)) (w1 := (wL q cq o9 co (VO (kX1_areEnough T (xs (i + 1))) V9 (if (fX1_areEnough T (xs (i + 1))) = 0 then 0 else 1 : Int64)) T R S X M P (nI n) h (nI k) w f d v (nI z))) hP hD [0, 1, 2, 3, 4, 5, 6, 7, 8] [9, 10, 11, 12, 13] rfl rfl (by decide) (by decide) hk1 hFc hP1 hD1
  have hP := hP.sub (ws' := (wW q cq o9 co qm cm (VO (kX1_areEnough T (xs (i + 1))) V9 (if (fX1_areEnough T (xs (i + 1))) = 0 then 0 else 1 : Int64)) T R S X M P (nI n) h (nI k) w f d v (nI z) T R S X (nI n) h (nI k) th (nI a) o)) [5, 6, 7, 8, 9, 10, 11, 12, 13, 0, 1, 2, 3, 4] rfl
  have hD := hD.sub (ws' := (wW q cq o9 co qm cm (VO (kX1_areEnough T (xs (i + 1))) V9 (if (fX1_areEnough T (xs (i + 1))) = 0 then 0 else 1 : Int64)) T R S X M P (nI n) h (nI k) w f d v (nI z) T R S X (nI n) h (nI k) th (nI a) o)) [5, 6, 7, 8, 9, 10, 11, 12, 13, 0, 1, 2, 3, 4] (by decide) rfl
  generalize H1 = H at hP hS ⊢
  subst r9
  refine lv_istore (lv' := [(5, .int (cd1 (kX1_areEnough T (xs (i + 1))))), (0, .ref b), (1, .ref (q 0)), (2, .ref (qm 0)), (3, .ref o9), (4, .int (nI i))]) hx hb dL_law_1581 hl (by decide) rfl (fun ls hl => ?_)
  refine lv_aload_n hx hb dL_law_1583 rfl (lv_at hl 3 rfl) ?_
  refine lv_aload_n hx hb dL_law_1584 rfl (lv_at hl 1 rfl) ?_
  refine lv_iload hx hb dL_law_1585 (lv_at hl 5 rfl) ?_
  refine lv_iconst (v := 1) hx hb dL_law_1587 (by decide) ?_
  refine lv_iadd hx hb dL_law_1588 ?_
  refine lv_is (nI (i + 1)) (nI_add i 1) ?_
  refine va_sld hx hb hX hbl hbA hS (i := nI (i + 1)) (vp_in_nI (by omega) (by omega)) dL_law_1589 ?_
  refine lv_is (xs (i + 1)) (by rw [nI_clamp (by omega)]) ?_
  have hPc := hP.sub (ws' := (wM qm cm T R S X (nI n) h (nI k) th (nI a) o)) [9, 10, 11, 12, 13] rfl
  have hKc := hK.sub (tys' := (tyM cm)) [7, 8, 9, 10] rfl
  have hDc := hD.sub (ws' := (wM qm cm T R S X (nI n) h (nI k) th (nI a) o)) [9, 10, 11, 12, 13] (by decide) rfl
  have hFc := va_free (wc := (wM qm cm T R S X (nI n) h (nI k) th (nI a) o)) hD hS hA [9, 10, 11, 12, 13] rfl
  refine va_calli (va_runV (As := [.int (xs (i + 1))]) (rest := []) ⟨hx, hb, hml, hown, hts⟩ (c_X2_areEnough l D qm cm H.size T R S X (nI n) h (nI k) th (nI a) o (xs (i + 1))) (cwV 1 hts gL_law_X2_areEnough rfl rfl rfl (by decide +kernel) ⟨Nat.le_of_ble_eq_true rfl, Nat.le_of_ble_eq_true rfl⟩) ⟨fun a U g mk z => ⟨z.1, z.2.1, z.2.2.1, va_K.moved (u := U) (U := U.calling g mk a) (Vm.Alike.refl U.vm) z.2.2.2.1, z.2.2.2.2.1, z.2.2.2.2.2.blind g mk a⟩, va_recv hKc hPc (ci := 2) (q0 := 0) rfl rfl, fun U hU hW => ⟨rfl, by rw [hU], by rw [hU]; exact hPc, va_K.moved hW.alike hKc, hDc.weaken (fun _ _ _ _ => trivial), hE.at hS hU hW hFc⟩⟩ rfl rfl hl.1 rfl (lv_room (Nat.le_of_ble_eq_true rfl)) dL_law_1590 ⟨(by show cells + 1 ≤ 1049; omega), (by show slots + 6 ≤ 8580; omega)⟩) hS (fun q _ h => hFc q h) hFc (fun r9 u9 t8 H1 locs ht hvm hw hB hz1 hk1 hS => ?_)
  obtain ⟨hP1, hD1⟩ := hB
  rw [ht] at hP1
  obtain ⟨hP, hD⟩ := va_join (wr := (wL q cq o9 co (VO (kX1_areEnough T (xs (i + 1))) V9 (if (fX1_areEnough T (xs (i + 1))) = 0 then 0 else 1 : Int64)) T R S X M P (nI n) h (nI k) w f d v (nI z))) (w1 := (wM qm cm T R S X (nI n) h (nI k) ((fX2_areEnough T (xs (i + 1))).2) (nI a) o)) hP hD [9, 10, 11, 12, 13] [0, 1, 2, 3, 4, 5, 6, 7, 8] rfl rfl (by decide) (by decide) hk1 hFc hP1 hD1
  generalize H1 = H at hP hS ⊢
  have hP : va_P D vwCl (wW q cq o9 co qm cm (VO (kX1_areEnough T (xs (i + 1))) V9 (if (fX1_areEnough T (xs (i + 1))) = 0 then 0 else 1 : Int64)) T R S X M P (nI n) h (nI k) w f d v (nI z) T R S X (nI n) h (nI k) ((fX2_areEnough T (xs (i + 1))).2) (nI a) o) H := hP
  have hD : va_D (fun q : Nat => s.heap.size ≤ q) (wW q cq o9 co qm cm (VO (kX1_areEnough T (xs (i + 1))) V9 (if (fX1_areEnough T (xs (i + 1))) = 0 then 0 else 1 : Int64)) T R S X M P (nI n) h (nI k) w f d v (nI z) T R S X (nI n) h (nI k) ((fX2_areEnough T (xs (i + 1))).2) (nI a) o) := hD
  subst r9
  have he := e_areEnough hT (xs (i + 1))
  refine lv_istore (lv' := [(6, .int ((fX2_areEnough T (xs (i + 1))).1)), (5, .int (cd1 (kX1_areEnough T (xs (i + 1))))), (0, .ref b), (1, .ref (q 0)), (2, .ref (qm 0)), (3, .ref o9), (4, .int (nI i))]) hx hb dL_law_1593 hl (by decide) rfl (fun ls hl => ?_)
  refine lv_aload_n hx hb dL_law_1595 rfl (lv_at hl 4 rfl) ?_
  have hPc := hP.sub (ws' := (wM qm cm T R S X (nI (n)) h (nI (k)) ((fX2_areEnough T (xs (i + 1))).2) (nI (a)) o)) [9, 10, 11, 12, 13] rfl
  have hKc := hK.sub (tys' := (tyM cm)) [7, 8, 9, 10] rfl
  refine vp_callSi (va_Run.run (va_runV (As := []) (rest := []) ⟨hx, hb, hml, hown, hts⟩ (c_X2_thrown l D qm cm T R S X (nI (n)) h (nI (k)) ((fX2_areEnough T (xs (i + 1))).2) (nI (a)) o) (cwV 0 hts gL_law_X2_thrown rfl rfl rfl (by decide +kernel) ⟨Nat.le_of_ble_eq_true rfl, Nat.le_of_ble_eq_true rfl⟩) ⟨fun a U g mk z => ⟨z.1, z.2.1, va_K.moved (u := U) (U := U.calling g mk a) (Vm.Alike.refl U.vm) z.2.2.1, z.2.2.2.blind g mk a⟩, va_recv hKc hPc (ci := 2) (q0 := 0) rfl rfl, fun U hU hW => ⟨rfl, by rw [hU]; exact hPc, va_K.moved hW.alike hKc, hE.at0 hS hU hW⟩⟩ rfl rfl hl.1 rfl (lv_room (Nat.le_of_ble_eq_true rfl)) dL_law_1596 ⟨(by show cells + 1 ≤ 1049; omega), (by show slots + 6 ≤ 8580; omega)⟩)) (fun r9 hr9 => ?_)
  subst r9
  refine lv_iload hx hb dL_law_1599 (lv_at hl 1 rfl) ?_
  have halt := he
  have hth : ((fX2_areEnough T (xs (i + 1))).2) = cd1 (kX1_areEnough T (xs (i + 1))) := by
    rcases halt with ⟨h1, h2, h3⟩ | ⟨h1, h2⟩ <;> (rw [h1, h2]; rfl)
  have hval : (kX1_areEnough T (xs (i + 1))) = 0 → (fX1_areEnough T (xs (i + 1))) = (fX2_areEnough T (xs (i + 1))).1 := by
    intro h0
    rcases halt with ⟨h1, h2, h3⟩ | ⟨h1, h2⟩
    · exact h3
    · rw [h1] at h0; exact absurd h0 (by decide)
  refine lv_icmp_eq (tgt := 1606) hx hb dL_law_1601 (by decide) (fun c1 => ?_) (fun c1 => absurd (show fX2_thrown ((fX2_areEnough T (xs (i + 1))).2) = cd1 (kX1_areEnough T (xs (i + 1))) from hth) c1)
  refine lv_iload hx hb dL_law_1606 (lv_at hl 1 rfl) ?_
  have kend : W p l e room_1 s m #[Value.ref b] below meth c H locs (cells + 1) (slots + 6) Q (F0 m 1630 ls []) := by
    refine lv_goto (tgt := 1659) hx hb dL_law_1630 (by decide) ?_
    exact kk ⟨T, R, S, X, M, P, (n), (k), (z), (a), h, w, f, d, v, ((fX2_areEnough T (xs (i + 1))).2), o, (VO (kX1_areEnough T (xs (i + 1))) V9 (if (fX1_areEnough T (xs (i + 1))) = 0 then 0 else 1 : Int64))⟩ ⟨hT, hR, hS9, hn, hk9, hP9⟩ H _ hP hD hS ls (lv_sub hl [2, 3, 4, 5, 6] rfl)
  refine lv_if_ne (tgt := 1630) hx hb dL_law_1608 (by decide) (fun c2 => kend) (fun c2 => ?_)
  have hK0 : (kX1_areEnough T (xs (i + 1))) = 0 := cd1_0 c2
  have hV0 : VO (kX1_areEnough T (xs (i + 1))) V9 (if (fX1_areEnough T (xs (i + 1))) = 0 then 0 else 1 : Int64) = vp_updL V9 0 (if (fX1_areEnough T (xs (i + 1))) = 0 then 0 else 1 : Int64) := if_pos hK0
  refine lv_aload_n hx hb dL_law_1611 rfl (lv_at hl 5 rfl) ?_
  refine lv_iconst (v := 0) hx hb dL_law_1612 (by decide) ?_
  refine va_lald hx hb hK hP 0 0 rfl rfl (i := 0) (vp_in_nI (n := 0) (N := 1) (by decide) (by decide)) dL_law_1613 ?_
  refine lv_isL (if (fX1_areEnough T (xs (i + 1))) = 0 then 0 else 1 : Int64) (by rw [hV0]; rfl) ?_
  refine lv_iload hx hb dL_law_1614 (lv_at hl 0 rfl) ?_
  refine lv_ternL hx hb dL_law_1616 dL_law_1619 dL_law_1620 dL_law_1623 ?_
  rw [hval hK0]
  refine W.lcmp hx hb dL_law_1624 ?_
  exact lv_if_eq (tgt := 1630) hx hb dL_law_1625 (by decide) (fun c3 => kend) (fun c3 => absurd (lg_self _) c3)
set_option maxHeartbeats 4000000 in
set_option maxRecDepth 100000 in
theorem k_fewestEnough {p : Program} {l : Launch} (hst : l.stackTraces = false) {e : Env} {s : State} {m : MethodId} {below : List Frame} {meth : Method} {c : Code} {b L : Nat} {xs : Nat → Int32} (hL : L ≤ 2560) (C0 : lw_At p s m meth c b L xs) (hE : envE (fun q : Nat => s.heap.size ≤ q) s) {D : va_G} {q : Nat → Nat} {cq : Nat → ClassId} {o9 : Nat} {co : ClassId} {qm : Nat → Nat} {cm : Nat → ClassId} (hK : va_K D vwCl (tyA cq co cm) s) (σ : LwS) (hok : okS σ) (H : Heap) (locs : List Loc) (hP : va_P D vwCl (wA q cq o9 co qm cm σ) H) (hD : va_D (fun q : Nat => s.heap.size ≤ q) (wA q cq o9 co qm cm σ)) (hS : va_S (fun q : Nat => s.heap.size ≤ q) s.heap H locs) (i : Nat) (hi : i + 5 ≤ L) (ls : Array Slot) (hl : lv_has ls 7 (lvA b q o9 qm i)) {cells slots : Nat} (hc : cells + 1 ≤ 1049) (hs : slots + 6 ≤ 8580) {Q : State → Prop} (kk : ∀ σ2 : LwS, okS σ2 → ∀ (H2 : Heap) (locs2 : List Loc), va_P D vwCl (wA q cq o9 co qm cm σ2) H2 → va_D (fun q : Nat => s.heap.size ≤ q) (wA q cq o9 co qm cm σ2) → va_S (fun q : Nat => s.heap.size ≤ q) s.heap H2 locs2 → ∀ ls2 : Array Slot, lv_has ls2 7 (lvA b q o9 qm i) → W p l e room_1 s m #[Value.ref b] below meth c H2 locs2 (cells + 1) (slots + 6) Q (F0 m 1659 ls2 [])) : W p l e room_1 s m #[Value.ref b] below meth c H locs cells slots Q (F0 m 1633 ls []) := by
  obtain ⟨hx, hb, hr, hml, hown, hts, hX, hbl, hlocks, hgv⟩ := C0
  have hown : s.vm.findClass RL = some m.cls := hown
  have hts : ∀ w ∈ wsL_law, w.before #[Value.ref b] s = true := fun w hw => hts w (wsL_law_in w hw)
  have hA : ∀ q : Nat, s.heap.size ≤ q → (fun q : Nat => s.heap.size ≤ q) q := fun _ h => h
  have hbA : ¬ (fun q : Nat => s.heap.size ≤ q) b := Nat.not_le.mpr hbl
  obtain ⟨T, R, S, X, M, P, n, k, z, a, h, w, f, d, v, th, o, V9⟩ := σ
  obtain ⟨hT, hR, hS9, hn, hk9, hP9⟩ := hok
  dsimp only at hT hR hS9 hn hk9 hP9
  have hP : va_P D vwCl (wW q cq o9 co qm cm V9 T R S X M P (nI n) h (nI k) w f d v (nI z) T R S X (nI n) h (nI k) th (nI a) o) H := hP
  have hD : va_D (fun q : Nat => s.heap.size ≤ q) (wW q cq o9 co qm cm V9 T R S X M P (nI n) h (nI k) w f d v (nI z) T R S X (nI n) h (nI k) th (nI a) o) := hD
  refine lv_aload_n hx hb dL_law_1633 rfl (lv_at hl 1 rfl) ?_
  have hPc := hP.sub (ws' := (wB q cq T R S X M P (nI n) h (nI k) w f d v (nI z))) [1, 2, 3, 4, 5, 6, 7, 8] rfl
  have hKc := hK.sub (tys' := (tyB cq)) [1, 2, 3, 4, 5, 6] rfl
  refine vp_callSi (va_Run.run (va_runV (As := []) (rest := []) ⟨hx, hb, hml, hown, hts⟩ (c_X1_fewestEnough l D q cq T R S X M P (nI n) h (nI k) w f d v (nI z)) (cwV 0 hts gL_law_X1_fewestEnough rfl rfl rfl (by decide +kernel) ⟨Nat.le_of_ble_eq_true rfl, Nat.le_of_ble_eq_true rfl⟩) ⟨fun a U g mk z => ⟨z.1, z.2.1, va_K.moved (u := U) (U := U.calling g mk a) (Vm.Alike.refl U.vm) z.2.2.1, z.2.2.2.blind g mk a⟩, va_recv hKc hPc (ci := 1) (q0 := 0) rfl rfl, fun U hU hW => ⟨rfl, by rw [hU]; exact hPc, va_K.moved hW.alike hKc, hE.at0 hS hU hW⟩⟩ rfl rfl hl.1 rfl (lv_room (Nat.le_of_ble_eq_true rfl)) dL_law_1634 ⟨(by show cells ≤ 1049; omega), (by show slots ≤ 8580; omega)⟩)) (fun r9 hr9 => ?_)
  subst r9
  refine lv_aload_n hx hb dL_law_1637 rfl (lv_at hl 2 rfl) ?_
  have hPc := hP.sub (ws' := (wM qm cm T R S X (nI n) h (nI k) th (nI a) o)) [9, 10, 11, 12, 13] rfl
  have hKc := hK.sub (tys' := (tyM cm)) [7, 8, 9, 10] rfl
  have hDc := hD.sub (ws' := (wM qm cm T R S X (nI n) h (nI k) th (nI a) o)) [9, 10, 11, 12, 13] (by decide) rfl
  have hFc := va_free (wc := (wM qm cm T R S X (nI n) h (nI k) th (nI a) o)) hD hS hA [9, 10, 11, 12, 13] rfl
  refine va_calli (va_runV (As := []) (rest := [.int ((fX1_fewestEnough T))]) ⟨hx, hb, hml, hown, hts⟩ (c_X2_fewestEnough l D qm cm H.size T R S X (nI n) h (nI k) th (nI a) o) (cwV 0 hts gL_law_X2_fewestEnough rfl rfl rfl (by decide +kernel) ⟨Nat.le_of_ble_eq_true rfl, Nat.le_of_ble_eq_true rfl⟩) ⟨fun a U g mk z => ⟨z.1, z.2.1, z.2.2.1, va_K.moved (u := U) (U := U.calling g mk a) (Vm.Alike.refl U.vm) z.2.2.2.1, z.2.2.2.2.1, z.2.2.2.2.2.blind g mk a⟩, va_recv hKc hPc (ci := 2) (q0 := 0) rfl rfl, fun U hU hW => ⟨rfl, by rw [hU], by rw [hU]; exact hPc, va_K.moved hW.alike hKc, hDc.weaken (fun _ _ _ _ => trivial), hE.at hS hU hW hFc⟩⟩ rfl rfl hl.1 rfl (lv_room (Nat.le_of_ble_eq_true rfl)) dL_law_1638 ⟨(by show cells ≤ 1049; omega), (by show slots ≤ 8580; omega)⟩) hS (fun q _ h => hFc q h) hFc (fun r9 u9 t8 H1 locs ht hvm hw hB hz1 hk1 hS => ?_)
  obtain ⟨hP1, hD1⟩ := hB
  rw [ht] at hP1
  obtain ⟨hP, hD⟩ := va_join (wr := (wL q cq o9 co V9 T R S X M P (nI n) h (nI k) w f d v (nI z))) (w1 := (wM qm cm T R S X (nI n) h (nI k) ((fX2_fewestEnough T).2) (nI a) o)) hP hD [9, 10, 11, 12, 13] [0, 1, 2, 3, 4, 5, 6, 7, 8] rfl rfl (by decide) (by decide) hk1 hFc hP1 hD1
  generalize H1 = H at hP hS ⊢
  have hP : va_P D vwCl (wW q cq o9 co qm cm V9 T R S X M P (nI n) h (nI k) w f d v (nI z) T R S X (nI n) h (nI k) ((fX2_fewestEnough T).2) (nI a) o) H := hP
  have hD : va_D (fun q : Nat => s.heap.size ≤ q) (wW q cq o9 co qm cm V9 T R S X M P (nI n) h (nI k) w f d v (nI z) T R S X (nI n) h (nI k) ((fX2_fewestEnough T).2) (nI a) o) := hD
  subst r9
  have he := fewest_eq T (fun i _ => hT i)
  refine lv_icmp_eq (tgt := 1659) hx hb dL_law_1641 (by decide) (fun c1 => ?_) (fun c1 => absurd (he) c1)
  refine W.widen (k := cells + 1) (n := slots + 6) (by show cells ≤ _; omega) (by show slots ≤ _; omega) ?_
  exact kk ⟨T, R, S, X, M, P, (n), (k), (z), (a), h, w, f, d, v, ((fX2_fewestEnough T).2), o, V9⟩ ⟨hT, hR, hS9, hn, hk9, hP9⟩ H _ hP hD hS ls (lv_sub hl [0, 1, 2, 3, 4] rfl)
set_option maxHeartbeats 4000000 in
set_option maxRecDepth 100000 in
theorem k_recordedStates {p : Program} {l : Launch} (hst : l.stackTraces = false) {e : Env} {s : State} {m : MethodId} {below : List Frame} {meth : Method} {c : Code} {b L : Nat} {xs : Nat → Int32} (hL : L ≤ 2560) (C0 : lw_At p s m meth c b L xs) (hE : envE (fun q : Nat => s.heap.size ≤ q) s) {D : va_G} {q : Nat → Nat} {cq : Nat → ClassId} {o9 : Nat} {co : ClassId} {qm : Nat → Nat} {cm : Nat → ClassId} (hK : va_K D vwCl (tyA cq co cm) s) (σ : LwS) (hok : okS σ) (H : Heap) (locs : List Loc) (hP : va_P D vwCl (wA q cq o9 co qm cm σ) H) (hD : va_D (fun q : Nat => s.heap.size ≤ q) (wA q cq o9 co qm cm σ)) (hS : va_S (fun q : Nat => s.heap.size ≤ q) s.heap H locs) (i : Nat) (hi : i + 5 ≤ L) (ls : Array Slot) (hl : lv_has ls 7 (lvA b q o9 qm i)) {cells slots : Nat} (hc : cells + 1 ≤ 1049) (hs : slots + 6 ≤ 8580) {Q : State → Prop} (kk : ∀ σ2 : LwS, okS σ2 → ∀ (H2 : Heap) (locs2 : List Loc), va_P D vwCl (wA q cq o9 co qm cm σ2) H2 → va_D (fun q : Nat => s.heap.size ≤ q) (wA q cq o9 co qm cm σ2) → va_S (fun q : Nat => s.heap.size ≤ q) s.heap H2 locs2 → ∀ ls2 : Array Slot, lv_has ls2 7 (lvA b q o9 qm i) → W p l e room_1 s m #[Value.ref b] below meth c H2 locs2 (cells + 1) (slots + 6) Q (F0 m 1659 ls2 [])) : W p l e room_1 s m #[Value.ref b] below meth c H locs cells slots Q (F0 m 1646 ls []) := by
  obtain ⟨hx, hb, hr, hml, hown, hts, hX, hbl, hlocks, hgv⟩ := C0
  have hown : s.vm.findClass RL = some m.cls := hown
  have hts : ∀ w ∈ wsL_law, w.before #[Value.ref b] s = true := fun w hw => hts w (wsL_law_in w hw)
  have hA : ∀ q : Nat, s.heap.size ≤ q → (fun q : Nat => s.heap.size ≤ q) q := fun _ h => h
  have hbA : ¬ (fun q : Nat => s.heap.size ≤ q) b := Nat.not_le.mpr hbl
  obtain ⟨T, R, S, X, M, P, n, k, z, a, h, w, f, d, v, th, o, V9⟩ := σ
  obtain ⟨hT, hR, hS9, hn, hk9, hP9⟩ := hok
  dsimp only at hT hR hS9 hn hk9 hP9
  have hP : va_P D vwCl (wW q cq o9 co qm cm V9 T R S X M P (nI n) h (nI k) w f d v (nI z) T R S X (nI n) h (nI k) th (nI a) o) H := hP
  have hD : va_D (fun q : Nat => s.heap.size ≤ q) (wW q cq o9 co qm cm V9 T R S X M P (nI n) h (nI k) w f d v (nI z) T R S X (nI n) h (nI k) th (nI a) o) := hD
  refine lv_aload_n hx hb dL_law_1646 rfl (lv_at hl 1 rfl) ?_
  have hPc := hP.sub (ws' := (wB q cq T R S X M P (nI n) h (nI k) w f d v (nI z))) [1, 2, 3, 4, 5, 6, 7, 8] rfl
  have hKc := hK.sub (tys' := (tyB cq)) [1, 2, 3, 4, 5, 6] rfl
  refine vp_callSi (va_Run.run (va_runV (As := []) (rest := []) ⟨hx, hb, hml, hown, hts⟩ (c_X1_recordedStates l D q cq T R S X M P n h (nI k) w f d v (nI z)) (cwV 0 hts gL_law_X1_recordedStates rfl rfl rfl (by decide +kernel) ⟨Nat.le_of_ble_eq_true rfl, Nat.le_of_ble_eq_true rfl⟩) ⟨fun a U g mk z => ⟨z.1, z.2.1, va_K.moved (u := U) (U := U.calling g mk a) (Vm.Alike.refl U.vm) z.2.2.1, z.2.2.2.blind g mk a⟩, va_recv hKc hPc (ci := 1) (q0 := 0) rfl rfl, fun U hU hW => ⟨rfl, by rw [hU]; exact hPc, va_K.moved hW.alike hKc, hE.at0 hS hU hW⟩⟩ rfl rfl hl.1 rfl (lv_room (Nat.le_of_ble_eq_true rfl)) dL_law_1647 ⟨(by show cells ≤ 1049; omega), (by show slots ≤ 8580; omega)⟩)) (fun r9 hr9 => ?_)
  subst r9
  refine lv_aload_n hx hb dL_law_1650 rfl (lv_at hl 2 rfl) ?_
  have hPc := hP.sub (ws' := (wM qm cm T R S X (nI n) h (nI k) th (nI a) o)) [9, 10, 11, 12, 13] rfl
  have hKc := hK.sub (tys' := (tyM cm)) [7, 8, 9, 10] rfl
  have hDc := hD.sub (ws' := (wM qm cm T R S X (nI n) h (nI k) th (nI a) o)) [9, 10, 11, 12, 13] (by decide) rfl
  have hFc := va_free (wc := (wM qm cm T R S X (nI n) h (nI k) th (nI a) o)) hD hS hA [9, 10, 11, 12, 13] rfl
  refine va_calli (va_runV (As := []) (rest := [.int ((fX1_recordedStates n))]) ⟨hx, hb, hml, hown, hts⟩ (c_X2_recordedStates l D qm cm H.size T R S X (nI n) h (nI k) th (nI a) o) (cwV 0 hts gL_law_X2_recordedStates rfl rfl rfl (by decide +kernel) ⟨Nat.le_of_ble_eq_true rfl, Nat.le_of_ble_eq_true rfl⟩) ⟨fun a U g mk z => ⟨z.1, z.2.1, z.2.2.1, va_K.moved (u := U) (U := U.calling g mk a) (Vm.Alike.refl U.vm) z.2.2.2.1, z.2.2.2.2.1, z.2.2.2.2.2.blind g mk a⟩, va_recv hKc hPc (ci := 2) (q0 := 0) rfl rfl, fun U hU hW => ⟨rfl, by rw [hU], by rw [hU]; exact hPc, va_K.moved hW.alike hKc, hDc.weaken (fun _ _ _ _ => trivial), hE.at hS hU hW hFc⟩⟩ rfl rfl hl.1 rfl (lv_room (Nat.le_of_ble_eq_true rfl)) dL_law_1651 ⟨(by show cells ≤ 1049; omega), (by show slots ≤ 8580; omega)⟩) hS (fun q _ h => hFc q h) hFc (fun r9 u9 t8 H1 locs ht hvm hw hB hz1 hk1 hS => ?_)
  obtain ⟨hP1, hD1⟩ := hB
  rw [ht] at hP1
  obtain ⟨hP, hD⟩ := va_join (wr := (wL q cq o9 co V9 T R S X M P (nI n) h (nI k) w f d v (nI z))) (w1 := (wM qm cm T R S X (nI n) h (nI k) ((fX2_recordedStates (nI n)).2) (nI a) o)) hP hD [9, 10, 11, 12, 13] [0, 1, 2, 3, 4, 5, 6, 7, 8] rfl rfl (by decide) (by decide) hk1 hFc hP1 hD1
  generalize H1 = H at hP hS ⊢
  have hP : va_P D vwCl (wW q cq o9 co qm cm V9 T R S X M P (nI n) h (nI k) w f d v (nI z) T R S X (nI n) h (nI k) ((fX2_recordedStates (nI n)).2) (nI a) o) H := hP
  have hD : va_D (fun q : Nat => s.heap.size ≤ q) (wW q cq o9 co qm cm V9 T R S X M P (nI n) h (nI k) w f d v (nI z) T R S X (nI n) h (nI k) ((fX2_recordedStates (nI n)).2) (nI a) o) := hD
  subst r9
  have he := True.intro
  refine lv_icmp_eq (tgt := 1659) hx hb dL_law_1654 (by decide) (fun c1 => ?_) (fun c1 => absurd (rfl) c1)
  refine W.widen (k := cells + 1) (n := slots + 6) (by show cells ≤ _; omega) (by show slots ≤ _; omega) ?_
  exact kk ⟨T, R, S, X, M, P, (n), (k), (z), (a), h, w, f, d, v, ((fX2_recordedStates (nI n)).2), o, V9⟩ ⟨hT, hR, hS9, hn, hk9, hP9⟩ H _ hP hD hS ls (lv_sub hl [0, 1, 2, 3, 4] rfl)
