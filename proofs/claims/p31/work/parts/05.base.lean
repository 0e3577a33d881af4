/-! Base: what every part of this claim stands on. Rows over the kit's own; the world of the system; what the tables and the statics give (Env). -/
section VZ
variable {p : Program} {l : Launch} {e : Env} {R : Room} {s : State} {m : MethodId} {args : Array Value} {below : List Frame} {meth : Method} {c : Code} {H : Heap} {locs : List Loc} {cells slots : Nat} {Q : State → Prop}
variable {cc : ByteArray} {pc : Nat} {ls : Array Slot} {rest : List Value} {D : va_G} {cl : List vw_C} {A : Nat → Prop} {a : Nat} {tys : List (ClassId × FieldType)} {ws : va_W} {H0 : Heap}
/-- a place that several ways come to: P says what holds there -/
theorem vz_cut {g : JFrame} (P : Heap → List Loc → JFrame → Prop) (h0 : (∀ H1 l1 g1, P H1 l1 g1 → W p l e R s m args below meth c H1 l1 cells slots Q g1) → W p l e R s m args below meth c H locs cells slots Q g)
    (h1 : ∀ H1 l1 g1, P H1 l1 g1 → W p l e R s m args below meth c H1 l1 cells slots Q g1) : W p l e R s m args below meth c H locs cells slots Q g := h0 h1
/-- the number on top, said otherwise -/
theorem lv_is {x : Int32} (y : Int32) (h : x = y) (k : W p l e R s m args below meth c H locs cells slots Q (F0 m pc ls (.int y :: rest))) : W p l e R s m args below meth c H locs cells slots Q (F0 m pc ls (.int x :: rest)) := by
  subst h; exact k
theorem vz_iald (hexec : p.tables.exec = Jvm.exec) (hb : c.code = cc) (hK : va_K D cl tys s) (hP : va_P D cl ws H) (q0 t0 : Nat) {cA : ClassId} {n : Nat} {f : Nat → Int32} (ha : ws[q0]? = some (a, .inl (cA, n, .inl f))) (ht : tys[t0]? = some (cA, .int)) (k : Nat) (hk : k < n) (hn : n < 2 ^ 31) (hdg : decode cc pc = .ok (.iaload, 1))
    (kk : W p l e R s m args below meth c H locs cells slots Q (F0 m (pc + 1) ls (.int (f k) :: rest))) : W p l e R s m args below meth c H locs cells slots Q (F0 m pc ls (.int (nI k) :: .ref a :: rest)) :=
  va_iald hexec hb hK hP q0 t0 ha ht (vp_in_nI hk hn) hdg (by rw [nI_clamp (Nat.lt_trans hk hn)]; exact kk)
theorem vz_cald (hexec : p.tables.exec = Jvm.exec) (hb : c.code = cc) (hK : va_K D cl tys s) (hP : va_P D cl ws H) (q0 t0 : Nat) {cA : ClassId} {n : Nat} {f : Nat → Int32} (ha : ws[q0]? = some (a, .inl (cA, n, .inl f))) (ht : tys[t0]? = some (cA, .char)) (k : Nat) (hk : k < n) (hn : n < 2 ^ 31) (hdg : decode cc pc = .ok (.caload, 1))
    (kk : W p l e R s m args below meth c H locs cells slots Q (F0 m (pc + 1) ls (.int (f k) :: rest))) : W p l e R s m args below meth c H locs cells slots Q (F0 m pc ls (.int (nI k) :: .ref a :: rest)) :=
  va_cald hexec hb hK hP q0 t0 ha ht (vp_in_nI hk hn) hdg (by rw [nI_clamp (Nat.lt_trans hk hn)]; exact kk)
theorem vz_iast (hexec : p.tables.exec = Jvm.exec) (hb : c.code = cc) (hK : va_K D cl tys s) (hP : va_P D cl ws H) (hD : va_D A ws) (hS : va_S A H0 H locs) (q0 t0 : Nat) {cA : ClassId} {n : Nat} {f : Nat → Int32} (ha : ws[q0]? = some (a, .inl (cA, n, .inl f))) (ht : tys[t0]? = some (cA, .int)) {x : Int32} (k : Nat) (hk : k < n) (hn : n < 2 ^ 31) (hdg : decode cc pc = .ok (.iastore, 1))
    (kk : ∀ (H1 : Heap) (locs1 : List Loc), va_P D cl (ws.set q0 (a, .inl (cA, n, .inl (upd f k x)))) H1 → va_D A (ws.set q0 (a, .inl (cA, n, .inl (upd f k x)))) → va_S A H0 H1 locs1 → W p l e R s m args below meth c H1 locs1 cells slots Q (F0 m (pc + 1) ls rest)) : W p l e R s m args below meth c H locs cells slots Q (F0 m pc ls (.int x :: .int (nI k) :: .ref a :: rest)) :=
  va_iast hexec hb hK hP hD hS q0 t0 ha ht (vp_in_nI hk hn) hdg (by rw [nI_clamp (Nat.lt_trans hk hn)]; exact kk)
theorem vz_cast (hexec : p.tables.exec = Jvm.exec) (hb : c.code = cc) (hK : va_K D cl tys s) (hP : va_P D cl ws H) (hD : va_D A ws) (hS : va_S A H0 H locs) (q0 t0 : Nat) {cA : ClassId} {n : Nat} {f : Nat → Int32} (ha : ws[q0]? = some (a, .inl (cA, n, .inl f))) (ht : tys[t0]? = some (cA, .char)) {x : Int32} (hx : vp_nar .char x = x) (k : Nat) (hk : k < n) (hn : n < 2 ^ 31) (hdg : decode cc pc = .ok (.castore, 1))
    (kk : ∀ (H1 : Heap) (locs1 : List Loc), va_P D cl (ws.set q0 (a, .inl (cA, n, .inl (upd f k x)))) H1 → va_D A (ws.set q0 (a, .inl (cA, n, .inl (upd f k x)))) → va_S A H0 H1 locs1 → W p l e R s m args below meth c H1 locs1 cells slots Q (F0 m (pc + 1) ls rest)) : W p l e R s m args below meth c H locs cells slots Q (F0 m pc ls (.int x :: .int (nI k) :: .ref a :: rest)) :=
  va_cast hexec hb hK hP hD hS q0 t0 ha ht (vp_in_nI hk hn) hdg (by rw [nI_clamp (Nat.lt_trans hk hn), hx]; exact kk)
theorem vz_ti (hexec : p.tables.exec = Jvm.exec) (hb : c.code = cc) {t N : Nat} {f : Nat → Int32} (hT : va_T .int t N (fun j => .int (f j)) A s s.heap) (hS : va_S A s.heap H locs) (k : Nat) (hk : k < N) (hn : N < 2 ^ 31) (hdg : decode cc pc = .ok (.iaload, 1))
    (kk : W p l e R s m args below meth c H locs cells slots Q (F0 m (pc + 1) ls (.int (f k) :: rest))) : W p l e R s m args below meth c H locs cells slots Q (F0 m pc ls (.int (nI k) :: .ref t :: rest)) :=
  va_ti hexec hb hT hS (vp_in_nI hk hn) (v := .int (f k)) (by rw [nI_clamp (Nat.lt_trans hk hn)]) hdg kk
end VZ
/-- a loop that counts: n steps, from i on -/
def lp {σ : Type} (f : Nat → σ → σ) : Nat → Nat → σ → σ
  | 0, _, a => a
  | n + 1, i, a => lp f n (i + 1) (f i a)
/-- the tables of a, b, c and d -/
def VT : Nat → Int32 := fun k => match k with | 0 => 43690 | 1 => 52428 | 2 => 61680 | _ => 65280
/-- what the tables and the statics say, of a method that writes in A alone -/
def envN (U : State) : Prop := va_Nw (.methodLinkNest RX1 171 yX0_productsRead RX1) U ∧ va_Nw (.methodLinkNest RX1 36 yX0_init RX1) U ∧ va_Nw (.methodLinkNest RX1 99 yX0_firstError RX1) U
def envC (U : State) : Prop := va_Nw (.castable "java/lang/IllegalStateException" "java/lang/IllegalStateException") U ∧ va_Nw (.declares (Bundle.initS "java/lang/RuntimeException")) U ∧ va_Nw (.declares (Bundle.initS "java/lang/Exception")) U ∧ va_Nw (.declares (Bundle.initS "java/lang/Throwable")) U
def envS (U : State) : Prop := ∃ a, vk_R RX1 103 "no state is recorded" a U
def envT (A : Nat → Prop) (U : State) (H : Heap) : Prop := ∃ vt : Nat, va_Z RX1 "VARIABLE_TABLES" "[I" (.ref vt) A U H ∧ va_T .int vt 4 (fun j => .int (VT j)) A U H
def envZ (A : Nat → Prop) (U : State) (H : Heap) : Prop := vx_Zq Bundle.tN "UNASSIGNED_STACK" Bundle.steD A U H ∧ vx_Zq Bundle.tN "SUPPRESSED_SENTINEL" Bundle.listD A U H
def envE (A : Nat → Prop) (U : State) : Prop := envN U ∧ envC U ∧ envS U ∧ envT A U U.heap ∧ envZ A U U.heap
theorem envN.warm {s U : State} (hW : s.WarmedH U.vm) (h : envN s) : envN U := ⟨va_Nw.warmM hW h.1, va_Nw.warmM hW h.2.1, va_Nw.warmM hW h.2.2⟩
theorem envC.warm {s U : State} (hW : s.WarmedH U.vm) (h : envC s) : envC U := ⟨va_Nw.warmC hW h.1, va_Nw.warmD hW h.2.1, va_Nw.warmD hW h.2.2.1, va_Nw.warmD hW h.2.2.2⟩
theorem vk_R.ex {own tx : String} {k : Nat} {s U : State} (hW : s.WarmedH U.vm) (h : ∃ a, vk_R own k tx a s) : ∃ a, vk_R own k tx a U := by
  obtain ⟨a, h⟩ := h
  exact ⟨a, vk_R.warm hW h⟩
theorem envS.warm {s U : State} (hW : s.WarmedH U.vm) (h : envS s) : envS U := vk_R.ex hW h
/-- at a call: the callee's state, its own part B of what may be written -/
theorem envE.at {A B : Nat → Prop} {s U : State} {H : Heap} {locs : List Loc} (h : envE A s) (hS : va_S A s.heap H locs) (hU : U.heap = H) (hW : s.WarmedH U.vm) (hB : ∀ q, B q → A q) : envE B U := by
  obtain ⟨h1, h2, h3, ⟨vt, h4, h5⟩, h6, h7⟩ := h
  refine ⟨h1.warm hW, h2.warm hW, h3.warm hW, ⟨vt, ?_, ?_⟩, ?_, ?_⟩
  · rw [hU]; exact va_Z.moved hW.alike ((h4.kept hS.2.1).narrow hB)
  · rw [hU]; exact va_T.moved hW.alike ((h5.kept hS.2.1).narrow hB)
  · rw [hU]; exact vx_Zq.moved hW.alike ((h6.kept hS.2.1).narrow hB)
  · rw [hU]; exact vx_Zq.moved hW.alike ((h7.kept hS.2.1).narrow hB)
/-- a read-only method's -/
abbrev env0 (U : State) : Prop := envE (fun _ => False) U
theorem envE.at0 {A : Nat → Prop} {s U : State} {H : Heap} {locs : List Loc} (h : envE A s) (hS : va_S A s.heap H locs) (hU : U.heap = H) (hW : s.WarmedH U.vm) : env0 U := h.at hS hU hW (fun _ z => z.elim)
theorem envE.blind {A : Nat → Prop} {U : State} (g : JFrame) (mk : MethodId) (a : Array Value) (h : envE A U) : envE A (U.calling g mk a) := h.at (H := U.heap) (locs := []) va_S.rf rfl (State.WarmedH.refl U) (fun _ z => z)
