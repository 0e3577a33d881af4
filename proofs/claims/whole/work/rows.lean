section
-- ===== PART A: goes FIRST, ahead of the names: the tables' words, and 'selects' of the private methods out of them =====
/-- a private method of a class that the tables say can be made, by its rows of tables_1 -/
def lw_okq (q : MethodName × Nat) : Prop := (q.1.cls ≠ "java/lang/invoke/MethodHandle" ∧ q.1.cls ≠ "java/lang/invoke/VarHandle") ∧ Cond.instantiable q.1.cls q.2 ∈ tables_1 ∧ Cond.privateMethod q.1 ∈ tables_1 ∧ Cond.instanceMethod q.1 ∈ tables_1
theorem lw_p0 : lw_okq (⟨"ZhegalkinBench$TextReader", "firstError", "([CI)I"⟩, 4) := ⟨⟨by decide +kernel, by decide +kernel⟩, List.mem_of_getElem? (i := 22) (by decide +kernel), List.mem_of_getElem? (i := 88) (by decide +kernel), List.mem_of_getElem? (i := 89) (by decide +kernel)⟩
theorem lw_p1 : lw_okq (⟨"ZhegalkinBench$TextReader", "startProduct", "()V"⟩, 4) := ⟨⟨by decide +kernel, by decide +kernel⟩, List.mem_of_getElem? (i := 22) (by decide +kernel), List.mem_of_getElem? (i := 92) (by decide +kernel), List.mem_of_getElem? (i := 93) (by decide +kernel)⟩
theorem lw_p2 : lw_okq (⟨"ZhegalkinBench$TextReader", "takes", "(C)Z"⟩, 4) := ⟨⟨by decide +kernel, by decide +kernel⟩, List.mem_of_getElem? (i := 22) (by decide +kernel), List.mem_of_getElem? (i := 96) (by decide +kernel), List.mem_of_getElem? (i := 97) (by decide +kernel)⟩
theorem lw_p3 : lw_okq (⟨"ZhegalkinBench$TextReader", "takesZero", "()Z"⟩, 4) := ⟨⟨by decide +kernel, by decide +kernel⟩, List.mem_of_getElem? (i := 22) (by decide +kernel), List.mem_of_getElem? (i := 100) (by decide +kernel), List.mem_of_getElem? (i := 101) (by decide +kernel)⟩
theorem lw_p4 : lw_okq (⟨"ZhegalkinBench$TextReader", "takesOne", "()Z"⟩, 4) := ⟨⟨by decide +kernel, by decide +kernel⟩, List.mem_of_getElem? (i := 22) (by decide +kernel), List.mem_of_getElem? (i := 104) (by decide +kernel), List.mem_of_getElem? (i := 105) (by decide +kernel)⟩
theorem lw_p5 : lw_okq (⟨"ZhegalkinBench$TextReader", "isNew", "(I)Z"⟩, 4) := ⟨⟨by decide +kernel, by decide +kernel⟩, List.mem_of_getElem? (i := 22) (by decide +kernel), List.mem_of_getElem? (i := 108) (by decide +kernel), List.mem_of_getElem? (i := 109) (by decide +kernel)⟩
theorem lw_p6 : lw_okq (⟨"ZhegalkinBench$TextReader", "takesPlus", "()Z"⟩, 4) := ⟨⟨by decide +kernel, by decide +kernel⟩, List.mem_of_getElem? (i := 22) (by decide +kernel), List.mem_of_getElem? (i := 115) (by decide +kernel), List.mem_of_getElem? (i := 116) (by decide +kernel)⟩
theorem lw_p7 : lw_okq (⟨"ZhegalkinBench$TextReader", "takesVariable", "(I)Z"⟩, 4) := ⟨⟨by decide +kernel, by decide +kernel⟩, List.mem_of_getElem? (i := 22) (by decide +kernel), List.mem_of_getElem? (i := 120) (by decide +kernel), List.mem_of_getElem? (i := 121) (by decide +kernel)⟩
theorem lw_p8 : lw_okq (⟨"ZhegalkinBench$TextReader", "canBecomeNew", "(II)Z"⟩, 4) := ⟨⟨by decide +kernel, by decide +kernel⟩, List.mem_of_getElem? (i := 22) (by decide +kernel), List.mem_of_getElem? (i := 124) (by decide +kernel), List.mem_of_getElem? (i := 125) (by decide +kernel)⟩
theorem lw_p9 : lw_okq (⟨"ZhegalkinBench$TextReader", "canEnd", "()Z"⟩, 4) := ⟨⟨by decide +kernel, by decide +kernel⟩, List.mem_of_getElem? (i := 22) (by decide +kernel), List.mem_of_getElem? (i := 128) (by decide +kernel), List.mem_of_getElem? (i := 129) (by decide +kernel)⟩
theorem lw_p10 : lw_okq (⟨"ZhegalkinBench", "countAllProducts", "()I"⟩, 11) := ⟨⟨by decide +kernel, by decide +kernel⟩, List.mem_of_getElem? (i := 14) (by decide +kernel), List.mem_of_getElem? (i := 139) (by decide +kernel), List.mem_of_getElem? (i := 140) (by decide +kernel)⟩
theorem lw_p11 : lw_okq (⟨"ZhegalkinBench", "sharedClasses", "(I)I"⟩, 11) := ⟨⟨by decide +kernel, by decide +kernel⟩, List.mem_of_getElem? (i := 14) (by decide +kernel), List.mem_of_getElem? (i := 156) (by decide +kernel), List.mem_of_getElem? (i := 157) (by decide +kernel)⟩
theorem lw_p12 : lw_okq (⟨"java/lang/Throwable", "fillInStackTrace", "(I)Ljava/lang/Throwable;"⟩, 6) := ⟨⟨by decide +kernel, by decide +kernel⟩, List.mem_of_getElem? (i := 233) (by decide +kernel), List.mem_of_getElem? (i := 231) (by decide +kernel), List.mem_of_getElem? (i := 232) (by decide +kernel)⟩
theorem lw_p13 : lw_okq (⟨"ZhegalkinBench", "validTextProducts", "()I"⟩, 11) := ⟨⟨by decide +kernel, by decide +kernel⟩, List.mem_of_getElem? (i := 14) (by decide +kernel), List.mem_of_getElem? (i := 263) (by decide +kernel), List.mem_of_getElem? (i := 264) (by decide +kernel)⟩
theorem lw_p14 : lw_okq (⟨"ZhegalkinBench$TextReader", "productsRead", "()I"⟩, 4) := ⟨⟨by decide +kernel, by decide +kernel⟩, List.mem_of_getElem? (i := 22) (by decide +kernel), List.mem_of_getElem? (i := 283) (by decide +kernel), List.mem_of_getElem? (i := 284) (by decide +kernel)⟩
theorem lw_p15 : lw_okq (⟨"ZhegalkinBench", "recordState", "()V"⟩, 11) := ⟨⟨by decide +kernel, by decide +kernel⟩, List.mem_of_getElem? (i := 14) (by decide +kernel), List.mem_of_getElem? (i := 287) (by decide +kernel), List.mem_of_getElem? (i := 288) (by decide +kernel)⟩
def lw_privs_1 : List (MethodName × Nat) := [(⟨"ZhegalkinBench$TextReader", "firstError", "([CI)I"⟩, 4), (⟨"ZhegalkinBench$TextReader", "startProduct", "()V"⟩, 4), (⟨"ZhegalkinBench$TextReader", "takes", "(C)Z"⟩, 4), (⟨"ZhegalkinBench$TextReader", "takesZero", "()Z"⟩, 4), (⟨"ZhegalkinBench$TextReader", "takesOne", "()Z"⟩, 4), (⟨"ZhegalkinBench$TextReader", "isNew", "(I)Z"⟩, 4), (⟨"ZhegalkinBench$TextReader", "takesPlus", "()Z"⟩, 4), (⟨"ZhegalkinBench$TextReader", "takesVariable", "(I)Z"⟩, 4), (⟨"ZhegalkinBench$TextReader", "canBecomeNew", "(II)Z"⟩, 4), (⟨"ZhegalkinBench$TextReader", "canEnd", "()Z"⟩, 4), (⟨"ZhegalkinBench", "countAllProducts", "()I"⟩, 11), (⟨"ZhegalkinBench", "sharedClasses", "(I)I"⟩, 11), (⟨"java/lang/Throwable", "fillInStackTrace", "(I)Ljava/lang/Throwable;"⟩, 6), (⟨"ZhegalkinBench", "validTextProducts", "()I"⟩, 11), (⟨"ZhegalkinBench$TextReader", "productsRead", "()I"⟩, 4), (⟨"ZhegalkinBench", "recordState", "()V"⟩, 11)]
theorem lw_r1 : ∀ q ∈ lw_privs_1, lw_okq q := List.forall_mem_cons.mpr ⟨lw_p0, List.forall_mem_cons.mpr ⟨lw_p1, List.forall_mem_cons.mpr ⟨lw_p2, List.forall_mem_cons.mpr ⟨lw_p3, List.forall_mem_cons.mpr ⟨lw_p4, List.forall_mem_cons.mpr ⟨lw_p5, List.forall_mem_cons.mpr ⟨lw_p6, List.forall_mem_cons.mpr ⟨lw_p7, List.forall_mem_cons.mpr ⟨lw_p8, List.forall_mem_cons.mpr ⟨lw_p9, List.forall_mem_cons.mpr ⟨lw_p10, List.forall_mem_cons.mpr ⟨lw_p11, List.forall_mem_cons.mpr ⟨lw_p12, List.forall_mem_cons.mpr ⟨lw_p13, List.forall_mem_cons.mpr ⟨lw_p14, List.forall_mem_cons.mpr ⟨lw_p15, fun _ h => absurd h List.not_mem_nil⟩⟩⟩⟩⟩⟩⟩⟩⟩⟩⟩⟩⟩⟩⟩⟩
theorem lw_p16 : lw_okq (⟨"ZhegalkinBench", "print", "(I)V"⟩, 11) := ⟨⟨by decide +kernel, by decide +kernel⟩, List.mem_of_getElem? (i := 14) (by decide +kernel), List.mem_of_getElem? (i := 435) (by decide +kernel), List.mem_of_getElem? (i := 436) (by decide +kernel)⟩
theorem lw_p17 : lw_okq (⟨"ZhegalkinBench", "put", "(C)V"⟩, 11) := ⟨⟨by decide +kernel, by decide +kernel⟩, List.mem_of_getElem? (i := 14) (by decide +kernel), List.mem_of_getElem? (i := 439) (by decide +kernel), List.mem_of_getElem? (i := 440) (by decide +kernel)⟩
theorem lw_p18 : lw_okq (⟨"ZhegalkinBench", "printProduct", "(I)V"⟩, 11) := ⟨⟨by decide +kernel, by decide +kernel⟩, List.mem_of_getElem? (i := 14) (by decide +kernel), List.mem_of_getElem? (i := 443) (by decide +kernel), List.mem_of_getElem? (i := 444) (by decide +kernel)⟩
theorem lw_p19 : lw_okq (⟨"ZhegalkinBench", "sumPairs", "(I)V"⟩, 11) := ⟨⟨by decide +kernel, by decide +kernel⟩, List.mem_of_getElem? (i := 14) (by decide +kernel), List.mem_of_getElem? (i := 475) (by decide +kernel), List.mem_of_getElem? (i := 476) (by decide +kernel)⟩
theorem lw_p20 : lw_okq (⟨"ZhegalkinBenchModel", "fails", "(I)I"⟩, 10) := ⟨⟨by decide +kernel, by decide +kernel⟩, List.mem_of_getElem? (i := 504) (by decide +kernel), List.mem_of_getElem? (i := 559) (by decide +kernel), List.mem_of_getElem? (i := 560) (by decide +kernel)⟩
theorem lw_p21 : lw_okq (⟨"ZhegalkinBenchModel", "reads", "()Z"⟩, 10) := ⟨⟨by decide +kernel, by decide +kernel⟩, List.mem_of_getElem? (i := 504) (by decide +kernel), List.mem_of_getElem? (i := 563) (by decide +kernel), List.mem_of_getElem? (i := 564) (by decide +kernel)⟩
theorem lw_p22 : lw_okq (⟨"ZhegalkinBenchModel", "product", "()I"⟩, 10) := ⟨⟨by decide +kernel, by decide +kernel⟩, List.mem_of_getElem? (i := 504) (by decide +kernel), List.mem_of_getElem? (i := 567) (by decide +kernel), List.mem_of_getElem? (i := 568) (by decide +kernel)⟩
theorem lw_p23 : lw_okq (⟨"ZhegalkinBenchModel", "has", "(I)Z"⟩, 10) := ⟨⟨by decide +kernel, by decide +kernel⟩, List.mem_of_getElem? (i := 504) (by decide +kernel), List.mem_of_getElem? (i := 571) (by decide +kernel), List.mem_of_getElem? (i := 572) (by decide +kernel)⟩
theorem lw_p24 : lw_okq (⟨"ZhegalkinBenchModel", "canCome", "(I)Z"⟩, 10) := ⟨⟨by decide +kernel, by decide +kernel⟩, List.mem_of_getElem? (i := 504) (by decide +kernel), List.mem_of_getElem? (i := 578) (by decide +kernel), List.mem_of_getElem? (i := 579) (by decide +kernel)⟩
theorem lw_p25 : lw_okq (⟨"ZhegalkinBenchModel", "sets", "(II)I"⟩, 10) := ⟨⟨by decide +kernel, by decide +kernel⟩, List.mem_of_getElem? (i := 504) (by decide +kernel), List.mem_of_getElem? (i := 588) (by decide +kernel), List.mem_of_getElem? (i := 589) (by decide +kernel)⟩
theorem lw_p26 : lw_okq (⟨"ZhegalkinBenchModel", "records", "()V"⟩, 10) := ⟨⟨by decide +kernel, by decide +kernel⟩, List.mem_of_getElem? (i := 504) (by decide +kernel), List.mem_of_getElem? (i := 592) (by decide +kernel), List.mem_of_getElem? (i := 593) (by decide +kernel)⟩
theorem lw_p27 : lw_okq (⟨"ZhegalkinBenchModel", "valueWith", "(IIII)I"⟩, 10) := ⟨⟨by decide +kernel, by decide +kernel⟩, List.mem_of_getElem? (i := 504) (by decide +kernel), List.mem_of_getElem? (i := 611) (by decide +kernel), List.mem_of_getElem? (i := 612) (by decide +kernel)⟩
theorem lw_p28 : lw_okq (⟨"ZhegalkinBenchModel", "allProducts", "()I"⟩, 10) := ⟨⟨by decide +kernel, by decide +kernel⟩, List.mem_of_getElem? (i := 504) (by decide +kernel), List.mem_of_getElem? (i := 643) (by decide +kernel), List.mem_of_getElem? (i := 644) (by decide +kernel)⟩
theorem lw_p29 : lw_okq (⟨"ZhegalkinBenchModel", "is", "(I)Z"⟩, 10) := ⟨⟨by decide +kernel, by decide +kernel⟩, List.mem_of_getElem? (i := 504) (by decide +kernel), List.mem_of_getElem? (i := 655) (by decide +kernel), List.mem_of_getElem? (i := 656) (by decide +kernel)⟩
theorem lw_p30 : lw_okq (⟨"ZhegalkinBenchModel", "enough", "(I)Z"⟩, 10) := ⟨⟨by decide +kernel, by decide +kernel⟩, List.mem_of_getElem? (i := 504) (by decide +kernel), List.mem_of_getElem? (i := 732) (by decide +kernel), List.mem_of_getElem? (i := 733) (by decide +kernel)⟩
def lw_privs_2 : List (MethodName × Nat) := [(⟨"ZhegalkinBench", "print", "(I)V"⟩, 11), (⟨"ZhegalkinBench", "put", "(C)V"⟩, 11), (⟨"ZhegalkinBench", "printProduct", "(I)V"⟩, 11), (⟨"ZhegalkinBench", "sumPairs", "(I)V"⟩, 11), (⟨"ZhegalkinBenchModel", "fails", "(I)I"⟩, 10), (⟨"ZhegalkinBenchModel", "reads", "()Z"⟩, 10), (⟨"ZhegalkinBenchModel", "product", "()I"⟩, 10), (⟨"ZhegalkinBenchModel", "has", "(I)Z"⟩, 10), (⟨"ZhegalkinBenchModel", "canCome", "(I)Z"⟩, 10), (⟨"ZhegalkinBenchModel", "sets", "(II)I"⟩, 10), (⟨"ZhegalkinBenchModel", "records", "()V"⟩, 10), (⟨"ZhegalkinBenchModel", "valueWith", "(IIII)I"⟩, 10), (⟨"ZhegalkinBenchModel", "allProducts", "()I"⟩, 10), (⟨"ZhegalkinBenchModel", "is", "(I)Z"⟩, 10), (⟨"ZhegalkinBenchModel", "enough", "(I)Z"⟩, 10)]
theorem lw_r2 : ∀ q ∈ lw_privs_2, lw_okq q := List.forall_mem_cons.mpr ⟨lw_p16, List.forall_mem_cons.mpr ⟨lw_p17, List.forall_mem_cons.mpr ⟨lw_p18, List.forall_mem_cons.mpr ⟨lw_p19, List.forall_mem_cons.mpr ⟨lw_p20, List.forall_mem_cons.mpr ⟨lw_p21, List.forall_mem_cons.mpr ⟨lw_p22, List.forall_mem_cons.mpr ⟨lw_p23, List.forall_mem_cons.mpr ⟨lw_p24, List.forall_mem_cons.mpr ⟨lw_p25, List.forall_mem_cons.mpr ⟨lw_p26, List.forall_mem_cons.mpr ⟨lw_p27, List.forall_mem_cons.mpr ⟨lw_p28, List.forall_mem_cons.mpr ⟨lw_p29, List.forall_mem_cons.mpr ⟨lw_p30, fun _ h => absurd h List.not_mem_nil⟩⟩⟩⟩⟩⟩⟩⟩⟩⟩⟩⟩⟩⟩⟩
def lw_privs : List (MethodName × Nat) := lw_privs_1 ++ (lw_privs_2)
def lw_tbl : List Cond := k2_sels lw_privs ++ tables_1
theorem lw_privs_ok : ∀ q ∈ lw_privs, lw_okq q := by
  show ∀ q ∈ lw_privs_1 ++ (lw_privs_2), lw_okq q
  exact List.forall_mem_append.mpr ⟨lw_r1, lw_r2⟩
-- ===== end of PART A; then your names; then what follows =====
/-! ===== BEGIN words of one list among another's, by their places ===== -/
theorem goodIn_r {big : List Cond} (ws : List Cond) (ps : List Nat) (hp : ws = ps.filterMap (fun i => big[i]?)) (h : ws.all goodWord = true) : GoodIn big ws := by
  intro w hw
  have h1 := List.all_eq_true.mp h w hw
  rw [hp] at hw
  obtain ⟨i, -, hi⟩ := List.mem_filterMap.mp hw
  have hm : w ∈ big := by first | exact List.mem_of_getElem? hi | exact List.getElem?_mem hi
  exact ⟨hm, good_of_word h1⟩
theorem goodIn_app {big a b : List Cond} (ha : GoodIn big a) (hb : GoodIn big b) : GoodIn big (a ++ b) := fun w h => (List.mem_append.mp h).elim (ha w) (hb w)
theorem goodIn_ca {big a b : List Cond} {c : Cond} (ha : GoodIn big (c :: a)) (hb : GoodIn big b) : GoodIn big (c :: (a ++ b)) := fun w h => (List.mem_cons.mp h).elim (fun e => ha w (List.mem_cons.mpr (Or.inl e))) (fun h => (List.mem_append.mp h).elim (fun h => ha w (List.mem_cons.mpr (Or.inr h))) (hb w))
theorem goodIn_sub {big ws : List Cond} (hm : ∀ w ∈ ws, w ∈ big) (h : ws.all goodWord = true) : GoodIn big ws := fun w hw => ⟨hm w hw, good_of_word (List.all_eq_true.mp h w hw)⟩
/-! ===== END ===== -/

/-! ===== BEGIN exceptions that leave a method, and their catching by the caller (launches without stack traces) ===== -/
section VXA
/-! The laws vx_back, vx_callV, vx_callS, vx_callSW, vx_throw0, vx_throwS follow proofs of the library, with one case more: JvmDerived/Free/Laws.lean (Back.of_free), Shelf42/LK1.lean (callV, callS), Shelf/KitTraced.lean (throwNew0V, throwNewS). -/
/-- where a method has thrown q: the class by its name, the cell, what was written, the world -/
def vx_T (XC : String → State → State → Prop) (st : State) (q : Addr) (t : State) (mc ms : Nat) (free : Addr → Prop) : Prop :=
  ∃ (E : String) (ce : Cell) (L : List Loc), XC E st t ∧ t.heap[q]? = some ce ∧ ce.vm = .none ∧ st.vm.findClass E = some ce.cls ∧ st.WarmedH t.vm ∧ st.sameButNew ({ t with vm := st.vm } : State) L mc ms ∧ ∀ z ∈ L, free z.base
def vx_Q (Qc : Array Value → State → Outcome → State → Prop) (XC : String → State → State → Prop) (mc ms : Nat) (free : Addr → Prop) : Array Value → State → Outcome → State → Prop := fun a st o t =>
  (Qc a st o t ∧ ∃ L, FrameEnd st o t L mc ms ∧ ∀ q ∈ L, free q.base) ∨ ∃ q, o = .threw q ∧ vx_T XC st q t mc ms free
/-- a callee that returns or throws -/
def vx_Met (l : Launch) (y : MethodName) (ws : List Cond) (rm : Room) (Pc : Array Value → State → Prop) (Qc : Array Value → State → Outcome → State → Prop) (XC : String → State → State → Prop) (mc ms : Nat) (free : Addr → Prop) : Prop :=
  MetFree l y (headSpec ws rm) Pc (fun _ _ _ _ _ => True) (vx_Q Qc XC mc ms free)
def vx_Post (XC : String → State → State → Prop) (mc ms : Nat) (free : Addr → Prop) : Pt → Array Value → Addr → Pt → Prop := fun A a q B =>
  ∃ (g : JFrame) (mk : MethodId) (t : State) (L : List Loc) (E : String) (ce : Cell), B.U.heap = t.heap ∧ B.U.vm = t.vm ∧ XC E (A.U.calling g mk a) t ∧ t.heap[q]? = some ce ∧ ce.vm = .none ∧ A.U.vm.findClass E = some ce.cls ∧ B.locs = A.locs ++ L ∧ (∀ z ∈ L, free z.base) ∧ B.cells = A.cells + mc ∧ B.slots = A.slots + ms
def vx_Back (l : Launch) (R : Room) (p : Program) (e : Env) (below : List Frame) (s : State) (sargs : Array Value) (y : MethodName) (len W9 : Nat)
    (Pre : Pt → Array Value → Prop) (Post : Pt → Array Value → Option Value → Pt → Prop) (PostX : Pt → Array Value → Addr → Pt → Prop) : Prop :=
  ∀ (m : MethodId) (meth : Method) (c : Code) (A : Pt) (g : JFrame) (ig : Instr) (mk : MethodId) (a : Array Value),
    Stand p l e R s m sargs below meth c A.U A.locs A.cells A.slots → g.method = m → g.locals.size = c.maxLocals → decode c.code g.pc = .ok (ig, len) →
    2 * g.monitorRoom + (g.stack.map fun v => v.category).sum ≤ W9 → A.U.methodNamed? y = some mk → Pre A a →
    (∃ (v : Option Value) (B : Pt), Stand p l e R s m sargs below meth c B.U B.locs B.cells B.slots ∧ Post A a v B ∧
      Steps p.tables e below (doInvoke e (A.U.setTop g) [] mk a).1 (B.U.setTop { g with pc := g.pc + len, stack := v.toList ++ g.stack })) ∨
    (∃ (q : Addr) (B : Pt), Stand p l e R s m sargs below meth c B.U B.locs B.cells B.slots ∧ PostX A a q B ∧
      Steps p.tables e below (doInvoke e (A.U.setTop g) [] mk a).1 ((B.U.setTop g).pushFrame (.throwing q)))
section Payer
variable {l : Launch} {R : Room} {p : Program} {e : Env} {below : List Frame} {s : State} {sargs : Array Value} {y : MethodName} {len W9 : Nat}
theorem vx_back {ws : List Cond} {rm : Room} {Pc : Array Value → State → Prop} {Qc : Array Value → State → Outcome → State → Prop} {XC : String → State → State → Prop} {mc ms : Nat} {free : Addr → Prop} {bytes : ByteArray} {maxL : Nat} {ret : Option FieldType}
    (hM : vx_Met l y ws rm Pc Qc XC mc ms free) (hblind : FrameBlind Pc) (hrc : rm.cells = mc) (hrs : rm.slots = ms)
    (hframes : rm.frames + 1 ≤ R.frames) (hlocals : W9 + (maxL + 11) + rm.locals ≤ R.locals)
    (hws : ∀ w ∈ ws, ∀ a' U, s.WarmedH U.vm → w.before a' U = true) (hcode : Cond.code y bytes maxL ret ∈ ws) (hinit : ∀ a' U, s.WarmedH U.vm → (Cond.initialized y.cls).before a' U = true) :
    vx_Back l R p e below s sargs y len W9 (PreOf R mc ms Pc) (PostOf Qc mc ms free) (vx_Post XC mc ms free) := by
  intro m meth c A g ig mk a X hg hsize hdg hW hn hp
  have h1 : (headSpec ws rm).pre.before a A.U = true := atoms_intro fun w hw => hws w hw _ _ X.warmed
  have h2 : (Cond.code y bytes maxL ret).before a A.U = true := hws _ hcode _ _ X.warmed
  have h3 : (Cond.initialized y.cls).before a A.U = true := hinit _ _ X.warmed
  have h4 : A.cells + (headSpec ws rm).room.cells ≤ R.cells := by rw [show (headSpec ws rm).room.cells = mc from hrc]; exact hp.1
  have h5 : A.slots + (headSpec ws rm).room.slots ≤ R.slots := by rw [show (headSpec ws rm).room.slots = ms from hrs]; exact hp.2.1
  have hPc : Pc a (A.U.calling g mk a) := hblind _ _ _ _ hp.2.2
  obtain ⟨U, Ls, c0, s0⟩ := A
  dsimp only [Pt.U, Pt.locs, Pt.cells, Pt.slots] at h1 h2 h3 h4 h5 X hn hPc ⊢
  obtain ⟨methY, cY, hmY, hcY, -, hlY, -, -, -, -⟩ := Cond.code_spec hn h2
  obtain ⟨kY, hkY, -⟩ := className_of_methodNamed hn
  have hinitY : kY.init = .initialized := Cond.initialized_spec (findClass_of_methodNamed hn) hkY h3
  have h : At U g.method c below := by rw [hg]; exact X.here
  have hlocals9 : W9 + (maxL + 11) + (headSpec ws rm).room.locals ≤ R.locals := hlocals
  have happ : (headSpec ws rm).appliesLoose y e.platform (U.calling g mk a) = true :=
    Spec.appliesLoose_calling (g := g) h hdg hn hkY hinitY
      (X.room_calling (g := g) (R' := (headSpec ws rm).room) hsize hmY hcY hframes (by rw [hlY]; omega) h4 h5) h1
  obtain ⟨mid, hmid⟩ := h.above
  have hfr : (U.setTop g).frames = (.java g :: mid) ++ below := by rw [State.frames_setTop' g h.top, hmid]; rfl
  obtain ⟨o, s₂, hsteps, -, hend, hq⟩ := Steps.callFree hM p X.admits X.cas X.clock (acts := []) hfr happ hPc trivial
  have hq' : vx_Q Qc XC mc ms free a (U.calling g mk a) o s₂ := hq
  rw [State.frames_setTop' g h.top] at hend
  obtain ⟨g₀, hg0⟩ := Option.isSome_iff_exists.mp h.top
  obtain ⟨r, hr⟩ := State.topJava?_eq_some.mp hg0
  have hr' : (({ U with heap := s₂.heap, slotsUsed := s₂.slotsUsed } : State).setVm s₂.vm).frames = .java g₀ :: r := hr
  rcases hq' with ⟨hqc, L, hfe, hL⟩ | ⟨q, rfl, E, ce, L, hx, hce, hcv, hcl, hW₂, hsm, hL⟩
  · obtain ⟨⟨v, rfl⟩, hW₂, e2, q2, q3, q4, q5, q6⟩ := id hfe
    have e3 : s₂ = ({ (U.calling g mk a).setFrames s₂.frames with heap := s₂.heap, slotsUsed := s₂.slotsUsed } : State).setVm s₂.vm := by
      have : s₂ = ({ s₂ with vm := (U.calling g mk a).vm } : State).setVm s₂.vm := rfl
      rw [e2] at this
      exact this
    obtain ⟨c₂, i₂, len₂, hc₂, hd₂, hf₂⟩ := hend
    have hW' : U.WarmedH s₂.vm := hW₂
    have hcc : c₂ = c := by
      have h1 : s₂.code? g.method = U.code? g.method := by
        rw [State.code?_eq, State.code?_eq, hW'.alike.method?]
      exact Option.some.inj (hc₂.symm.trans (h1.trans h.code))
    subst hcc
    have hlen : len₂ = len := by rw [hdg] at hd₂; cases hd₂; rfl
    subst hlen
    have hs₂ : s₂ = (({ U with heap := s₂.heap, slotsUsed := s₂.slotsUsed } : State).setVm s₂.vm).setTop { g with pc := g.pc + len₂, stack := v.toList ++ g.stack } := by
      refine e3.trans ?_
      rw [hf₂, State.calling_eq h.top, State.setFrames_setFrames, State.setTop_of_frames _ hr', hr]
      rfl
    have hsame : U.sameButNew ({ U with heap := s₂.heap, slotsUsed := s₂.slotsUsed } : State) L mc ms := by
      refine ⟨?_, q2, q3, q4, q5, q6⟩
      obtain ⟨t, ht, -⟩ := State.frames_cons hr
      show ({ U with heap := s₂.heap, slotsUsed := s₂.slotsUsed } : State) = { U.setFrames U.frames with heap := s₂.heap, slotsUsed := s₂.slotsUsed }
      rw [State.setFrames_self ht]
    subst hg
    refine Or.inl ⟨v, ⟨(({ U with heap := s₂.heap, slotsUsed := s₂.slotsUsed } : State).setVm s₂.vm), Ls ++ L, c0 + mc, s0 + ms⟩,
      ⟨X.admits, X.cas, X.clock, X.frames, X.room, X.hears, X.method, X.code, (X.here.setHeapUsed s₂.heap s₂.slotsUsed).setVm hW'.alike, X.tail, State.WarmedH.trans X.warmed hW', X.limits, X.bytes, X.same.trans (hsame.setVm s.vm)⟩,
      ⟨g, mk, s₂, L, rfl, rfl, hqc, rfl, hL, rfl, rfl⟩, ?_⟩
    show Steps p.tables e below _ ((({ U with heap := s₂.heap, slotsUsed := s₂.slotsUsed } : State).setVm s₂.vm).setTop { g with pc := g.pc + len₂, stack := v.toList ++ g.stack })
    rw [← hs₂]
    exact hsteps
  · obtain ⟨e2, q2, q3, q4, q5, q6⟩ := id hsm
    have e3 : s₂ = ({ (U.calling g mk a).setFrames s₂.frames with heap := s₂.heap, slotsUsed := s₂.slotsUsed } : State).setVm s₂.vm := by
      have : s₂ = ({ s₂ with vm := (U.calling g mk a).vm } : State).setVm s₂.vm := rfl
      rw [e2] at this
      exact this
    have hf₂ : s₂.frames = .throwing q :: .java g :: U.frames.tail := hend
    have hW' : U.WarmedH s₂.vm := hW₂
    have hs₂ : s₂ = ((({ U with heap := s₂.heap, slotsUsed := s₂.slotsUsed } : State).setVm s₂.vm).setTop g).pushFrame (.throwing q) := by
      refine e3.trans ?_
      rw [hf₂, State.calling_eq h.top, State.setFrames_setFrames, State.pushFrame, State.frames_setTop _ hr', State.setTop_of_frames _ hr', State.setFrames_setFrames, hr]
      rfl
    have hsame : U.sameButNew ({ U with heap := s₂.heap, slotsUsed := s₂.slotsUsed } : State) L mc ms := by
      refine ⟨?_, q2, q3, q4, q5, q6⟩
      obtain ⟨t, ht, -⟩ := State.frames_cons hr
      show ({ U with heap := s₂.heap, slotsUsed := s₂.slotsUsed } : State) = { U.setFrames U.frames with heap := s₂.heap, slotsUsed := s₂.slotsUsed }
      rw [State.setFrames_self ht]
    subst hg
    refine Or.inr ⟨q, ⟨(({ U with heap := s₂.heap, slotsUsed := s₂.slotsUsed } : State).setVm s₂.vm), Ls ++ L, c0 + mc, s0 + ms⟩,
      ⟨X.admits, X.cas, X.clock, X.frames, X.room, X.hears, X.method, X.code, (X.here.setHeapUsed s₂.heap s₂.slotsUsed).setVm hW'.alike, X.tail, State.WarmedH.trans X.warmed hW', X.limits, X.bytes, X.same.trans (hsame.setVm s.vm)⟩,
      ⟨g, mk, s₂, L, E, ce, rfl, rfl, hx, hce, hcv, hcl, rfl, hL, rfl, rfl⟩, ?_⟩
    show Steps p.tables e below _ (((({ U with heap := s₂.heap, slotsUsed := s₂.slotsUsed } : State).setVm s₂.vm).setTop g).pushFrame (.throwing q))
    rw [← hs₂]
    exact hsteps
end Payer
section Calls
variable {p : Program} {l : Launch} {e : Env} {R : Room} {s : State} {m : MethodId} {args : Array Value} {below : List Frame} {meth : Method} {c : Code} {T : State} {locs : List Loc} {cells slots : Nat}
theorem vx_callV (X : Stand p l e R s m args below meth c T locs cells slots) (hexec : p.tables.exec = Jvm.exec) {own C : String} {index : Nat} {y : MethodName} {bytes : ByteArray} {maxL : Nat} {ret : Option FieldType}
    (hown : s.vm.findClass own = some m.cls) (hlink : (Cond.methodLink own index y).before args s = true) (hinst : (Cond.instanceMethod y).before args s = true) (hsel : (Cond.selects C y y).before args s = true)
    (hcode : (Cond.code y bytes maxL ret).before args s = true) (hy : y.cls ≠ "java/lang/invoke/MethodHandle" ∧ y.cls ≠ "java/lang/invoke/VarHandle")
    {W9 : Nat} {Pre : Pt → Array Value → Prop} {Post : Pt → Array Value → Option Value → Pt → Prop} {PostX : Pt → Array Value → Addr → Pt → Prop} (hK : vx_Back l R p e below s args y 3 W9 Pre Post PostX)
    {b : Addr} {cellB : Cell} (hcell : T.heap[b]? = some cellB) (hobj : cellB.vm.isStatics = false) (hcls : s.vm.findClass C = some cellB.cls)
    {g : JFrame} (hg : g.method = m) (hsize : g.locals.size = c.maxLocals) {argsL rest : List Value} (hlen : ∀ sig, parseMethodDescriptor y.desc = some sig → argsL.length = sig.parameters.length)
    (hstack : g.stack = argsL.reverse ++ .ref b :: rest) (hW : 2 * g.monitorRoom + (rest.map fun v => v.category).sum ≤ W9) (hdg : decode c.code g.pc = .ok (.invokevirtual index, 3))
    (hpre : ∀ vm₁, s.WarmedH vm₁ → Pre ⟨T.setVm vm₁, locs, cells, slots⟩ (Value.ref b :: argsL).toArray) :
    (∃ (v : Option Value) (vm₁ : Vm) (B : Pt), s.WarmedH vm₁ ∧ Stand p l e R s m args below meth c B.U B.locs B.cells B.slots ∧ Post ⟨T.setVm vm₁, locs, cells, slots⟩ (Value.ref b :: argsL).toArray v B ∧
      ∀ target, Steps p.tables e below (B.U.setTop { g with pc := g.pc + 3, stack := v.toList ++ rest }) target → Steps p.tables e below (T.setTop g) target) ∨
    (∃ (q : Addr) (vm₁ : Vm) (B : Pt), s.WarmedH vm₁ ∧ Stand p l e R s m args below meth c B.U B.locs B.cells B.slots ∧ PostX ⟨T.setVm vm₁, locs, cells, slots⟩ (Value.ref b :: argsL).toArray q B ∧
      Steps p.tables e below (T.setTop g) ((B.U.setTop { g with stack := rest }).pushFrame (.throwing q))) := by
  obtain ⟨mk, methM, hnamed, hmethM, hstM, habM⟩ := Cond.instanceMethod_spec hinst
  obtain ⟨methM', cM, hmethM', -, -, -, -, -, -, hsigM⟩ := Cond.code_spec hnamed hcode
  cases hmethM.symm.trans hmethM'
  obtain ⟨c2, r2, m2, q1, q2, q3, q4, kP, hkP, hkPi⟩ := Cond.selects_spec hsel
  cases hcls.symm.trans q1
  cases (State.methodFound?_of_named hnamed hy).symm.trans q2
  cases hnamed.symm.trans q3
  have hselP : selectMethod e.platform s.vm cellB.cls mk = .method mk := by rw [Launch.admits_selectMethod X.admits]; exact q4
  obtain ⟨vm₁, X₁, hstep₁⟩ := X.invokevirtual hexec hown hlink hnamed hmethM hstM hkP hkPi hy (a := b) (cell := cellB) hcell
    (fun z h => by rw [h] at hobj; cases hobj) hselP hmethM habM hkP hkPi (g := g) hg (argsL := argsL) (rest := rest) (hlen _ hsigM) hstack hdg
  rcases hK m meth c ⟨T.setVm vm₁, locs, cells, slots⟩ { g with stack := rest } (.invokevirtual index) mk (Value.ref b :: argsL).toArray X₁ hg hsize hdg hW (X₁.named hnamed) (hpre vm₁ X₁.warmed) with ⟨v, B, X', hpost, hsteps⟩ | ⟨q, B, X', hpost, hsteps⟩
  · exact Or.inl ⟨v, vm₁, B, X₁.warmed, X', hpost, fun target h => hstep₁ _ fun acts => by rw [doInvoke_state]; exact hsteps.trans h⟩
  · exact Or.inr ⟨q, vm₁, B, X₁.warmed, X', hpost, hstep₁ _ fun acts => by rw [doInvoke_state]; exact hsteps⟩
theorem vx_callS (X : Stand p l e R s m args below meth c T locs cells slots) (hexec : p.tables.exec = Jvm.exec) {own : String} {index : Nat} {y : MethodName} {bytes : ByteArray} {maxL : Nat} {ret : Option FieldType}
    (hown : s.vm.findClass own = some m.cls) (hlink : (Cond.methodLink own index y).before args s = true) (hstat : (Cond.static y).before args s = true) (hinit : (Cond.initialized y.cls).before args s = true)
    (hcode : (Cond.code y bytes maxL ret).before args s = true) (hy : y.cls ≠ "java/lang/invoke/MethodHandle" ∧ y.cls ≠ "java/lang/invoke/VarHandle")
    {W9 : Nat} {Pre : Pt → Array Value → Prop} {Post : Pt → Array Value → Option Value → Pt → Prop} {PostX : Pt → Array Value → Addr → Pt → Prop} (hK : vx_Back l R p e below s args y 3 W9 Pre Post PostX)
    {g : JFrame} (hg : g.method = m) (hsize : g.locals.size = c.maxLocals) {argsL rest : List Value} (hlen : ∀ sig, parseMethodDescriptor y.desc = some sig → argsL.length = sig.parameters.length)
    (hstack : g.stack = argsL.reverse ++ rest) (hW : 2 * g.monitorRoom + (rest.map fun v => v.category).sum ≤ W9) (hdg : decode c.code g.pc = .ok (.invokestatic index, 3))
    (hpre : ∀ vm₁, s.WarmedH vm₁ → Pre ⟨T.setVm vm₁, locs, cells, slots⟩ argsL.toArray) :
    (∃ (v : Option Value) (vm₁ : Vm) (B : Pt), s.WarmedH vm₁ ∧ Stand p l e R s m args below meth c B.U B.locs B.cells B.slots ∧ Post ⟨T.setVm vm₁, locs, cells, slots⟩ argsL.toArray v B ∧
      ∀ target, Steps p.tables e below (B.U.setTop { g with pc := g.pc + 3, stack := v.toList ++ rest }) target → Steps p.tables e below (T.setTop g) target) ∨
    (∃ (q : Addr) (vm₁ : Vm) (B : Pt), s.WarmedH vm₁ ∧ Stand p l e R s m args below meth c B.U B.locs B.cells B.slots ∧ PostX ⟨T.setVm vm₁, locs, cells, slots⟩ argsL.toArray q B ∧
      Steps p.tables e below (T.setTop g) ((B.U.setTop { g with stack := rest }).pushFrame (.throwing q))) := by
  obtain ⟨mk, hnamed⟩ := Cond.code_named hcode
  obtain ⟨methM, cM, hmethM, -, -, -, -, -, -, hsigM⟩ := Cond.code_spec hnamed hcode
  have hstatic : methM.isStatic = true := Cond.static_spec hnamed hmethM hstat
  obtain ⟨kP, hkP, -⟩ := className_of_methodNamed hnamed
  have hinitP : kP.init = .initialized := Cond.initialized_spec (findClass_of_methodNamed hnamed) hkP hinit
  obtain ⟨vm₁, X₁, hstep₁⟩ := X.invokestatic hexec hown hlink hnamed hmethM hstatic hkP hinitP hy (g := g) hg (argsL := argsL) (rest := rest) (hlen _ hsigM) hstack hdg
  rcases hK m meth c ⟨T.setVm vm₁, locs, cells, slots⟩ { g with stack := rest } (.invokestatic index) mk argsL.toArray X₁ hg hsize hdg hW (X₁.named hnamed) (hpre vm₁ X₁.warmed) with ⟨v, B, X', hpost, hsteps⟩ | ⟨q, B, X', hpost, hsteps⟩
  · exact Or.inl ⟨v, vm₁, B, X₁.warmed, X', hpost, fun target h => hstep₁ _ fun acts => by rw [doInvoke_state]; exact hsteps.trans h⟩
  · exact Or.inr ⟨q, vm₁, B, X₁.warmed, X', hpost, hstep₁ _ fun acts => by rw [doInvoke_state]; exact hsteps⟩
end Calls
theorem vx_cls {s : State} {T : State} {vm₁ : Vm} {E : String} {k : ClassId} (hW : s.WarmedH vm₁) (h : (T.setVm vm₁).vm.findClass E = some k) : s.vm.findClass E = some k := by
  have h1 : vm₁.findClass E = some k := h
  rw [hW.alike.findClass] at h1
  exact h1
/-- the method's frame g, with q thrown over it -/
def vx_W (p : Program) (l : Launch) (e : Env) (R : Room) (s : State) (m : MethodId) (args : Array Value) (below : List Frame) (meth : Method) (c : Code) (H : Heap) (locs : List Loc) (cells slots : Nat) (Q : State → Prop) (g : JFrame) (q : Addr) : Prop :=
  ∀ T : State, T.heap = H → Stand p l e R s m args below meth c T locs cells slots → ∃ t, Steps p.tables e below ((T.setTop g).pushFrame (.throwing q)) t ∧ Q t
def vx_Run (p : Program) (l : Launch) (e : Env) (R : Room) (s : State) (m : MethodId) (args : Array Value) (below : List Frame) (meth : Method) (c : Code) (H : Heap) (locs : List Loc) (cells slots mc ms : Nat) (g : JFrame) (rest : List Value) (Qa : State → Outcome → State → Prop) (XC : String → State → State → Prop) (free : Addr → Prop) : Prop :=
  ∀ T : State, T.heap = H → Stand p l e R s m args below meth c T locs cells slots →
    (∃ (v : Option Value) (st₀ t T' : State) (L : List Loc), st₀.heap = H ∧ Stand p l e R s m args below meth c T' (locs ++ L) (cells + mc) (slots + ms) ∧ (∀ q ∈ L, free q.base) ∧ T'.heap = t.heap ∧ T'.vm = t.vm ∧ Qa st₀ (.returned v) t ∧
      Goes p e below T g T' { g with pc := g.pc + 3, stack := v.toList ++ rest }) ∨
    (∃ (q : Addr) (st₀ t T' : State) (L : List Loc) (E : String) (ce : Cell), st₀.heap = H ∧ Stand p l e R s m args below meth c T' (locs ++ L) (cells + mc) (slots + ms) ∧ (∀ z ∈ L, free z.base) ∧ T'.heap = t.heap ∧ T'.vm = t.vm ∧ XC E st₀ t ∧ t.heap[q]? = some ce ∧ ce.vm = .none ∧ s.vm.findClass E = some ce.cls ∧
      Steps p.tables e below (T.setTop g) ((T'.setTop { g with stack := rest }).pushFrame (.throwing q)))
def vx_X {S : Type} (px : S → Prop) (B : String → S → State → Prop) (A : Nat → Prop) : String → State → State → Prop := fun E st t => ∃ u : S, px u ∧ B E u t ∧ va_F A st t
section Runs
variable {p : Program} {l : Launch} {e : Env} {R : Room} {s : State} {m : MethodId} {args : Array Value} {below : List Frame} {meth : Method} {c : Code} {H : Heap} {locs : List Loc} {cells slots : Nat}
variable {y : MethodName} {bytes cc : ByteArray} {maxL nL mc ms n index : Nat} {ret : Option FieldType} {ws : List Cond} {rm : Room} {Pc : Array Value → State → Prop} {Qc : Array Value → State → Outcome → State → Prop} {XC : String → State → State → Prop} {free : Addr → Prop} {Ts : List Cond} {own C : String} {b : Addr} {As rest : List Value} {g : JFrame}
theorem vx_callBack (cb : CallB R s args own index y bytes maxL ret ws rm mc ms n) (hM : vx_Met l y ws rm Pc Qc XC mc ms free) (hbl : FrameBlind Pc) : vx_Back l R p e below s args y 3 8 (PreOf R mc ms Pc) (PostOf Qc mc ms free) (vx_Post XC mc ms free) := by
  obtain ⟨hrc, hrs, hfr, hlo, hws, hcw, -, hini, -⟩ := cb
  exact vx_back (bytes := bytes) (maxL := maxL) (ret := ret) hM hbl hrc hrs hfr hlo hws hcw (fun a' U hW => word_at hW (Or.inl (by first | rfl | simp [Cond.onTables, Cond.keeps, Cond.steady])) hini)
theorem vx_runV (S : CallFix p m c cc nL s args Ts own) (hM : vx_Met l y ws rm Pc Qc XC mc ms free) (cw : CallW R s args own C index y bytes maxL ret ws rm mc ms n) (hp : PreV s H C b Pc As)
    (hg : g.method = m) (hn : As.length = n) (hsize : g.locals.size = nL) (hstack : g.stack = As.reverse ++ .ref b :: rest) (hW : 2 * g.monitorRoom + (rest.map fun v => v.category).sum ≤ 8) (hdg : decode cc g.pc = .ok (.invokevirtual index, 3)) (hf : cells + mc ≤ R.cells ∧ slots + ms ≤ R.slots) :
    vx_Run p l e R s m args below meth c H locs cells slots mc ms g rest (Qc (Value.ref b :: As).toArray) XC free := by
  have hK : vx_Back l R p e below s args y 3 8 (PreOf R mc ms Pc) (PostOf Qc mc ms free) (vx_Post XC mc ms free) := vx_callBack cw.1 hM hp.1
  obtain ⟨⟨-, -, -, -, -, -, hcode, -, hy, hlen, hl⟩, hin, hse⟩ := cw
  obtain ⟨hx, hb, hml, ho, -⟩ := S
  obtain ⟨-, ⟨cellB, hcB, hoB, hclB⟩, hPc⟩ := hp
  intro T hT X
  rcases vx_callV X hx (C := C) (bytes := bytes) (maxL := maxL) (ret := ret) ho hl hin hse hcode hy hK (by rw [hT]; exact hcB) hoB hclB hg (hsize.trans hml.symm) (argsL := As) (rest := rest) (fun sig h => hn.trans (hlen sig h)) hstack hW (by rw [hb]; exact hdg)
    (fun vm₁ hW₁ => ⟨hf.1, hf.2, hPc (T.setVm vm₁) hT hW₁⟩) with ⟨v, vm₁, ⟨U', l2, c2, s2⟩, hW₁, X', ⟨g', mk, t, L, e1, e2, hq, h1, hL, h2, h3⟩, st⟩ | ⟨q, vm₁, ⟨U', l2, c2, s2⟩, hW₁, X', ⟨g', mk, t, L, E, ce, e1, e2, hq, hce, hcv, hcl, h1, hL, h2, h3⟩, st⟩
  · dsimp only [Pt.U, Pt.locs, Pt.cells, Pt.slots] at X' e1 e2 h1 h2 h3 st
    subst h1; subst h2; subst h3
    exact Or.inl ⟨v, (T.setVm vm₁).calling g' mk (Value.ref b :: As).toArray, t, U', L, hT, X', hL, e1, e2, hq, st⟩
  · dsimp only [Pt.U, Pt.locs, Pt.cells, Pt.slots] at X' e1 e2 h1 h2 h3 st hcl
    subst h1; subst h2; subst h3
    exact Or.inr ⟨q, (T.setVm vm₁).calling g' mk (Value.ref b :: As).toArray, t, U', L, E, ce, hT, X', hL, e1, e2, hq, hce, hcv, vx_cls hW₁ hcl, st⟩
theorem vx_runS (S : CallFix p m c cc nL s args Ts own) (hM : vx_Met l y ws rm Pc Qc XC mc ms free) (cw : CallB R s args own index y bytes maxL ret ws rm mc ms n ∧ (Cond.static y).before args s = true) (hp : PreS s H Pc As)
    (hg : g.method = m) (hn : As.length = n) (hsize : g.locals.size = nL) (hstack : g.stack = As.reverse ++ rest) (hW : 2 * g.monitorRoom + (rest.map fun v => v.category).sum ≤ 8) (hdg : decode cc g.pc = .ok (.invokestatic index, 3)) (hf : cells + mc ≤ R.cells ∧ slots + ms ≤ R.slots) :
    vx_Run p l e R s m args below meth c H locs cells slots mc ms g rest (Qc As.toArray) XC free := by
  have hK : vx_Back l R p e below s args y 3 8 (PreOf R mc ms Pc) (PostOf Qc mc ms free) (vx_Post XC mc ms free) := vx_callBack cw.1 hM hp.1
  obtain ⟨⟨-, -, -, -, -, -, hcode, hini, hy, hlen, hl⟩, hstt⟩ := cw
  obtain ⟨hx, hb, hml, ho, -⟩ := S
  intro T hT X
  rcases vx_callS X hx (bytes := bytes) (maxL := maxL) (ret := ret) ho hl hstt hini hcode hy hK hg (hsize.trans hml.symm) (argsL := As) (rest := rest) (fun sig h => hn.trans (hlen sig h)) hstack hW (by rw [hb]; exact hdg)
    (fun vm₁ hW₁ => ⟨hf.1, hf.2, hp.2 (T.setVm vm₁) hT hW₁⟩) with ⟨v, vm₁, ⟨U', l2, c2, s2⟩, hW₁, X', ⟨g', mk, t, L, e1, e2, hq, h1, hL, h2, h3⟩, st⟩ | ⟨q, vm₁, ⟨U', l2, c2, s2⟩, hW₁, X', ⟨g', mk, t, L, E, ce, e1, e2, hq, hce, hcv, hcl, h1, hL, h2, h3⟩, st⟩
  · dsimp only [Pt.U, Pt.locs, Pt.cells, Pt.slots] at X' e1 e2 h1 h2 h3 st
    subst h1; subst h2; subst h3
    exact Or.inl ⟨v, (T.setVm vm₁).calling g' mk As.toArray, t, U', L, hT, X', hL, e1, e2, hq, st⟩
  · dsimp only [Pt.U, Pt.locs, Pt.cells, Pt.slots] at X' e1 e2 h1 h2 h3 st hcl
    subst h1; subst h2; subst h3
    exact Or.inr ⟨q, (T.setVm vm₁).calling g' mk As.toArray, t, U', L, E, ce, hT, X', hL, e1, e2, hq, hce, hcv, vx_cls hW₁ hcl, st⟩
end Runs
section Rows
variable {p : Program} {l : Launch} {e : Env} {R : Room} {s : State} {m : MethodId} {args : Array Value} {below : List Frame} {meth : Method} {c : Code} {H : Heap} {locs : List Loc} {cells slots : Nat} {Q : State → Prop}
variable {mc ms : Nat} {free : Addr → Prop} {A0 A1 : Nat → Prop} {H0 : Heap} {a : Array Value} {pc : Nat} {ls : Array Slot} {st0 rest : List Value}
theorem vx_keep {st₀ t T' : State} {L : List Loc} (h0 : st₀.heap = H) (e1 : T'.heap = t.heap) (hS : va_S A0 H0 H locs) (hA : ∀ q, q < H.size → A1 q → A0 q) (hf : ∀ q, free q → A0 q) (hL : ∀ q ∈ L, free q.base) (hF : va_F A1 st₀ t) :
    H.size ≤ T'.heap.size ∧ (∀ q : Nat, q < H.size → ¬ A1 q → T'.heap[q]? = H[q]?) ∧ va_S A0 H0 T'.heap (locs ++ L) := by
  obtain ⟨hz, hk⟩ := hF
  rw [h0] at hz hk
  exact ⟨by rw [e1]; exact hz, fun q h1 h2 => by rw [e1]; exact hk q h1 h2,
    ⟨Nat.le_trans hS.1 (by rw [e1]; exact hz), fun q h1 h2 => by rw [e1, hk q (Nat.lt_of_lt_of_le h1 hS.1) (fun z => h2 (hA q (Nat.lt_of_lt_of_le h1 hS.1) z))]; exact hS.2.1 q h1 h2, fun q hq => by
      rcases List.mem_append.mp hq with h | h
      · exact hS.2.2 q h
      · exact hf _ (hL q h)⟩⟩
theorem vx_calli {S SX : Type} {post : Int32 → S → Prop} {px : SX → Prop} {B : S → State → Prop} {BX : String → SX → State → Prop} {AX : Nat → Prop} (hr : vx_Run p l e R s m args below meth c H locs cells slots mc ms (F0 m pc ls st0) rest (va_Qi post B A1 a) (vx_X px BX AX) free) (hS : va_S A0 H0 H locs) (hA : ∀ q, q < H.size → A1 q → A0 q) (hf : ∀ q, free q → A0 q) (hAX : ∀ q, q < H.size → AX q → A0 q)
    (kx : ∀ (E : String) (ce : Cell) (q9 : Addr) (u : SX) (t : State) (H1 : Heap) (locs1 : List Loc), t.heap = H1 → s.vm.Alike t.vm → px u → BX E u t → H.size ≤ H1.size → (∀ q : Nat, q < H.size → ¬ AX q → H1[q]? = H[q]?) → va_S A0 H0 H1 locs1 → H1[q9]? = some ce → ce.vm = .none → s.vm.findClass E = some ce.cls → vx_W p l e R s m args below meth c H1 locs1 (cells + mc) (slots + ms) Q (F0 m pc ls rest) q9)
    (kk : ∀ (r : Int32) (u : S) (t : State) (H1 : Heap) (locs1 : List Loc), t.heap = H1 → s.vm.Alike t.vm → post r u → B u t → H.size ≤ H1.size → (∀ q : Nat, q < H.size → ¬ A1 q → H1[q]? = H[q]?) → va_S A0 H0 H1 locs1 → W p l e R s m args below meth c H1 locs1 (cells + mc) (slots + ms) Q (F0 m (pc + 3) ls (.int r :: rest))) : W p l e R s m args below meth c H locs cells slots Q (F0 m pc ls st0) := by
  intro T hT X
  rcases hr T hT X with ⟨v, st₀, t, T', L, h0, X', hL, e1, e2, ⟨⟨r, u, hv, hp, hb⟩, hF⟩, st⟩ | ⟨q, st₀, t, T', L, E, ce, h0, X', hL, e1, e2, ⟨u, hp, hb, hF⟩, hce, hcv, hcl, st⟩
  · cases hv
    obtain ⟨k1, k2, k3⟩ := vx_keep h0 e1 hS hA hf hL hF
    obtain ⟨t2, a1, b1⟩ := kk r u t T'.heap (locs ++ L) e1.symm (by rw [← e2]; exact X'.warmed.alike) hp hb k1 k2 k3 T' rfl X'
    exact ⟨t2, st t2 a1, b1⟩
  · obtain ⟨k1, k2, k3⟩ := vx_keep h0 e1 hS hAX hf hL hF
    obtain ⟨t2, a1, b1⟩ := kx E ce q u t T'.heap (locs ++ L) e1.symm (by rw [← e2]; exact X'.warmed.alike) hp hb k1 k2 k3 (by rw [e1]; exact hce) hcv hcl T' rfl X'
    exact ⟨t2, st.trans a1, b1⟩
theorem vx_calll {S SX : Type} {post : Int64 → S → Prop} {px : SX → Prop} {B : S → State → Prop} {BX : String → SX → State → Prop} {AX : Nat → Prop} (hr : vx_Run p l e R s m args below meth c H locs cells slots mc ms (F0 m pc ls st0) rest (va_Ql post B A1 a) (vx_X px BX AX) free) (hS : va_S A0 H0 H locs) (hA : ∀ q, q < H.size → A1 q → A0 q) (hf : ∀ q, free q → A0 q) (hAX : ∀ q, q < H.size → AX q → A0 q)
    (kx : ∀ (E : String) (ce : Cell) (q9 : Addr) (u : SX) (t : State) (H1 : Heap) (locs1 : List Loc), t.heap = H1 → s.vm.Alike t.vm → px u → BX E u t → H.size ≤ H1.size → (∀ q : Nat, q < H.size → ¬ AX q → H1[q]? = H[q]?) → va_S A0 H0 H1 locs1 → H1[q9]? = some ce → ce.vm = .none → s.vm.findClass E = some ce.cls → vx_W p l e R s m args below meth c H1 locs1 (cells + mc) (slots + ms) Q (F0 m pc ls rest) q9)
    (kk : ∀ (r : Int64) (u : S) (t : State) (H1 : Heap) (locs1 : List Loc), t.heap = H1 → s.vm.Alike t.vm → post r u → B u t → H.size ≤ H1.size → (∀ q : Nat, q < H.size → ¬ A1 q → H1[q]? = H[q]?) → va_S A0 H0 H1 locs1 → W p l e R s m args below meth c H1 locs1 (cells + mc) (slots + ms) Q (F0 m (pc + 3) ls (.long r :: rest))) : W p l e R s m args below meth c H locs cells slots Q (F0 m pc ls st0) := by
  intro T hT X
  rcases hr T hT X with ⟨v, st₀, t, T', L, h0, X', hL, e1, e2, ⟨⟨r, u, hv, hp, hb⟩, hF⟩, st⟩ | ⟨q, st₀, t, T', L, E, ce, h0, X', hL, e1, e2, ⟨u, hp, hb, hF⟩, hce, hcv, hcl, st⟩
  · cases hv
    obtain ⟨k1, k2, k3⟩ := vx_keep h0 e1 hS hA hf hL hF
    obtain ⟨t2, a1, b1⟩ := kk r u t T'.heap (locs ++ L) e1.symm (by rw [← e2]; exact X'.warmed.alike) hp hb k1 k2 k3 T' rfl X'
    exact ⟨t2, st t2 a1, b1⟩
  · obtain ⟨k1, k2, k3⟩ := vx_keep h0 e1 hS hAX hf hL hF
    obtain ⟨t2, a1, b1⟩ := kx E ce q u t T'.heap (locs ++ L) e1.symm (by rw [← e2]; exact X'.warmed.alike) hp hb k1 k2 k3 (by rw [e1]; exact hce) hcv hcl T' rfl X'
    exact ⟨t2, st.trans a1, b1⟩
theorem vx_callf {S SX : Type} {post : UInt32 → S → Prop} {px : SX → Prop} {B : S → State → Prop} {BX : String → SX → State → Prop} {AX : Nat → Prop} (hr : vx_Run p l e R s m args below meth c H locs cells slots mc ms (F0 m pc ls st0) rest (va_Qf post B A1 a) (vx_X px BX AX) free) (hS : va_S A0 H0 H locs) (hA : ∀ q, q < H.size → A1 q → A0 q) (hf : ∀ q, free q → A0 q) (hAX : ∀ q, q < H.size → AX q → A0 q)
    (kx : ∀ (E : String) (ce : Cell) (q9 : Addr) (u : SX) (t : State) (H1 : Heap) (locs1 : List Loc), t.heap = H1 → s.vm.Alike t.vm → px u → BX E u t → H.size ≤ H1.size → (∀ q : Nat, q < H.size → ¬ AX q → H1[q]? = H[q]?) → va_S A0 H0 H1 locs1 → H1[q9]? = some ce → ce.vm = .none → s.vm.findClass E = some ce.cls → vx_W p l e R s m args below meth c H1 locs1 (cells + mc) (slots + ms) Q (F0 m pc ls rest) q9)
    (kk : ∀ (r : UInt32) (u : S) (t : State) (H1 : Heap) (locs1 : List Loc), t.heap = H1 → s.vm.Alike t.vm → post r u → B u t → H.size ≤ H1.size → (∀ q : Nat, q < H.size → ¬ A1 q → H1[q]? = H[q]?) → va_S A0 H0 H1 locs1 → W p l e R s m args below meth c H1 locs1 (cells + mc) (slots + ms) Q (F0 m (pc + 3) ls (.float r :: rest))) : W p l e R s m args below meth c H locs cells slots Q (F0 m pc ls st0) := by
  intro T hT X
  rcases hr T hT X with ⟨v, st₀, t, T', L, h0, X', hL, e1, e2, ⟨⟨r, u, hv, hp, hb⟩, hF⟩, st⟩ | ⟨q, st₀, t, T', L, E, ce, h0, X', hL, e1, e2, ⟨u, hp, hb, hF⟩, hce, hcv, hcl, st⟩
  · cases hv
    obtain ⟨k1, k2, k3⟩ := vx_keep h0 e1 hS hA hf hL hF
    obtain ⟨t2, a1, b1⟩ := kk r u t T'.heap (locs ++ L) e1.symm (by rw [← e2]; exact X'.warmed.alike) hp hb k1 k2 k3 T' rfl X'
    exact ⟨t2, st t2 a1, b1⟩
  · obtain ⟨k1, k2, k3⟩ := vx_keep h0 e1 hS hAX hf hL hF
    obtain ⟨t2, a1, b1⟩ := kx E ce q u t T'.heap (locs ++ L) e1.symm (by rw [← e2]; exact X'.warmed.alike) hp hb k1 k2 k3 (by rw [e1]; exact hce) hcv hcl T' rfl X'
    exact ⟨t2, st.trans a1, b1⟩
theorem vx_calld {S SX : Type} {post : UInt64 → S → Prop} {px : SX → Prop} {B : S → State → Prop} {BX : String → SX → State → Prop} {AX : Nat → Prop} (hr : vx_Run p l e R s m args below meth c H locs cells slots mc ms (F0 m pc ls st0) rest (va_Qd post B A1 a) (vx_X px BX AX) free) (hS : va_S A0 H0 H locs) (hA : ∀ q, q < H.size → A1 q → A0 q) (hf : ∀ q, free q → A0 q) (hAX : ∀ q, q < H.size → AX q → A0 q)
    (kx : ∀ (E : String) (ce : Cell) (q9 : Addr) (u : SX) (t : State) (H1 : Heap) (locs1 : List Loc), t.heap = H1 → s.vm.Alike t.vm → px u → BX E u t → H.size ≤ H1.size → (∀ q : Nat, q < H.size → ¬ AX q → H1[q]? = H[q]?) → va_S A0 H0 H1 locs1 → H1[q9]? = some ce → ce.vm = .none → s.vm.findClass E = some ce.cls → vx_W p l e R s m args below meth c H1 locs1 (cells + mc) (slots + ms) Q (F0 m pc ls rest) q9)
    (kk : ∀ (r : UInt64) (u : S) (t : State) (H1 : Heap) (locs1 : List Loc), t.heap = H1 → s.vm.Alike t.vm → post r u → B u t → H.size ≤ H1.size → (∀ q : Nat, q < H.size → ¬ A1 q → H1[q]? = H[q]?) → va_S A0 H0 H1 locs1 → W p l e R s m args below meth c H1 locs1 (cells + mc) (slots + ms) Q (F0 m (pc + 3) ls (.double r :: rest))) : W p l e R s m args below meth c H locs cells slots Q (F0 m pc ls st0) := by
  intro T hT X
  rcases hr T hT X with ⟨v, st₀, t, T', L, h0, X', hL, e1, e2, ⟨⟨r, u, hv, hp, hb⟩, hF⟩, st⟩ | ⟨q, st₀, t, T', L, E, ce, h0, X', hL, e1, e2, ⟨u, hp, hb, hF⟩, hce, hcv, hcl, st⟩
  · cases hv
    obtain ⟨k1, k2, k3⟩ := vx_keep h0 e1 hS hA hf hL hF
    obtain ⟨t2, a1, b1⟩ := kk r u t T'.heap (locs ++ L) e1.symm (by rw [← e2]; exact X'.warmed.alike) hp hb k1 k2 k3 T' rfl X'
    exact ⟨t2, st t2 a1, b1⟩
  · obtain ⟨k1, k2, k3⟩ := vx_keep h0 e1 hS hAX hf hL hF
    obtain ⟨t2, a1, b1⟩ := kx E ce q u t T'.heap (locs ++ L) e1.symm (by rw [← e2]; exact X'.warmed.alike) hp hb k1 k2 k3 (by rw [e1]; exact hce) hcv hcl T' rfl X'
    exact ⟨t2, st.trans a1, b1⟩
theorem vx_callv {S SX : Type} {post : S → Prop} {px : SX → Prop} {B : S → State → Prop} {BX : String → SX → State → Prop} {AX : Nat → Prop} (hr : vx_Run p l e R s m args below meth c H locs cells slots mc ms (F0 m pc ls st0) rest (va_Qv post B A1 a) (vx_X px BX AX) free) (hS : va_S A0 H0 H locs) (hA : ∀ q, q < H.size → A1 q → A0 q) (hf : ∀ q, free q → A0 q) (hAX : ∀ q, q < H.size → AX q → A0 q)
    (kx : ∀ (E : String) (ce : Cell) (q9 : Addr) (u : SX) (t : State) (H1 : Heap) (locs1 : List Loc), t.heap = H1 → s.vm.Alike t.vm → px u → BX E u t → H.size ≤ H1.size → (∀ q : Nat, q < H.size → ¬ AX q → H1[q]? = H[q]?) → va_S A0 H0 H1 locs1 → H1[q9]? = some ce → ce.vm = .none → s.vm.findClass E = some ce.cls → vx_W p l e R s m args below meth c H1 locs1 (cells + mc) (slots + ms) Q (F0 m pc ls rest) q9)
    (kk : ∀ (u : S) (t : State) (H1 : Heap) (locs1 : List Loc), t.heap = H1 → s.vm.Alike t.vm → post u → B u t → H.size ≤ H1.size → (∀ q : Nat, q < H.size → ¬ A1 q → H1[q]? = H[q]?) → va_S A0 H0 H1 locs1 → W p l e R s m args below meth c H1 locs1 (cells + mc) (slots + ms) Q (F0 m (pc + 3) ls (rest))) : W p l e R s m args below meth c H locs cells slots Q (F0 m pc ls st0) := by
  intro T hT X
  rcases hr T hT X with ⟨v, st₀, t, T', L, h0, X', hL, e1, e2, ⟨⟨u, hv, hp, hb⟩, hF⟩, st⟩ | ⟨q, st₀, t, T', L, E, ce, h0, X', hL, e1, e2, ⟨u, hp, hb, hF⟩, hce, hcv, hcl, st⟩
  · cases hv
    obtain ⟨k1, k2, k3⟩ := vx_keep h0 e1 hS hA hf hL hF
    obtain ⟨t2, a1, b1⟩ := kk u t T'.heap (locs ++ L) e1.symm (by rw [← e2]; exact X'.warmed.alike) hp hb k1 k2 k3 T' rfl X'
    exact ⟨t2, st t2 a1, b1⟩
  · obtain ⟨k1, k2, k3⟩ := vx_keep h0 e1 hS hAX hf hL hF
    obtain ⟨t2, a1, b1⟩ := kx E ce q u t T'.heap (locs ++ L) e1.symm (by rw [← e2]; exact X'.warmed.alike) hp hb k1 k2 k3 (by rw [e1]; exact hce) hcv hcl T' rfl X'
    exact ⟨t2, st.trans a1, b1⟩
/-- caught by the row x of this method's table; the rows ahead don't take it -/
theorem vx_catch {own name : String} {E : String} {ce : Cell} {q : Addr} (hown : s.vm.findClass own = some m.cls) (pre : List ExceptionTableEntry) (x : ExceptionTableEntry) (suf : List ExceptionTableEntry) (hsplit : c.exceptionTable.toList = pre ++ x :: suf)
    (hpass : ∀ z ∈ pre, covers z pc = false ∨ (z.catchType ≠ 0 ∧ ∃ nm : String, (Cond.classLink own z.catchType nm).before args s = true ∧ va_Nc E nm s)) (hx : covers x pc = true) (h0 : x.catchType ≠ 0)
    (hlink : (Cond.classLink own x.catchType name).before args s = true) (hcast : (Cond.castable E name).before args s = true) (hcell : H[q]? = some ce) (hv : ce.vm = .none) (hcl : s.vm.findClass E = some ce.cls)
    (kk : W p l e R s m args below meth c H locs cells slots Q (F0 m x.handlerPc ls [.ref q])) : vx_W p l e R s m args below meth c H locs cells slots Q (F0 m pc ls rest) q := by
  intro T hT X
  have hpl : e.platform.magicAccessors = ({} : Platform).magicAccessors := by rw [X.admits.platform]
  obtain ⟨c3, c4, hc3, hc4, hasg⟩ := Cond.castable_spec hcast
  cases Option.some.inj (hc3.symm.trans hcl)
  obtain ⟨c5, hc5, hcl5⟩ := Cond.classLink_spec hown hlink e.platform hpl
  cases Option.some.inj (hc4.symm.trans hc5)
  obtain ⟨vm', X', st⟩ := X.thenCaughtThrough q (g := F0 m pc ls rest) rfl (Steps.refl _) (by rw [hT]; exact hcell) (by rw [hv]; rfl) (by obtain ⟨k9, h9, -⟩ := Vm.findClass_spec hcl; exact ⟨k9, h9⟩) pre x suf hsplit
    (fun z hz => by
      rcases hpass z hz with h | ⟨hz0, nm, hl1, hn1⟩
      · exact Or.inl h
      · obtain ⟨c6, hc6, hcl6⟩ := Cond.classLink_spec hown hl1 e.platform hpl
        obtain ⟨a8, b8, h1, h2, h3⟩ := hn1
        cases Option.some.inj (h1.symm.trans hcl)
        cases Option.some.inj (h2.symm.trans hc6)
        exact Or.inr ⟨hz0, _, hcl6, h3⟩) hx (Or.inr ⟨h0, c4, hcl5, hasg⟩)
  obtain ⟨t, a1, b1⟩ := kk (T.setVm vm') hT X'
  exact ⟨t, st.trans a1, b1⟩
end Rows
section Ends
variable {p : Program} {l : Launch} {e : Env} {R : Room} {s : State} {m : MethodId} {args : Array Value} {below : List Frame} {meth : Method} {c : Code} {H : Heap} {locs : List Loc} {cells slots : Nat} {Q : State → Prop}
variable {mc ms : Nat} {free : Addr → Prop} {A0 A1 : Nat → Prop} {H0 : Heap} {a : Array Value} {ls : Array Slot} {st0 rest : List Value}
variable {Qc : Array Value → State → Outcome → State → Prop} {XC : String → State → State → Prop}
/-- what a body that may throw owes at its end -/
def vx_MQ (below : List Frame) (Qc : Array Value → State → Outcome → State → Prop) (XC : String → State → State → Prop) (a : Array Value) (s : State) (mc ms : Nat) (free : Addr → Prop) : State → Prop := fun t =>
  ∃ o, t.status = .running ∧ Ended t below o ∧ vx_Q Qc XC mc ms free a s o t
theorem vx_ret {g : JFrame} {mc ms : Nat} (k : W p l e R s m args below meth c H locs cells slots (MQ below Qc args s mc ms free) g) : W p l e R s m args below meth c H locs cells slots (vx_MQ below Qc XC args s mc ms free) g := by
  intro T hT X
  obtain ⟨t, a1, o, b1, b2, b3, b4⟩ := k T hT X
  exact ⟨t, a1, o, b1, b2, Or.inl ⟨b3, b4⟩⟩
/-- not caught here: it goes on to the caller -/
theorem vx_widen {g : JFrame} {q : Addr} {k n : Nat} (h1 : cells ≤ k) (h2 : slots ≤ n) (kk : vx_W p l e R s m args below meth c H locs k n Q g q) : vx_W p l e R s m args below meth c H locs cells slots Q g q := fun T hT X => kk T hT (stand_widen X h1 h2)
theorem vx_out {pc : Nat} {E : String} {ce : Cell} {q : Addr} {mc ms : Nat} (hout : ∀ x ∈ c.exceptionTable.toList, covers x pc = false) (hlocks : meth.locks = false) (hcell : H[q]? = some ce) (hv : ce.vm = .none) (hcl : s.vm.findClass E = some ce.cls)
    (hx : ∀ t : State, t.heap = H → s.vm.Alike t.vm → XC E s t) (hf : ∀ z ∈ locs, free z.base) (hc : cells ≤ mc) (hs : slots ≤ ms) :
    vx_W p l e R s m args below meth c H locs cells slots (vx_MQ below Qc XC args s mc ms free) (F0 m pc ls rest) q := by
  intro T hT X
  obtain ⟨st1, hrun, hend, hW, hsm⟩ := X.leaveThrown q (g := F0 m pc ls rest) rfl rfl rfl hout hlocks
  have hcell9 : (T.setFrames (.throwing q :: below)).heap[q]? = some ce := by
    show T.heap[q]? = some ce
    rw [hT]; exact hcell
  exact ⟨_, st1, .threw q, hrun, hend, Or.inr ⟨q, rfl, E, ce, locs, hx _ hT hW.alike, hcell9, hv, hcl, hW, hsm.mono hc hs, hf⟩⟩
theorem vx_frame {U : State} {k n : Nat} (h : s.sameButNew ({ U with vm := s.vm } : State) locs k n) : s.heap.size ≤ U.heap.size ∧ ∀ q : Nat, q < s.heap.size → (∀ z ∈ locs, z.base ≠ q) → U.heap[q]? = s.heap[q]? := by
  obtain ⟨-, h2, -, -, -, h6⟩ := h
  refine ⟨h2, fun q hq hz => ?_⟩
  obtain ⟨c9, e1, e2, e3, e4⟩ := h6 q _ (Array.getElem?_eq_getElem hq)
  have hs : c9.slots = (s.heap[q]).slots := Array.ext_getElem? fun i => e4 i fun hm => hz _ hm rfl
  have h9 : c9 = s.heap[q] := by
    rw [hs] at e2
    exact e2
  have e5 : U.heap[q]? = some c9 := e1
  rw [e5, h9, Array.getElem?_eq_getElem hq]
/-- the words of a throw but the four that speak of the heap -/
def vx_no (w : Cond) : Bool := decide (w ≠ .isRef (.static Bundle.tN "UNASSIGNED_STACK" Bundle.steD)) && decide (w ≠ .isRef (.static Bundle.tN "SUPPRESSED_SENTINEL" Bundle.listD)) && decide (w ≠ .laysStatic Bundle.tN "UNASSIGNED_STACK" Bundle.steD) && decide (w ≠ .laysStatic Bundle.tN "SUPPRESSED_SENTINEL" Bundle.listD)
def vx_at0 (own : String) (ic : Nat) (X : String) (names : List String) : List Cond := (Bundle.ownAtoms0 own ic X names).filter vx_no
def vx_atS (own : String) (ic : Nat) (X : String) (names : List String) : List Cond := (Bundle.ownAtoms own ic X names).filter vx_no
/-- a word that the tables alone decide, or a good one -/
def vx_ot (w : Cond) : Bool := w.onTables || goodWord w
theorem vx_ot_at {args a' : Array Value} {s U : State} {w : Cond} (hW : s.WarmedH U.vm) (hvm : s.vm = U.vm) (hg : vx_ot w = true) (h : w.before args s = true) : w.before a' U = true := by
  simp only [vx_ot, Bool.or_eq_true] at hg
  rcases hg with hg | hg
  · exact va_tabs hg hvm h
  · exact word_at hW (good_of_word hg) h
/-- a list's words: the good ones out of the method's own list, the others by premises of their own -/
theorem vx_hat {args : Array Value} {s : State} {L B : List Cond} (h1 : ∀ w ∈ L.filter goodWord, w.before args s = true) (h2 : ∀ w ∈ L.filter (fun w => !goodWord w), w ∈ B) (h3 : ∀ w ∈ B, w.before args s = true) : ∀ w ∈ L, w.before args s = true := by
  intro w hw
  by_cases g : goodWord w = true
  · exact h1 w (List.mem_filter.mpr ⟨hw, g⟩)
  · refine h3 w (h2 w (List.mem_filter.mpr ⟨hw, ?_⟩))
    show (!goodWord w) = true
    cases hgw : goodWord w
    · rfl
    · exact absurd hgw g
theorem vx_c {args : Array Value} {s : State} {w : Cond} {B : List Cond} (h : w.before args s = true) (t : ∀ w ∈ B, w.before args s = true) : ∀ w' ∈ w :: B, w'.before args s = true := fun w' h' => (List.mem_cons.mp h').elim (fun e => by rw [e]; exact h) (t w')
theorem vx_n {args : Array Value} {s : State} : ∀ w ∈ ([] : List Cond), w.before args s = true := fun _ h => nomatch h
theorem vx_own {args : Array Value} {s : State} {L : List Cond} (h1 : ∀ w ∈ L.filter vx_no, w.before args s = true)
    (hU : (Cond.isRef (.static Bundle.tN "UNASSIGNED_STACK" Bundle.steD)).before args s = true) (hN : (Cond.isRef (.static Bundle.tN "SUPPRESSED_SENTINEL" Bundle.listD)).before args s = true)
    (lU : (Cond.laysStatic Bundle.tN "UNASSIGNED_STACK" Bundle.steD).before args s = true) (lN : (Cond.laysStatic Bundle.tN "SUPPRESSED_SENTINEL" Bundle.listD).before args s = true) : ∀ w ∈ L, w.before args s = true := by
  intro w hw
  by_cases e1 : w = .isRef (.static Bundle.tN "UNASSIGNED_STACK" Bundle.steD)
  · rw [e1]; exact hU
  · by_cases e2 : w = .isRef (.static Bundle.tN "SUPPRESSED_SENTINEL" Bundle.listD)
    · rw [e2]; exact hN
    · by_cases e3 : w = .laysStatic Bundle.tN "UNASSIGNED_STACK" Bundle.steD
      · rw [e3]; exact lU
      · by_cases e4 : w = .laysStatic Bundle.tN "SUPPRESSED_SENTINEL" Bundle.listD
        · rw [e4]; exact lN
        · exact h1 w (List.mem_filter.mpr ⟨hw, by unfold vx_no; rw [decide_eq_true e1, decide_eq_true e2, decide_eq_true e3, decide_eq_true e4]; rfl⟩)
/-- where a static field lies, its class's statics cell in H -/
def vx_L (C n d : String) (A : Nat → Prop) (U : State) (H : Heap) : Prop := ∃ (c : ClassId) (k : Class) (i : Nat) (f : Field) (a : Nat) (cell : Cell), U.vm.findClass C = some c ∧ U.fieldFound? C n d = some (c, k, i, f) ∧ f.isStatic = true ∧ k.statics = some a ∧ H[a]? = some cell ∧ cell.vm.isStatics = true ∧ cell.cls = c ∧ f.slot < cell.slots.size ∧ k.staticTypes[f.slot]? = some f.type ∧ ¬ A a
theorem vx_L.moved {C n d : String} {A : Nat → Prop} {u U : State} {H : Heap} (hvm : u.vm.Alike U.vm) (h : vx_L C n d A u H) : vx_L C n d A U H := by
  obtain ⟨c, k, i, f, a, cell, h1, h2, h3, h4, h5, h6, h7, h8, h9, h10⟩ := h
  obtain ⟨k', hi', he⟩ := State.fieldFound?_setVm hvm h2
  exact ⟨c, k', i, f, a, cell, by rw [hvm.findClass]; exact h1, hi', h3, by rw [he]; exact h4, h5, h6, h7, h8, by rw [he]; exact h9, h10⟩
theorem vx_L.kept {C n d : String} {A : Nat → Prop} {U : State} {H H1 : Heap} (h : vx_L C n d A U H) (hq : ∀ a : Nat, a < H.size → ¬ A a → H1[a]? = H[a]?) : vx_L C n d A U H1 := by
  obtain ⟨c, k, i, f, a, cell, h1, h2, h3, h4, h5, h6, h7, h8, h9, h10⟩ := h
  exact ⟨c, k, i, f, a, cell, h1, h2, h3, h4, by rw [hq a (Array.getElem?_eq_some_iff.mp h5).1 h10]; exact h5, h6, h7, h8, h9, h10⟩
theorem vx_L.narrow {C n d : String} {A B : Nat → Prop} {U : State} {H : Heap} (h : vx_L C n d A U H) (hAB : ∀ q, B q → A q) : vx_L C n d B U H := by
  obtain ⟨c, k, i, f, a, cell, h1, h2, h3, h4, h5, h6, h7, h8, h9, h10⟩ := h
  exact ⟨c, k, i, f, a, cell, h1, h2, h3, h4, h5, h6, h7, h8, h9, fun z => h10 (hAB _ z)⟩
theorem vx_L.word {C n d : String} {A : Nat → Prop} {s : State} {args : Array Value} (h : vx_L C n d A s s.heap) : (Cond.laysStatic C n d).before args s = true := by
  obtain ⟨c, k, i, f, a, cell, h1, h2, h3, h4, h5, h6, h7, h8, h9, -⟩ := h
  show (Cond.laysStatic C n d).holds args s none s [] = true
  exact Cond.laysStatic_of h1 h2 h3 h4 h5 h6 h7 h8 h9
/-- .. and what it holds: null or some reference -/
def vx_Zq (C n d : String) (A : Nat → Prop) (U : State) (H : Heap) : Prop := va_Zq C n d A U H ∧ vx_L C n d A U H
theorem vx_Zq.moved {C n d : String} {A : Nat → Prop} {u U : State} {H : Heap} (hvm : u.vm.Alike U.vm) (h : vx_Zq C n d A u H) : vx_Zq C n d A U H := ⟨va_Zq.moved hvm h.1, vx_L.moved hvm h.2⟩
theorem vx_Zq.kept {C n d : String} {A : Nat → Prop} {U : State} {H H1 : Heap} (h : vx_Zq C n d A U H) (hq : ∀ a : Nat, a < H.size → ¬ A a → H1[a]? = H[a]?) : vx_Zq C n d A U H1 := ⟨va_Zq.kept h.1 hq, vx_L.kept h.2 hq⟩
theorem vx_Zq.narrow {C n d : String} {A B : Nat → Prop} {U : State} {H : Heap} (h : vx_Zq C n d A U H) (hAB : ∀ q, B q → A q) : vx_Zq C n d B U H := ⟨va_Zq.narrow h.1 hAB, vx_L.narrow h.2 hAB⟩
theorem vx_Zqof {args : Array Value} {s : State} {C n d : String} {A : Nat → Prop} (hl : (Cond.laysStatic C n d).before args s = true) (hini : (Cond.initialized C).before args s = true) (h : (Cond.isRef (.static C n d)).before args s = true) (hA : ∀ a : Nat, a < s.heap.size → ¬ A a) : vx_Zq C n d A s s.heap := by
  refine ⟨va_Zqof hl hini h hA, ?_⟩
  obtain ⟨c, k, i, f, a, cell, h1, h2, h3, h4, h5, h6, h7, h8, h9⟩ := Cond.laysStatic_spec hl
  exact ⟨c, k, i, f, a, cell, h1, h2, h3, h4, h5, h6, h7, h8, h9, hA a (Array.getElem?_eq_some_iff.mp h5).1⟩
theorem vx_isRef {C n d : String} {v : Value} {A : Nat → Prop} {s : State} {args : Array Value} (h : va_Z C n d v A s s.heap) (hv : v.isRef = true) : (Cond.isRef (.static C n d)).before args s = true := by
  obtain ⟨cf, kf, fi, f, a, cell, h1, h2, h3, h4, h5, h6, h7, -⟩ := h
  have he : (Term.static C n d).eval args s none [] s = some v := by
    simp [Term.eval, State.fieldNamed?, h1, h2, h4, h5, h6, h7]
  simp only [Cond.before, Cond.holds, Cond.value, he]
  cases v <;> simp_all [Value.isRef]
theorem vx_isRefq {C n d : String} {A : Nat → Prop} {s : State} {args : Array Value} (h : va_Zq C n d A s s.heap) : (Cond.isRef (.static C n d)).before args s = true := by
  rcases h with h | ⟨t, h⟩
  · exact vx_isRef h rfl
  · exact vx_isRef h rfl
/-- the same frame, seen from here: as if the method were called anew in this heap -/
theorem vx_rebase {T : State} (X : Stand p l e R s m args below meth c T locs cells slots) {R' : Room} (hf : R'.frames ≤ R.frames) (hl : R'.locals ≤ R.locals) (hc : cells + R'.cells ≤ R.cells) (hs : slots + R'.slots ≤ R.slots) :
    Stand p l e R' ((T.setVm s.vm).setFrames (.invoking m args :: below)) m args below meth c T [] 0 0 := by
  have htop : (T.setVm s.vm).topJava?.isSome := X.here.top
  have hF : ((T.setVm s.vm).setFrames (.invoking m args :: below)).frames = .invoking m args :: below := State.frames_setFrames _ (State.cur_lt_of_top htop)
  obtain ⟨g₀, hg0⟩ := Option.isSome_iff_exists.mp htop
  obtain ⟨r, hr⟩ := State.topJava?_eq_some.mp hg0
  have hl9 : e.platform.stackLimits (T.setVm s.vm).me = e.platform.stackLimits s.me := X.limits
  have hb9 : (T.setVm s.vm).me.stackBytes = s.me.stackBytes := X.bytes
  refine ⟨X.admits, X.cas, X.clock, hF, ?_, X.hears, X.method, X.code, X.here, X.tail, X.warmed, ?_, ?_, ?_⟩
  · have h := X.room
    have hU : ((T.setVm s.vm).setFrames (.invoking m args :: below)).localsInUse = s.localsInUse := by
      rw [State.localsInUse_invoking hF (meth := meth) (c := c) X.method X.code, State.localsInUse_invoking X.frames X.method X.code]
    simp only [State.hasRoom, Bool.and_eq_true, decide_eq_true_eq] at h ⊢
    obtain ⟨⟨⟨⟨h1, h2, h3, h4, h5, h6⟩, h7⟩, h8⟩, h9⟩ := h
    rw [X.frames, List.length_cons] at h2 h3
    have q1 := X.heapSize
    have q2 := X.used
    simp only [hF, hU, List.length_cons, State.stackLimits_setFrames, State.stackBytes_setFrames, hl9, hb9]
    refine ⟨⟨⟨⟨by omega, by omega, by omega, by omega, by omega, h6⟩, ?_⟩, ?_⟩, X.book⟩
    · show T.heap.size + R'.cells ≤ e.platform.maxCells
      omega
    · show T.slotsUsed + R'.slots ≤ e.platform.maxSlots
      omega
  · rw [State.stackLimits_setFrames]; rfl
  · rw [State.stackBytes_setFrames]; rfl
  · refine ⟨?_, Nat.le_refl _, Nat.le_refl _, ?_, ?_, fun a c9 h9 => ⟨c9, h9, rfl, rfl, fun _ _ => rfl⟩⟩
    · obtain ⟨t, ht, -⟩ := State.frames_cons hr
      show T.setVm s.vm = { ((T.setVm s.vm).setFrames (.invoking m args :: below)).setFrames (T.setVm s.vm).frames with heap := T.heap, slotsUsed := T.slotsUsed }
      rw [State.setFrames_setFrames, State.setFrames_self ht]
      rfl
    · show T.slotsUsed = T.slotsUsed + ((T.heap.toList.drop T.heap.size).map (·.slots.size)).sum
      rw [List.drop_eq_nil_of_le (Nat.le_of_eq Array.length_toList)]
      rfl
    · show ((T.heap.toList.drop T.heap.size).map (·.slots.size)).sum ≤ 0
      rw [List.drop_eq_nil_of_le (Nat.le_of_eq Array.length_toList)]
      exact Nat.le_refl _
/-- 'throw new E()': new; dup; invokespecial; athrow -/
theorem vx_throw0 {cc : ByteArray} {pc : Nat} (hexec : p.tables.exec = Jvm.exec) (hb : c.code = cc) (hl : l.stackTraces = false) {own cls : String} {names : List String} {ik ic mc ms : Nat} {A : Nat → Prop}
    (hown : s.vm.findClass own = some m.cls) (hcls : Bundle.fit cls = true) (hnames : ∀ n ∈ names, Bundle.fit n = true)
    (hk : (Cond.classLink own ik cls).before args s = true) (hini : (Cond.initialized cls).before args s = true) (hat : ∀ w ∈ vx_at0 own ic cls names, w.before args s = true)
    (hgood : ∀ w ∈ Cond.classLink own ik cls :: Cond.initialized cls :: vx_at0 own ic cls names, vx_ot w = true)
    (hU : vx_Zq Bundle.tN "UNASSIGNED_STACK" Bundle.steD A s s.heap) (hN : vx_Zq Bundle.tN "SUPPRESSED_SENTINEL" Bundle.listD A s s.heap) (hS : va_S A s.heap H locs) (hsize : ls.size = c.maxLocals)
    (d0 : decode cc pc = .ok (.new ik, 3)) (d3 : decode cc (pc + 3) = .ok (.dup, 1)) (d4 : decode cc (pc + 4) = .ok (.invokespecial ic, 3)) (d7 : decode cc (pc + 7) = .ok (.athrow, 1))
    (hout : ∀ x ∈ c.exceptionTable.toList, covers x (pc + 7) = false)
    (hRframes : names.length + 3 < R.frames) (hRlocals : (rest.map fun v => v.category).sum + (13 * (names.length + 1) + 42) ≤ R.locals) (hRcells : cells + 1 ≤ R.cells) (hRslots : slots + 6 ≤ R.slots) (hlocks : meth.locks = false)
    (hx : ∀ t : State, s.vm.Alike t.vm → H.size ≤ t.heap.size → (∀ q : Nat, q < H.size → t.heap[q]? = H[q]?) → XC cls s t)
    (hf : ∀ z ∈ locs, free z.base) (hc : cells + 1 ≤ mc) (hs : slots + 6 ≤ ms) :
    W p l e R s m args below meth c H locs cells slots (vx_MQ below Qc XC args s mc ms free) (F0 m pc ls rest) := by
  intro T hT X
  have htr : e.platform.stackTraces = false := (show e.platform.stackTraces = l.stackTraces by rw [X.admits.platform]).trans hl
  have Y := vx_rebase X (R' := { frames := R.frames, locals := R.locals, cells := 1, slots := 6 }) (Nat.le_refl _) (Nat.le_refl _) hRcells hRslots
  obtain ⟨s', hA⟩ : ∃ z, z = (T.setVm s.vm).setFrames (.invoking m args :: below) := ⟨_, rfl⟩
  rw [← hA] at Y
  have hvm : s'.vm = s.vm := by rw [hA]; rfl
  have hhp : s'.heap = H := by rw [hA]; exact hT
  have hW0 : s.WarmedH s'.vm := by rw [hvm]; exact State.WarmedH.refl s
  have hat' : ∀ w ∈ vx_at0 own ic cls names, w.before args s' = true := fun w hw => vx_ot_at hW0 hvm.symm (hgood w (List.mem_cons_of_mem _ (List.mem_cons_of_mem _ hw))) (hat w hw)
  have hk' : (Cond.classLink own ik cls).before args s' = true := vx_ot_at hW0 hvm.symm (hgood _ List.mem_cons_self) hk
  have hini' : (Cond.initialized cls).before args s' = true := vx_ot_at hW0 hvm.symm (hgood _ (List.mem_cons_of_mem _ List.mem_cons_self)) hini
  have hU' : vx_Zq Bundle.tN "UNASSIGNED_STACK" Bundle.steD A s' s'.heap := by rw [hhp]; exact vx_Zq.moved hW0.alike (hU.kept hS.2.1)
  have hN' : vx_Zq Bundle.tN "SUPPRESSED_SENTINEL" Bundle.listD A s' s'.heap := by rw [hhp]; exact vx_Zq.moved hW0.alike (hN.kept hS.2.1)
  have h : ∀ w ∈ Bundle.ownAtoms0 own ic cls names, w.before args s' = true := vx_own hat' (vx_isRefq hU'.1) (vx_isRefq hN'.1) hU'.2.word hN'.2.word
  have hown' : s'.vm.findClass own = some m.cls := by rw [hvm]; exact hown
  have hins : (Cond.instantiable cls 6).before args s' = true := h _ (by simp [Bundle.ownAtoms0])
  obtain ⟨vm₁, cX, kX, hfX, hkX, -, -, X₁, st1⟩ := Y.newCold hexec (own := own) (C := cls) (index := ik) (n := 6) hown' hk' hins hini'
    (g := F0 m pc ls rest) rfl (by rw [hb]; exact d0) (Nat.le_refl _) (Nat.le_refl _)
  generalize hT1 : (T.setVm vm₁).pushCell { cls := cX, slots := kX.instanceTypes.map defaultValue, vm := .none } = T1 at X₁ st1
  have hcat : (Value.ref T.heap.size).category = 1 := rfl
  have hcellA : T1.heap[T.heap.size]? = some (freshCell cX kX) := by rw [← hT1]; exact State.heap_pushCell_size _ _
  have d3' : decode c.code (pc + 3) = .ok (.dup, 1) := by rw [hb]; exact d3
  obtain ⟨U, hsteps, hrun, hend, hW, hsame, ce, hce, hO⟩ := X₁.ctorThrow0 hexec htr (own := own) (cls := cls) (names := names) (ic := ic) hown' hcls hnames h (fun x hx => nomatch hx) hfX hkX hcellA (by rw [hhp, hT]; exact Nat.le_refl _)
    (g := { method := m, pc := pc + 4, locals := ls, stack := .ref T.heap.size :: .ref T.heap.size :: rest, locked := none }) rfl hsize rfl rfl (rest := rest) rfl
    (by rw [hb]; exact d4) (by rw [hb]; exact d7) hout hRframes (by simp only [List.map_cons, List.sum_cons, hcat]; omega) hlocks
  obtain ⟨f1, f2⟩ := vx_frame hsame
  rw [hhp] at f1 f2
  have hWs : s.WarmedH U.vm := State.WarmedH.trans hW0 hW
  have hcl : s.vm.findClass cls = some ce.cls := by
    have h9 := hO.cls
    rw [hvm] at h9
    exact h9
  have hall : s.sameButNew ({ U with vm := s.vm } : State) locs mc ms := by
    subst hA
    obtain ⟨e1, e2⟩ := hsame
    rw [State.setFrames_setFrames] at e1
    have h2 : (T.setVm s.vm).sameButNew ({ U with vm := s.vm } : State) [] (0 + 1) (0 + 6) := ⟨e1, e2⟩
    have h3 := X.same.trans h2
    rw [List.append_nil] at h3
    exact h3.mono hc hs
  refine ⟨U, ?_, .threw T.heap.size, hrun, hend, Or.inr ⟨T.heap.size, rfl, cls, ce, locs, hx U hWs.alike f1 (fun q hq => f2 q hq (fun z hz => nomatch hz)), hce, hO.vm, hcl, hWs, hall, hf⟩⟩
  refine st1 _ ?_
  show Steps p.tables e below (T1.setTop { method := m, pc := pc + 3, locals := ls, stack := .ref T.heap.size :: rest, locked := none }) _
  jvm_step X₁.here [X₁.here.top, hexec, d3', Value.category]
  exact hsteps
/-- 'throw new E("text")': new; dup; ldc; invokespecial; athrow -/
theorem vx_throwS {cc : ByteArray} {pc : Nat} (hexec : p.tables.exec = Jvm.exec) (hb : c.code = cc) (hl : l.stackTraces = false) {own cls text : String} {names : List String} {ik is ic mc ms sa : Nat} {A : Nat → Prop}
    (hown : s.vm.findClass own = some m.cls) (hcls : Bundle.fit cls = true) (hnames : ∀ n ∈ names, Bundle.fit n = true)
    (hk : (Cond.classLink own ik cls).before args s = true) (hini : (Cond.initialized cls).before args s = true) (hstr : vk_R own is text sa s) (hat : ∀ w ∈ vx_atS own ic cls names, w.before args s = true)
    (hgood : ∀ w ∈ Cond.classLink own ik cls :: Cond.initialized cls :: vx_atS own ic cls names, vx_ot w = true)
    (hU : vx_Zq Bundle.tN "UNASSIGNED_STACK" Bundle.steD A s s.heap) (hN : vx_Zq Bundle.tN "SUPPRESSED_SENTINEL" Bundle.listD A s s.heap) (hS : va_S A s.heap H locs) (hsize : ls.size = c.maxLocals)
    (d0 : decode cc pc = .ok (.new ik, 3)) (d3 : decode cc (pc + 3) = .ok (.dup, 1)) (d4 : decode cc (pc + 4) = .ok (.ldc is, 2)) (d6 : decode cc (pc + 6) = .ok (.invokespecial ic, 3)) (d9 : decode cc (pc + 9) = .ok (.athrow, 1))
    (hout : ∀ x ∈ c.exceptionTable.toList, covers x (pc + 9) = false)
    (hRframes : names.length + 3 < R.frames) (hRlocals : (rest.map fun v => v.category).sum + (13 * (names.length + 1) + 43) ≤ R.locals) (hRcells : cells + 1 ≤ R.cells) (hRslots : slots + 6 ≤ R.slots) (hlocks : meth.locks = false)
    (hx : ∀ t : State, s.vm.Alike t.vm → H.size ≤ t.heap.size → (∀ q : Nat, q < H.size → t.heap[q]? = H[q]?) → XC cls s t)
    (hf : ∀ z ∈ locs, free z.base) (hc : cells + 1 ≤ mc) (hs : slots + 6 ≤ ms) :
    W p l e R s m args below meth c H locs cells slots (vx_MQ below Qc XC args s mc ms free) (F0 m pc ls rest) := by
  intro T hT X
  have htr : e.platform.stackTraces = false := (show e.platform.stackTraces = l.stackTraces by rw [X.admits.platform]).trans hl
  have Y := vx_rebase X (R' := { frames := R.frames, locals := R.locals, cells := 1, slots := 6 }) (Nat.le_refl _) (Nat.le_refl _) hRcells hRslots
  obtain ⟨s', hA⟩ : ∃ z, z = (T.setVm s.vm).setFrames (.invoking m args :: below) := ⟨_, rfl⟩
  rw [← hA] at Y
  have hvm : s'.vm = s.vm := by rw [hA]; rfl
  have hhp : s'.heap = H := by rw [hA]; exact hT
  have hW0 : s.WarmedH s'.vm := by rw [hvm]; exact State.WarmedH.refl s
  have hat' : ∀ w ∈ vx_atS own ic cls names, w.before args s' = true := fun w hw => vx_ot_at hW0 hvm.symm (hgood w (List.mem_cons_of_mem _ (List.mem_cons_of_mem _ hw))) (hat w hw)
  have hk' : (Cond.classLink own ik cls).before args s' = true := vx_ot_at hW0 hvm.symm (hgood _ List.mem_cons_self) hk
  have hini' : (Cond.initialized cls).before args s' = true := vx_ot_at hW0 hvm.symm (hgood _ (List.mem_cons_of_mem _ List.mem_cons_self)) hini
  have hU' : vx_Zq Bundle.tN "UNASSIGNED_STACK" Bundle.steD A s' s'.heap := by rw [hhp]; exact vx_Zq.moved hW0.alike (hU.kept hS.2.1)
  have hN' : vx_Zq Bundle.tN "SUPPRESSED_SENTINEL" Bundle.listD A s' s'.heap := by rw [hhp]; exact vx_Zq.moved hW0.alike (hN.kept hS.2.1)
  have h : ∀ w ∈ Bundle.ownAtoms own ic cls names, w.before args s' = true := vx_own hat' (vx_isRefq hU'.1) (vx_isRefq hN'.1) hU'.2.word hN'.2.word
  have hown' : s'.vm.findClass own = some m.cls := by rw [hvm]; exact hown
  have hins : (Cond.instantiable cls 6).before args s' = true := h _ (by simp [Bundle.ownAtoms])
  obtain ⟨vm₁, cX, kX, hfX, hkX, -, -, X₁, st1⟩ := Y.newCold hexec (own := own) (C := cls) (index := ik) (n := 6) hown' hk' hins hini'
    (g := F0 m pc ls rest) rfl (by rw [hb]; exact d0) (Nat.le_refl _) (Nat.le_refl _)
  generalize hT1 : (T.setVm vm₁).pushCell { cls := cX, slots := kX.instanceTypes.map defaultValue, vm := .none } = T1 at X₁ st1
  have hcat : (Value.ref T.heap.size).category = 1 := rfl
  have hcellA : T1.heap[T.heap.size]? = some (freshCell cX kX) := by rw [← hT1]; exact State.heap_pushCell_size _ _
  have d3' : decode c.code (pc + 3) = .ok (.dup, 1) := by rw [hb]; exact d3
  have d4' : decode c.code (pc + 4) = .ok (.ldc is, 2) := by rw [hb]; exact d4
  have hstr' : vk_R own is text sa s' := vk_R.warm hW0 hstr
  obtain ⟨U, hsteps, hrun, hend, hW, hsame, ce, hce, hO⟩ := X₁.ctorThrowS hexec htr (own := own) (cls := cls) (names := names) (ic := ic) hown' hcls hnames h (fun x hx => nomatch hx) hfX hkX hcellA (by rw [hhp, hT]; exact Nat.le_refl _) (msg := .ref sa) rfl
    (g := { method := m, pc := pc + 6, locals := ls, stack := .ref sa :: .ref T.heap.size :: .ref T.heap.size :: rest, locked := none }) rfl hsize rfl rfl (rest := rest) rfl
    (by rw [hb]; exact d6) (by rw [hb]; exact d9) hout hRframes (by simp only [List.map_cons, List.sum_cons, hcat]; omega) hlocks
  obtain ⟨f1, f2⟩ := vx_frame hsame
  rw [hhp] at f1 f2
  have hWs : s.WarmedH U.vm := State.WarmedH.trans hW0 hW
  have hcl : s.vm.findClass cls = some ce.cls := by
    have h9 := hO.cls
    rw [hvm] at h9
    exact h9
  have hall : s.sameButNew ({ U with vm := s.vm } : State) locs mc ms := by
    subst hA
    obtain ⟨e1, e2⟩ := hsame
    rw [State.setFrames_setFrames] at e1
    have h2 : (T.setVm s.vm).sameButNew ({ U with vm := s.vm } : State) [] (0 + 1) (0 + 6) := ⟨e1, e2⟩
    have h3 := X.same.trans h2
    rw [List.append_nil] at h3
    exact h3.mono hc hs
  refine ⟨U, ?_, .threw T.heap.size, hrun, hend, Or.inr ⟨T.heap.size, rfl, cls, ce, locs, hx U hWs.alike f1 (fun q hq => f2 q hq (fun z hz => nomatch hz)), hce, hO.vm, hcl, hWs, hall, hf⟩⟩
  refine st1 _ ?_
  show Steps p.tables e below (T1.setTop { method := m, pc := pc + 3, locals := ls, stack := .ref T.heap.size :: rest, locked := none }) _
  jvm_step X₁.here [X₁.here.top, hexec, d3', Value.category]
  exact X₁.ldcString hexec (own := own) (text := text) (index := is) (a := sa) hown' hstr'.1 hstr'.2
    (g := { method := m, pc := pc + 4, locals := ls, stack := .ref T.heap.size :: .ref T.heap.size :: rest, locked := none }) rfl d4' _ hsteps
/-- 'throw new E("text")', the text by a wide index -/
theorem vx_throwSW {cc : ByteArray} {pc : Nat} (hexec : p.tables.exec = Jvm.exec) (hb : c.code = cc) (hl : l.stackTraces = false) {own cls text : String} {names : List String} {ik is ic mc ms sa : Nat} {A : Nat → Prop}
    (hown : s.vm.findClass own = some m.cls) (hcls : Bundle.fit cls = true) (hnames : ∀ n ∈ names, Bundle.fit n = true)
    (hk : (Cond.classLink own ik cls).before args s = true) (hini : (Cond.initialized cls).before args s = true) (hstr : vk_R own is text sa s) (hat : ∀ w ∈ vx_atS own ic cls names, w.before args s = true)
    (hgood : ∀ w ∈ Cond.classLink own ik cls :: Cond.initialized cls :: vx_atS own ic cls names, vx_ot w = true)
    (hU : vx_Zq Bundle.tN "UNASSIGNED_STACK" Bundle.steD A s s.heap) (hN : vx_Zq Bundle.tN "SUPPRESSED_SENTINEL" Bundle.listD A s s.heap) (hS : va_S A s.heap H locs) (hsize : ls.size = c.maxLocals)
    (d0 : decode cc pc = .ok (.new ik, 3)) (d3 : decode cc (pc + 3) = .ok (.dup, 1)) (d4 : decode cc (pc + 4) = .ok (.ldc_w is, 3)) (d7 : decode cc (pc + 7) = .ok (.invokespecial ic, 3)) (d10 : decode cc (pc + 10) = .ok (.athrow, 1))
    (hout : ∀ x ∈ c.exceptionTable.toList, covers x (pc + 10) = false)
    (hRframes : names.length + 3 < R.frames) (hRlocals : (rest.map fun v => v.category).sum + (13 * (names.length + 1) + 43) ≤ R.locals) (hRcells : cells + 1 ≤ R.cells) (hRslots : slots + 6 ≤ R.slots) (hlocks : meth.locks = false)
    (hx : ∀ t : State, s.vm.Alike t.vm → H.size ≤ t.heap.size → (∀ q : Nat, q < H.size → t.heap[q]? = H[q]?) → XC cls s t)
    (hf : ∀ z ∈ locs, free z.base) (hc : cells + 1 ≤ mc) (hs : slots + 6 ≤ ms) :
    W p l e R s m args below meth c H locs cells slots (vx_MQ below Qc XC args s mc ms free) (F0 m pc ls rest) := by
  intro T hT X
  have htr : e.platform.stackTraces = false := (show e.platform.stackTraces = l.stackTraces by rw [X.admits.platform]).trans hl
  have Y := vx_rebase X (R' := { frames := R.frames, locals := R.locals, cells := 1, slots := 6 }) (Nat.le_refl _) (Nat.le_refl _) hRcells hRslots
  obtain ⟨s', hA⟩ : ∃ z, z = (T.setVm s.vm).setFrames (.invoking m args :: below) := ⟨_, rfl⟩
  rw [← hA] at Y
  have hvm : s'.vm = s.vm := by rw [hA]; rfl
  have hhp : s'.heap = H := by rw [hA]; exact hT
  have hW0 : s.WarmedH s'.vm := by rw [hvm]; exact State.WarmedH.refl s
  have hat' : ∀ w ∈ vx_atS own ic cls names, w.before args s' = true := fun w hw => vx_ot_at hW0 hvm.symm (hgood w (List.mem_cons_of_mem _ (List.mem_cons_of_mem _ hw))) (hat w hw)
  have hk' : (Cond.classLink own ik cls).before args s' = true := vx_ot_at hW0 hvm.symm (hgood _ List.mem_cons_self) hk
  have hini' : (Cond.initialized cls).before args s' = true := vx_ot_at hW0 hvm.symm (hgood _ (List.mem_cons_of_mem _ List.mem_cons_self)) hini
  have hU' : vx_Zq Bundle.tN "UNASSIGNED_STACK" Bundle.steD A s' s'.heap := by rw [hhp]; exact vx_Zq.moved hW0.alike (hU.kept hS.2.1)
  have hN' : vx_Zq Bundle.tN "SUPPRESSED_SENTINEL" Bundle.listD A s' s'.heap := by rw [hhp]; exact vx_Zq.moved hW0.alike (hN.kept hS.2.1)
  have h : ∀ w ∈ Bundle.ownAtoms own ic cls names, w.before args s' = true := vx_own hat' (vx_isRefq hU'.1) (vx_isRefq hN'.1) hU'.2.word hN'.2.word
  have hown' : s'.vm.findClass own = some m.cls := by rw [hvm]; exact hown
  have hins : (Cond.instantiable cls 6).before args s' = true := h _ (by simp [Bundle.ownAtoms])
  obtain ⟨vm₁, cX, kX, hfX, hkX, -, -, X₁, st1⟩ := Y.newCold hexec (own := own) (C := cls) (index := ik) (n := 6) hown' hk' hins hini'
    (g := F0 m pc ls rest) rfl (by rw [hb]; exact d0) (Nat.le_refl _) (Nat.le_refl _)
  generalize hT1 : (T.setVm vm₁).pushCell { cls := cX, slots := kX.instanceTypes.map defaultValue, vm := .none } = T1 at X₁ st1
  have hcat : (Value.ref T.heap.size).category = 1 := rfl
  have hcellA : T1.heap[T.heap.size]? = some (freshCell cX kX) := by rw [← hT1]; exact State.heap_pushCell_size _ _
  have d3' : decode c.code (pc + 3) = .ok (.dup, 1) := by rw [hb]; exact d3
  have d4' : decode c.code (pc + 4) = .ok (.ldc_w is, 3) := by rw [hb]; exact d4
  have hstr' : vk_R own is text sa s' := vk_R.warm hW0 hstr
  obtain ⟨U, hsteps, hrun, hend, hW, hsame, ce, hce, hO⟩ := X₁.ctorThrowS hexec htr (own := own) (cls := cls) (names := names) (ic := ic) hown' hcls hnames h (fun x hx => nomatch hx) hfX hkX hcellA (by rw [hhp, hT]; exact Nat.le_refl _) (msg := .ref sa) rfl
    (g := { method := m, pc := pc + 7, locals := ls, stack := .ref sa :: .ref T.heap.size :: .ref T.heap.size :: rest, locked := none }) rfl hsize rfl rfl (rest := rest) rfl
    (by rw [hb]; exact d7) (by rw [hb]; exact d10) hout hRframes (by simp only [List.map_cons, List.sum_cons, hcat]; omega) hlocks
  obtain ⟨f1, f2⟩ := vx_frame hsame
  rw [hhp] at f1 f2
  have hWs : s.WarmedH U.vm := State.WarmedH.trans hW0 hW
  have hcl : s.vm.findClass cls = some ce.cls := by
    have h9 := hO.cls
    rw [hvm] at h9
    exact h9
  have hall : s.sameButNew ({ U with vm := s.vm } : State) locs mc ms := by
    subst hA
    obtain ⟨e1, e2⟩ := hsame
    rw [State.setFrames_setFrames] at e1
    have h2 : (T.setVm s.vm).sameButNew ({ U with vm := s.vm } : State) [] (0 + 1) (0 + 6) := ⟨e1, e2⟩
    have h3 := X.same.trans h2
    rw [List.append_nil] at h3
    exact h3.mono hc hs
  refine ⟨U, ?_, .threw T.heap.size, hrun, hend, Or.inr ⟨T.heap.size, rfl, cls, ce, locs, hx U hWs.alike f1 (fun q hq => f2 q hq (fun z hz => nomatch hz)), hce, hO.vm, hcl, hWs, hall, hf⟩⟩
  refine st1 _ ?_
  show Steps p.tables e below (T1.setTop { method := m, pc := pc + 3, locals := ls, stack := .ref T.heap.size :: rest, locked := none }) _
  jvm_step X₁.here [X₁.here.top, hexec, d3', Value.category]
  exact X₁.ldcStringW hexec (own := own) (text := text) (index := is) (a := sa) hown' hstr'.1 hstr'.2
    (g := { method := m, pc := pc + 4, locals := ls, stack := .ref T.heap.size :: .ref T.heap.size :: rest, locked := none }) rfl d4' _ hsteps
end Ends
section Bodies
variable {l : Launch}
theorem vx_ofW {y : MethodName} {ws ws' : List Cond} {rm : Room} {Pc : Array Value → State → Prop} {Qc : Array Value → State → Outcome → State → Prop} {XC : String → State → State → Prop} {mc ms : Nat} {free : Addr → Prop} {cc : ByteArray} {maxL : Nat} {ret : Option FieldType}
    (hy : plainName y.cls = true) (hw : ws = Cond.code y cc maxL ret :: ws')
    (body : ∀ p e s m args below meth c s₁, BodyLoose p l y (headSpec ws rm) cc maxL ret e s m args below meth c s₁ → c.maxLocals = maxL → (∀ x ∈ c.exceptionTable.toList, False) → Pc args s →
      W p l e (headSpec ws rm).room s m args below meth c s.heap [] 0 0 (vx_MQ below Qc XC args s mc ms free) (entryFrame m args maxL)) : vx_Met l y ws rm Pc Qc XC mc ms free := by
  refine MetFree.of_bodyS (code := cc) (maxLocals := maxL) (ret := ret) hy ?_ ?_
  · intro args s m h hn
    obtain ⟨meth, c, h1, h2, h3, h4, h5, h6, -, -⟩ := Cond.code_spec hn (atoms_spec (ws := ws) h _ (by rw [hw]; exact List.mem_cons_self))
    exact ⟨meth, c, h1, h2, h3, h4, h5, h6⟩
  · intro p e s m args below meth c s₁ B hml hP _
    have hh0 : s₁.heap = s.heap := by rw [B.state]; rfl
    have ht : ∀ x ∈ c.exceptionTable.toList, False := by
      obtain ⟨meth9, c9, h1, h2, -, -, -, -, h7, -⟩ := Cond.code_spec B.named (atoms_spec (ws := ws) B.pre _ (by rw [hw]; exact List.mem_cons_self))
      cases Option.some.inj (h1.symm.trans B.method)
      cases Option.some.inj (h2.symm.trans (Stand.of_body B).code)
      intro x hx
      rw [Array.isEmpty_iff.mp h7] at hx
      cases hx
    obtain ⟨t, a1, o, b1, b2, b3⟩ := body p e s m args below meth c s₁ B hml ht hP s₁ hh0 (Stand.of_body B)
    exact ⟨t, o, a1, b1, b2, b3⟩
/-- the table of a body with handlers -/
theorem vx_table {p : Program} {x y : MethodName} {S : Spec} {cc bytes : ByteArray} {maxL maxL' : Nat} {ret ret' : Option FieldType} {e : Env} {s s₁ : State} {m : MethodId} {args : Array Value} {below : List Frame} {meth : Method} {c : Code} {hh : List (Nat × Nat × Nat × Nat)}
    (B : BodyLoose p l y S cc maxL ret e s m args below meth c s₁) (h : (Cond.codeWith y bytes maxL' ret' hh).before args s = true) : c.exceptionTable.toList = tableOf hh := by
  obtain ⟨m9, meth9, c9, hn9, h1, h2, -, -, h6, -⟩ := Cond.codeWith_spec h
  cases Option.some.inj (hn9.symm.trans B.named)
  cases Option.some.inj (h1.symm.trans B.method)
  cases Option.some.inj (h2.symm.trans (Stand.of_body B).code)
  rw [← h6, table_eq]
end Bodies
end VXA
/-! ===== END ===== -/
/-! ===== BEGIN a static call of a method with an exception table ===== -/
section VXS
variable {p : Program} {l : Launch} {e : Env} {R : Room} {s : State} {m : MethodId} {args : Array Value} {below : List Frame} {meth : Method} {c : Code} {T : State} {H : Heap} {locs : List Loc} {cells slots : Nat}
abbrev vx_CSW (R : Room) (s : State) (args : Array Value) (own : String) (index : Nat) (y : MethodName) (bytes : ByteArray) (maxL : Nat) (ret : Option FieldType) (hh : List (Nat × Nat × Nat × Nat)) (ws : List Cond) (rm : Room) (mc ms n : Nat) : Prop :=
  (rm.cells = mc ∧ rm.slots = ms ∧ rm.frames + 1 ≤ R.frames ∧ 8 + (maxL + 11) + rm.locals ≤ R.locals ∧ (∀ w ∈ ws, ∀ (a' : Array Value) (U : State), s.WarmedH U.vm → w.before a' U = true) ∧ Cond.codeWith y bytes maxL ret hh ∈ ws) ∧
  (Cond.codeWith y bytes maxL ret hh).before args s = true ∧ (Cond.initialized y.cls).before args s = true ∧ (y.cls ≠ "java/lang/invoke/MethodHandle" ∧ y.cls ≠ "java/lang/invoke/VarHandle") ∧
  (∀ sig, parseMethodDescriptor y.desc = some sig → n = sig.parameters.length) ∧ (Cond.methodLink own index y).before args s = true ∧ (Cond.static y).before args s = true
theorem vx_cwSW {own : String} {index maxL mc ms : Nat} {y : MethodName} {bytes : ByteArray} {ret : Option FieldType} {hh : List (Nat × Nat × Nat × Nat)} {Ts ws ws' : List Cond} {rm : Room} (n : Nat) (ht : ∀ w ∈ Ts, w.before args s = true) (hT : GoodIn Ts (va_wsS own index y ws)) (hw : ws = Cond.codeWith y bytes maxL ret hh :: ws') (hrc : rm.cells = mc) (hrs : rm.slots = ms)
    (hd : y.cls ≠ "java/lang/invoke/MethodHandle" ∧ y.cls ≠ "java/lang/invoke/VarHandle" ∧ (parseMethodDescriptor y.desc).map (fun d => d.parameters.length) = some n) (hR : rm.frames + 1 ≤ R.frames ∧ 8 + (maxL + 11) + rm.locals ≤ R.locals) :
    vx_CSW R s args own index y bytes maxL ret hh ws rm mc ms n := by
  have ok : ∀ w ∈ va_wsS own index y ws, w.before args s = true := fun w h => ht w (hT w h).1
  have hG : GoodIn Ts ws := fun w h => hT w (by unfold va_wsS; exact List.mem_append_right _ h)
  have hc : Cond.codeWith y bytes maxL ret hh ∈ ws := by rw [hw]; exact List.mem_cons_self
  refine ⟨⟨hrc, hrs, hR.1, hR.2, pay_in ht hG, hc⟩, ht _ (hG _ hc).1, ok _ (by simp [va_wsS]), ⟨hd.1, hd.2.1⟩, fun sig h => ?_, ok _ (by simp [va_wsS]), ok _ (by simp [va_wsS])⟩
  have h2 := hd.2.2
  rw [h] at h2
  exact (Option.some.inj h2).symm
theorem vx_callSW (X : Stand p l e R s m args below meth c T locs cells slots) (hexec : p.tables.exec = Jvm.exec) {own : String} {index : Nat} {y : MethodName} {bytes : ByteArray} {maxL : Nat} {ret : Option FieldType} {hh : List (Nat × Nat × Nat × Nat)}
    (hown : s.vm.findClass own = some m.cls) (hlink : (Cond.methodLink own index y).before args s = true) (hstat : (Cond.static y).before args s = true) (hinit : (Cond.initialized y.cls).before args s = true)
    (hcode : (Cond.codeWith y bytes maxL ret hh).before args s = true) (hy : y.cls ≠ "java/lang/invoke/MethodHandle" ∧ y.cls ≠ "java/lang/invoke/VarHandle")
    {W9 : Nat} {Pre : Pt → Array Value → Prop} {Post : Pt → Array Value → Option Value → Pt → Prop} (hK : Back l R p e below s args y 3 W9 Pre Post)
    {g : JFrame} (hg : g.method = m) (hsize : g.locals.size = c.maxLocals) {argsL rest : List Value} (hlen : ∀ sig, parseMethodDescriptor y.desc = some sig → argsL.length = sig.parameters.length)
    (hstack : g.stack = argsL.reverse ++ rest) (hW : 2 * g.monitorRoom + (rest.map fun v => v.category).sum ≤ W9) (hdg : decode c.code g.pc = .ok (.invokestatic index, 3))
    (hpre : ∀ vm₁, s.WarmedH vm₁ → Pre ⟨T.setVm vm₁, locs, cells, slots⟩ argsL.toArray) :
    ∃ (v : Option Value) (vm₁ : Vm) (B : Pt), s.WarmedH vm₁ ∧ Stand p l e R s m args below meth c B.U B.locs B.cells B.slots ∧ Post ⟨T.setVm vm₁, locs, cells, slots⟩ argsL.toArray v B ∧
      ∀ target, Steps p.tables e below (B.U.setTop { g with pc := g.pc + 3, stack := v.toList ++ rest }) target → Steps p.tables e below (T.setTop g) target := by
  obtain ⟨mk, methM, cM, hnamed, hmethM, -, -, -, -, -, -, hsigM⟩ := Cond.codeWith_spec hcode
  have hstatic : methM.isStatic = true := Cond.static_spec hnamed hmethM hstat
  obtain ⟨kP, hkP, -⟩ := className_of_methodNamed hnamed
  have hinitP : kP.init = .initialized := Cond.initialized_spec (findClass_of_methodNamed hnamed) hkP hinit
  obtain ⟨vm₁, X₁, hstep₁⟩ := X.invokestatic hexec hown hlink hnamed hmethM hstatic hkP hinitP hy (g := g) hg (argsL := argsL) (rest := rest) (hlen _ hsigM) hstack hdg
  obtain ⟨v, B, X', hpost, hsteps⟩ := hK m meth c ⟨T.setVm vm₁, locs, cells, slots⟩ { g with stack := rest } (.invokestatic index) mk argsL.toArray X₁ hg hsize hdg hW (X₁.named hnamed) (hpre vm₁ X₁.warmed)
  exact ⟨v, vm₁, B, X₁.warmed, X', hpost, fun target h => hstep₁ _ fun acts => by rw [doInvoke_state]; exact hsteps.trans h⟩
theorem vx_runSW {y : MethodName} {bytes cc : ByteArray} {maxL nL mc ms n index : Nat} {ret : Option FieldType} {hh : List (Nat × Nat × Nat × Nat)} {ws : List Cond} {rm : Room} {Pc : Array Value → State → Prop} {Qc : Array Value → State → Outcome → State → Prop} {free : Addr → Prop} {Ts : List Cond} {own : String} {As rest : List Value} {g : JFrame}
    (S : CallFix p m c cc nL s args Ts own) (hM : Met l y ws rm Pc Qc mc ms free) (cw : vx_CSW R s args own index y bytes maxL ret hh ws rm mc ms n) (hp : PreS s H Pc As)
    (hg : g.method = m) (hn : As.length = n) (hsize : g.locals.size = nL) (hstack : g.stack = As.reverse ++ rest) (hW : 2 * g.monitorRoom + (rest.map fun v => v.category).sum ≤ 8) (hdg : decode cc g.pc = .ok (.invokestatic index, 3)) (hf : cells + mc ≤ R.cells ∧ slots + ms ≤ R.slots) :
    va_Run p l e R s m args below meth c H locs cells slots mc ms g rest (Qc As.toArray) (free) := by
  obtain ⟨⟨hrc, hrs, hfr, hlo, hws, hcw⟩, hcode, hini, hy, hlen, hl, hstt⟩ := cw
  have hK : Back l R p e below s args y 3 8 (PreOf R mc ms Pc) (PostOf Qc mc ms free) := va_backW (hh := hh) (bytes := bytes) (maxL := maxL) (ret := ret) hM hp.1 hrc hrs hfr hlo hws hcw (fun a' U hW => word_at hW (Or.inl (by first | rfl | simp [Cond.onTables, Cond.keeps, Cond.steady])) hini)
  obtain ⟨hx, hb, hml, ho, -⟩ := S
  intro T hT X
  obtain ⟨v, vm₁, ⟨U', l2, c2, s2⟩, hW₁, X', ⟨g', mk, t, L, e1, e2, hq, h1, hL, h2, h3⟩, st⟩ := vx_callSW X hx (hh := hh) (bytes := bytes) (maxL := maxL) (ret := ret) ho hl hstt hini hcode hy hK hg (hsize.trans hml.symm) (argsL := As) (rest := rest) (fun sig h => hn.trans (hlen sig h)) hstack hW (by rw [hb]; exact hdg)
    (fun vm₁ hW₁ => ⟨hf.1, hf.2, hp.2 (T.setVm vm₁) hT hW₁⟩)
  dsimp only [Pt.U, Pt.locs, Pt.cells, Pt.slots] at X' e1 e2 h1 h2 h3 st
  subst h1; subst h2; subst h3
  exact ⟨v, (T.setVm vm₁).calling g' mk As.toArray, t, U', L, hT, X', hL, e1, e2, hq, st⟩
/-- not caught here, past rows that name other classes: it goes on to the caller -/
theorem vx_outP {p : Program} {l : Launch} {e : Env} {R : Room} {s : State} {m : MethodId} {args : Array Value} {below : List Frame} {meth : Method} {c : Code} {H : Heap} {locs : List Loc} {cells slots : Nat} {free : Addr → Prop} {ls : Array Slot} {rest : List Value} {Qc : Array Value → State → Outcome → State → Prop} {XC : String → State → State → Prop}
    {pc : Nat} {own E : String} {ce : Cell} {q : Addr} {mc ms : Nat} (hown : s.vm.findClass own = some m.cls) (hlocks : meth.locks = false)
    (hpass : ∀ z ∈ c.exceptionTable.toList, covers z pc = false ∨ (z.catchType ≠ 0 ∧ ∃ nm : String, (Cond.classLink own z.catchType nm).before args s = true ∧ va_Nc E nm s)) (hcell : H[q]? = some ce) (hv : ce.vm = .none) (hcl : s.vm.findClass E = some ce.cls)
    (hx : ∀ t : State, t.heap = H → s.vm.Alike t.vm → XC E s t) (hf : ∀ z ∈ locs, free z.base) (hc : cells ≤ mc) (hs : slots ≤ ms) :
    vx_W p l e R s m args below meth c H locs cells slots (vx_MQ below Qc XC args s mc ms free) (F0 m pc ls rest) q := by
  intro T hT X
  have hpl : e.platform.magicAccessors = ({} : Platform).magicAccessors := by rw [X.admits.platform]
  obtain ⟨vm', hW', X', st⟩ := X.outThrough hlocks q (g := F0 m pc ls rest) rfl rfl rfl (cell := ce) (by rw [hT]; exact hcell) (by rw [hv]; rfl)
    (by obtain ⟨k9, h9, -⟩ := Vm.findClass_spec hcl; exact ⟨k9, h9⟩) (fun z hz => by
      rcases hpass z hz with h | ⟨hz0, nm, hl1, hn1⟩
      · exact Or.inl h
      · obtain ⟨c6, hc6, hcl6⟩ := Cond.classLink_spec hown hl1 e.platform hpl
        obtain ⟨a8, b8, h1, h2, h3⟩ := hn1
        cases Option.some.inj (h1.symm.trans hcl)
        cases Option.some.inj (h2.symm.trans hc6)
        exact Or.inr ⟨hz0, _, hcl6, h3⟩)
  obtain ⟨g₀, hfr⟩ := X'.frames_eq
  have hcell9 : ((T.setVm vm').setFrames (.throwing q :: below)).heap[q]? = some ce := by
    show T.heap[q]? = some ce
    rw [hT]; exact hcell
  have hend : Ended ((T.setVm vm').setFrames (.throwing q :: below)) below (.threw q) := State.frames_setFrames _ (State.cur_lt_of_frames hfr)
  refine ⟨(T.setVm vm').setFrames (.throwing q :: below), ?_, .threw q, X'.here.running, hend, Or.inr ⟨q, rfl, E, ce, locs, hx _ hT (X'.ends _).1.alike, hcell9, hv, hcl, (X'.ends _).1, (X'.ends _).2.mono hc hs, hf⟩⟩
  rw [X.pushThrowing_eq]
  exact st
/-- a thing of a world lies in the heap -/
theorem vx_lt {D : va_G} {cl : List vw_C} {ws : va_W} {H1 : Heap} (h : va_P D cl ws H1) {k : Nat} {q : Nat × va_E} (hk : ws[k]? = some q) : q.1 < H1.size := (h k q hk).lt
end VXS
/-! ===== END ===== -/
/-! ===== BEGIN methods with a table of their own: called by a name, returning or throwing ===== -/
section VXH
/-! vx_backW, vx_callVX, vx_callSX, vx_callVW, vx_runVW, vx_runVX, vx_runSX, vx_ofWH follow the same proofs as their sisters above (Free/Laws.lean, Shelf42/LK1.lean); vx_outP calls Shelf42/NT130.lean (outThrough). -/
section
variable {l : Launch} {R : Room} {p : Program} {e : Env} {below : List Frame} {s : State} {sargs : Array Value} {y : MethodName} {len W9 : Nat}
theorem vx_backW {ws : List Cond} {rm : Room} {Pc : Array Value → State → Prop} {Qc : Array Value → State → Outcome → State → Prop} {XC : String → State → State → Prop} {mc ms : Nat} {free : Addr → Prop} {bytes : ByteArray} {maxL : Nat} {ret : Option FieldType} {hh : List (Nat × Nat × Nat × Nat)}
    (hM : vx_Met l y ws rm Pc Qc XC mc ms free) (hblind : FrameBlind Pc) (hrc : rm.cells = mc) (hrs : rm.slots = ms)
    (hframes : rm.frames + 1 ≤ R.frames) (hlocals : W9 + (maxL + 11) + rm.locals ≤ R.locals)
    (hws : ∀ w ∈ ws, ∀ a' U, s.WarmedH U.vm → w.before a' U = true) (hcode : Cond.codeWith y bytes maxL ret hh ∈ ws) (hinit : ∀ a' U, s.WarmedH U.vm → (Cond.initialized y.cls).before a' U = true) :
    vx_Back l R p e below s sargs y len W9 (PreOf R mc ms Pc) (PostOf Qc mc ms free) (vx_Post XC mc ms free) := by
  intro m meth c A g ig mk a X hg hsize hdg hW hn hp
  have h1 : (headSpec ws rm).pre.before a A.U = true := atoms_intro fun w hw => hws w hw _ _ X.warmed
  have h2 : (Cond.codeWith y bytes maxL ret hh).before a A.U = true := hws _ hcode _ _ X.warmed
  have h3 : (Cond.initialized y.cls).before a A.U = true := hinit _ _ X.warmed
  have h4 : A.cells + (headSpec ws rm).room.cells ≤ R.cells := by rw [show (headSpec ws rm).room.cells = mc from hrc]; exact hp.1
  have h5 : A.slots + (headSpec ws rm).room.slots ≤ R.slots := by rw [show (headSpec ws rm).room.slots = ms from hrs]; exact hp.2.1
  have hPc : Pc a (A.U.calling g mk a) := hblind _ _ _ _ hp.2.2
  obtain ⟨U, Ls, c0, s0⟩ := A
  dsimp only [Pt.U, Pt.locs, Pt.cells, Pt.slots] at h1 h2 h3 h4 h5 X hn hPc ⊢
  obtain ⟨m9, methY, cY, hn9, hmY, hcY, -, hlY, -⟩ := Cond.codeWith_spec h2
  cases Option.some.inj (hn9.symm.trans hn)
  obtain ⟨kY, hkY, -⟩ := className_of_methodNamed hn
  have hinitY : kY.init = .initialized := Cond.initialized_spec (findClass_of_methodNamed hn) hkY h3
  have h : At U g.method c below := by rw [hg]; exact X.here
  have hlocals9 : W9 + (maxL + 11) + (headSpec ws rm).room.locals ≤ R.locals := hlocals
  have happ : (headSpec ws rm).appliesLoose y e.platform (U.calling g mk a) = true :=
    Spec.appliesLoose_calling (g := g) h hdg hn hkY hinitY
      (X.room_calling (g := g) (R' := (headSpec ws rm).room) hsize hmY hcY hframes (by rw [hlY]; omega) h4 h5) h1
  obtain ⟨mid, hmid⟩ := h.above
  have hfr : (U.setTop g).frames = (.java g :: mid) ++ below := by rw [State.frames_setTop' g h.top, hmid]; rfl
  obtain ⟨o, s₂, hsteps, -, hend, hq⟩ := Steps.callFree hM p X.admits X.cas X.clock (acts := []) hfr happ hPc trivial
  have hq' : vx_Q Qc XC mc ms free a (U.calling g mk a) o s₂ := hq
  rw [State.frames_setTop' g h.top] at hend
  obtain ⟨g₀, hg0⟩ := Option.isSome_iff_exists.mp h.top
  obtain ⟨r, hr⟩ := State.topJava?_eq_some.mp hg0
  have hr' : (({ U with heap := s₂.heap, slotsUsed := s₂.slotsUsed } : State).setVm s₂.vm).frames = .java g₀ :: r := hr
  rcases hq' with ⟨hqc, L, hfe, hL⟩ | ⟨q, rfl, E, ce, L, hx, hce, hcv, hcl, hW₂, hsm, hL⟩
  · obtain ⟨⟨v, rfl⟩, hW₂, e2, q2, q3, q4, q5, q6⟩ := id hfe
    have e3 : s₂ = ({ (U.calling g mk a).setFrames s₂.frames with heap := s₂.heap, slotsUsed := s₂.slotsUsed } : State).setVm s₂.vm := by
      have : s₂ = ({ s₂ with vm := (U.calling g mk a).vm } : State).setVm s₂.vm := rfl
      rw [e2] at this
      exact this
    obtain ⟨c₂, i₂, len₂, hc₂, hd₂, hf₂⟩ := hend
    have hW' : U.WarmedH s₂.vm := hW₂
    have hcc : c₂ = c := by
      have h1 : s₂.code? g.method = U.code? g.method := by
        rw [State.code?_eq, State.code?_eq, hW'.alike.method?]
      exact Option.some.inj (hc₂.symm.trans (h1.trans h.code))
    subst hcc
    have hlen : len₂ = len := by rw [hdg] at hd₂; cases hd₂; rfl
    subst hlen
    have hs₂ : s₂ = (({ U with heap := s₂.heap, slotsUsed := s₂.slotsUsed } : State).setVm s₂.vm).setTop { g with pc := g.pc + len₂, stack := v.toList ++ g.stack } := by
      refine e3.trans ?_
      rw [hf₂, State.calling_eq h.top, State.setFrames_setFrames, State.setTop_of_frames _ hr', hr]
      rfl
    have hsame : U.sameButNew ({ U with heap := s₂.heap, slotsUsed := s₂.slotsUsed } : State) L mc ms := by
      refine ⟨?_, q2, q3, q4, q5, q6⟩
      obtain ⟨t, ht, -⟩ := State.frames_cons hr
      show ({ U with heap := s₂.heap, slotsUsed := s₂.slotsUsed } : State) = { U.setFrames U.frames with heap := s₂.heap, slotsUsed := s₂.slotsUsed }
      rw [State.setFrames_self ht]
    subst hg
    refine Or.inl ⟨v, ⟨(({ U with heap := s₂.heap, slotsUsed := s₂.slotsUsed } : State).setVm s₂.vm), Ls ++ L, c0 + mc, s0 + ms⟩,
      ⟨X.admits, X.cas, X.clock, X.frames, X.room, X.hears, X.method, X.code, (X.here.setHeapUsed s₂.heap s₂.slotsUsed).setVm hW'.alike, X.tail, State.WarmedH.trans X.warmed hW', X.limits, X.bytes, X.same.trans (hsame.setVm s.vm)⟩,
      ⟨g, mk, s₂, L, rfl, rfl, hqc, rfl, hL, rfl, rfl⟩, ?_⟩
    show Steps p.tables e below _ ((({ U with heap := s₂.heap, slotsUsed := s₂.slotsUsed } : State).setVm s₂.vm).setTop { g with pc := g.pc + len₂, stack := v.toList ++ g.stack })
    rw [← hs₂]
    exact hsteps
  · obtain ⟨e2, q2, q3, q4, q5, q6⟩ := id hsm
    have e3 : s₂ = ({ (U.calling g mk a).setFrames s₂.frames with heap := s₂.heap, slotsUsed := s₂.slotsUsed } : State).setVm s₂.vm := by
      have : s₂ = ({ s₂ with vm := (U.calling g mk a).vm } : State).setVm s₂.vm := rfl
      rw [e2] at this
      exact this
    have hf₂ : s₂.frames = .throwing q :: .java g :: U.frames.tail := hend
    have hW' : U.WarmedH s₂.vm := hW₂
    have hs₂ : s₂ = ((({ U with heap := s₂.heap, slotsUsed := s₂.slotsUsed } : State).setVm s₂.vm).setTop g).pushFrame (.throwing q) := by
      refine e3.trans ?_
      rw [hf₂, State.calling_eq h.top, State.setFrames_setFrames, State.pushFrame, State.frames_setTop _ hr', State.setTop_of_frames _ hr', State.setFrames_setFrames, hr]
      rfl
    have hsame : U.sameButNew ({ U with heap := s₂.heap, slotsUsed := s₂.slotsUsed } : State) L mc ms := by
      refine ⟨?_, q2, q3, q4, q5, q6⟩
      obtain ⟨t, ht, -⟩ := State.frames_cons hr
      show ({ U with heap := s₂.heap, slotsUsed := s₂.slotsUsed } : State) = { U.setFrames U.frames with heap := s₂.heap, slotsUsed := s₂.slotsUsed }
      rw [State.setFrames_self ht]
    subst hg
    refine Or.inr ⟨q, ⟨(({ U with heap := s₂.heap, slotsUsed := s₂.slotsUsed } : State).setVm s₂.vm), Ls ++ L, c0 + mc, s0 + ms⟩,
      ⟨X.admits, X.cas, X.clock, X.frames, X.room, X.hears, X.method, X.code, (X.here.setHeapUsed s₂.heap s₂.slotsUsed).setVm hW'.alike, X.tail, State.WarmedH.trans X.warmed hW', X.limits, X.bytes, X.same.trans (hsame.setVm s.vm)⟩,
      ⟨g, mk, s₂, L, E, ce, rfl, rfl, hx, hce, hcv, hcl, rfl, hL, rfl, rfl⟩, ?_⟩
    show Steps p.tables e below _ (((({ U with heap := s₂.heap, slotsUsed := s₂.slotsUsed } : State).setVm s₂.vm).setTop g).pushFrame (.throwing q))
    rw [← hs₂]
    exact hsteps
end
variable {p : Program} {l : Launch} {e : Env} {R : Room} {s : State} {m : MethodId} {args : Array Value} {below : List Frame} {meth : Method} {c : Code} {T : State} {H : Heap} {locs : List Loc} {cells slots : Nat}
theorem vx_callVX (X : Stand p l e R s m args below meth c T locs cells slots) (hexec : p.tables.exec = Jvm.exec) {own C : String} {index : Nat} {y : MethodName} {bytes : ByteArray} {maxL : Nat} {ret : Option FieldType} {hh : List (Nat × Nat × Nat × Nat)}
    (hown : s.vm.findClass own = some m.cls) (hlink : (Cond.methodLink own index y).before args s = true) (hinst : (Cond.instanceMethod y).before args s = true) (hsel : (Cond.selects C y y).before args s = true)
    (hcode : (Cond.codeWith y bytes maxL ret hh).before args s = true) (hy : y.cls ≠ "java/lang/invoke/MethodHandle" ∧ y.cls ≠ "java/lang/invoke/VarHandle")
    {W9 : Nat} {Pre : Pt → Array Value → Prop} {Post : Pt → Array Value → Option Value → Pt → Prop} {PostX : Pt → Array Value → Addr → Pt → Prop} (hK : vx_Back l R p e below s args y 3 W9 Pre Post PostX)
    {b : Addr} {cellB : Cell} (hcell : T.heap[b]? = some cellB) (hobj : cellB.vm.isStatics = false) (hcls : s.vm.findClass C = some cellB.cls)
    {g : JFrame} (hg : g.method = m) (hsize : g.locals.size = c.maxLocals) {argsL rest : List Value} (hlen : ∀ sig, parseMethodDescriptor y.desc = some sig → argsL.length = sig.parameters.length)
    (hstack : g.stack = argsL.reverse ++ .ref b :: rest) (hW : 2 * g.monitorRoom + (rest.map fun v => v.category).sum ≤ W9) (hdg : decode c.code g.pc = .ok (.invokevirtual index, 3))
    (hpre : ∀ vm₁, s.WarmedH vm₁ → Pre ⟨T.setVm vm₁, locs, cells, slots⟩ (Value.ref b :: argsL).toArray) :
    (∃ (v : Option Value) (vm₁ : Vm) (B : Pt), s.WarmedH vm₁ ∧ Stand p l e R s m args below meth c B.U B.locs B.cells B.slots ∧ Post ⟨T.setVm vm₁, locs, cells, slots⟩ (Value.ref b :: argsL).toArray v B ∧
      ∀ target, Steps p.tables e below (B.U.setTop { g with pc := g.pc + 3, stack := v.toList ++ rest }) target → Steps p.tables e below (T.setTop g) target) ∨
    (∃ (q : Addr) (vm₁ : Vm) (B : Pt), s.WarmedH vm₁ ∧ Stand p l e R s m args below meth c B.U B.locs B.cells B.slots ∧ PostX ⟨T.setVm vm₁, locs, cells, slots⟩ (Value.ref b :: argsL).toArray q B ∧
      Steps p.tables e below (T.setTop g) ((B.U.setTop { g with stack := rest }).pushFrame (.throwing q))) := by
  obtain ⟨mk, methM, hnamed, hmethM, hstM, habM⟩ := Cond.instanceMethod_spec hinst
  obtain ⟨m8, methM', cM, hn8, hmethM', -, -, -, -, -, -, hsigM⟩ := Cond.codeWith_spec hcode
  cases Option.some.inj (hn8.symm.trans hnamed)
  cases hmethM.symm.trans hmethM'
  obtain ⟨c2, r2, m2, q1, q2, q3, q4, kP, hkP, hkPi⟩ := Cond.selects_spec hsel
  cases hcls.symm.trans q1
  cases (State.methodFound?_of_named hnamed hy).symm.trans q2
  cases hnamed.symm.trans q3
  have hselP : selectMethod e.platform s.vm cellB.cls mk = .method mk := by rw [Launch.admits_selectMethod X.admits]; exact q4
  obtain ⟨vm₁, X₁, hstep₁⟩ := X.invokevirtual hexec hown hlink hnamed hmethM hstM hkP hkPi hy (a := b) (cell := cellB) hcell
    (fun z h => by rw [h] at hobj; cases hobj) hselP hmethM habM hkP hkPi (g := g) hg (argsL := argsL) (rest := rest) (hlen _ hsigM) hstack hdg
  rcases hK m meth c ⟨T.setVm vm₁, locs, cells, slots⟩ { g with stack := rest } (.invokevirtual index) mk (Value.ref b :: argsL).toArray X₁ hg hsize hdg hW (X₁.named hnamed) (hpre vm₁ X₁.warmed) with ⟨v, B, X', hpost, hsteps⟩ | ⟨q, B, X', hpost, hsteps⟩
  · exact Or.inl ⟨v, vm₁, B, X₁.warmed, X', hpost, fun target h => hstep₁ _ fun acts => by rw [doInvoke_state]; exact hsteps.trans h⟩
  · exact Or.inr ⟨q, vm₁, B, X₁.warmed, X', hpost, hstep₁ _ fun acts => by rw [doInvoke_state]; exact hsteps⟩
theorem vx_callSX (X : Stand p l e R s m args below meth c T locs cells slots) (hexec : p.tables.exec = Jvm.exec) {own : String} {index : Nat} {y : MethodName} {bytes : ByteArray} {maxL : Nat} {ret : Option FieldType} {hh : List (Nat × Nat × Nat × Nat)}
    (hown : s.vm.findClass own = some m.cls) (hlink : (Cond.methodLink own index y).before args s = true) (hstat : (Cond.static y).before args s = true) (hinit : (Cond.initialized y.cls).before args s = true)
    (hcode : (Cond.codeWith y bytes maxL ret hh).before args s = true) (hy : y.cls ≠ "java/lang/invoke/MethodHandle" ∧ y.cls ≠ "java/lang/invoke/VarHandle")
    {W9 : Nat} {Pre : Pt → Array Value → Prop} {Post : Pt → Array Value → Option Value → Pt → Prop} {PostX : Pt → Array Value → Addr → Pt → Prop} (hK : vx_Back l R p e below s args y 3 W9 Pre Post PostX)
    {g : JFrame} (hg : g.method = m) (hsize : g.locals.size = c.maxLocals) {argsL rest : List Value} (hlen : ∀ sig, parseMethodDescriptor y.desc = some sig → argsL.length = sig.parameters.length)
    (hstack : g.stack = argsL.reverse ++ rest) (hW : 2 * g.monitorRoom + (rest.map fun v => v.category).sum ≤ W9) (hdg : decode c.code g.pc = .ok (.invokestatic index, 3))
    (hpre : ∀ vm₁, s.WarmedH vm₁ → Pre ⟨T.setVm vm₁, locs, cells, slots⟩ argsL.toArray) :
    (∃ (v : Option Value) (vm₁ : Vm) (B : Pt), s.WarmedH vm₁ ∧ Stand p l e R s m args below meth c B.U B.locs B.cells B.slots ∧ Post ⟨T.setVm vm₁, locs, cells, slots⟩ argsL.toArray v B ∧
      ∀ target, Steps p.tables e below (B.U.setTop { g with pc := g.pc + 3, stack := v.toList ++ rest }) target → Steps p.tables e below (T.setTop g) target) ∨
    (∃ (q : Addr) (vm₁ : Vm) (B : Pt), s.WarmedH vm₁ ∧ Stand p l e R s m args below meth c B.U B.locs B.cells B.slots ∧ PostX ⟨T.setVm vm₁, locs, cells, slots⟩ argsL.toArray q B ∧
      Steps p.tables e below (T.setTop g) ((B.U.setTop { g with stack := rest }).pushFrame (.throwing q))) := by
  obtain ⟨mk, methM, cM, hnamed, hmethM, -, -, -, -, -, -, hsigM⟩ := Cond.codeWith_spec hcode
  have hstatic : methM.isStatic = true := Cond.static_spec hnamed hmethM hstat
  obtain ⟨kP, hkP, -⟩ := className_of_methodNamed hnamed
  have hinitP : kP.init = .initialized := Cond.initialized_spec (findClass_of_methodNamed hnamed) hkP hinit
  obtain ⟨vm₁, X₁, hstep₁⟩ := X.invokestatic hexec hown hlink hnamed hmethM hstatic hkP hinitP hy (g := g) hg (argsL := argsL) (rest := rest) (hlen _ hsigM) hstack hdg
  rcases hK m meth c ⟨T.setVm vm₁, locs, cells, slots⟩ { g with stack := rest } (.invokestatic index) mk argsL.toArray X₁ hg hsize hdg hW (X₁.named hnamed) (hpre vm₁ X₁.warmed) with ⟨v, B, X', hpost, hsteps⟩ | ⟨q, B, X', hpost, hsteps⟩
  · exact Or.inl ⟨v, vm₁, B, X₁.warmed, X', hpost, fun target h => hstep₁ _ fun acts => by rw [doInvoke_state]; exact hsteps.trans h⟩
  · exact Or.inr ⟨q, vm₁, B, X₁.warmed, X', hpost, hstep₁ _ fun acts => by rw [doInvoke_state]; exact hsteps⟩
theorem vx_callVW (X : Stand p l e R s m args below meth c T locs cells slots) (hexec : p.tables.exec = Jvm.exec) {own C : String} {index : Nat} {y : MethodName} {bytes : ByteArray} {maxL : Nat} {ret : Option FieldType} {hh : List (Nat × Nat × Nat × Nat)}
    (hown : s.vm.findClass own = some m.cls) (hlink : (Cond.methodLink own index y).before args s = true) (hinst : (Cond.instanceMethod y).before args s = true) (hsel : (Cond.selects C y y).before args s = true)
    (hcode : (Cond.codeWith y bytes maxL ret hh).before args s = true) (hy : y.cls ≠ "java/lang/invoke/MethodHandle" ∧ y.cls ≠ "java/lang/invoke/VarHandle")
    {W9 : Nat} {Pre : Pt → Array Value → Prop} {Post : Pt → Array Value → Option Value → Pt → Prop} (hK : Back l R p e below s args y 3 W9 Pre Post)
    {b : Addr} {cellB : Cell} (hcell : T.heap[b]? = some cellB) (hobj : cellB.vm.isStatics = false) (hcls : s.vm.findClass C = some cellB.cls)
    {g : JFrame} (hg : g.method = m) (hsize : g.locals.size = c.maxLocals) {argsL rest : List Value} (hlen : ∀ sig, parseMethodDescriptor y.desc = some sig → argsL.length = sig.parameters.length)
    (hstack : g.stack = argsL.reverse ++ .ref b :: rest) (hW : 2 * g.monitorRoom + (rest.map fun v => v.category).sum ≤ W9) (hdg : decode c.code g.pc = .ok (.invokevirtual index, 3))
    (hpre : ∀ vm₁, s.WarmedH vm₁ → Pre ⟨T.setVm vm₁, locs, cells, slots⟩ (Value.ref b :: argsL).toArray) :
    ∃ (v : Option Value) (vm₁ : Vm) (B : Pt), s.WarmedH vm₁ ∧ Stand p l e R s m args below meth c B.U B.locs B.cells B.slots ∧ Post ⟨T.setVm vm₁, locs, cells, slots⟩ (Value.ref b :: argsL).toArray v B ∧
      ∀ target, Steps p.tables e below (B.U.setTop { g with pc := g.pc + 3, stack := v.toList ++ rest }) target → Steps p.tables e below (T.setTop g) target := by
  obtain ⟨mk, methM, hnamed, hmethM, hstM, habM⟩ := Cond.instanceMethod_spec hinst
  obtain ⟨m8, methM', cM, hn8, hmethM', -, -, -, -, -, -, hsigM⟩ := Cond.codeWith_spec hcode
  cases Option.some.inj (hn8.symm.trans hnamed)
  cases hmethM.symm.trans hmethM'
  obtain ⟨c2, r2, m2, q1, q2, q3, q4, kP, hkP, hkPi⟩ := Cond.selects_spec hsel
  cases hcls.symm.trans q1
  cases (State.methodFound?_of_named hnamed hy).symm.trans q2
  cases hnamed.symm.trans q3
  have hselP : selectMethod e.platform s.vm cellB.cls mk = .method mk := by rw [Launch.admits_selectMethod X.admits]; exact q4
  obtain ⟨vm₁, X₁, hstep₁⟩ := X.invokevirtual hexec hown hlink hnamed hmethM hstM hkP hkPi hy (a := b) (cell := cellB) hcell
    (fun z h => by rw [h] at hobj; cases hobj) hselP hmethM habM hkP hkPi (g := g) hg (argsL := argsL) (rest := rest) (hlen _ hsigM) hstack hdg
  obtain ⟨v, B, X', hpost, hsteps⟩ := hK m meth c ⟨T.setVm vm₁, locs, cells, slots⟩ { g with stack := rest } (.invokevirtual index) mk (Value.ref b :: argsL).toArray X₁ hg hsize hdg hW (X₁.named hnamed) (hpre vm₁ X₁.warmed)
  exact ⟨v, vm₁, B, X₁.warmed, X', hpost, fun target h => hstep₁ _ fun acts => by rw [doInvoke_state]; exact hsteps.trans h⟩
abbrev vx_CVW (R : Room) (s : State) (args : Array Value) (own C : String) (index : Nat) (y : MethodName) (bytes : ByteArray) (maxL : Nat) (ret : Option FieldType) (hh : List (Nat × Nat × Nat × Nat)) (ws : List Cond) (rm : Room) (mc ms n : Nat) : Prop :=
  (rm.cells = mc ∧ rm.slots = ms ∧ rm.frames + 1 ≤ R.frames ∧ 8 + (maxL + 11) + rm.locals ≤ R.locals ∧ (∀ w ∈ ws, ∀ (a' : Array Value) (U : State), s.WarmedH U.vm → w.before a' U = true) ∧ Cond.codeWith y bytes maxL ret hh ∈ ws) ∧
  (Cond.codeWith y bytes maxL ret hh).before args s = true ∧ (Cond.initialized y.cls).before args s = true ∧ (y.cls ≠ "java/lang/invoke/MethodHandle" ∧ y.cls ≠ "java/lang/invoke/VarHandle") ∧
  (∀ sig, parseMethodDescriptor y.desc = some sig → n = sig.parameters.length) ∧ (Cond.methodLink own index y).before args s = true ∧ (Cond.instanceMethod y).before args s = true ∧ (Cond.selects C y y).before args s = true
theorem vx_cwVW {own C : String} {index maxL mc ms : Nat} {y : MethodName} {bytes : ByteArray} {ret : Option FieldType} {hh : List (Nat × Nat × Nat × Nat)} {Ts ws ws' : List Cond} {rm : Room} (n : Nat) (ht : ∀ w ∈ Ts, w.before args s = true) (hT : GoodIn Ts (wsV own index C y ws)) (hw : ws = Cond.codeWith y bytes maxL ret hh :: ws') (hrc : rm.cells = mc) (hrs : rm.slots = ms)
    (hd : y.cls = C ∧ y.cls ≠ "java/lang/invoke/MethodHandle" ∧ y.cls ≠ "java/lang/invoke/VarHandle" ∧ (parseMethodDescriptor y.desc).map (fun d => d.parameters.length) = some n) (hR : rm.frames + 1 ≤ R.frames ∧ 8 + (maxL + 11) + rm.locals ≤ R.locals) :
    vx_CVW R s args own C index y bytes maxL ret hh ws rm mc ms n := by
  obtain ⟨hC, hd⟩ := hd
  subst hC
  have ok : ∀ w ∈ wsV own index y.cls y ws, w.before args s = true := fun w h => ht w (hT w h).1
  have hG : GoodIn Ts ws := fun w h => hT w (by unfold wsV; exact List.mem_append_right _ h)
  have hc : Cond.codeWith y bytes maxL ret hh ∈ ws := by rw [hw]; exact List.mem_cons_self
  refine ⟨⟨hrc, hrs, hR.1, hR.2, pay_in ht hG, hc⟩, ht _ (hG _ hc).1, ok _ (by simp [wsV]), ⟨hd.1, hd.2.1⟩, fun sig h => ?_, ok _ (by simp [wsV]), ok _ (by simp [wsV]), ok _ (by simp [wsV])⟩
  have h2 := hd.2.2
  rw [h] at h2
  exact (Option.some.inj h2).symm
theorem vx_runVW {y : MethodName} {bytes cc : ByteArray} {maxL nL mc ms n index : Nat} {ret : Option FieldType} {hh : List (Nat × Nat × Nat × Nat)} {ws : List Cond} {rm : Room} {Pc : Array Value → State → Prop} {Qc : Array Value → State → Outcome → State → Prop} {free : Addr → Prop} {Ts : List Cond} {own C : String} {b : Addr} {As rest : List Value} {g : JFrame}
    (S : CallFix p m c cc nL s args Ts own) (hM : Met l y ws rm Pc Qc mc ms free) (cw : vx_CVW R s args own C index y bytes maxL ret hh ws rm mc ms n) (hp : PreV s H C b Pc As)
    (hg : g.method = m) (hn : As.length = n) (hsize : g.locals.size = nL) (hstack : g.stack = As.reverse ++ .ref b :: rest) (hW : 2 * g.monitorRoom + (rest.map fun v => v.category).sum ≤ 8) (hdg : decode cc g.pc = .ok (.invokevirtual index, 3)) (hf : cells + mc ≤ R.cells ∧ slots + ms ≤ R.slots) :
    va_Run p l e R s m args below meth c H locs cells slots mc ms g rest (Qc (Value.ref b :: As).toArray) free := by
  obtain ⟨⟨hrc, hrs, hfr, hlo, hws, hcw⟩, hcode, hini, hy, hlen, hl, hin, hse⟩ := cw
  have hK : Back l R p e below s args y 3 8 (PreOf R mc ms Pc) (PostOf Qc mc ms free) := va_backW (hh := hh) (bytes := bytes) (maxL := maxL) (ret := ret) hM hp.1 hrc hrs hfr hlo hws hcw (fun a' U hW => word_at hW (Or.inl (by first | rfl | simp [Cond.onTables, Cond.keeps, Cond.steady])) hini)
  obtain ⟨hx, hb, hml, ho, -⟩ := S
  obtain ⟨-, ⟨cellB, hcB, hoB, hclB⟩, hPc⟩ := hp
  intro T hT X
  obtain ⟨v, vm₁, ⟨U', l2, c2, s2⟩, hW₁, X', ⟨g', mk, t, L, e1, e2, hq, h1, hL, h2, h3⟩, st⟩ := vx_callVW X hx (C := C) (hh := hh) (bytes := bytes) (maxL := maxL) (ret := ret) ho hl hin hse hcode hy hK (by rw [hT]; exact hcB) hoB hclB hg (hsize.trans hml.symm) (argsL := As) (rest := rest) (fun sig h => hn.trans (hlen sig h)) hstack hW (by rw [hb]; exact hdg)
    (fun vm₁ hW₁ => ⟨hf.1, hf.2, hPc (T.setVm vm₁) hT hW₁⟩)
  dsimp only [Pt.U, Pt.locs, Pt.cells, Pt.slots] at X' e1 e2 h1 h2 h3 st
  subst h1; subst h2; subst h3
  exact ⟨v, (T.setVm vm₁).calling g' mk (Value.ref b :: As).toArray, t, U', L, hT, X', hL, e1, e2, hq, st⟩
section
variable {y : MethodName} {bytes cc : ByteArray} {maxL nL mc ms n index : Nat} {ret : Option FieldType} {ws : List Cond} {rm : Room} {Pc : Array Value → State → Prop} {Qc : Array Value → State → Outcome → State → Prop} {XC : String → State → State → Prop} {free : Addr → Prop} {Ts : List Cond} {own C : String} {b : Addr} {As rest : List Value} {g : JFrame}
theorem vx_runVX {hh : List (Nat × Nat × Nat × Nat)} (S : CallFix p m c cc nL s args Ts own) (hM : vx_Met l y ws rm Pc Qc XC mc ms free) (cw : vx_CVW R s args own C index y bytes maxL ret hh ws rm mc ms n) (hp : PreV s H C b Pc As)
    (hg : g.method = m) (hn : As.length = n) (hsize : g.locals.size = nL) (hstack : g.stack = As.reverse ++ .ref b :: rest) (hW : 2 * g.monitorRoom + (rest.map fun v => v.category).sum ≤ 8) (hdg : decode cc g.pc = .ok (.invokevirtual index, 3)) (hf : cells + mc ≤ R.cells ∧ slots + ms ≤ R.slots) :
    vx_Run p l e R s m args below meth c H locs cells slots mc ms g rest (Qc (Value.ref b :: As).toArray) XC free := by
  obtain ⟨⟨hrc, hrs, hfr, hlo, hws, hcw⟩, hcode, hini, hy, hlen, hl, hin, hse⟩ := cw
  have hK : vx_Back l R p e below s args y 3 8 (PreOf R mc ms Pc) (PostOf Qc mc ms free) (vx_Post XC mc ms free) := vx_backW (hh := hh) (bytes := bytes) (maxL := maxL) (ret := ret) hM hp.1 hrc hrs hfr hlo hws hcw (fun a' U hW => word_at hW (Or.inl (by first | rfl | simp [Cond.onTables, Cond.keeps, Cond.steady])) hini)
  obtain ⟨hx, hb, hml, ho, -⟩ := S
  obtain ⟨-, ⟨cellB, hcB, hoB, hclB⟩, hPc⟩ := hp
  intro T hT X
  rcases vx_callVX X hx (C := C) (hh := hh) (bytes := bytes) (maxL := maxL) (ret := ret) ho hl hin hse hcode hy hK (by rw [hT]; exact hcB) hoB hclB hg (hsize.trans hml.symm) (argsL := As) (rest := rest) (fun sig h => hn.trans (hlen sig h)) hstack hW (by rw [hb]; exact hdg)
    (fun vm₁ hW₁ => ⟨hf.1, hf.2, hPc (T.setVm vm₁) hT hW₁⟩) with ⟨v, vm₁, ⟨U', l2, c2, s2⟩, hW₁, X', ⟨g', mk, t, L, e1, e2, hq, h1, hL, h2, h3⟩, st⟩ | ⟨q, vm₁, ⟨U', l2, c2, s2⟩, hW₁, X', ⟨g', mk, t, L, E, ce, e1, e2, hq, hce, hcv, hcl, h1, hL, h2, h3⟩, st⟩
  · dsimp only [Pt.U, Pt.locs, Pt.cells, Pt.slots] at X' e1 e2 h1 h2 h3 st
    subst h1; subst h2; subst h3
    exact Or.inl ⟨v, (T.setVm vm₁).calling g' mk (Value.ref b :: As).toArray, t, U', L, hT, X', hL, e1, e2, hq, st⟩
  · dsimp only [Pt.U, Pt.locs, Pt.cells, Pt.slots] at X' e1 e2 h1 h2 h3 st hcl
    subst h1; subst h2; subst h3
    exact Or.inr ⟨q, (T.setVm vm₁).calling g' mk (Value.ref b :: As).toArray, t, U', L, E, ce, hT, X', hL, e1, e2, hq, hce, hcv, vx_cls hW₁ hcl, st⟩
theorem vx_runSX {hh : List (Nat × Nat × Nat × Nat)} (S : CallFix p m c cc nL s args Ts own) (hM : vx_Met l y ws rm Pc Qc XC mc ms free) (cw : vx_CSW R s args own index y bytes maxL ret hh ws rm mc ms n) (hp : PreS s H Pc As)
    (hg : g.method = m) (hn : As.length = n) (hsize : g.locals.size = nL) (hstack : g.stack = As.reverse ++ rest) (hW : 2 * g.monitorRoom + (rest.map fun v => v.category).sum ≤ 8) (hdg : decode cc g.pc = .ok (.invokestatic index, 3)) (hf : cells + mc ≤ R.cells ∧ slots + ms ≤ R.slots) :
    vx_Run p l e R s m args below meth c H locs cells slots mc ms g rest (Qc As.toArray) XC free := by
  obtain ⟨⟨hrc, hrs, hfr, hlo, hws, hcw⟩, hcode, hini, hy, hlen, hl, hstt⟩ := cw
  have hK : vx_Back l R p e below s args y 3 8 (PreOf R mc ms Pc) (PostOf Qc mc ms free) (vx_Post XC mc ms free) := vx_backW (hh := hh) (bytes := bytes) (maxL := maxL) (ret := ret) hM hp.1 hrc hrs hfr hlo hws hcw (fun a' U hW => word_at hW (Or.inl (by first | rfl | simp [Cond.onTables, Cond.keeps, Cond.steady])) hini)
  obtain ⟨hx, hb, hml, ho, -⟩ := S
  intro T hT X
  rcases vx_callSX X hx (hh := hh) (bytes := bytes) (maxL := maxL) (ret := ret) ho hl hstt hini hcode hy hK hg (hsize.trans hml.symm) (argsL := As) (rest := rest) (fun sig h => hn.trans (hlen sig h)) hstack hW (by rw [hb]; exact hdg)
    (fun vm₁ hW₁ => ⟨hf.1, hf.2, hp.2 (T.setVm vm₁) hT hW₁⟩) with ⟨v, vm₁, ⟨U', l2, c2, s2⟩, hW₁, X', ⟨g', mk, t, L, e1, e2, hq, h1, hL, h2, h3⟩, st⟩ | ⟨q, vm₁, ⟨U', l2, c2, s2⟩, hW₁, X', ⟨g', mk, t, L, E, ce, e1, e2, hq, hce, hcv, hcl, h1, hL, h2, h3⟩, st⟩
  · dsimp only [Pt.U, Pt.locs, Pt.cells, Pt.slots] at X' e1 e2 h1 h2 h3 st
    subst h1; subst h2; subst h3
    exact Or.inl ⟨v, (T.setVm vm₁).calling g' mk As.toArray, t, U', L, hT, X', hL, e1, e2, hq, st⟩
  · dsimp only [Pt.U, Pt.locs, Pt.cells, Pt.slots] at X' e1 e2 h1 h2 h3 st hcl
    subst h1; subst h2; subst h3
    exact Or.inr ⟨q, (T.setVm vm₁).calling g' mk As.toArray, t, U', L, E, ce, hT, X', hL, e1, e2, hq, hce, hcv, vx_cls hW₁ hcl, st⟩
end
end VXH
theorem vx_ofWH {l : Launch} {y : MethodName} {ws ws' : List Cond} {rm : Room} {Pc : Array Value → State → Prop} {Qc : Array Value → State → Outcome → State → Prop} {XC : String → State → State → Prop} {mc ms : Nat} {free : Addr → Prop} {cc : ByteArray} {maxL : Nat} {ret : Option FieldType} {hh : List (Nat × Nat × Nat × Nat)}
    (hy : plainName y.cls = true) (hw : ws = Cond.codeWith y cc maxL ret hh :: ws')
    (body : ∀ p e s m args below meth c s₁, BodyLoose p l y (headSpec ws rm) cc maxL ret e s m args below meth c s₁ → c.maxLocals = maxL → Pc args s →
      W p l e (headSpec ws rm).room s m args below meth c s.heap [] 0 0 (vx_MQ below Qc XC args s mc ms free) (entryFrame m args maxL)) : vx_Met l y ws rm Pc Qc XC mc ms free := by
  refine MetFree.of_bodyS (code := cc) (maxLocals := maxL) (ret := ret) hy ?_ ?_
  · intro args s m h hn
    obtain ⟨m9, meth, c, hn9, h1, h2, h3, h4, -, h5, h6, -⟩ := Cond.codeWith_spec (atoms_spec (ws := ws) h _ (by rw [hw]; exact List.mem_cons_self))
    cases hn.symm.trans hn9
    exact ⟨meth, c, h1, h2, h3, h4, h5, h6⟩
  · intro p e s m args below meth c s₁ B hml hP _
    have hh0 : s₁.heap = s.heap := by rw [B.state]; rfl
    obtain ⟨t, a1, o, b1, b2, b3⟩ := body p e s m args below meth c s₁ B hml hP s₁ hh0 (Stand.of_body B)
    exact ⟨t, o, a1, b1, b2, b3⟩
/-! ===== END ===== -/
end
section
/-! ===== BEGIN printed: names, fields, word lists, decode rows ===== -/
def RX0 : String := "ZhegalkinBench$TextReader"
def TX0 : u_T := fun k => match k with
  | 0 => ("ZhegalkinBench$TextReader", "where", "I", false)
  | 1 => ("ZhegalkinBench$TextReader", "finished", "I", false)
  | 2 => ("ZhegalkinBench$TextReader", "product", "I", false)
  | _ => ("ZhegalkinBench$TextReader", "nextVariable", "I", false)
def tyX0 : Nat → FieldType := fun k => match k with
  | 0 => .int
  | 1 => .int
  | 2 => .int
  | _ => .int
abbrev wsX00 : List Cond := u_ws RX0 TX0 4
theorem nmX0 : ∀ a, a < 4 → ∀ b, b < 4 → a ≠ b → (TX0 a).2.1 ≠ (TX0 b).2.1 := by decide +kernel
theorem tyX0_ok : ∀ k, k < 4 → parseFieldDescriptor (TX0 k).2.2.1 = some (tyX0 k) := by decide +kernel
abbrev cX0_init : ByteArray := prog_2_method_1_code
def yX0_init : MethodName := ⟨RX0, "<init>", "()V"⟩
abbrev cX0_firstError : ByteArray := prog_2_method_2_code
def yX0_firstError : MethodName := ⟨RX0, "firstError", "([CI)I"⟩
abbrev cX0_productsRead : ByteArray := prog_2_method_3_code
def yX0_productsRead : MethodName := ⟨RX0, "productsRead", "()I"⟩
abbrev cX0_startProduct : ByteArray := prog_2_method_4_code
def yX0_startProduct : MethodName := ⟨RX0, "startProduct", "()V"⟩
abbrev cX0_canEnd : ByteArray := prog_2_method_5_code
def yX0_canEnd : MethodName := ⟨RX0, "canEnd", "()Z"⟩
abbrev cX0_isNew : ByteArray := prog_2_method_6_code
def yX0_isNew : MethodName := ⟨RX0, "isNew", "(I)Z"⟩
abbrev cX0_takes : ByteArray := prog_2_method_7_code
def yX0_takes : MethodName := ⟨RX0, "takes", "(C)Z"⟩
abbrev cX0_takesZero : ByteArray := prog_2_method_8_code
def yX0_takesZero : MethodName := ⟨RX0, "takesZero", "()Z"⟩
abbrev cX0_takesOne : ByteArray := prog_2_method_9_code
def yX0_takesOne : MethodName := ⟨RX0, "takesOne", "()Z"⟩
abbrev cX0_takesPlus : ByteArray := prog_2_method_10_code
def yX0_takesPlus : MethodName := ⟨RX0, "takesPlus", "()Z"⟩
abbrev cX0_takesVariable : ByteArray := prog_2_method_11_code
def yX0_takesVariable : MethodName := ⟨RX0, "takesVariable", "(I)Z"⟩
abbrev cX0_canBecomeNew : ByteArray := prog_2_method_12_code
def yX0_canBecomeNew : MethodName := ⟨RX0, "canBecomeNew", "(II)Z"⟩
def RX1 : String := "ZhegalkinBench"
def TX1 : u_T := fun k => match k with
  | 0 => ("ZhegalkinBench", "tables", "[I", true)
  | 1 => ("ZhegalkinBench", "recorded", "[I", true)
  | 2 => ("ZhegalkinBench", "recordedCount", "I", false)
  | 3 => ("ZhegalkinBench", "snapshot", "[I", true)
  | 4 => ("ZhegalkinBench", "hasSnapshot", "Z", false)
  | 5 => ("ZhegalkinBench", "text", "[C", true)
  | 6 => ("ZhegalkinBench", "textLength", "I", false)
  | 7 => ("ZhegalkinBench", "reader", "LZhegalkinBench$TextReader;", true)
  | 8 => ("ZhegalkinBench", "sums", "[I", true)
  | 9 => ("ZhegalkinBench", "printed", "[C", true)
  | _ => ("ZhegalkinBench", "printedCount", "I", false)
def tyX1 : Nat → FieldType := fun k => match k with
  | 0 => .array .int
  | 1 => .array .int
  | 2 => .int
  | 3 => .array .int
  | 4 => .boolean
  | 5 => .array .char
  | 6 => .int
  | 7 => .object "ZhegalkinBench$TextReader"
  | 8 => .array .int
  | 9 => .array .char
  | _ => .int
abbrev wsX10 : List Cond := u_ws RX1 TX1 11
theorem nmX1 : ∀ a, a < 11 → ∀ b, b < 11 → a ≠ b → (TX1 a).2.1 ≠ (TX1 b).2.1 := by decide +kernel
theorem tyX1_ok : ∀ k, k < 11 → parseFieldDescriptor (TX1 k).2.2.1 = some (tyX1 k) := by decide +kernel
abbrev cX1_init : ByteArray := prog_1_method_1_code
def yX1_init : MethodName := ⟨RX1, "<init>", "()V"⟩
abbrev cX1_define : ByteArray := prog_1_method_2_code
def yX1_define : MethodName := ⟨RX1, "define", "(I)I"⟩
abbrev cX1_setTable : ByteArray := prog_1_method_3_code
def yX1_setTable : MethodName := ⟨RX1, "setTable", "(II)I"⟩
abbrev cX1_join : ByteArray := prog_1_method_4_code
def yX1_join : MethodName := ⟨RX1, "join", "(IIII)I"⟩
abbrev cX1_fix : ByteArray := prog_1_method_5_code
def yX1_fix : MethodName := ⟨RX1, "fix", "(IIZ)I"⟩
abbrev cX1_substitute : ByteArray := prog_1_method_6_code
def yX1_substitute : MethodName := ⟨RX1, "substitute", "(III)I"⟩
abbrev cX1_type : ByteArray := prog_1_method_7_code
def yX1_type : MethodName := ⟨RX1, "type", "(C)I"⟩
abbrev cX1_clearText : ByteArray := prog_1_method_8_code
def yX1_clearText : MethodName := ⟨RX1, "clearText", "()I"⟩
abbrev cX1_textError : ByteArray := prog_1_method_9_code
def yX1_textError : MethodName := ⟨RX1, "textError", "()I"⟩
abbrev cX1_textProducts : ByteArray := prog_1_method_10_code
def yX1_textProducts : MethodName := ⟨RX1, "textProducts", "()I"⟩
abbrev cX1_undo : ByteArray := prog_1_method_11_code
def yX1_undo : MethodName := ⟨RX1, "undo", "()I"⟩
abbrev cX1_takeSnapshot : ByteArray := prog_1_method_12_code
def yX1_takeSnapshot : MethodName := ⟨RX1, "takeSnapshot", "()I"⟩
abbrev cX1_restoreSnapshot : ByteArray := prog_1_method_13_code
def yX1_restoreSnapshot : MethodName := ⟨RX1, "restoreSnapshot", "()I"⟩
abbrev cX1_tableOf : ByteArray := prog_1_method_14_code
def yX1_tableOf : MethodName := ⟨RX1, "tableOf", "(I)I"⟩
abbrev cX1_valueAt : ByteArray := prog_1_method_15_code
def yX1_valueAt : MethodName := ⟨RX1, "valueAt", "(II)I"⟩
abbrev cX1_weightOf : ByteArray := prog_1_method_16_code
def yX1_weightOf : MethodName := ⟨RX1, "weightOf", "(I)I"⟩
abbrev cX1_dependsOn : ByteArray := prog_1_method_17_code
def yX1_dependsOn : MethodName := ⟨RX1, "dependsOn", "(II)Z"⟩
abbrev cX1_productsByHalves : ByteArray := prog_1_method_18_code
def yX1_productsByHalves : MethodName := ⟨RX1, "productsByHalves", "(I)I"⟩
abbrev cX1_productsBySums : ByteArray := prog_1_method_19_code
def yX1_productsBySums : MethodName := ⟨RX1, "productsBySums", "(I)I"⟩
abbrev cX1_degreeOf : ByteArray := prog_1_method_20_code
def yX1_degreeOf : MethodName := ⟨RX1, "degreeOf", "(I)I"⟩
abbrev cX1_printedLength : ByteArray := prog_1_method_21_code
def yX1_printedLength : MethodName := ⟨RX1, "printedLength", "(I)I"⟩
abbrev cX1_printedLetter : ByteArray := prog_1_method_22_code
def yX1_printedLetter : MethodName := ⟨RX1, "printedLetter", "(II)C"⟩
abbrev cX1_distanceByTrying : ByteArray := prog_1_method_23_code
def yX1_distanceByTrying : MethodName := ⟨RX1, "distanceByTrying", "(I)I"⟩
abbrev cX1_distanceBySums : ByteArray := prog_1_method_24_code
def yX1_distanceBySums : MethodName := ⟨RX1, "distanceBySums", "(I)I"⟩
abbrev cX1_isSelfDual : ByteArray := prog_1_method_25_code
def yX1_isSelfDual : MethodName := ⟨RX1, "isSelfDual", "(I)Z"⟩
abbrev cX1_isMonotone : ByteArray := prog_1_method_26_code
def yX1_isMonotone : MethodName := ⟨RX1, "isMonotone", "(I)Z"⟩
abbrev cX1_areEnough : ByteArray := prog_1_method_27_code
def yX1_areEnough : MethodName := ⟨RX1, "areEnough", "(I)Z"⟩
abbrev cX1_fewestEnough : ByteArray := prog_1_method_28_code
def yX1_fewestEnough : MethodName := ⟨RX1, "fewestEnough", "()I"⟩
abbrev cX1_recordedStates : ByteArray := prog_1_method_29_code
def yX1_recordedStates : MethodName := ⟨RX1, "recordedStates", "()I"⟩
abbrev cX1_checkFunction : ByteArray := prog_1_method_30_code
def yX1_checkFunction : MethodName := ⟨RX1, "checkFunction", "(I)V"⟩
abbrev cX1_checkVariable : ByteArray := prog_1_method_31_code
def yX1_checkVariable : MethodName := ⟨RX1, "checkVariable", "(I)V"⟩
abbrev cX1_validTextProducts : ByteArray := prog_1_method_32_code
def yX1_validTextProducts : MethodName := ⟨RX1, "validTextProducts", "()I"⟩
abbrev cX1_recordState : ByteArray := prog_1_method_33_code
def yX1_recordState : MethodName := ⟨RX1, "recordState", "()V"⟩
abbrev cX1_countAllProducts : ByteArray := prog_1_method_34_code
def yX1_countAllProducts : MethodName := ⟨RX1, "countAllProducts", "()I"⟩
abbrev cX1_bit : ByteArray := prog_1_method_35_code
def yX1_bit : MethodName := ⟨RX1, "bit", "(II)I"⟩
abbrev cX1_joinTables : ByteArray := prog_1_method_36_code
def yX1_joinTables : MethodName := ⟨RX1, "joinTables", "(III)I"⟩
abbrev cX1_half : ByteArray := prog_1_method_37_code
def yX1_half : MethodName := ⟨RX1, "half", "(IIZ)I"⟩
abbrev cX1_addHalves : ByteArray := prog_1_method_38_code
def yX1_addHalves : MethodName := ⟨RX1, "addHalves", "(I)I"⟩
abbrev cX1_sumBelow : ByteArray := prog_1_method_39_code
def yX1_sumBelow : MethodName := ⟨RX1, "sumBelow", "(II)I"⟩
abbrev cX1_degree : ByteArray := prog_1_method_40_code
def yX1_degree : MethodName := ⟨RX1, "degree", "(I)I"⟩
abbrev cX1_linearTable : ByteArray := prog_1_method_41_code
def yX1_linearTable : MethodName := ⟨RX1, "linearTable", "(I)I"⟩
abbrev cX1_sumPairs : ByteArray := prog_1_method_42_code
def yX1_sumPairs : MethodName := ⟨RX1, "sumPairs", "(I)V"⟩
abbrev cX1_hasOppositeEnds : ByteArray := prog_1_method_43_code
def yX1_hasOppositeEnds : MethodName := ⟨RX1, "hasOppositeEnds", "(I)Z"⟩
abbrev cX1_neverFalls : ByteArray := prog_1_method_44_code
def yX1_neverFalls : MethodName := ⟨RX1, "neverFalls", "(I)Z"⟩
abbrev cX1_classesOf : ByteArray := prog_1_method_45_code
def yX1_classesOf : MethodName := ⟨RX1, "classesOf", "(I)I"⟩
abbrev cX1_sharedClasses : ByteArray := prog_1_method_46_code
def yX1_sharedClasses : MethodName := ⟨RX1, "sharedClasses", "(I)I"⟩
abbrev cX1_print : ByteArray := prog_1_method_47_code
def yX1_print : MethodName := ⟨RX1, "print", "(I)V"⟩
abbrev cX1_printProduct : ByteArray := prog_1_method_48_code
def yX1_printProduct : MethodName := ⟨RX1, "printProduct", "(I)V"⟩
abbrev cX1_put : ByteArray := prog_1_method_49_code
def yX1_put : MethodName := ⟨RX1, "put", "(C)V"⟩
def RX2 : String := "ZhegalkinBenchModel"
def TX2 : u_T := fun k => match k with
  | 0 => ("ZhegalkinBenchModel", "now", "[I", true)
  | 1 => ("ZhegalkinBenchModel", "past", "[I", true)
  | 2 => ("ZhegalkinBenchModel", "shot", "[I", true)
  | 3 => ("ZhegalkinBenchModel", "hasShot", "Z", false)
  | 4 => ("ZhegalkinBenchModel", "kept", "I", false)
  | 5 => ("ZhegalkinBenchModel", "text", "[I", true)
  | 6 => ("ZhegalkinBenchModel", "typed", "I", false)
  | 7 => ("ZhegalkinBenchModel", "thrown", "I", false)
  | 8 => ("ZhegalkinBenchModel", "at", "I", false)
  | _ => ("ZhegalkinBenchModel", "told", "I", false)
def tyX2 : Nat → FieldType := fun k => match k with
  | 0 => .array .int
  | 1 => .array .int
  | 2 => .array .int
  | 3 => .boolean
  | 4 => .int
  | 5 => .array .int
  | 6 => .int
  | 7 => .int
  | 8 => .int
  | _ => .int
abbrev wsX20 : List Cond := u_ws RX2 TX2 10
theorem nmX2 : ∀ a, a < 10 → ∀ b, b < 10 → a ≠ b → (TX2 a).2.1 ≠ (TX2 b).2.1 := by decide +kernel
theorem tyX2_ok : ∀ k, k < 10 → parseFieldDescriptor (TX2 k).2.2.1 = some (tyX2 k) := by decide +kernel
abbrev cX2_init : ByteArray := prog_4_method_1_code
def yX2_init : MethodName := ⟨RX2, "<init>", "()V"⟩
abbrev cX2_thrown : ByteArray := prog_4_method_2_code
def yX2_thrown : MethodName := ⟨RX2, "thrown", "()I"⟩
abbrev cX2_fails : ByteArray := prog_4_method_3_code
def yX2_fails : MethodName := ⟨RX2, "fails", "(I)I"⟩
abbrev cX2_in : ByteArray := prog_4_method_4_code
def yX2_in : MethodName := ⟨RX2, "in", "(III)Z"⟩
abbrev cX2_isOne : ByteArray := prog_4_method_5_code
def yX2_isOne : MethodName := ⟨RX2, "isOne", "(I)Z"⟩
abbrev cX2_variable : ByteArray := prog_4_method_6_code
def yX2_variable : MethodName := ⟨RX2, "variable", "(I)I"⟩
abbrev cX2_bits : ByteArray := prog_4_method_7_code
def yX2_bits : MethodName := ⟨RX2, "bits", "(I)I"⟩
abbrev cX2_copies : ByteArray := prog_4_method_8_code
def yX2_copies : MethodName := ⟨RX2, "copies", "([II[II)V"⟩
abbrev cX2_records : ByteArray := prog_4_method_9_code
def yX2_records : MethodName := ⟨RX2, "records", "()V"⟩
abbrev cX2_turned : ByteArray := prog_4_method_10_code
def yX2_turned : MethodName := ⟨RX2, "turned", "(I)I"⟩
abbrev cX2_degree : ByteArray := prog_4_method_11_code
def yX2_degree : MethodName := ⟨RX2, "degree", "(I)I"⟩
abbrev cX2_allProducts : ByteArray := prog_4_method_12_code
def yX2_allProducts : MethodName := ⟨RX2, "allProducts", "()I"⟩
abbrev cX2_sets : ByteArray := prog_4_method_13_code
def yX2_sets : MethodName := ⟨RX2, "sets", "(II)I"⟩
abbrev cX2_define : ByteArray := prog_4_method_14_code
def yX2_define : MethodName := ⟨RX2, "define", "(I)I"⟩
abbrev cX2_setTable : ByteArray := prog_4_method_15_code
def yX2_setTable : MethodName := ⟨RX2, "setTable", "(II)I"⟩
abbrev cX2_join : ByteArray := prog_4_method_16_code
def yX2_join : MethodName := ⟨RX2, "join", "(IIII)I"⟩
abbrev cX2_valueWith : ByteArray := prog_4_method_17_code
def yX2_valueWith : MethodName := ⟨RX2, "valueWith", "(IIII)I"⟩
abbrev cX2_fix : ByteArray := prog_4_method_18_code
def yX2_fix : MethodName := ⟨RX2, "fix", "(IIZ)I"⟩
abbrev cX2_substitute : ByteArray := prog_4_method_19_code
def yX2_substitute : MethodName := ⟨RX2, "substitute", "(III)I"⟩
abbrev cX2_type : ByteArray := prog_4_method_20_code
def yX2_type : MethodName := ⟨RX2, "type", "(C)I"⟩
abbrev cX2_clearText : ByteArray := prog_4_method_21_code
def yX2_clearText : MethodName := ⟨RX2, "clearText", "()I"⟩
abbrev cX2_has : ByteArray := prog_4_method_22_code
def yX2_has : MethodName := ⟨RX2, "has", "(I)Z"⟩
abbrev cX2_canCome : ByteArray := prog_4_method_23_code
def yX2_canCome : MethodName := ⟨RX2, "canCome", "(I)Z"⟩
abbrev cX2_highest : ByteArray := prog_4_method_24_code
def yX2_highest : MethodName := ⟨RX2, "highest", "(I)I"⟩
abbrev cX2_product : ByteArray := prog_4_method_25_code
def yX2_product : MethodName := ⟨RX2, "product", "()I"⟩
abbrev cX2_reads : ByteArray := prog_4_method_26_code
def yX2_reads : MethodName := ⟨RX2, "reads", "()Z"⟩
abbrev cX2_textError : ByteArray := prog_4_method_27_code
def yX2_textError : MethodName := ⟨RX2, "textError", "()I"⟩
abbrev cX2_textProducts : ByteArray := prog_4_method_28_code
def yX2_textProducts : MethodName := ⟨RX2, "textProducts", "()I"⟩
abbrev cX2_undo : ByteArray := prog_4_method_29_code
def yX2_undo : MethodName := ⟨RX2, "undo", "()I"⟩
abbrev cX2_takeSnapshot : ByteArray := prog_4_method_30_code
def yX2_takeSnapshot : MethodName := ⟨RX2, "takeSnapshot", "()I"⟩
abbrev cX2_restoreSnapshot : ByteArray := prog_4_method_31_code
def yX2_restoreSnapshot : MethodName := ⟨RX2, "restoreSnapshot", "()I"⟩
abbrev cX2_is : ByteArray := prog_4_method_32_code
def yX2_is : MethodName := ⟨RX2, "is", "(I)Z"⟩
abbrev cX2_tableOf : ByteArray := prog_4_method_33_code
def yX2_tableOf : MethodName := ⟨RX2, "tableOf", "(I)I"⟩
abbrev cX2_valueAt : ByteArray := prog_4_method_34_code
def yX2_valueAt : MethodName := ⟨RX2, "valueAt", "(II)I"⟩
abbrev cX2_weightOf : ByteArray := prog_4_method_35_code
def yX2_weightOf : MethodName := ⟨RX2, "weightOf", "(I)I"⟩
abbrev cX2_dependsOn : ByteArray := prog_4_method_36_code
def yX2_dependsOn : MethodName := ⟨RX2, "dependsOn", "(II)Z"⟩
abbrev cX2_productsByHalves : ByteArray := prog_4_method_37_code
def yX2_productsByHalves : MethodName := ⟨RX2, "productsByHalves", "(I)I"⟩
abbrev cX2_productsBySums : ByteArray := prog_4_method_38_code
def yX2_productsBySums : MethodName := ⟨RX2, "productsBySums", "(I)I"⟩
abbrev cX2_degreeOf : ByteArray := prog_4_method_39_code
def yX2_degreeOf : MethodName := ⟨RX2, "degreeOf", "(I)I"⟩
abbrev cX2_letters : ByteArray := prog_4_method_40_code
def yX2_letters : MethodName := ⟨RX2, "letters", "(I)I"⟩
abbrev cX2_printed : ByteArray := prog_4_method_41_code
def yX2_printed : MethodName := ⟨RX2, "printed", "(I)I"⟩
abbrev cX2_printedLength : ByteArray := prog_4_method_42_code
def yX2_printedLength : MethodName := ⟨RX2, "printedLength", "(I)I"⟩
abbrev cX2_letter : ByteArray := prog_4_method_43_code
def yX2_letter : MethodName := ⟨RX2, "letter", "(II)C"⟩
abbrev cX2_printedLetter : ByteArray := prog_4_method_44_code
def yX2_printedLetter : MethodName := ⟨RX2, "printedLetter", "(II)C"⟩
abbrev cX2_distance : ByteArray := prog_4_method_45_code
def yX2_distance : MethodName := ⟨RX2, "distance", "(I)I"⟩
abbrev cX2_distanceByTrying : ByteArray := prog_4_method_46_code
def yX2_distanceByTrying : MethodName := ⟨RX2, "distanceByTrying", "(I)I"⟩
abbrev cX2_distanceBySums : ByteArray := prog_4_method_47_code
def yX2_distanceBySums : MethodName := ⟨RX2, "distanceBySums", "(I)I"⟩
abbrev cX2_selfDual : ByteArray := prog_4_method_48_code
def yX2_selfDual : MethodName := ⟨RX2, "selfDual", "(I)Z"⟩
abbrev cX2_monotone : ByteArray := prog_4_method_49_code
def yX2_monotone : MethodName := ⟨RX2, "monotone", "(I)Z"⟩
abbrev cX2_isSelfDual : ByteArray := prog_4_method_50_code
def yX2_isSelfDual : MethodName := ⟨RX2, "isSelfDual", "(I)Z"⟩
abbrev cX2_isMonotone : ByteArray := prog_4_method_51_code
def yX2_isMonotone : MethodName := ⟨RX2, "isMonotone", "(I)Z"⟩
abbrev cX2_enough : ByteArray := prog_4_method_52_code
def yX2_enough : MethodName := ⟨RX2, "enough", "(I)Z"⟩
abbrev cX2_areEnough : ByteArray := prog_4_method_53_code
def yX2_areEnough : MethodName := ⟨RX2, "areEnough", "(I)Z"⟩
abbrev cX2_fewestEnough : ByteArray := prog_4_method_54_code
def yX2_fewestEnough : MethodName := ⟨RX2, "fewestEnough", "()I"⟩
abbrev cX2_recordedStates : ByteArray := prog_4_method_55_code
def yX2_recordedStates : MethodName := ⟨RX2, "recordedStates", "()I"⟩
def RJ6 : String := "java/lang/Integer"
def TJ6 : u_T := fun k => match k with
  | _ => ("", "", "", false)
def tyJ6 : Nat → FieldType := fun k => match k with
  | _ => .int
abbrev wsJ60 : List Cond := u_ws RJ6 TJ6 0
theorem nmJ6 : ∀ a, a < 0 → ∀ b, b < 0 → a ≠ b → (TJ6 a).2.1 ≠ (TJ6 b).2.1 := by decide +kernel
theorem tyJ6_ok : ∀ k, k < 0 → parseFieldDescriptor (TJ6 k).2.2.1 = some (tyJ6 k) := by decide +kernel
abbrev cJ6_bitCount_0f7a4 : ByteArray := prog_9_method_49_code
def yJ6_bitCount_0f7a4 : MethodName := ⟨RJ6, "bitCount", "(I)I"⟩
def RJ9 : String := "java/lang/Math"
def TJ9 : u_T := fun k => match k with
  | _ => ("", "", "", false)
def tyJ9 : Nat → FieldType := fun k => match k with
  | _ => .int
abbrev wsJ90 : List Cond := u_ws RJ9 TJ9 0
theorem nmJ9 : ∀ a, a < 0 → ∀ b, b < 0 → a ≠ b → (TJ9 a).2.1 ≠ (TJ9 b).2.1 := by decide +kernel
theorem tyJ9_ok : ∀ k, k < 0 → parseFieldDescriptor (TJ9 k).2.2.1 = some (tyJ9 k) := by decide +kernel
abbrev cJ9_abs_0f7a4 : ByteArray := prog_10_method_59_code
def yJ9_abs_0f7a4 : MethodName := ⟨RJ9, "abs", "(I)I"⟩
abbrev cJ9_max_7cf53 : ByteArray := prog_10_method_65_code
def yJ9_max_7cf53 : MethodName := ⟨RJ9, "max", "(II)I"⟩
abbrev cJ9_min_7cf53 : ByteArray := prog_10_method_69_code
def yJ9_min_7cf53 : MethodName := ⟨RJ9, "min", "(II)I"⟩
def RJ0 : String := "java/lang/String"
def TJ0 : u_T := fun k => match k with
  | _ => ("", "", "", false)
def tyJ0 : Nat → FieldType := fun k => match k with
  | _ => .int
abbrev wsJ00 : List Cond := u_ws RJ0 TJ0 0
theorem nmJ0 : ∀ a, a < 0 → ∀ b, b < 0 → a ≠ b → (TJ0 a).2.1 ≠ (TJ0 b).2.1 := by decide +kernel
theorem tyJ0_ok : ∀ k, k < 0 → parseFieldDescriptor (TJ0 k).2.2.1 = some (tyJ0 k) := by decide +kernel
def RJ10 : String := "java/lang/System"
def TJ10 : u_T := fun k => match k with
  | _ => ("", "", "", false)
def tyJ10 : Nat → FieldType := fun k => match k with
  | _ => .int
abbrev wsJ100 : List Cond := u_ws RJ10 TJ10 0
theorem nmJ10 : ∀ a, a < 0 → ∀ b, b < 0 → a ≠ b → (TJ10 a).2.1 ≠ (TJ10 b).2.1 := by decide +kernel
theorem tyJ10_ok : ∀ k, k < 0 → parseFieldDescriptor (TJ10 k).2.2.1 = some (tyJ10 k) := by decide +kernel
def RL : String := "ZhegalkinBenchLaw"
abbrev cL_define : ByteArray := method_3_code
def yL_define : MethodName := ⟨RL, "define", "(LZhegalkinBench;I[J)I"⟩
abbrev cL_setTable : ByteArray := method_4_code
def yL_setTable : MethodName := ⟨RL, "setTable", "(LZhegalkinBench;II[J)I"⟩
abbrev cL_join : ByteArray := method_5_code
def yL_join : MethodName := ⟨RL, "join", "(LZhegalkinBench;IIII[J)I"⟩
abbrev cL_fix : ByteArray := method_6_code
def yL_fix : MethodName := ⟨RL, "fix", "(LZhegalkinBench;IIZ[J)I"⟩
abbrev cL_substitute : ByteArray := method_7_code
def yL_substitute : MethodName := ⟨RL, "substitute", "(LZhegalkinBench;III[J)I"⟩
abbrev cL_type : ByteArray := method_8_code
def yL_type : MethodName := ⟨RL, "type", "(LZhegalkinBench;C[J)I"⟩
abbrev cL_textProducts : ByteArray := method_9_code
def yL_textProducts : MethodName := ⟨RL, "textProducts", "(LZhegalkinBench;[J)I"⟩
abbrev cL_undo : ByteArray := method_10_code
def yL_undo : MethodName := ⟨RL, "undo", "(LZhegalkinBench;[J)I"⟩
abbrev cL_restoreSnapshot : ByteArray := method_11_code
def yL_restoreSnapshot : MethodName := ⟨RL, "restoreSnapshot", "(LZhegalkinBench;[J)I"⟩
abbrev cL_tableOf : ByteArray := method_12_code
def yL_tableOf : MethodName := ⟨RL, "tableOf", "(LZhegalkinBench;I[J)I"⟩
abbrev cL_valueAt : ByteArray := method_13_code
def yL_valueAt : MethodName := ⟨RL, "valueAt", "(LZhegalkinBench;II[J)I"⟩
abbrev cL_weightOf : ByteArray := method_14_code
def yL_weightOf : MethodName := ⟨RL, "weightOf", "(LZhegalkinBench;I[J)I"⟩
abbrev cL_dependsOn : ByteArray := method_15_code
def yL_dependsOn : MethodName := ⟨RL, "dependsOn", "(LZhegalkinBench;II[J)I"⟩
abbrev cL_productsByHalves : ByteArray := method_16_code
def yL_productsByHalves : MethodName := ⟨RL, "productsByHalves", "(LZhegalkinBench;I[J)I"⟩
abbrev cL_productsBySums : ByteArray := method_17_code
def yL_productsBySums : MethodName := ⟨RL, "productsBySums", "(LZhegalkinBench;I[J)I"⟩
abbrev cL_degreeOf : ByteArray := method_18_code
def yL_degreeOf : MethodName := ⟨RL, "degreeOf", "(LZhegalkinBench;I[J)I"⟩
abbrev cL_printedLength : ByteArray := method_19_code
def yL_printedLength : MethodName := ⟨RL, "printedLength", "(LZhegalkinBench;I[J)I"⟩
abbrev cL_printedLetter : ByteArray := method_20_code
def yL_printedLetter : MethodName := ⟨RL, "printedLetter", "(LZhegalkinBench;II[J)I"⟩
abbrev cL_distanceByTrying : ByteArray := method_21_code
def yL_distanceByTrying : MethodName := ⟨RL, "distanceByTrying", "(LZhegalkinBench;I[J)I"⟩
abbrev cL_distanceBySums : ByteArray := method_22_code
def yL_distanceBySums : MethodName := ⟨RL, "distanceBySums", "(LZhegalkinBench;I[J)I"⟩
abbrev cL_isSelfDual : ByteArray := method_23_code
def yL_isSelfDual : MethodName := ⟨RL, "isSelfDual", "(LZhegalkinBench;I[J)I"⟩
abbrev cL_isMonotone : ByteArray := method_24_code
def yL_isMonotone : MethodName := ⟨RL, "isMonotone", "(LZhegalkinBench;I[J)I"⟩
abbrev cL_areEnough : ByteArray := method_25_code
def yL_areEnough : MethodName := ⟨RL, "areEnough", "(LZhegalkinBench;I[J)I"⟩
abbrev cL_law : ByteArray := code
def yL_law : MethodName := ⟨RL, "law", "([I)Z"⟩
def wsX0_init : List Cond := .code yX0_init cX0_init 1 none :: ([.methodLink RX0 3 objectInit, .instanceMethod objectInit, .code objectInit ⟨#[0xb1]⟩ 1 none, .fieldLink RX0 11 "ZhegalkinBench$TextReader" "where" "I", .fieldLink RX0 15 "ZhegalkinBench$TextReader" "finished" "I", .fieldLink RX0 18 "ZhegalkinBench$TextReader" "product" "I", .fieldLink RX0 21 "ZhegalkinBench$TextReader" "nextVariable" "I"] ++ wsX00)
def wsX0_startProduct : List Cond := .code yX0_startProduct cX0_startProduct 1 none :: ([.fieldLink RX0 18 "ZhegalkinBench$TextReader" "product" "I", .fieldLink RX0 21 "ZhegalkinBench$TextReader" "nextVariable" "I"] ++ wsX00)
def wsX0_takesZero : List Cond := .code yX0_takesZero cX0_takesZero 1 (some .boolean) :: ([.fieldLink RX0 11 "ZhegalkinBench$TextReader" "where" "I", .fieldLink RX0 21 "ZhegalkinBench$TextReader" "nextVariable" "I"] ++ wsX00)
def wsX1_bit : List Cond := .code yX1_bit cX1_bit 2 (some .int) :: ([])
def wsX0_isNew : List Cond := .code yX0_isNew cX0_isNew 2 (some .boolean) :: ([.fieldLink RX0 15 "ZhegalkinBench$TextReader" "finished" "I", .static yX1_bit, .initialized RX1, .code yX1_bit cX1_bit 2 (some .int)] ++ wsX00)
def wsX0_takesOne : List Cond := .code yX0_takesOne cX0_takesOne 2 (some .boolean) :: ([.fieldLink RX0 11 "ZhegalkinBench$TextReader" "where" "I", .fieldLink RX0 21 "ZhegalkinBench$TextReader" "nextVariable" "I", .methodLink RX0 35 yX0_isNew, .instanceMethod yX0_isNew, .selects RX0 yX0_isNew yX0_isNew, .initialized RX0, .code yX0_isNew cX0_isNew 2 (some .boolean), .fieldLink RX0 15 "ZhegalkinBench$TextReader" "finished" "I", .static yX1_bit, .initialized RX1, .code yX1_bit cX1_bit 2 (some .int)] ++ wsX00)
def wsX0_takesPlus : List Cond := .code yX0_takesPlus cX0_takesPlus 2 (some .boolean) :: ([.fieldLink RX0 11 "ZhegalkinBench$TextReader" "where" "I", .fieldLink RX0 18 "ZhegalkinBench$TextReader" "product" "I", .fieldLink RX0 15 "ZhegalkinBench$TextReader" "finished" "I", .constant RX0 55 (65535), .methodLink RX0 35 yX0_isNew, .instanceMethod yX0_isNew, .selects RX0 yX0_isNew yX0_isNew, .initialized RX0, .code yX0_isNew cX0_isNew 2 (some .boolean), .static yX1_bit, .initialized RX1, .code yX1_bit cX1_bit 2 (some .int), .methodLink RX0 24 yX0_startProduct, .instanceMethod yX0_startProduct, .selects RX0 yX0_startProduct yX0_startProduct, .code yX0_startProduct cX0_startProduct 1 none, .fieldLink RX0 21 "ZhegalkinBench$TextReader" "nextVariable" "I"] ++ wsX00)
def wsX0_canBecomeNew : List Cond := .code yX0_canBecomeNew cX0_canBecomeNew 5 (some .boolean) :: ([.methodLink RX0 35 yX0_isNew, .instanceMethod yX0_isNew, .selects RX0 yX0_isNew yX0_isNew, .initialized RX0, .code yX0_isNew cX0_isNew 2 (some .boolean), .fieldLink RX0 15 "ZhegalkinBench$TextReader" "finished" "I", .static yX1_bit, .initialized RX1, .code yX1_bit cX1_bit 2 (some .int)] ++ wsX00)
def wsX0_takesVariable : List Cond := .code yX0_takesVariable cX0_takesVariable 3 (some .boolean) :: ([.fieldLink RX0 21 "ZhegalkinBench$TextReader" "nextVariable" "I", .fieldLink RX0 18 "ZhegalkinBench$TextReader" "product" "I", .fieldLink RX0 11 "ZhegalkinBench$TextReader" "where" "I", .methodLink RX0 56 yX0_canBecomeNew, .instanceMethod yX0_canBecomeNew, .selects RX0 yX0_canBecomeNew yX0_canBecomeNew, .initialized RX0, .code yX0_canBecomeNew cX0_canBecomeNew 5 (some .boolean), .methodLink RX0 35 yX0_isNew, .instanceMethod yX0_isNew, .selects RX0 yX0_isNew yX0_isNew, .code yX0_isNew cX0_isNew 2 (some .boolean), .fieldLink RX0 15 "ZhegalkinBench$TextReader" "finished" "I", .static yX1_bit, .initialized RX1, .code yX1_bit cX1_bit 2 (some .int)] ++ wsX00)
def wsX0_takes_r1 : List Cond := [Cond.methodLink RX0 43 yX0_takesZero, Cond.instanceMethod yX0_takesZero, Cond.selects RX0 yX0_takesZero yX0_takesZero, Cond.initialized RX0, Cond.code yX0_takesZero cX0_takesZero 1 (some .boolean), Cond.fieldLink RX0 11 "ZhegalkinBench$TextReader" "where" "I", Cond.fieldLink RX0 21 "ZhegalkinBench$TextReader" "nextVariable" "I", Cond.methodLink RX0 46 yX0_takesOne, Cond.instanceMethod yX0_takesOne, Cond.selects RX0 yX0_takesOne yX0_takesOne, Cond.code yX0_takesOne cX0_takesOne 2 (some .boolean), Cond.methodLink RX0 35 yX0_isNew, Cond.instanceMethod yX0_isNew, Cond.selects RX0 yX0_isNew yX0_isNew, Cond.code yX0_isNew cX0_isNew 2 (some .boolean), Cond.fieldLink RX0 15 "ZhegalkinBench$TextReader" "finished" "I", Cond.static yX1_bit, Cond.initialized RX1, Cond.code yX1_bit cX1_bit 2 (some .int), Cond.methodLink RX0 49 yX0_takesPlus, Cond.instanceMethod yX0_takesPlus, Cond.selects RX0 yX0_takesPlus yX0_takesPlus, Cond.code yX0_takesPlus cX0_takesPlus 2 (some .boolean), Cond.fieldLink RX0 18 "ZhegalkinBench$TextReader" "product" "I"]
def wsX0_takes_r2 : List Cond := [Cond.constant RX0 55 (65535), Cond.methodLink RX0 24 yX0_startProduct, Cond.instanceMethod yX0_startProduct, Cond.selects RX0 yX0_startProduct yX0_startProduct, Cond.code yX0_startProduct cX0_startProduct 1 none, Cond.methodLink RX0 52 yX0_takesVariable, Cond.instanceMethod yX0_takesVariable, Cond.selects RX0 yX0_takesVariable yX0_takesVariable, Cond.code yX0_takesVariable cX0_takesVariable 3 (some .boolean), Cond.methodLink RX0 56 yX0_canBecomeNew, Cond.instanceMethod yX0_canBecomeNew, Cond.selects RX0 yX0_canBecomeNew yX0_canBecomeNew, Cond.code yX0_canBecomeNew cX0_canBecomeNew 5 (some .boolean)]
def wsX0_takes : List Cond := .code yX0_takes cX0_takes 2 (some .boolean) :: ((wsX0_takes_r1 ++ wsX0_takes_r2) ++ wsX00)
def wsX0_canEnd : List Cond := .code yX0_canEnd cX0_canEnd 1 (some .boolean) :: ([.fieldLink RX0 11 "ZhegalkinBench$TextReader" "where" "I", .fieldLink RX0 18 "ZhegalkinBench$TextReader" "product" "I", .methodLink RX0 35 yX0_isNew, .instanceMethod yX0_isNew, .selects RX0 yX0_isNew yX0_isNew, .initialized RX0, .code yX0_isNew cX0_isNew 2 (some .boolean), .fieldLink RX0 15 "ZhegalkinBench$TextReader" "finished" "I", .static yX1_bit, .initialized RX1, .code yX1_bit cX1_bit 2 (some .int)] ++ wsX00)
def wsX0_firstError_r1 : List Cond := [Cond.fieldLink RX0 11 "ZhegalkinBench$TextReader" "where" "I", Cond.fieldLink RX0 15 "ZhegalkinBench$TextReader" "finished" "I", Cond.methodLink RX0 24 yX0_startProduct, Cond.instanceMethod yX0_startProduct, Cond.selects RX0 yX0_startProduct yX0_startProduct, Cond.initialized RX0, Cond.code yX0_startProduct cX0_startProduct 1 none, Cond.fieldLink RX0 18 "ZhegalkinBench$TextReader" "product" "I", Cond.fieldLink RX0 21 "ZhegalkinBench$TextReader" "nextVariable" "I", Cond.methodLink RX0 27 yX0_takes, Cond.instanceMethod yX0_takes, Cond.selects RX0 yX0_takes yX0_takes, Cond.code yX0_takes cX0_takes 2 (some .boolean), Cond.methodLink RX0 43 yX0_takesZero, Cond.instanceMethod yX0_takesZero, Cond.selects RX0 yX0_takesZero yX0_takesZero, Cond.code yX0_takesZero cX0_takesZero 1 (some .boolean), Cond.methodLink RX0 46 yX0_takesOne, Cond.instanceMethod yX0_takesOne, Cond.selects RX0 yX0_takesOne yX0_takesOne, Cond.code yX0_takesOne cX0_takesOne 2 (some .boolean), Cond.methodLink RX0 35 yX0_isNew, Cond.instanceMethod yX0_isNew, Cond.selects RX0 yX0_isNew yX0_isNew]
def wsX0_firstError_r2 : List Cond := [Cond.code yX0_isNew cX0_isNew 2 (some .boolean), Cond.static yX1_bit, Cond.initialized RX1, Cond.code yX1_bit cX1_bit 2 (some .int), Cond.methodLink RX0 49 yX0_takesPlus, Cond.instanceMethod yX0_takesPlus, Cond.selects RX0 yX0_takesPlus yX0_takesPlus, Cond.code yX0_takesPlus cX0_takesPlus 2 (some .boolean), Cond.constant RX0 55 (65535), Cond.methodLink RX0 52 yX0_takesVariable, Cond.instanceMethod yX0_takesVariable, Cond.selects RX0 yX0_takesVariable yX0_takesVariable, Cond.code yX0_takesVariable cX0_takesVariable 3 (some .boolean), Cond.methodLink RX0 56 yX0_canBecomeNew, Cond.instanceMethod yX0_canBecomeNew, Cond.selects RX0 yX0_canBecomeNew yX0_canBecomeNew, Cond.code yX0_canBecomeNew cX0_canBecomeNew 5 (some .boolean), Cond.methodLink RX0 31 yX0_canEnd, Cond.instanceMethod yX0_canEnd, Cond.selects RX0 yX0_canEnd yX0_canEnd, Cond.code yX0_canEnd cX0_canEnd 1 (some .boolean)]
def wsX0_firstError : List Cond := .code yX0_firstError cX0_firstError 4 (some .int) :: ((wsX0_firstError_r1 ++ wsX0_firstError_r2) ++ wsX00)
def wsX0_productsRead : List Cond := .code yX0_productsRead cX0_productsRead 1 (some .int) :: ([.fieldLink RX0 11 "ZhegalkinBench$TextReader" "where" "I", .fieldLink RX0 15 "ZhegalkinBench$TextReader" "finished" "I", .fieldLink RX0 18 "ZhegalkinBench$TextReader" "product" "I"] ++ wsX00)
def wsX1_init_r1 : List Cond := [Cond.methodLink RX1 1 objectInit, Cond.instanceMethod objectInit, Cond.code objectInit ⟨#[0xb1]⟩ 1 none, Cond.arrayClass .int, Cond.fieldLink RX1 9 "ZhegalkinBench" "tables" "[I", Cond.fieldLink RX1 13 "ZhegalkinBench" "recorded" "[I", Cond.fieldLink RX1 16 "ZhegalkinBench" "recordedCount" "I", Cond.fieldLink RX1 20 "ZhegalkinBench" "snapshot" "[I", Cond.fieldLink RX1 23 "ZhegalkinBench" "hasSnapshot" "Z", Cond.arrayClass .char, Cond.fieldLink RX1 27 "ZhegalkinBench" "text" "[C", Cond.fieldLink RX1 31 "ZhegalkinBench" "textLength" "I", Cond.classLink RX1 34 RX0, Cond.instantiable RX0 4, Cond.initialized RX0, Cond.fieldLink RX1 37 "ZhegalkinBench" "reader" "LZhegalkinBench$TextReader;", Cond.fieldLink RX1 41 "ZhegalkinBench" "sums" "[I", Cond.fieldLink RX1 44 "ZhegalkinBench" "printed" "[C", Cond.fieldLink RX1 47 "ZhegalkinBench" "printedCount" "I", Cond.fieldLink RX1 50 "ZhegalkinBench" "VARIABLE_TABLES" "[I", Cond.constant RX1 53 (65535), Cond.instanceMethod yX0_init, Cond.code yX0_init cX0_init 1 none, Cond.methodLink RX0 3 objectInit]
def wsX1_init_r2 : List Cond := [Cond.fieldLink RX0 11 "ZhegalkinBench$TextReader" "where" "I", Cond.fieldLink RX0 15 "ZhegalkinBench$TextReader" "finished" "I", Cond.fieldLink RX0 18 "ZhegalkinBench$TextReader" "product" "I", Cond.fieldLink RX0 21 "ZhegalkinBench$TextReader" "nextVariable" "I"]
def wsX1_init : List Cond := .code yX1_init cX1_init 2 none :: ((wsX1_init_r1 ++ wsX1_init_r2) ++ wsX10 ++ wsX00)
def wsX1_checkFunction : List Cond := .code yX1_checkFunction cX1_checkFunction 1 none :: ([.classLink RX1 116 "java/lang/IndexOutOfBoundsException", .initialized "java/lang/IndexOutOfBoundsException"] ++ (vx_atS RX1 120 "java/lang/IndexOutOfBoundsException" ["java/lang/RuntimeException", "java/lang/Exception"]).filter goodWord)
def wsX1_validTextProducts_r1 : List Cond := [Cond.classLink RX1 94 "java/lang/IllegalStateException", Cond.initialized "java/lang/IllegalStateException", Cond.fieldLink RX1 37 "ZhegalkinBench" "reader" "LZhegalkinBench$TextReader;", Cond.fieldLink RX1 27 "ZhegalkinBench" "text" "[C", Cond.fieldLink RX1 31 "ZhegalkinBench" "textLength" "I", Cond.instanceMethod yX0_firstError, Cond.initialized RX0, Cond.selects RX0 yX0_firstError yX0_firstError, Cond.code yX0_firstError cX0_firstError 4 (some .int), Cond.fieldLink RX0 11 "ZhegalkinBench$TextReader" "where" "I", Cond.fieldLink RX0 15 "ZhegalkinBench$TextReader" "finished" "I", Cond.methodLink RX0 24 yX0_startProduct, Cond.instanceMethod yX0_startProduct, Cond.selects RX0 yX0_startProduct yX0_startProduct, Cond.code yX0_startProduct cX0_startProduct 1 none, Cond.fieldLink RX0 18 "ZhegalkinBench$TextReader" "product" "I", Cond.fieldLink RX0 21 "ZhegalkinBench$TextReader" "nextVariable" "I", Cond.methodLink RX0 27 yX0_takes, Cond.instanceMethod yX0_takes, Cond.selects RX0 yX0_takes yX0_takes, Cond.code yX0_takes cX0_takes 2 (some .boolean), Cond.methodLink RX0 43 yX0_takesZero, Cond.instanceMethod yX0_takesZero, Cond.selects RX0 yX0_takesZero yX0_takesZero]
def wsX1_validTextProducts_r2 : List Cond := [Cond.code yX0_takesZero cX0_takesZero 1 (some .boolean), Cond.methodLink RX0 46 yX0_takesOne, Cond.instanceMethod yX0_takesOne, Cond.selects RX0 yX0_takesOne yX0_takesOne, Cond.code yX0_takesOne cX0_takesOne 2 (some .boolean), Cond.methodLink RX0 35 yX0_isNew, Cond.instanceMethod yX0_isNew, Cond.selects RX0 yX0_isNew yX0_isNew, Cond.code yX0_isNew cX0_isNew 2 (some .boolean), Cond.static yX1_bit, Cond.initialized RX1, Cond.code yX1_bit cX1_bit 2 (some .int), Cond.methodLink RX0 49 yX0_takesPlus, Cond.instanceMethod yX0_takesPlus, Cond.selects RX0 yX0_takesPlus yX0_takesPlus, Cond.code yX0_takesPlus cX0_takesPlus 2 (some .boolean), Cond.constant RX0 55 (65535), Cond.methodLink RX0 52 yX0_takesVariable, Cond.instanceMethod yX0_takesVariable, Cond.selects RX0 yX0_takesVariable yX0_takesVariable, Cond.code yX0_takesVariable cX0_takesVariable 3 (some .boolean), Cond.methodLink RX0 56 yX0_canBecomeNew, Cond.instanceMethod yX0_canBecomeNew, Cond.selects RX0 yX0_canBecomeNew yX0_canBecomeNew]
def wsX1_validTextProducts_r3 : List Cond := [Cond.code yX0_canBecomeNew cX0_canBecomeNew 5 (some .boolean), Cond.methodLink RX0 31 yX0_canEnd, Cond.instanceMethod yX0_canEnd, Cond.selects RX0 yX0_canEnd yX0_canEnd, Cond.code yX0_canEnd cX0_canEnd 1 (some .boolean), Cond.instanceMethod yX0_productsRead, Cond.selects RX0 yX0_productsRead yX0_productsRead, Cond.code yX0_productsRead cX0_productsRead 1 (some .int)]
def wsX1_validTextProducts : List Cond := .code yX1_validTextProducts cX1_validTextProducts 1 (some .int) :: ((wsX1_validTextProducts_r1 ++ (wsX1_validTextProducts_r2 ++ wsX1_validTextProducts_r3)) ++ wsX10 ++ wsX00 ++ (vx_atS RX1 98 "java/lang/IllegalStateException" ["java/lang/RuntimeException", "java/lang/Exception"]).filter goodWord)
def wsX1_recordState : List Cond := .code yX1_recordState cX1_recordState 1 none :: ([.fieldLink RX1 16 "ZhegalkinBench" "recordedCount" "I", .fieldLink RX1 13 "ZhegalkinBench" "recorded" "[I", .methodLink RX1 105 arraycopyName, .native arraycopyName, .static arraycopyName, .initialized "java/lang/System", .fieldLink RX1 9 "ZhegalkinBench" "tables" "[I"] ++ wsX10)
def wsX1_addHalves : List Cond := .code yX1_addHalves cX1_addHalves 4 (some .int) :: ([.fieldLink RX1 50 "ZhegalkinBench" "VARIABLE_TABLES" "[I"])
def wsJ6_bitCount_0f7a4 : List Cond := .code yJ6_bitCount_0f7a4 cJ6_bitCount_0f7a4 1 (some .int) :: ([.constant RJ6 265 (1431655765), .constant RJ6 266 (858993459), .constant RJ6 267 (252645135)])
def wsX1_define_r1 : List Cond := [Cond.fieldLink RX1 9 "ZhegalkinBench" "tables" "[I", Cond.methodLink RX1 54 yX1_checkFunction, Cond.static yX1_checkFunction, Cond.initialized RX1, Cond.code yX1_checkFunction cX1_checkFunction 1 none, Cond.classLink RX1 116 "java/lang/IndexOutOfBoundsException", Cond.initialized "java/lang/IndexOutOfBoundsException", Cond.methodLink RX1 58 yX1_validTextProducts, Cond.instanceMethod yX1_validTextProducts, Cond.selects RX1 yX1_validTextProducts yX1_validTextProducts, Cond.code yX1_validTextProducts cX1_validTextProducts 1 (some .int), Cond.classLink RX1 94 "java/lang/IllegalStateException", Cond.initialized "java/lang/IllegalStateException", Cond.fieldLink RX1 37 "ZhegalkinBench" "reader" "LZhegalkinBench$TextReader;", Cond.fieldLink RX1 27 "ZhegalkinBench" "text" "[C", Cond.fieldLink RX1 31 "ZhegalkinBench" "textLength" "I", Cond.instanceMethod yX0_firstError, Cond.initialized RX0, Cond.selects RX0 yX0_firstError yX0_firstError, Cond.code yX0_firstError cX0_firstError 4 (some .int), Cond.fieldLink RX0 11 "ZhegalkinBench$TextReader" "where" "I", Cond.fieldLink RX0 15 "ZhegalkinBench$TextReader" "finished" "I", Cond.methodLink RX0 24 yX0_startProduct, Cond.instanceMethod yX0_startProduct]
def wsX1_define_r2 : List Cond := [Cond.selects RX0 yX0_startProduct yX0_startProduct, Cond.code yX0_startProduct cX0_startProduct 1 none, Cond.fieldLink RX0 18 "ZhegalkinBench$TextReader" "product" "I", Cond.fieldLink RX0 21 "ZhegalkinBench$TextReader" "nextVariable" "I", Cond.methodLink RX0 27 yX0_takes, Cond.instanceMethod yX0_takes, Cond.selects RX0 yX0_takes yX0_takes, Cond.code yX0_takes cX0_takes 2 (some .boolean), Cond.methodLink RX0 43 yX0_takesZero, Cond.instanceMethod yX0_takesZero, Cond.selects RX0 yX0_takesZero yX0_takesZero, Cond.code yX0_takesZero cX0_takesZero 1 (some .boolean), Cond.methodLink RX0 46 yX0_takesOne, Cond.instanceMethod yX0_takesOne, Cond.selects RX0 yX0_takesOne yX0_takesOne, Cond.code yX0_takesOne cX0_takesOne 2 (some .boolean), Cond.methodLink RX0 35 yX0_isNew, Cond.instanceMethod yX0_isNew, Cond.selects RX0 yX0_isNew yX0_isNew, Cond.code yX0_isNew cX0_isNew 2 (some .boolean), Cond.static yX1_bit, Cond.code yX1_bit cX1_bit 2 (some .int), Cond.methodLink RX0 49 yX0_takesPlus, Cond.instanceMethod yX0_takesPlus]
def wsX1_define_r3 : List Cond := [Cond.selects RX0 yX0_takesPlus yX0_takesPlus, Cond.code yX0_takesPlus cX0_takesPlus 2 (some .boolean), Cond.constant RX0 55 (65535), Cond.methodLink RX0 52 yX0_takesVariable, Cond.instanceMethod yX0_takesVariable, Cond.selects RX0 yX0_takesVariable yX0_takesVariable, Cond.code yX0_takesVariable cX0_takesVariable 3 (some .boolean), Cond.methodLink RX0 56 yX0_canBecomeNew, Cond.instanceMethod yX0_canBecomeNew, Cond.selects RX0 yX0_canBecomeNew yX0_canBecomeNew, Cond.code yX0_canBecomeNew cX0_canBecomeNew 5 (some .boolean), Cond.methodLink RX0 31 yX0_canEnd, Cond.instanceMethod yX0_canEnd, Cond.selects RX0 yX0_canEnd yX0_canEnd, Cond.code yX0_canEnd cX0_canEnd 1 (some .boolean), Cond.instanceMethod yX0_productsRead, Cond.selects RX0 yX0_productsRead yX0_productsRead, Cond.code yX0_productsRead cX0_productsRead 1 (some .int), Cond.methodLink RX1 62 yX1_recordState, Cond.instanceMethod yX1_recordState, Cond.selects RX1 yX1_recordState yX1_recordState, Cond.code yX1_recordState cX1_recordState 1 none, Cond.fieldLink RX1 16 "ZhegalkinBench" "recordedCount" "I", Cond.fieldLink RX1 13 "ZhegalkinBench" "recorded" "[I"]
def wsX1_define_r4 : List Cond := [Cond.methodLink RX1 105 arraycopyName, Cond.native arraycopyName, Cond.static arraycopyName, Cond.initialized "java/lang/System", Cond.methodLink RX1 65 yX1_addHalves, Cond.static yX1_addHalves, Cond.code yX1_addHalves cX1_addHalves 4 (some .int), Cond.fieldLink RX1 50 "ZhegalkinBench" "VARIABLE_TABLES" "[I", Cond.methodLink RX1 69 yJ6_bitCount_0f7a4, Cond.static yJ6_bitCount_0f7a4, Cond.initialized RJ6, Cond.code yJ6_bitCount_0f7a4 cJ6_bitCount_0f7a4 1 (some .int), Cond.constant RJ6 265 (1431655765), Cond.constant RJ6 266 (858993459), Cond.constant RJ6 267 (252645135)]
def wsX1_define : List Cond := .code yX1_define cX1_define 3 (some .int) :: ((wsX1_define_r1 ++ (wsX1_define_r2 ++ (wsX1_define_r3 ++ wsX1_define_r4))) ++ wsX10 ++ wsX00 ++ (vx_atS RX1 120 "java/lang/IndexOutOfBoundsException" ["java/lang/RuntimeException", "java/lang/Exception"]).filter goodWord ++ (vx_atS RX1 98 "java/lang/IllegalStateException" ["java/lang/RuntimeException", "java/lang/Exception"]).filter goodWord)
def wsX1_setTable : List Cond := .code yX1_setTable cX1_setTable 4 (some .int) :: ([.classLink RX1 74 "java/lang/IllegalArgumentException", .initialized "java/lang/IllegalArgumentException", .constant RX1 53 (65535), .fieldLink RX1 9 "ZhegalkinBench" "tables" "[I", .methodLink RX1 54 yX1_checkFunction, .static yX1_checkFunction, .initialized RX1, .code yX1_checkFunction cX1_checkFunction 1 none, .classLink RX1 116 "java/lang/IndexOutOfBoundsException", .initialized "java/lang/IndexOutOfBoundsException", .methodLink RX1 62 yX1_recordState, .instanceMethod yX1_recordState, .selects RX1 yX1_recordState yX1_recordState, .code yX1_recordState cX1_recordState 1 none, .fieldLink RX1 16 "ZhegalkinBench" "recordedCount" "I", .fieldLink RX1 13 "ZhegalkinBench" "recorded" "[I", .methodLink RX1 105 arraycopyName, .native arraycopyName, .static arraycopyName, .initialized "java/lang/System"] ++ wsX10 ++ (vx_atS RX1 78 "java/lang/IllegalArgumentException" ["java/lang/RuntimeException", "java/lang/Exception"]).filter goodWord ++ (vx_atS RX1 120 "java/lang/IndexOutOfBoundsException" ["java/lang/RuntimeException", "java/lang/Exception"]).filter goodWord)
def wsX1_joinTables : List Cond := .code yX1_joinTables cX1_joinTables 3 (some .int) :: ([.constant RX1 53 (65535)])
def wsX1_join : List Cond := .code yX1_join cX1_join 6 (some .int) :: ([.classLink RX1 74 "java/lang/IllegalArgumentException", .initialized "java/lang/IllegalArgumentException", .fieldLink RX1 9 "ZhegalkinBench" "tables" "[I", .methodLink RX1 54 yX1_checkFunction, .static yX1_checkFunction, .initialized RX1, .code yX1_checkFunction cX1_checkFunction 1 none, .classLink RX1 116 "java/lang/IndexOutOfBoundsException", .initialized "java/lang/IndexOutOfBoundsException", .methodLink RX1 83 yX1_joinTables, .static yX1_joinTables, .code yX1_joinTables cX1_joinTables 3 (some .int), .constant RX1 53 (65535), .methodLink RX1 62 yX1_recordState, .instanceMethod yX1_recordState, .selects RX1 yX1_recordState yX1_recordState, .code yX1_recordState cX1_recordState 1 none, .fieldLink RX1 16 "ZhegalkinBench" "recordedCount" "I", .fieldLink RX1 13 "ZhegalkinBench" "recorded" "[I", .methodLink RX1 105 arraycopyName, .native arraycopyName, .static arraycopyName, .initialized "java/lang/System"] ++ wsX10 ++ (vx_atS RX1 78 "java/lang/IllegalArgumentException" ["java/lang/RuntimeException", "java/lang/Exception"]).filter goodWord ++ (vx_atS RX1 120 "java/lang/IndexOutOfBoundsException" ["java/lang/RuntimeException", "java/lang/Exception"]).filter goodWord)
def wsX1_checkVariable : List Cond := .code yX1_checkVariable cX1_checkVariable 1 none :: ([.classLink RX1 116 "java/lang/IndexOutOfBoundsException", .initialized "java/lang/IndexOutOfBoundsException"] ++ (vx_atS RX1 120 "java/lang/IndexOutOfBoundsException" ["java/lang/RuntimeException", "java/lang/Exception"]).filter goodWord)
def wsX1_half : List Cond := .code yX1_half cX1_half 5 (some .int) :: ([.fieldLink RX1 50 "ZhegalkinBench" "VARIABLE_TABLES" "[I"])
def wsX1_fix : List Cond := .code yX1_fix cX1_fix 4 (some .int) :: ([.fieldLink RX1 9 "ZhegalkinBench" "tables" "[I", .methodLink RX1 54 yX1_checkFunction, .static yX1_checkFunction, .initialized RX1, .code yX1_checkFunction cX1_checkFunction 1 none, .classLink RX1 116 "java/lang/IndexOutOfBoundsException", .initialized "java/lang/IndexOutOfBoundsException", .methodLink RX1 87 yX1_checkVariable, .static yX1_checkVariable, .code yX1_checkVariable cX1_checkVariable 1 none, .methodLink RX1 62 yX1_recordState, .instanceMethod yX1_recordState, .selects RX1 yX1_recordState yX1_recordState, .code yX1_recordState cX1_recordState 1 none, .fieldLink RX1 16 "ZhegalkinBench" "recordedCount" "I", .fieldLink RX1 13 "ZhegalkinBench" "recorded" "[I", .methodLink RX1 105 arraycopyName, .native arraycopyName, .static arraycopyName, .initialized "java/lang/System", .methodLink RX1 90 yX1_half, .static yX1_half, .code yX1_half cX1_half 5 (some .int), .fieldLink RX1 50 "ZhegalkinBench" "VARIABLE_TABLES" "[I"] ++ wsX10 ++ (vx_atS RX1 120 "java/lang/IndexOutOfBoundsException" ["java/lang/RuntimeException", "java/lang/Exception"]).filter goodWord)
def wsX1_substitute : List Cond := .code yX1_substitute cX1_substitute 7 (some .int) :: ([.fieldLink RX1 9 "ZhegalkinBench" "tables" "[I", .methodLink RX1 54 yX1_checkFunction, .static yX1_checkFunction, .initialized RX1, .code yX1_checkFunction cX1_checkFunction 1 none, .classLink RX1 116 "java/lang/IndexOutOfBoundsException", .initialized "java/lang/IndexOutOfBoundsException", .methodLink RX1 87 yX1_checkVariable, .static yX1_checkVariable, .code yX1_checkVariable cX1_checkVariable 1 none, .methodLink RX1 90 yX1_half, .static yX1_half, .code yX1_half cX1_half 5 (some .int), .fieldLink RX1 50 "ZhegalkinBench" "VARIABLE_TABLES" "[I", .methodLink RX1 62 yX1_recordState, .instanceMethod yX1_recordState, .selects RX1 yX1_recordState yX1_recordState, .code yX1_recordState cX1_recordState 1 none, .fieldLink RX1 16 "ZhegalkinBench" "recordedCount" "I", .fieldLink RX1 13 "ZhegalkinBench" "recorded" "[I", .methodLink RX1 105 arraycopyName, .native arraycopyName, .static arraycopyName, .initialized "java/lang/System"] ++ wsX10 ++ (vx_atS RX1 120 "java/lang/IndexOutOfBoundsException" ["java/lang/RuntimeException", "java/lang/Exception"]).filter goodWord)
def wsX1_type : List Cond := .code yX1_type cX1_type 2 (some .int) :: ([.classLink RX1 94 "java/lang/IllegalStateException", .initialized "java/lang/IllegalStateException", .fieldLink RX1 31 "ZhegalkinBench" "textLength" "I", .fieldLink RX1 27 "ZhegalkinBench" "text" "[C"] ++ wsX10 ++ (vx_atS RX1 98 "java/lang/IllegalStateException" ["java/lang/RuntimeException", "java/lang/Exception"]).filter goodWord)
def wsX1_clearText : List Cond := .code yX1_clearText cX1_clearText 2 (some .int) :: ([.fieldLink RX1 31 "ZhegalkinBench" "textLength" "I"] ++ wsX10)
def wsX1_textError_r1 : List Cond := [Cond.fieldLink RX1 37 "ZhegalkinBench" "reader" "LZhegalkinBench$TextReader;", Cond.fieldLink RX1 27 "ZhegalkinBench" "text" "[C", Cond.fieldLink RX1 31 "ZhegalkinBench" "textLength" "I", Cond.instanceMethod yX0_firstError, Cond.initialized RX0, Cond.selects RX0 yX0_firstError yX0_firstError, Cond.code yX0_firstError cX0_firstError 4 (some .int), Cond.fieldLink RX0 11 "ZhegalkinBench$TextReader" "where" "I", Cond.fieldLink RX0 15 "ZhegalkinBench$TextReader" "finished" "I", Cond.methodLink RX0 24 yX0_startProduct, Cond.instanceMethod yX0_startProduct, Cond.selects RX0 yX0_startProduct yX0_startProduct, Cond.code yX0_startProduct cX0_startProduct 1 none, Cond.fieldLink RX0 18 "ZhegalkinBench$TextReader" "product" "I", Cond.fieldLink RX0 21 "ZhegalkinBench$TextReader" "nextVariable" "I", Cond.methodLink RX0 27 yX0_takes, Cond.instanceMethod yX0_takes, Cond.selects RX0 yX0_takes yX0_takes, Cond.code yX0_takes cX0_takes 2 (some .boolean), Cond.methodLink RX0 43 yX0_takesZero, Cond.instanceMethod yX0_takesZero, Cond.selects RX0 yX0_takesZero yX0_takesZero, Cond.code yX0_takesZero cX0_takesZero 1 (some .boolean), Cond.methodLink RX0 46 yX0_takesOne]
def wsX1_textError_r2 : List Cond := [Cond.instanceMethod yX0_takesOne, Cond.selects RX0 yX0_takesOne yX0_takesOne, Cond.code yX0_takesOne cX0_takesOne 2 (some .boolean), Cond.methodLink RX0 35 yX0_isNew, Cond.instanceMethod yX0_isNew, Cond.selects RX0 yX0_isNew yX0_isNew, Cond.code yX0_isNew cX0_isNew 2 (some .boolean), Cond.static yX1_bit, Cond.initialized RX1, Cond.code yX1_bit cX1_bit 2 (some .int), Cond.methodLink RX0 49 yX0_takesPlus, Cond.instanceMethod yX0_takesPlus, Cond.selects RX0 yX0_takesPlus yX0_takesPlus, Cond.code yX0_takesPlus cX0_takesPlus 2 (some .boolean), Cond.constant RX0 55 (65535), Cond.methodLink RX0 52 yX0_takesVariable, Cond.instanceMethod yX0_takesVariable, Cond.selects RX0 yX0_takesVariable yX0_takesVariable, Cond.code yX0_takesVariable cX0_takesVariable 3 (some .boolean), Cond.methodLink RX0 56 yX0_canBecomeNew, Cond.instanceMethod yX0_canBecomeNew, Cond.selects RX0 yX0_canBecomeNew yX0_canBecomeNew, Cond.code yX0_canBecomeNew cX0_canBecomeNew 5 (some .boolean), Cond.methodLink RX0 31 yX0_canEnd]
def wsX1_textError_r3 : List Cond := [Cond.instanceMethod yX0_canEnd, Cond.selects RX0 yX0_canEnd yX0_canEnd, Cond.code yX0_canEnd cX0_canEnd 1 (some .boolean)]
def wsX1_textError : List Cond := .code yX1_textError cX1_textError 1 (some .int) :: ((wsX1_textError_r1 ++ (wsX1_textError_r2 ++ wsX1_textError_r3)) ++ wsX10 ++ wsX00)
def wsX1_textProducts_r1 : List Cond := [Cond.methodLink RX1 58 yX1_validTextProducts, Cond.instanceMethod yX1_validTextProducts, Cond.selects RX1 yX1_validTextProducts yX1_validTextProducts, Cond.initialized RX1, Cond.code yX1_validTextProducts cX1_validTextProducts 1 (some .int), Cond.classLink RX1 94 "java/lang/IllegalStateException", Cond.initialized "java/lang/IllegalStateException", Cond.fieldLink RX1 37 "ZhegalkinBench" "reader" "LZhegalkinBench$TextReader;", Cond.fieldLink RX1 27 "ZhegalkinBench" "text" "[C", Cond.fieldLink RX1 31 "ZhegalkinBench" "textLength" "I", Cond.instanceMethod yX0_firstError, Cond.initialized RX0, Cond.selects RX0 yX0_firstError yX0_firstError, Cond.code yX0_firstError cX0_firstError 4 (some .int), Cond.fieldLink RX0 11 "ZhegalkinBench$TextReader" "where" "I", Cond.fieldLink RX0 15 "ZhegalkinBench$TextReader" "finished" "I", Cond.methodLink RX0 24 yX0_startProduct, Cond.instanceMethod yX0_startProduct, Cond.selects RX0 yX0_startProduct yX0_startProduct, Cond.code yX0_startProduct cX0_startProduct 1 none, Cond.fieldLink RX0 18 "ZhegalkinBench$TextReader" "product" "I", Cond.fieldLink RX0 21 "ZhegalkinBench$TextReader" "nextVariable" "I", Cond.methodLink RX0 27 yX0_takes, Cond.instanceMethod yX0_takes]
def wsX1_textProducts_r2 : List Cond := [Cond.selects RX0 yX0_takes yX0_takes, Cond.code yX0_takes cX0_takes 2 (some .boolean), Cond.methodLink RX0 43 yX0_takesZero, Cond.instanceMethod yX0_takesZero, Cond.selects RX0 yX0_takesZero yX0_takesZero, Cond.code yX0_takesZero cX0_takesZero 1 (some .boolean), Cond.methodLink RX0 46 yX0_takesOne, Cond.instanceMethod yX0_takesOne, Cond.selects RX0 yX0_takesOne yX0_takesOne, Cond.code yX0_takesOne cX0_takesOne 2 (some .boolean), Cond.methodLink RX0 35 yX0_isNew, Cond.instanceMethod yX0_isNew, Cond.selects RX0 yX0_isNew yX0_isNew, Cond.code yX0_isNew cX0_isNew 2 (some .boolean), Cond.static yX1_bit, Cond.code yX1_bit cX1_bit 2 (some .int), Cond.methodLink RX0 49 yX0_takesPlus, Cond.instanceMethod yX0_takesPlus, Cond.selects RX0 yX0_takesPlus yX0_takesPlus, Cond.code yX0_takesPlus cX0_takesPlus 2 (some .boolean), Cond.constant RX0 55 (65535), Cond.methodLink RX0 52 yX0_takesVariable, Cond.instanceMethod yX0_takesVariable, Cond.selects RX0 yX0_takesVariable yX0_takesVariable]
def wsX1_textProducts_r3 : List Cond := [Cond.code yX0_takesVariable cX0_takesVariable 3 (some .boolean), Cond.methodLink RX0 56 yX0_canBecomeNew, Cond.instanceMethod yX0_canBecomeNew, Cond.selects RX0 yX0_canBecomeNew yX0_canBecomeNew, Cond.code yX0_canBecomeNew cX0_canBecomeNew 5 (some .boolean), Cond.methodLink RX0 31 yX0_canEnd, Cond.instanceMethod yX0_canEnd, Cond.selects RX0 yX0_canEnd yX0_canEnd, Cond.code yX0_canEnd cX0_canEnd 1 (some .boolean), Cond.instanceMethod yX0_productsRead, Cond.selects RX0 yX0_productsRead yX0_productsRead, Cond.code yX0_productsRead cX0_productsRead 1 (some .int)]
def wsX1_textProducts : List Cond := .code yX1_textProducts cX1_textProducts 1 (some .int) :: ((wsX1_textProducts_r1 ++ (wsX1_textProducts_r2 ++ wsX1_textProducts_r3)) ++ wsX10 ++ wsX00 ++ (vx_atS RX1 98 "java/lang/IllegalStateException" ["java/lang/RuntimeException", "java/lang/Exception"]).filter goodWord)
def wsX1_undo : List Cond := .code yX1_undo cX1_undo 1 (some .int) :: ([.classLink RX1 94 "java/lang/IllegalStateException", .initialized "java/lang/IllegalStateException", .fieldLink RX1 16 "ZhegalkinBench" "recordedCount" "I", .fieldLink RX1 13 "ZhegalkinBench" "recorded" "[I", .fieldLink RX1 9 "ZhegalkinBench" "tables" "[I", .methodLink RX1 105 arraycopyName, .native arraycopyName, .static arraycopyName, .initialized "java/lang/System"] ++ wsX10 ++ (vx_atS RX1 98 "java/lang/IllegalStateException" ["java/lang/RuntimeException", "java/lang/Exception"]).filter goodWord)
def wsX1_countAllProducts : List Cond := .code yX1_countAllProducts cX1_countAllProducts 3 (some .int) :: ([.fieldLink RX1 9 "ZhegalkinBench" "tables" "[I", .methodLink RX1 65 yX1_addHalves, .static yX1_addHalves, .initialized RX1, .code yX1_addHalves cX1_addHalves 4 (some .int), .fieldLink RX1 50 "ZhegalkinBench" "VARIABLE_TABLES" "[I", .methodLink RX1 69 yJ6_bitCount_0f7a4, .static yJ6_bitCount_0f7a4, .initialized RJ6, .code yJ6_bitCount_0f7a4 cJ6_bitCount_0f7a4 1 (some .int), .constant RJ6 265 (1431655765), .constant RJ6 266 (858993459), .constant RJ6 267 (252645135)] ++ wsX10)
def wsX1_takeSnapshot : List Cond := .code yX1_takeSnapshot cX1_takeSnapshot 1 (some .int) :: ([.fieldLink RX1 9 "ZhegalkinBench" "tables" "[I", .fieldLink RX1 20 "ZhegalkinBench" "snapshot" "[I", .methodLink RX1 105 arraycopyName, .native arraycopyName, .static arraycopyName, .initialized "java/lang/System", .fieldLink RX1 23 "ZhegalkinBench" "hasSnapshot" "Z", .methodLink RX1 111 yX1_countAllProducts, .instanceMethod yX1_countAllProducts, .selects RX1 yX1_countAllProducts yX1_countAllProducts, .initialized RX1, .code yX1_countAllProducts cX1_countAllProducts 3 (some .int), .methodLink RX1 65 yX1_addHalves, .static yX1_addHalves, .code yX1_addHalves cX1_addHalves 4 (some .int), .fieldLink RX1 50 "ZhegalkinBench" "VARIABLE_TABLES" "[I", .methodLink RX1 69 yJ6_bitCount_0f7a4, .static yJ6_bitCount_0f7a4, .initialized RJ6, .code yJ6_bitCount_0f7a4 cJ6_bitCount_0f7a4 1 (some .int), .constant RJ6 265 (1431655765), .constant RJ6 266 (858993459), .constant RJ6 267 (252645135)] ++ wsX10)
def wsX1_restoreSnapshot_r1 : List Cond := [Cond.classLink RX1 94 "java/lang/IllegalStateException", Cond.initialized "java/lang/IllegalStateException", Cond.fieldLink RX1 23 "ZhegalkinBench" "hasSnapshot" "Z", Cond.fieldLink RX1 20 "ZhegalkinBench" "snapshot" "[I", Cond.fieldLink RX1 9 "ZhegalkinBench" "tables" "[I", Cond.methodLink RX1 105 arraycopyName, Cond.native arraycopyName, Cond.static arraycopyName, Cond.initialized "java/lang/System", Cond.methodLink RX1 62 yX1_recordState, Cond.instanceMethod yX1_recordState, Cond.selects RX1 yX1_recordState yX1_recordState, Cond.initialized RX1, Cond.code yX1_recordState cX1_recordState 1 none, Cond.fieldLink RX1 16 "ZhegalkinBench" "recordedCount" "I", Cond.fieldLink RX1 13 "ZhegalkinBench" "recorded" "[I", Cond.methodLink RX1 111 yX1_countAllProducts, Cond.instanceMethod yX1_countAllProducts, Cond.selects RX1 yX1_countAllProducts yX1_countAllProducts, Cond.code yX1_countAllProducts cX1_countAllProducts 3 (some .int), Cond.methodLink RX1 65 yX1_addHalves, Cond.static yX1_addHalves, Cond.code yX1_addHalves cX1_addHalves 4 (some .int), Cond.fieldLink RX1 50 "ZhegalkinBench" "VARIABLE_TABLES" "[I"]
def wsX1_restoreSnapshot_r2 : List Cond := [Cond.methodLink RX1 69 yJ6_bitCount_0f7a4, Cond.static yJ6_bitCount_0f7a4, Cond.initialized RJ6, Cond.code yJ6_bitCount_0f7a4 cJ6_bitCount_0f7a4 1 (some .int), Cond.constant RJ6 265 (1431655765), Cond.constant RJ6 266 (858993459), Cond.constant RJ6 267 (252645135)]
def wsX1_restoreSnapshot : List Cond := .code yX1_restoreSnapshot cX1_restoreSnapshot 1 (some .int) :: ((wsX1_restoreSnapshot_r1 ++ wsX1_restoreSnapshot_r2) ++ wsX10 ++ (vx_atS RX1 98 "java/lang/IllegalStateException" ["java/lang/RuntimeException", "java/lang/Exception"]).filter goodWord)
def wsX1_tableOf : List Cond := .code yX1_tableOf cX1_tableOf 2 (some .int) :: ([.fieldLink RX1 9 "ZhegalkinBench" "tables" "[I", .methodLink RX1 54 yX1_checkFunction, .static yX1_checkFunction, .initialized RX1, .code yX1_checkFunction cX1_checkFunction 1 none, .classLink RX1 116 "java/lang/IndexOutOfBoundsException", .initialized "java/lang/IndexOutOfBoundsException"] ++ wsX10 ++ (vx_atS RX1 120 "java/lang/IndexOutOfBoundsException" ["java/lang/RuntimeException", "java/lang/Exception"]).filter goodWord)
def wsX1_valueAt : List Cond := .code yX1_valueAt cX1_valueAt 3 (some .int) :: ([.classLink RX1 116 "java/lang/IndexOutOfBoundsException", .initialized "java/lang/IndexOutOfBoundsException", .fieldLink RX1 9 "ZhegalkinBench" "tables" "[I", .methodLink RX1 54 yX1_checkFunction, .static yX1_checkFunction, .initialized RX1, .code yX1_checkFunction cX1_checkFunction 1 none, .methodLink RX1 121 yX1_bit, .static yX1_bit, .code yX1_bit cX1_bit 2 (some .int)] ++ wsX10 ++ (vx_atS RX1 120 "java/lang/IndexOutOfBoundsException" ["java/lang/RuntimeException", "java/lang/Exception"]).filter goodWord)
def wsX1_weightOf : List Cond := .code yX1_weightOf cX1_weightOf 2 (some .int) :: ([.fieldLink RX1 9 "ZhegalkinBench" "tables" "[I", .methodLink RX1 54 yX1_checkFunction, .static yX1_checkFunction, .initialized RX1, .code yX1_checkFunction cX1_checkFunction 1 none, .classLink RX1 116 "java/lang/IndexOutOfBoundsException", .initialized "java/lang/IndexOutOfBoundsException", .methodLink RX1 69 yJ6_bitCount_0f7a4, .static yJ6_bitCount_0f7a4, .initialized RJ6, .code yJ6_bitCount_0f7a4 cJ6_bitCount_0f7a4 1 (some .int), .constant RJ6 265 (1431655765), .constant RJ6 266 (858993459), .constant RJ6 267 (252645135)] ++ wsX10 ++ (vx_atS RX1 120 "java/lang/IndexOutOfBoundsException" ["java/lang/RuntimeException", "java/lang/Exception"]).filter goodWord)
def wsX1_dependsOn : List Cond := .code yX1_dependsOn cX1_dependsOn 3 (some .boolean) :: ([.fieldLink RX1 9 "ZhegalkinBench" "tables" "[I", .methodLink RX1 54 yX1_checkFunction, .static yX1_checkFunction, .initialized RX1, .code yX1_checkFunction cX1_checkFunction 1 none, .classLink RX1 116 "java/lang/IndexOutOfBoundsException", .initialized "java/lang/IndexOutOfBoundsException", .methodLink RX1 87 yX1_checkVariable, .static yX1_checkVariable, .code yX1_checkVariable cX1_checkVariable 1 none, .methodLink RX1 90 yX1_half, .static yX1_half, .code yX1_half cX1_half 5 (some .int), .fieldLink RX1 50 "ZhegalkinBench" "VARIABLE_TABLES" "[I"] ++ wsX10 ++ (vx_atS RX1 120 "java/lang/IndexOutOfBoundsException" ["java/lang/RuntimeException", "java/lang/Exception"]).filter goodWord)
def wsX1_productsByHalves : List Cond := .code yX1_productsByHalves cX1_productsByHalves 2 (some .int) :: ([.fieldLink RX1 9 "ZhegalkinBench" "tables" "[I", .methodLink RX1 54 yX1_checkFunction, .static yX1_checkFunction, .initialized RX1, .code yX1_checkFunction cX1_checkFunction 1 none, .classLink RX1 116 "java/lang/IndexOutOfBoundsException", .initialized "java/lang/IndexOutOfBoundsException", .methodLink RX1 65 yX1_addHalves, .static yX1_addHalves, .code yX1_addHalves cX1_addHalves 4 (some .int), .fieldLink RX1 50 "ZhegalkinBench" "VARIABLE_TABLES" "[I"] ++ wsX10 ++ (vx_atS RX1 120 "java/lang/IndexOutOfBoundsException" ["java/lang/RuntimeException", "java/lang/Exception"]).filter goodWord)
def wsX1_sumBelow : List Cond := .code yX1_sumBelow cX1_sumBelow 4 (some .int) :: ([.methodLink RX1 121 yX1_bit, .static yX1_bit, .initialized RX1, .code yX1_bit cX1_bit 2 (some .int)])
def wsX1_productsBySums : List Cond := .code yX1_productsBySums cX1_productsBySums 4 (some .int) :: ([.fieldLink RX1 9 "ZhegalkinBench" "tables" "[I", .methodLink RX1 54 yX1_checkFunction, .static yX1_checkFunction, .initialized RX1, .code yX1_checkFunction cX1_checkFunction 1 none, .classLink RX1 116 "java/lang/IndexOutOfBoundsException", .initialized "java/lang/IndexOutOfBoundsException", .methodLink RX1 125 yX1_sumBelow, .static yX1_sumBelow, .code yX1_sumBelow cX1_sumBelow 4 (some .int), .methodLink RX1 121 yX1_bit, .static yX1_bit, .code yX1_bit cX1_bit 2 (some .int)] ++ wsX10 ++ (vx_atS RX1 120 "java/lang/IndexOutOfBoundsException" ["java/lang/RuntimeException", "java/lang/Exception"]).filter goodWord)
def wsX1_degree : List Cond := .code yX1_degree cX1_degree 4 (some .int) :: ([.methodLink RX1 150 Lib.Math.max.name, .static Lib.Math.max.name, .initialized "java/lang/Math", .code Lib.Math.max.name Lib.Math.max.code 2 (some .int), .methodLink RX1 65 yX1_addHalves, .static yX1_addHalves, .initialized RX1, .code yX1_addHalves cX1_addHalves 4 (some .int), .fieldLink RX1 50 "ZhegalkinBench" "VARIABLE_TABLES" "[I", .methodLink RX1 121 yX1_bit, .static yX1_bit, .code yX1_bit cX1_bit 2 (some .int), .methodLink RX1 69 yJ6_bitCount_0f7a4, .static yJ6_bitCount_0f7a4, .initialized RJ6, .code yJ6_bitCount_0f7a4 cJ6_bitCount_0f7a4 1 (some .int), .constant RJ6 265 (1431655765), .constant RJ6 266 (858993459), .constant RJ6 267 (252645135)])
def wsX1_degreeOf_r1 : List Cond := [Cond.fieldLink RX1 9 "ZhegalkinBench" "tables" "[I", Cond.methodLink RX1 54 yX1_checkFunction, Cond.static yX1_checkFunction, Cond.initialized RX1, Cond.code yX1_checkFunction cX1_checkFunction 1 none, Cond.classLink RX1 116 "java/lang/IndexOutOfBoundsException", Cond.initialized "java/lang/IndexOutOfBoundsException", Cond.methodLink RX1 128 yX1_degree, Cond.static yX1_degree, Cond.code yX1_degree cX1_degree 4 (some .int), Cond.methodLink RX1 150 Lib.Math.max.name, Cond.static Lib.Math.max.name, Cond.initialized "java/lang/Math", Cond.code Lib.Math.max.name Lib.Math.max.code 2 (some .int), Cond.methodLink RX1 65 yX1_addHalves, Cond.static yX1_addHalves, Cond.code yX1_addHalves cX1_addHalves 4 (some .int), Cond.fieldLink RX1 50 "ZhegalkinBench" "VARIABLE_TABLES" "[I", Cond.methodLink RX1 121 yX1_bit, Cond.static yX1_bit, Cond.code yX1_bit cX1_bit 2 (some .int), Cond.methodLink RX1 69 yJ6_bitCount_0f7a4, Cond.static yJ6_bitCount_0f7a4, Cond.initialized RJ6]
def wsX1_degreeOf_r2 : List Cond := [Cond.code yJ6_bitCount_0f7a4 cJ6_bitCount_0f7a4 1 (some .int), Cond.constant RJ6 265 (1431655765), Cond.constant RJ6 266 (858993459), Cond.constant RJ6 267 (252645135)]
def wsX1_degreeOf : List Cond := .code yX1_degreeOf cX1_degreeOf 2 (some .int) :: ((wsX1_degreeOf_r1 ++ wsX1_degreeOf_r2) ++ wsX10 ++ (vx_atS RX1 120 "java/lang/IndexOutOfBoundsException" ["java/lang/RuntimeException", "java/lang/Exception"]).filter goodWord)
def wsX1_put : List Cond := .code yX1_put cX1_put 2 none :: ([.fieldLink RX1 47 "ZhegalkinBench" "printedCount" "I", .fieldLink RX1 44 "ZhegalkinBench" "printed" "[C"] ++ wsX10)
def wsX1_printProduct : List Cond := .code yX1_printProduct cX1_printProduct 3 none :: ([.methodLink RX1 177 yX1_put, .instanceMethod yX1_put, .selects RX1 yX1_put yX1_put, .initialized RX1, .code yX1_put cX1_put 2 none, .fieldLink RX1 47 "ZhegalkinBench" "printedCount" "I", .fieldLink RX1 44 "ZhegalkinBench" "printed" "[C", .methodLink RX1 121 yX1_bit, .static yX1_bit, .code yX1_bit cX1_bit 2 (some .int)] ++ wsX10)
def wsX1_print : List Cond := .code yX1_print cX1_print 3 none :: ([.fieldLink RX1 47 "ZhegalkinBench" "printedCount" "I", .methodLink RX1 177 yX1_put, .instanceMethod yX1_put, .selects RX1 yX1_put yX1_put, .initialized RX1, .code yX1_put cX1_put 2 none, .fieldLink RX1 44 "ZhegalkinBench" "printed" "[C", .methodLink RX1 121 yX1_bit, .static yX1_bit, .code yX1_bit cX1_bit 2 (some .int), .methodLink RX1 181 yX1_printProduct, .instanceMethod yX1_printProduct, .selects RX1 yX1_printProduct yX1_printProduct, .code yX1_printProduct cX1_printProduct 3 none] ++ wsX10)
def wsX1_printedLength_r1 : List Cond := [Cond.fieldLink RX1 9 "ZhegalkinBench" "tables" "[I", Cond.fieldLink RX1 47 "ZhegalkinBench" "printedCount" "I", Cond.methodLink RX1 54 yX1_checkFunction, Cond.static yX1_checkFunction, Cond.initialized RX1, Cond.code yX1_checkFunction cX1_checkFunction 1 none, Cond.classLink RX1 116 "java/lang/IndexOutOfBoundsException", Cond.initialized "java/lang/IndexOutOfBoundsException", Cond.methodLink RX1 65 yX1_addHalves, Cond.static yX1_addHalves, Cond.code yX1_addHalves cX1_addHalves 4 (some .int), Cond.fieldLink RX1 50 "ZhegalkinBench" "VARIABLE_TABLES" "[I", Cond.methodLink RX1 131 yX1_print, Cond.instanceMethod yX1_print, Cond.selects RX1 yX1_print yX1_print, Cond.code yX1_print cX1_print 3 none, Cond.methodLink RX1 177 yX1_put, Cond.instanceMethod yX1_put, Cond.selects RX1 yX1_put yX1_put, Cond.code yX1_put cX1_put 2 none, Cond.fieldLink RX1 44 "ZhegalkinBench" "printed" "[C", Cond.methodLink RX1 121 yX1_bit, Cond.static yX1_bit, Cond.code yX1_bit cX1_bit 2 (some .int)]
def wsX1_printedLength_r2 : List Cond := [Cond.methodLink RX1 181 yX1_printProduct, Cond.instanceMethod yX1_printProduct, Cond.selects RX1 yX1_printProduct yX1_printProduct, Cond.code yX1_printProduct cX1_printProduct 3 none]
def wsX1_printedLength : List Cond := .code yX1_printedLength cX1_printedLength 2 (some .int) :: ((wsX1_printedLength_r1 ++ wsX1_printedLength_r2) ++ wsX10 ++ (vx_atS RX1 120 "java/lang/IndexOutOfBoundsException" ["java/lang/RuntimeException", "java/lang/Exception"]).filter goodWord)
def wsX1_printedLetter_r1 : List Cond := [Cond.classLink RX1 116 "java/lang/IndexOutOfBoundsException", Cond.initialized "java/lang/IndexOutOfBoundsException", Cond.fieldLink RX1 9 "ZhegalkinBench" "tables" "[I", Cond.fieldLink RX1 47 "ZhegalkinBench" "printedCount" "I", Cond.fieldLink RX1 44 "ZhegalkinBench" "printed" "[C", Cond.methodLink RX1 54 yX1_checkFunction, Cond.static yX1_checkFunction, Cond.initialized RX1, Cond.code yX1_checkFunction cX1_checkFunction 1 none, Cond.methodLink RX1 65 yX1_addHalves, Cond.static yX1_addHalves, Cond.code yX1_addHalves cX1_addHalves 4 (some .int), Cond.fieldLink RX1 50 "ZhegalkinBench" "VARIABLE_TABLES" "[I", Cond.methodLink RX1 131 yX1_print, Cond.instanceMethod yX1_print, Cond.selects RX1 yX1_print yX1_print, Cond.code yX1_print cX1_print 3 none, Cond.methodLink RX1 177 yX1_put, Cond.instanceMethod yX1_put, Cond.selects RX1 yX1_put yX1_put, Cond.code yX1_put cX1_put 2 none, Cond.methodLink RX1 121 yX1_bit, Cond.static yX1_bit, Cond.code yX1_bit cX1_bit 2 (some .int)]
def wsX1_printedLetter_r2 : List Cond := [Cond.methodLink RX1 181 yX1_printProduct, Cond.instanceMethod yX1_printProduct, Cond.selects RX1 yX1_printProduct yX1_printProduct, Cond.code yX1_printProduct cX1_printProduct 3 none]
def wsX1_printedLetter : List Cond := .code yX1_printedLetter cX1_printedLetter 3 (some .char) :: ((wsX1_printedLetter_r1 ++ wsX1_printedLetter_r2) ++ wsX10 ++ (vx_atS RX1 120 "java/lang/IndexOutOfBoundsException" ["java/lang/RuntimeException", "java/lang/Exception"]).filter goodWord)
def wsX1_linearTable : List Cond := .code yX1_linearTable cX1_linearTable 3 (some .int) :: ([.constant RX1 53 (65535), .fieldLink RX1 50 "ZhegalkinBench" "VARIABLE_TABLES" "[I", .methodLink RX1 121 yX1_bit, .static yX1_bit, .initialized RX1, .code yX1_bit cX1_bit 2 (some .int)])
def wsX1_distanceByTrying_r1 : List Cond := [Cond.fieldLink RX1 9 "ZhegalkinBench" "tables" "[I", Cond.methodLink RX1 139 Lib.Math.min.name, Cond.static Lib.Math.min.name, Cond.initialized "java/lang/Math", Cond.code Lib.Math.min.name Lib.Math.min.code 2 (some .int), Cond.methodLink RX1 54 yX1_checkFunction, Cond.static yX1_checkFunction, Cond.initialized RX1, Cond.code yX1_checkFunction cX1_checkFunction 1 none, Cond.classLink RX1 116 "java/lang/IndexOutOfBoundsException", Cond.initialized "java/lang/IndexOutOfBoundsException", Cond.methodLink RX1 136 yX1_linearTable, Cond.static yX1_linearTable, Cond.code yX1_linearTable cX1_linearTable 3 (some .int), Cond.constant RX1 53 (65535), Cond.fieldLink RX1 50 "ZhegalkinBench" "VARIABLE_TABLES" "[I", Cond.methodLink RX1 121 yX1_bit, Cond.static yX1_bit, Cond.code yX1_bit cX1_bit 2 (some .int), Cond.methodLink RX1 69 yJ6_bitCount_0f7a4, Cond.static yJ6_bitCount_0f7a4, Cond.initialized RJ6, Cond.code yJ6_bitCount_0f7a4 cJ6_bitCount_0f7a4 1 (some .int), Cond.constant RJ6 265 (1431655765)]
def wsX1_distanceByTrying_r2 : List Cond := [Cond.constant RJ6 266 (858993459), Cond.constant RJ6 267 (252645135)]
def wsX1_distanceByTrying : List Cond := .code yX1_distanceByTrying cX1_distanceByTrying 5 (some .int) :: ((wsX1_distanceByTrying_r1 ++ wsX1_distanceByTrying_r2) ++ wsX10 ++ (vx_atS RX1 120 "java/lang/IndexOutOfBoundsException" ["java/lang/RuntimeException", "java/lang/Exception"]).filter goodWord)
def wsX1_sumPairs : List Cond := .code yX1_sumPairs cX1_sumPairs 6 none :: ([.fieldLink RX1 41 "ZhegalkinBench" "sums" "[I"] ++ wsX10)
def wsX1_distanceBySums : List Cond := .code yX1_distanceBySums cX1_distanceBySums 4 (some .int) :: ([.fieldLink RX1 41 "ZhegalkinBench" "sums" "[I", .fieldLink RX1 9 "ZhegalkinBench" "tables" "[I", .methodLink RX1 147 Lib.Math.abs.name, .static Lib.Math.abs.name, .initialized "java/lang/Math", .code Lib.Math.abs.name Lib.Math.abs.code 1 (some .int), .methodLink RX1 150 Lib.Math.max.name, .static Lib.Math.max.name, .code Lib.Math.max.name Lib.Math.max.code 2 (some .int), .methodLink RX1 54 yX1_checkFunction, .static yX1_checkFunction, .initialized RX1, .code yX1_checkFunction cX1_checkFunction 1 none, .classLink RX1 116 "java/lang/IndexOutOfBoundsException", .initialized "java/lang/IndexOutOfBoundsException", .methodLink RX1 121 yX1_bit, .static yX1_bit, .code yX1_bit cX1_bit 2 (some .int), .methodLink RX1 144 yX1_sumPairs, .instanceMethod yX1_sumPairs, .selects RX1 yX1_sumPairs yX1_sumPairs, .code yX1_sumPairs cX1_sumPairs 6 none] ++ wsX10 ++ (vx_atS RX1 120 "java/lang/IndexOutOfBoundsException" ["java/lang/RuntimeException", "java/lang/Exception"]).filter goodWord)
def wsX1_hasOppositeEnds : List Cond := .code yX1_hasOppositeEnds cX1_hasOppositeEnds 2 (some .boolean) :: ([.methodLink RX1 121 yX1_bit, .static yX1_bit, .initialized RX1, .code yX1_bit cX1_bit 2 (some .int)])
def wsX1_isSelfDual : List Cond := .code yX1_isSelfDual cX1_isSelfDual 2 (some .boolean) :: ([.fieldLink RX1 9 "ZhegalkinBench" "tables" "[I", .methodLink RX1 54 yX1_checkFunction, .static yX1_checkFunction, .initialized RX1, .code yX1_checkFunction cX1_checkFunction 1 none, .classLink RX1 116 "java/lang/IndexOutOfBoundsException", .initialized "java/lang/IndexOutOfBoundsException", .methodLink RX1 153 yX1_hasOppositeEnds, .static yX1_hasOppositeEnds, .code yX1_hasOppositeEnds cX1_hasOppositeEnds 2 (some .boolean), .methodLink RX1 121 yX1_bit, .static yX1_bit, .code yX1_bit cX1_bit 2 (some .int)] ++ wsX10 ++ (vx_atS RX1 120 "java/lang/IndexOutOfBoundsException" ["java/lang/RuntimeException", "java/lang/Exception"]).filter goodWord)
def wsX1_neverFalls : List Cond := .code yX1_neverFalls cX1_neverFalls 2 (some .boolean) :: ([.methodLink RX1 90 yX1_half, .static yX1_half, .initialized RX1, .code yX1_half cX1_half 5 (some .int), .fieldLink RX1 50 "ZhegalkinBench" "VARIABLE_TABLES" "[I"])
def wsX1_isMonotone : List Cond := .code yX1_isMonotone cX1_isMonotone 2 (some .boolean) :: ([.fieldLink RX1 9 "ZhegalkinBench" "tables" "[I", .methodLink RX1 54 yX1_checkFunction, .static yX1_checkFunction, .initialized RX1, .code yX1_checkFunction cX1_checkFunction 1 none, .classLink RX1 116 "java/lang/IndexOutOfBoundsException", .initialized "java/lang/IndexOutOfBoundsException", .methodLink RX1 157 yX1_neverFalls, .static yX1_neverFalls, .code yX1_neverFalls cX1_neverFalls 2 (some .boolean), .methodLink RX1 90 yX1_half, .static yX1_half, .code yX1_half cX1_half 5 (some .int), .fieldLink RX1 50 "ZhegalkinBench" "VARIABLE_TABLES" "[I"] ++ wsX10 ++ (vx_atS RX1 120 "java/lang/IndexOutOfBoundsException" ["java/lang/RuntimeException", "java/lang/Exception"]).filter goodWord)
def wsX1_classesOf_r1 : List Cond := [Cond.methodLink RX1 121 yX1_bit, Cond.static yX1_bit, Cond.initialized RX1, Cond.code yX1_bit cX1_bit 2 (some .int), Cond.methodLink RX1 153 yX1_hasOppositeEnds, Cond.static yX1_hasOppositeEnds, Cond.code yX1_hasOppositeEnds cX1_hasOppositeEnds 2 (some .boolean), Cond.methodLink RX1 157 yX1_neverFalls, Cond.static yX1_neverFalls, Cond.code yX1_neverFalls cX1_neverFalls 2 (some .boolean), Cond.methodLink RX1 90 yX1_half, Cond.static yX1_half, Cond.code yX1_half cX1_half 5 (some .int), Cond.fieldLink RX1 50 "ZhegalkinBench" "VARIABLE_TABLES" "[I", Cond.methodLink RX1 128 yX1_degree, Cond.static yX1_degree, Cond.code yX1_degree cX1_degree 4 (some .int), Cond.methodLink RX1 150 Lib.Math.max.name, Cond.static Lib.Math.max.name, Cond.initialized "java/lang/Math", Cond.code Lib.Math.max.name Lib.Math.max.code 2 (some .int), Cond.methodLink RX1 65 yX1_addHalves, Cond.static yX1_addHalves, Cond.code yX1_addHalves cX1_addHalves 4 (some .int)]
def wsX1_classesOf_r2 : List Cond := [Cond.methodLink RX1 69 yJ6_bitCount_0f7a4, Cond.static yJ6_bitCount_0f7a4, Cond.initialized RJ6, Cond.code yJ6_bitCount_0f7a4 cJ6_bitCount_0f7a4 1 (some .int), Cond.constant RJ6 265 (1431655765), Cond.constant RJ6 266 (858993459), Cond.constant RJ6 267 (252645135)]
def wsX1_classesOf : List Cond := .code yX1_classesOf cX1_classesOf 2 (some .int) :: ((wsX1_classesOf_r1 ++ wsX1_classesOf_r2))
def wsX1_sharedClasses_r1 : List Cond := [Cond.fieldLink RX1 9 "ZhegalkinBench" "tables" "[I", Cond.methodLink RX1 121 yX1_bit, Cond.static yX1_bit, Cond.initialized RX1, Cond.code yX1_bit cX1_bit 2 (some .int), Cond.methodLink RX1 174 yX1_classesOf, Cond.static yX1_classesOf, Cond.code yX1_classesOf cX1_classesOf 2 (some .int), Cond.methodLink RX1 153 yX1_hasOppositeEnds, Cond.static yX1_hasOppositeEnds, Cond.code yX1_hasOppositeEnds cX1_hasOppositeEnds 2 (some .boolean), Cond.methodLink RX1 157 yX1_neverFalls, Cond.static yX1_neverFalls, Cond.code yX1_neverFalls cX1_neverFalls 2 (some .boolean), Cond.methodLink RX1 90 yX1_half, Cond.static yX1_half, Cond.code yX1_half cX1_half 5 (some .int), Cond.fieldLink RX1 50 "ZhegalkinBench" "VARIABLE_TABLES" "[I", Cond.methodLink RX1 128 yX1_degree, Cond.static yX1_degree, Cond.code yX1_degree cX1_degree 4 (some .int), Cond.methodLink RX1 150 Lib.Math.max.name, Cond.static Lib.Math.max.name, Cond.initialized "java/lang/Math"]
def wsX1_sharedClasses_r2 : List Cond := [Cond.code Lib.Math.max.name Lib.Math.max.code 2 (some .int), Cond.methodLink RX1 65 yX1_addHalves, Cond.static yX1_addHalves, Cond.code yX1_addHalves cX1_addHalves 4 (some .int), Cond.methodLink RX1 69 yJ6_bitCount_0f7a4, Cond.static yJ6_bitCount_0f7a4, Cond.initialized RJ6, Cond.code yJ6_bitCount_0f7a4 cJ6_bitCount_0f7a4 1 (some .int), Cond.constant RJ6 265 (1431655765), Cond.constant RJ6 266 (858993459), Cond.constant RJ6 267 (252645135)]
def wsX1_sharedClasses : List Cond := .code yX1_sharedClasses cX1_sharedClasses 4 (some .int) :: ((wsX1_sharedClasses_r1 ++ wsX1_sharedClasses_r2) ++ wsX10)
def wsX1_areEnough_r1 : List Cond := [Cond.classLink RX1 74 "java/lang/IllegalArgumentException", Cond.initialized "java/lang/IllegalArgumentException", Cond.methodLink RX1 162 yX1_sharedClasses, Cond.instanceMethod yX1_sharedClasses, Cond.selects RX1 yX1_sharedClasses yX1_sharedClasses, Cond.initialized RX1, Cond.code yX1_sharedClasses cX1_sharedClasses 4 (some .int), Cond.fieldLink RX1 9 "ZhegalkinBench" "tables" "[I", Cond.methodLink RX1 121 yX1_bit, Cond.static yX1_bit, Cond.code yX1_bit cX1_bit 2 (some .int), Cond.methodLink RX1 174 yX1_classesOf, Cond.static yX1_classesOf, Cond.code yX1_classesOf cX1_classesOf 2 (some .int), Cond.methodLink RX1 153 yX1_hasOppositeEnds, Cond.static yX1_hasOppositeEnds, Cond.code yX1_hasOppositeEnds cX1_hasOppositeEnds 2 (some .boolean), Cond.methodLink RX1 157 yX1_neverFalls, Cond.static yX1_neverFalls, Cond.code yX1_neverFalls cX1_neverFalls 2 (some .boolean), Cond.methodLink RX1 90 yX1_half, Cond.static yX1_half, Cond.code yX1_half cX1_half 5 (some .int), Cond.fieldLink RX1 50 "ZhegalkinBench" "VARIABLE_TABLES" "[I"]
def wsX1_areEnough_r2 : List Cond := [Cond.methodLink RX1 128 yX1_degree, Cond.static yX1_degree, Cond.code yX1_degree cX1_degree 4 (some .int), Cond.methodLink RX1 150 Lib.Math.max.name, Cond.static Lib.Math.max.name, Cond.initialized "java/lang/Math", Cond.code Lib.Math.max.name Lib.Math.max.code 2 (some .int), Cond.methodLink RX1 65 yX1_addHalves, Cond.static yX1_addHalves, Cond.code yX1_addHalves cX1_addHalves 4 (some .int), Cond.methodLink RX1 69 yJ6_bitCount_0f7a4, Cond.static yJ6_bitCount_0f7a4, Cond.initialized RJ6, Cond.code yJ6_bitCount_0f7a4 cJ6_bitCount_0f7a4 1 (some .int), Cond.constant RJ6 265 (1431655765), Cond.constant RJ6 266 (858993459), Cond.constant RJ6 267 (252645135)]
def wsX1_areEnough : List Cond := .code yX1_areEnough cX1_areEnough 2 (some .boolean) :: ((wsX1_areEnough_r1 ++ wsX1_areEnough_r2) ++ wsX10 ++ (vx_atS RX1 78 "java/lang/IllegalArgumentException" ["java/lang/RuntimeException", "java/lang/Exception"]).filter goodWord)
def wsX1_fewestEnough_r1 : List Cond := [Cond.methodLink RX1 69 yJ6_bitCount_0f7a4, Cond.static yJ6_bitCount_0f7a4, Cond.initialized RJ6, Cond.code yJ6_bitCount_0f7a4 cJ6_bitCount_0f7a4 1 (some .int), Cond.constant RJ6 265 (1431655765), Cond.constant RJ6 266 (858993459), Cond.constant RJ6 267 (252645135), Cond.methodLink RX1 162 yX1_sharedClasses, Cond.instanceMethod yX1_sharedClasses, Cond.selects RX1 yX1_sharedClasses yX1_sharedClasses, Cond.initialized RX1, Cond.code yX1_sharedClasses cX1_sharedClasses 4 (some .int), Cond.fieldLink RX1 9 "ZhegalkinBench" "tables" "[I", Cond.methodLink RX1 121 yX1_bit, Cond.static yX1_bit, Cond.code yX1_bit cX1_bit 2 (some .int), Cond.methodLink RX1 174 yX1_classesOf, Cond.static yX1_classesOf, Cond.code yX1_classesOf cX1_classesOf 2 (some .int), Cond.methodLink RX1 153 yX1_hasOppositeEnds, Cond.static yX1_hasOppositeEnds, Cond.code yX1_hasOppositeEnds cX1_hasOppositeEnds 2 (some .boolean), Cond.methodLink RX1 157 yX1_neverFalls, Cond.static yX1_neverFalls]
def wsX1_fewestEnough_r2 : List Cond := [Cond.code yX1_neverFalls cX1_neverFalls 2 (some .boolean), Cond.methodLink RX1 90 yX1_half, Cond.static yX1_half, Cond.code yX1_half cX1_half 5 (some .int), Cond.fieldLink RX1 50 "ZhegalkinBench" "VARIABLE_TABLES" "[I", Cond.methodLink RX1 128 yX1_degree, Cond.static yX1_degree, Cond.code yX1_degree cX1_degree 4 (some .int), Cond.methodLink RX1 150 Lib.Math.max.name, Cond.static Lib.Math.max.name, Cond.initialized "java/lang/Math", Cond.code Lib.Math.max.name Lib.Math.max.code 2 (some .int), Cond.methodLink RX1 65 yX1_addHalves, Cond.static yX1_addHalves, Cond.code yX1_addHalves cX1_addHalves 4 (some .int)]
def wsX1_fewestEnough : List Cond := .code yX1_fewestEnough cX1_fewestEnough 5 (some .int) :: ((wsX1_fewestEnough_r1 ++ wsX1_fewestEnough_r2) ++ wsX10)
def wsX1_recordedStates : List Cond := .code yX1_recordedStates cX1_recordedStates 1 (some .int) :: ([.fieldLink RX1 16 "ZhegalkinBench" "recordedCount" "I"] ++ wsX10)
def wsX2_variable : List Cond := .code yX2_variable cX2_variable 3 (some .int) :: ([])
def wsX2_init : List Cond := .code yX2_init cX2_init 2 none :: ([.methodLink RX2 1 objectInit, .instanceMethod objectInit, .code objectInit ⟨#[0xb1]⟩ 1 none, .arrayClass .int, .fieldLink RX2 7 "ZhegalkinBenchModel" "now" "[I", .fieldLink RX2 13 "ZhegalkinBenchModel" "past" "[I", .fieldLink RX2 16 "ZhegalkinBenchModel" "shot" "[I", .fieldLink RX2 19 "ZhegalkinBenchModel" "text" "[I", .constant RX2 26 (65535), .methodLink RX2 22 yX2_variable, .static yX2_variable, .initialized RX2, .code yX2_variable cX2_variable 3 (some .int)] ++ wsX20)
def wsX2_thrown : List Cond := .code yX2_thrown cX2_thrown 1 (some .int) :: ([.fieldLink RX2 27 "ZhegalkinBenchModel" "thrown" "I"] ++ wsX20)
def wsX2_fails : List Cond := .code yX2_fails cX2_fails 2 (some .int) :: ([.fieldLink RX2 27 "ZhegalkinBenchModel" "thrown" "I"] ++ wsX20)
def wsX2_in : List Cond := .code yX2_in cX2_in 3 (some .boolean) :: ([])
def wsX2_isOne : List Cond := .code yX2_isOne cX2_isOne 1 (some .boolean) :: ([.methodLink RX2 31 yX2_in, .static yX2_in, .initialized RX2, .code yX2_in cX2_in 3 (some .boolean)])
def wsX2_bits : List Cond := .code yX2_bits cX2_bits 3 (some .int) :: ([])
def wsX2_copies : List Cond := .code yX2_copies cX2_copies 5 none :: ([])
def wsX2_records : List Cond := .code yX2_records cX2_records 2 none :: ([.fieldLink RX2 35 "ZhegalkinBenchModel" "kept" "I", .fieldLink RX2 13 "ZhegalkinBenchModel" "past" "[I", .fieldLink RX2 7 "ZhegalkinBenchModel" "now" "[I", .methodLink RX2 38 yX2_copies, .static yX2_copies, .initialized RX2, .code yX2_copies cX2_copies 5 none] ++ wsX20)
def wsX2_turned : List Cond := .code yX2_turned cX2_turned 5 (some .int) :: ([])
def wsX2_degree : List Cond := .code yX2_degree cX2_degree 4 (some .int) :: ([.methodLink RX2 42 yX2_turned, .static yX2_turned, .initialized RX2, .code yX2_turned cX2_turned 5 (some .int), .methodLink RX2 45 yX2_bits, .static yX2_bits, .code yX2_bits cX2_bits 3 (some .int)])
def wsX2_allProducts : List Cond := .code yX2_allProducts cX2_allProducts 3 (some .int) :: ([.fieldLink RX2 7 "ZhegalkinBenchModel" "now" "[I", .methodLink RX2 42 yX2_turned, .static yX2_turned, .initialized RX2, .code yX2_turned cX2_turned 5 (some .int), .methodLink RX2 45 yX2_bits, .static yX2_bits, .code yX2_bits cX2_bits 3 (some .int)] ++ wsX20)
def wsX2_sets : List Cond := .code yX2_sets cX2_sets 3 (some .int) :: ([.fieldLink RX2 7 "ZhegalkinBenchModel" "now" "[I", .methodLink RX2 48 yX2_records, .instanceMethod yX2_records, .selects RX2 yX2_records yX2_records, .initialized RX2, .code yX2_records cX2_records 2 none, .fieldLink RX2 35 "ZhegalkinBenchModel" "kept" "I", .fieldLink RX2 13 "ZhegalkinBenchModel" "past" "[I", .methodLink RX2 38 yX2_copies, .static yX2_copies, .code yX2_copies cX2_copies 5 none] ++ wsX20)
def wsX2_has : List Cond := .code yX2_has cX2_has 2 (some .boolean) :: ([.fieldLink RX2 62 "ZhegalkinBenchModel" "told" "I"] ++ wsX20)
def wsX2_highest : List Cond := .code yX2_highest cX2_highest 2 (some .int) :: ([])
def wsX2_canCome : List Cond := .code yX2_canCome cX2_canCome 7 (some .boolean) :: ([.methodLink RX2 45 yX2_bits, .static yX2_bits, .initialized RX2, .code yX2_bits cX2_bits 3 (some .int), .methodLink RX2 76 yX2_highest, .static yX2_highest, .code yX2_highest cX2_highest 2 (some .int), .methodLink RX2 79 yX2_has, .instanceMethod yX2_has, .selects RX2 yX2_has yX2_has, .code yX2_has cX2_has 2 (some .boolean), .fieldLink RX2 62 "ZhegalkinBenchModel" "told" "I"] ++ wsX20)
def wsX2_product : List Cond := .code yX2_product cX2_product 4 (some .int) :: ([.fieldLink RX2 82 "ZhegalkinBenchModel" "at" "I", .fieldLink RX2 73 "ZhegalkinBenchModel" "typed" "I", .fieldLink RX2 19 "ZhegalkinBenchModel" "text" "[I", .methodLink RX2 79 yX2_has, .instanceMethod yX2_has, .selects RX2 yX2_has yX2_has, .initialized RX2, .code yX2_has cX2_has 2 (some .boolean), .fieldLink RX2 62 "ZhegalkinBenchModel" "told" "I", .methodLink RX2 76 yX2_highest, .static yX2_highest, .code yX2_highest cX2_highest 2 (some .int), .methodLink RX2 31 yX2_in, .static yX2_in, .code yX2_in cX2_in 3 (some .boolean), .methodLink RX2 85 yX2_canCome, .instanceMethod yX2_canCome, .selects RX2 yX2_canCome yX2_canCome, .code yX2_canCome cX2_canCome 7 (some .boolean), .methodLink RX2 45 yX2_bits, .static yX2_bits, .code yX2_bits cX2_bits 3 (some .int)] ++ wsX20)
def wsX2_reads_r1 : List Cond := [Cond.fieldLink RX2 82 "ZhegalkinBenchModel" "at" "I", Cond.fieldLink RX2 62 "ZhegalkinBenchModel" "told" "I", Cond.fieldLink RX2 73 "ZhegalkinBenchModel" "typed" "I", Cond.fieldLink RX2 19 "ZhegalkinBenchModel" "text" "[I", Cond.constant RX2 26 (65535), Cond.methodLink RX2 88 yX2_product, Cond.instanceMethod yX2_product, Cond.selects RX2 yX2_product yX2_product, Cond.initialized RX2, Cond.code yX2_product cX2_product 4 (some .int), Cond.methodLink RX2 79 yX2_has, Cond.instanceMethod yX2_has, Cond.selects RX2 yX2_has yX2_has, Cond.code yX2_has cX2_has 2 (some .boolean), Cond.methodLink RX2 76 yX2_highest, Cond.static yX2_highest, Cond.code yX2_highest cX2_highest 2 (some .int), Cond.methodLink RX2 31 yX2_in, Cond.static yX2_in, Cond.code yX2_in cX2_in 3 (some .boolean), Cond.methodLink RX2 85 yX2_canCome, Cond.instanceMethod yX2_canCome, Cond.selects RX2 yX2_canCome yX2_canCome, Cond.code yX2_canCome cX2_canCome 7 (some .boolean)]
def wsX2_reads_r2 : List Cond := [Cond.methodLink RX2 45 yX2_bits, Cond.static yX2_bits, Cond.code yX2_bits cX2_bits 3 (some .int)]
def wsX2_reads : List Cond := .code yX2_reads cX2_reads 3 (some .boolean) :: ((wsX2_reads_r1 ++ wsX2_reads_r2) ++ wsX20)
def wsX2_define_r1 : List Cond := [Cond.fieldLink RX2 27 "ZhegalkinBenchModel" "thrown" "I", Cond.fieldLink RX2 62 "ZhegalkinBenchModel" "told" "I", Cond.methodLink RX2 51 yX2_isOne, Cond.static yX2_isOne, Cond.initialized RX2, Cond.code yX2_isOne cX2_isOne 1 (some .boolean), Cond.methodLink RX2 31 yX2_in, Cond.static yX2_in, Cond.code yX2_in cX2_in 3 (some .boolean), Cond.methodLink RX2 55 yX2_fails, Cond.instanceMethod yX2_fails, Cond.selects RX2 yX2_fails yX2_fails, Cond.code yX2_fails cX2_fails 2 (some .int), Cond.methodLink RX2 58 yX2_reads, Cond.instanceMethod yX2_reads, Cond.selects RX2 yX2_reads yX2_reads, Cond.code yX2_reads cX2_reads 3 (some .boolean), Cond.fieldLink RX2 82 "ZhegalkinBenchModel" "at" "I", Cond.fieldLink RX2 73 "ZhegalkinBenchModel" "typed" "I", Cond.fieldLink RX2 19 "ZhegalkinBenchModel" "text" "[I", Cond.constant RX2 26 (65535), Cond.methodLink RX2 88 yX2_product, Cond.instanceMethod yX2_product, Cond.selects RX2 yX2_product yX2_product]
def wsX2_define_r2 : List Cond := [Cond.code yX2_product cX2_product 4 (some .int), Cond.methodLink RX2 79 yX2_has, Cond.instanceMethod yX2_has, Cond.selects RX2 yX2_has yX2_has, Cond.code yX2_has cX2_has 2 (some .boolean), Cond.methodLink RX2 76 yX2_highest, Cond.static yX2_highest, Cond.code yX2_highest cX2_highest 2 (some .int), Cond.methodLink RX2 85 yX2_canCome, Cond.instanceMethod yX2_canCome, Cond.selects RX2 yX2_canCome yX2_canCome, Cond.code yX2_canCome cX2_canCome 7 (some .boolean), Cond.methodLink RX2 45 yX2_bits, Cond.static yX2_bits, Cond.code yX2_bits cX2_bits 3 (some .int), Cond.methodLink RX2 42 yX2_turned, Cond.static yX2_turned, Cond.code yX2_turned cX2_turned 5 (some .int), Cond.methodLink RX2 65 yX2_sets, Cond.instanceMethod yX2_sets, Cond.selects RX2 yX2_sets yX2_sets, Cond.code yX2_sets cX2_sets 3 (some .int), Cond.fieldLink RX2 7 "ZhegalkinBenchModel" "now" "[I", Cond.methodLink RX2 48 yX2_records]
def wsX2_define_r3 : List Cond := [Cond.instanceMethod yX2_records, Cond.selects RX2 yX2_records yX2_records, Cond.code yX2_records cX2_records 2 none, Cond.fieldLink RX2 35 "ZhegalkinBenchModel" "kept" "I", Cond.fieldLink RX2 13 "ZhegalkinBenchModel" "past" "[I", Cond.methodLink RX2 38 yX2_copies, Cond.static yX2_copies, Cond.code yX2_copies cX2_copies 5 none]
def wsX2_define : List Cond := .code yX2_define cX2_define 2 (some .int) :: ((wsX2_define_r1 ++ (wsX2_define_r2 ++ wsX2_define_r3)) ++ wsX20)
def wsX2_setTable_r1 : List Cond := [Cond.fieldLink RX2 27 "ZhegalkinBenchModel" "thrown" "I", Cond.constant RX2 26 (65535), Cond.fieldLink RX2 7 "ZhegalkinBenchModel" "now" "[I", Cond.methodLink RX2 51 yX2_isOne, Cond.static yX2_isOne, Cond.initialized RX2, Cond.code yX2_isOne cX2_isOne 1 (some .boolean), Cond.methodLink RX2 31 yX2_in, Cond.static yX2_in, Cond.code yX2_in cX2_in 3 (some .boolean), Cond.methodLink RX2 55 yX2_fails, Cond.instanceMethod yX2_fails, Cond.selects RX2 yX2_fails yX2_fails, Cond.code yX2_fails cX2_fails 2 (some .int), Cond.methodLink RX2 65 yX2_sets, Cond.instanceMethod yX2_sets, Cond.selects RX2 yX2_sets yX2_sets, Cond.code yX2_sets cX2_sets 3 (some .int), Cond.methodLink RX2 48 yX2_records, Cond.instanceMethod yX2_records, Cond.selects RX2 yX2_records yX2_records, Cond.code yX2_records cX2_records 2 none, Cond.fieldLink RX2 35 "ZhegalkinBenchModel" "kept" "I", Cond.fieldLink RX2 13 "ZhegalkinBenchModel" "past" "[I"]
def wsX2_setTable_r2 : List Cond := [Cond.methodLink RX2 38 yX2_copies, Cond.static yX2_copies, Cond.code yX2_copies cX2_copies 5 none]
def wsX2_setTable : List Cond := .code yX2_setTable cX2_setTable 4 (some .int) :: ((wsX2_setTable_r1 ++ wsX2_setTable_r2) ++ wsX20)
def wsX2_join_r1 : List Cond := [Cond.fieldLink RX2 27 "ZhegalkinBenchModel" "thrown" "I", Cond.fieldLink RX2 7 "ZhegalkinBenchModel" "now" "[I", Cond.constant RX2 26 (65535), Cond.methodLink RX2 51 yX2_isOne, Cond.static yX2_isOne, Cond.initialized RX2, Cond.code yX2_isOne cX2_isOne 1 (some .boolean), Cond.methodLink RX2 31 yX2_in, Cond.static yX2_in, Cond.code yX2_in cX2_in 3 (some .boolean), Cond.methodLink RX2 55 yX2_fails, Cond.instanceMethod yX2_fails, Cond.selects RX2 yX2_fails yX2_fails, Cond.code yX2_fails cX2_fails 2 (some .int), Cond.methodLink RX2 65 yX2_sets, Cond.instanceMethod yX2_sets, Cond.selects RX2 yX2_sets yX2_sets, Cond.code yX2_sets cX2_sets 3 (some .int), Cond.methodLink RX2 48 yX2_records, Cond.instanceMethod yX2_records, Cond.selects RX2 yX2_records yX2_records, Cond.code yX2_records cX2_records 2 none, Cond.fieldLink RX2 35 "ZhegalkinBenchModel" "kept" "I", Cond.fieldLink RX2 13 "ZhegalkinBenchModel" "past" "[I"]
def wsX2_join_r2 : List Cond := [Cond.methodLink RX2 38 yX2_copies, Cond.static yX2_copies, Cond.code yX2_copies cX2_copies 5 none]
def wsX2_join : List Cond := .code yX2_join cX2_join 7 (some .int) :: ((wsX2_join_r1 ++ wsX2_join_r2) ++ wsX20)
def wsX2_valueWith : List Cond := .code yX2_valueWith cX2_valueWith 6 (some .int) :: ([.fieldLink RX2 7 "ZhegalkinBenchModel" "now" "[I"] ++ wsX20)
def wsX2_fix_r1 : List Cond := [Cond.fieldLink RX2 27 "ZhegalkinBenchModel" "thrown" "I", Cond.methodLink RX2 51 yX2_isOne, Cond.static yX2_isOne, Cond.initialized RX2, Cond.code yX2_isOne cX2_isOne 1 (some .boolean), Cond.methodLink RX2 31 yX2_in, Cond.static yX2_in, Cond.code yX2_in cX2_in 3 (some .boolean), Cond.methodLink RX2 55 yX2_fails, Cond.instanceMethod yX2_fails, Cond.selects RX2 yX2_fails yX2_fails, Cond.code yX2_fails cX2_fails 2 (some .int), Cond.methodLink RX2 69 yX2_valueWith, Cond.instanceMethod yX2_valueWith, Cond.selects RX2 yX2_valueWith yX2_valueWith, Cond.code yX2_valueWith cX2_valueWith 6 (some .int), Cond.fieldLink RX2 7 "ZhegalkinBenchModel" "now" "[I", Cond.methodLink RX2 65 yX2_sets, Cond.instanceMethod yX2_sets, Cond.selects RX2 yX2_sets yX2_sets, Cond.code yX2_sets cX2_sets 3 (some .int), Cond.methodLink RX2 48 yX2_records, Cond.instanceMethod yX2_records, Cond.selects RX2 yX2_records yX2_records]
def wsX2_fix_r2 : List Cond := [Cond.code yX2_records cX2_records 2 none, Cond.fieldLink RX2 35 "ZhegalkinBenchModel" "kept" "I", Cond.fieldLink RX2 13 "ZhegalkinBenchModel" "past" "[I", Cond.methodLink RX2 38 yX2_copies, Cond.static yX2_copies, Cond.code yX2_copies cX2_copies 5 none]
def wsX2_fix : List Cond := .code yX2_fix cX2_fix 6 (some .int) :: ((wsX2_fix_r1 ++ wsX2_fix_r2) ++ wsX20)
def wsX2_substitute_r1 : List Cond := [Cond.fieldLink RX2 27 "ZhegalkinBenchModel" "thrown" "I", Cond.fieldLink RX2 7 "ZhegalkinBenchModel" "now" "[I", Cond.methodLink RX2 51 yX2_isOne, Cond.static yX2_isOne, Cond.initialized RX2, Cond.code yX2_isOne cX2_isOne 1 (some .boolean), Cond.methodLink RX2 31 yX2_in, Cond.static yX2_in, Cond.code yX2_in cX2_in 3 (some .boolean), Cond.methodLink RX2 55 yX2_fails, Cond.instanceMethod yX2_fails, Cond.selects RX2 yX2_fails yX2_fails, Cond.code yX2_fails cX2_fails 2 (some .int), Cond.methodLink RX2 69 yX2_valueWith, Cond.instanceMethod yX2_valueWith, Cond.selects RX2 yX2_valueWith yX2_valueWith, Cond.code yX2_valueWith cX2_valueWith 6 (some .int), Cond.methodLink RX2 65 yX2_sets, Cond.instanceMethod yX2_sets, Cond.selects RX2 yX2_sets yX2_sets, Cond.code yX2_sets cX2_sets 3 (some .int), Cond.methodLink RX2 48 yX2_records, Cond.instanceMethod yX2_records, Cond.selects RX2 yX2_records yX2_records]
def wsX2_substitute_r2 : List Cond := [Cond.code yX2_records cX2_records 2 none, Cond.fieldLink RX2 35 "ZhegalkinBenchModel" "kept" "I", Cond.fieldLink RX2 13 "ZhegalkinBenchModel" "past" "[I", Cond.methodLink RX2 38 yX2_copies, Cond.static yX2_copies, Cond.code yX2_copies cX2_copies 5 none]
def wsX2_substitute : List Cond := .code yX2_substitute cX2_substitute 6 (some .int) :: ((wsX2_substitute_r1 ++ wsX2_substitute_r2) ++ wsX20)
def wsX2_type : List Cond := .code yX2_type cX2_type 2 (some .int) :: ([.fieldLink RX2 27 "ZhegalkinBenchModel" "thrown" "I", .fieldLink RX2 73 "ZhegalkinBenchModel" "typed" "I", .fieldLink RX2 19 "ZhegalkinBenchModel" "text" "[I", .methodLink RX2 55 yX2_fails, .instanceMethod yX2_fails, .selects RX2 yX2_fails yX2_fails, .initialized RX2, .code yX2_fails cX2_fails 2 (some .int)] ++ wsX20)
def wsX2_clearText : List Cond := .code yX2_clearText cX2_clearText 2 (some .int) :: ([.fieldLink RX2 27 "ZhegalkinBenchModel" "thrown" "I", .fieldLink RX2 73 "ZhegalkinBenchModel" "typed" "I"] ++ wsX20)
def wsX2_textError_r1 : List Cond := [Cond.fieldLink RX2 27 "ZhegalkinBenchModel" "thrown" "I", Cond.fieldLink RX2 82 "ZhegalkinBenchModel" "at" "I", Cond.methodLink RX2 58 yX2_reads, Cond.instanceMethod yX2_reads, Cond.selects RX2 yX2_reads yX2_reads, Cond.initialized RX2, Cond.code yX2_reads cX2_reads 3 (some .boolean), Cond.fieldLink RX2 62 "ZhegalkinBenchModel" "told" "I", Cond.fieldLink RX2 73 "ZhegalkinBenchModel" "typed" "I", Cond.fieldLink RX2 19 "ZhegalkinBenchModel" "text" "[I", Cond.constant RX2 26 (65535), Cond.methodLink RX2 88 yX2_product, Cond.instanceMethod yX2_product, Cond.selects RX2 yX2_product yX2_product, Cond.code yX2_product cX2_product 4 (some .int), Cond.methodLink RX2 79 yX2_has, Cond.instanceMethod yX2_has, Cond.selects RX2 yX2_has yX2_has, Cond.code yX2_has cX2_has 2 (some .boolean), Cond.methodLink RX2 76 yX2_highest, Cond.static yX2_highest, Cond.code yX2_highest cX2_highest 2 (some .int), Cond.methodLink RX2 31 yX2_in, Cond.static yX2_in]
def wsX2_textError_r2 : List Cond := [Cond.code yX2_in cX2_in 3 (some .boolean), Cond.methodLink RX2 85 yX2_canCome, Cond.instanceMethod yX2_canCome, Cond.selects RX2 yX2_canCome yX2_canCome, Cond.code yX2_canCome cX2_canCome 7 (some .boolean), Cond.methodLink RX2 45 yX2_bits, Cond.static yX2_bits, Cond.code yX2_bits cX2_bits 3 (some .int)]
def wsX2_textError : List Cond := .code yX2_textError cX2_textError 1 (some .int) :: ((wsX2_textError_r1 ++ wsX2_textError_r2) ++ wsX20)
def wsX2_textProducts_r1 : List Cond := [Cond.fieldLink RX2 27 "ZhegalkinBenchModel" "thrown" "I", Cond.fieldLink RX2 62 "ZhegalkinBenchModel" "told" "I", Cond.methodLink RX2 58 yX2_reads, Cond.instanceMethod yX2_reads, Cond.selects RX2 yX2_reads yX2_reads, Cond.initialized RX2, Cond.code yX2_reads cX2_reads 3 (some .boolean), Cond.fieldLink RX2 82 "ZhegalkinBenchModel" "at" "I", Cond.fieldLink RX2 73 "ZhegalkinBenchModel" "typed" "I", Cond.fieldLink RX2 19 "ZhegalkinBenchModel" "text" "[I", Cond.constant RX2 26 (65535), Cond.methodLink RX2 88 yX2_product, Cond.instanceMethod yX2_product, Cond.selects RX2 yX2_product yX2_product, Cond.code yX2_product cX2_product 4 (some .int), Cond.methodLink RX2 79 yX2_has, Cond.instanceMethod yX2_has, Cond.selects RX2 yX2_has yX2_has, Cond.code yX2_has cX2_has 2 (some .boolean), Cond.methodLink RX2 76 yX2_highest, Cond.static yX2_highest, Cond.code yX2_highest cX2_highest 2 (some .int), Cond.methodLink RX2 31 yX2_in, Cond.static yX2_in]
def wsX2_textProducts_r2 : List Cond := [Cond.code yX2_in cX2_in 3 (some .boolean), Cond.methodLink RX2 85 yX2_canCome, Cond.instanceMethod yX2_canCome, Cond.selects RX2 yX2_canCome yX2_canCome, Cond.code yX2_canCome cX2_canCome 7 (some .boolean), Cond.methodLink RX2 45 yX2_bits, Cond.static yX2_bits, Cond.code yX2_bits cX2_bits 3 (some .int), Cond.methodLink RX2 55 yX2_fails, Cond.instanceMethod yX2_fails, Cond.selects RX2 yX2_fails yX2_fails, Cond.code yX2_fails cX2_fails 2 (some .int)]
def wsX2_textProducts : List Cond := .code yX2_textProducts cX2_textProducts 1 (some .int) :: ((wsX2_textProducts_r1 ++ wsX2_textProducts_r2) ++ wsX20)
def wsX2_undo : List Cond := .code yX2_undo cX2_undo 1 (some .int) :: ([.fieldLink RX2 27 "ZhegalkinBenchModel" "thrown" "I", .fieldLink RX2 35 "ZhegalkinBenchModel" "kept" "I", .fieldLink RX2 13 "ZhegalkinBenchModel" "past" "[I", .fieldLink RX2 7 "ZhegalkinBenchModel" "now" "[I", .methodLink RX2 55 yX2_fails, .instanceMethod yX2_fails, .selects RX2 yX2_fails yX2_fails, .initialized RX2, .code yX2_fails cX2_fails 2 (some .int), .methodLink RX2 38 yX2_copies, .static yX2_copies, .code yX2_copies cX2_copies 5 none] ++ wsX20)
def wsX2_takeSnapshot : List Cond := .code yX2_takeSnapshot cX2_takeSnapshot 1 (some .int) :: ([.fieldLink RX2 27 "ZhegalkinBenchModel" "thrown" "I", .fieldLink RX2 7 "ZhegalkinBenchModel" "now" "[I", .fieldLink RX2 16 "ZhegalkinBenchModel" "shot" "[I", .fieldLink RX2 92 "ZhegalkinBenchModel" "hasShot" "Z", .methodLink RX2 38 yX2_copies, .static yX2_copies, .initialized RX2, .code yX2_copies cX2_copies 5 none, .methodLink RX2 96 yX2_allProducts, .instanceMethod yX2_allProducts, .selects RX2 yX2_allProducts yX2_allProducts, .code yX2_allProducts cX2_allProducts 3 (some .int), .methodLink RX2 42 yX2_turned, .static yX2_turned, .code yX2_turned cX2_turned 5 (some .int), .methodLink RX2 45 yX2_bits, .static yX2_bits, .code yX2_bits cX2_bits 3 (some .int)] ++ wsX20)
def wsX2_restoreSnapshot_r1 : List Cond := [Cond.fieldLink RX2 27 "ZhegalkinBenchModel" "thrown" "I", Cond.fieldLink RX2 92 "ZhegalkinBenchModel" "hasShot" "Z", Cond.fieldLink RX2 16 "ZhegalkinBenchModel" "shot" "[I", Cond.fieldLink RX2 7 "ZhegalkinBenchModel" "now" "[I", Cond.methodLink RX2 55 yX2_fails, Cond.instanceMethod yX2_fails, Cond.selects RX2 yX2_fails yX2_fails, Cond.initialized RX2, Cond.code yX2_fails cX2_fails 2 (some .int), Cond.methodLink RX2 48 yX2_records, Cond.instanceMethod yX2_records, Cond.selects RX2 yX2_records yX2_records, Cond.code yX2_records cX2_records 2 none, Cond.fieldLink RX2 35 "ZhegalkinBenchModel" "kept" "I", Cond.fieldLink RX2 13 "ZhegalkinBenchModel" "past" "[I", Cond.methodLink RX2 38 yX2_copies, Cond.static yX2_copies, Cond.code yX2_copies cX2_copies 5 none, Cond.methodLink RX2 96 yX2_allProducts, Cond.instanceMethod yX2_allProducts, Cond.selects RX2 yX2_allProducts yX2_allProducts, Cond.code yX2_allProducts cX2_allProducts 3 (some .int), Cond.methodLink RX2 42 yX2_turned, Cond.static yX2_turned]
def wsX2_restoreSnapshot_r2 : List Cond := [Cond.code yX2_turned cX2_turned 5 (some .int), Cond.methodLink RX2 45 yX2_bits, Cond.static yX2_bits, Cond.code yX2_bits cX2_bits 3 (some .int)]
def wsX2_restoreSnapshot : List Cond := .code yX2_restoreSnapshot cX2_restoreSnapshot 1 (some .int) :: ((wsX2_restoreSnapshot_r1 ++ wsX2_restoreSnapshot_r2) ++ wsX20)
def wsX2_is : List Cond := .code yX2_is cX2_is 2 (some .boolean) :: ([.fieldLink RX2 27 "ZhegalkinBenchModel" "thrown" "I", .methodLink RX2 51 yX2_isOne, .static yX2_isOne, .initialized RX2, .code yX2_isOne cX2_isOne 1 (some .boolean), .methodLink RX2 31 yX2_in, .static yX2_in, .code yX2_in cX2_in 3 (some .boolean)] ++ wsX20)
def wsX2_tableOf : List Cond := .code yX2_tableOf cX2_tableOf 2 (some .int) :: ([.fieldLink RX2 7 "ZhegalkinBenchModel" "now" "[I", .methodLink RX2 99 yX2_is, .instanceMethod yX2_is, .selects RX2 yX2_is yX2_is, .initialized RX2, .code yX2_is cX2_is 2 (some .boolean), .fieldLink RX2 27 "ZhegalkinBenchModel" "thrown" "I", .methodLink RX2 51 yX2_isOne, .static yX2_isOne, .code yX2_isOne cX2_isOne 1 (some .boolean), .methodLink RX2 31 yX2_in, .static yX2_in, .code yX2_in cX2_in 3 (some .boolean)] ++ wsX20)
def wsX2_valueAt : List Cond := .code yX2_valueAt cX2_valueAt 3 (some .int) :: ([.fieldLink RX2 27 "ZhegalkinBenchModel" "thrown" "I", .fieldLink RX2 7 "ZhegalkinBenchModel" "now" "[I", .methodLink RX2 51 yX2_isOne, .static yX2_isOne, .initialized RX2, .code yX2_isOne cX2_isOne 1 (some .boolean), .methodLink RX2 31 yX2_in, .static yX2_in, .code yX2_in cX2_in 3 (some .boolean)] ++ wsX20)
def wsX2_weightOf : List Cond := .code yX2_weightOf cX2_weightOf 2 (some .int) :: ([.fieldLink RX2 7 "ZhegalkinBenchModel" "now" "[I", .methodLink RX2 99 yX2_is, .instanceMethod yX2_is, .selects RX2 yX2_is yX2_is, .initialized RX2, .code yX2_is cX2_is 2 (some .boolean), .fieldLink RX2 27 "ZhegalkinBenchModel" "thrown" "I", .methodLink RX2 51 yX2_isOne, .static yX2_isOne, .code yX2_isOne cX2_isOne 1 (some .boolean), .methodLink RX2 31 yX2_in, .static yX2_in, .code yX2_in cX2_in 3 (some .boolean), .methodLink RX2 45 yX2_bits, .static yX2_bits, .code yX2_bits cX2_bits 3 (some .int)] ++ wsX20)
def wsX2_dependsOn : List Cond := .code yX2_dependsOn cX2_dependsOn 5 (some .boolean) :: ([.fieldLink RX2 27 "ZhegalkinBenchModel" "thrown" "I", .methodLink RX2 51 yX2_isOne, .static yX2_isOne, .initialized RX2, .code yX2_isOne cX2_isOne 1 (some .boolean), .methodLink RX2 31 yX2_in, .static yX2_in, .code yX2_in cX2_in 3 (some .boolean), .methodLink RX2 69 yX2_valueWith, .instanceMethod yX2_valueWith, .selects RX2 yX2_valueWith yX2_valueWith, .code yX2_valueWith cX2_valueWith 6 (some .int), .fieldLink RX2 7 "ZhegalkinBenchModel" "now" "[I"] ++ wsX20)
def wsX2_productsByHalves : List Cond := .code yX2_productsByHalves cX2_productsByHalves 2 (some .int) :: ([.fieldLink RX2 7 "ZhegalkinBenchModel" "now" "[I", .methodLink RX2 99 yX2_is, .instanceMethod yX2_is, .selects RX2 yX2_is yX2_is, .initialized RX2, .code yX2_is cX2_is 2 (some .boolean), .fieldLink RX2 27 "ZhegalkinBenchModel" "thrown" "I", .methodLink RX2 51 yX2_isOne, .static yX2_isOne, .code yX2_isOne cX2_isOne 1 (some .boolean), .methodLink RX2 31 yX2_in, .static yX2_in, .code yX2_in cX2_in 3 (some .boolean), .methodLink RX2 42 yX2_turned, .static yX2_turned, .code yX2_turned cX2_turned 5 (some .int)] ++ wsX20)
def wsX2_productsBySums : List Cond := .code yX2_productsBySums cX2_productsBySums 2 (some .int) :: ([.fieldLink RX2 7 "ZhegalkinBenchModel" "now" "[I", .methodLink RX2 99 yX2_is, .instanceMethod yX2_is, .selects RX2 yX2_is yX2_is, .initialized RX2, .code yX2_is cX2_is 2 (some .boolean), .fieldLink RX2 27 "ZhegalkinBenchModel" "thrown" "I", .methodLink RX2 51 yX2_isOne, .static yX2_isOne, .code yX2_isOne cX2_isOne 1 (some .boolean), .methodLink RX2 31 yX2_in, .static yX2_in, .code yX2_in cX2_in 3 (some .boolean), .methodLink RX2 42 yX2_turned, .static yX2_turned, .code yX2_turned cX2_turned 5 (some .int)] ++ wsX20)
def wsX2_degreeOf : List Cond := .code yX2_degreeOf cX2_degreeOf 2 (some .int) :: ([.fieldLink RX2 7 "ZhegalkinBenchModel" "now" "[I", .methodLink RX2 99 yX2_is, .instanceMethod yX2_is, .selects RX2 yX2_is yX2_is, .initialized RX2, .code yX2_is cX2_is 2 (some .boolean), .fieldLink RX2 27 "ZhegalkinBenchModel" "thrown" "I", .methodLink RX2 51 yX2_isOne, .static yX2_isOne, .code yX2_isOne cX2_isOne 1 (some .boolean), .methodLink RX2 31 yX2_in, .static yX2_in, .code yX2_in cX2_in 3 (some .boolean), .methodLink RX2 102 yX2_degree, .static yX2_degree, .code yX2_degree cX2_degree 4 (some .int), .methodLink RX2 42 yX2_turned, .static yX2_turned, .code yX2_turned cX2_turned 5 (some .int), .methodLink RX2 45 yX2_bits, .static yX2_bits, .code yX2_bits cX2_bits 3 (some .int)] ++ wsX20)
def wsX2_letters : List Cond := .code yX2_letters cX2_letters 1 (some .int) :: ([.methodLink RX2 45 yX2_bits, .static yX2_bits, .initialized RX2, .code yX2_bits cX2_bits 3 (some .int)])
def wsX2_printed : List Cond := .code yX2_printed cX2_printed 3 (some .int) :: ([.methodLink RX2 105 yX2_letters, .static yX2_letters, .initialized RX2, .code yX2_letters cX2_letters 1 (some .int), .methodLink RX2 45 yX2_bits, .static yX2_bits, .code yX2_bits cX2_bits 3 (some .int)])
def wsX2_printedLength_r1 : List Cond := [Cond.fieldLink RX2 7 "ZhegalkinBenchModel" "now" "[I", Cond.methodLink RX2 99 yX2_is, Cond.instanceMethod yX2_is, Cond.selects RX2 yX2_is yX2_is, Cond.initialized RX2, Cond.code yX2_is cX2_is 2 (some .boolean), Cond.fieldLink RX2 27 "ZhegalkinBenchModel" "thrown" "I", Cond.methodLink RX2 51 yX2_isOne, Cond.static yX2_isOne, Cond.code yX2_isOne cX2_isOne 1 (some .boolean), Cond.methodLink RX2 31 yX2_in, Cond.static yX2_in, Cond.code yX2_in cX2_in 3 (some .boolean), Cond.methodLink RX2 42 yX2_turned, Cond.static yX2_turned, Cond.code yX2_turned cX2_turned 5 (some .int), Cond.methodLink RX2 108 yX2_printed, Cond.static yX2_printed, Cond.code yX2_printed cX2_printed 3 (some .int), Cond.methodLink RX2 105 yX2_letters, Cond.static yX2_letters, Cond.code yX2_letters cX2_letters 1 (some .int), Cond.methodLink RX2 45 yX2_bits, Cond.static yX2_bits]
def wsX2_printedLength_r2 : List Cond := [Cond.code yX2_bits cX2_bits 3 (some .int)]
def wsX2_printedLength : List Cond := .code yX2_printedLength cX2_printedLength 2 (some .int) :: ((wsX2_printedLength_r1 ++ wsX2_printedLength_r2) ++ wsX20)
def wsX2_letter : List Cond := .code yX2_letter cX2_letter 4 (some .char) :: ([])
def wsX2_printedLetter_r1 : List Cond := [Cond.fieldLink RX2 7 "ZhegalkinBenchModel" "now" "[I", Cond.fieldLink RX2 27 "ZhegalkinBenchModel" "thrown" "I", Cond.methodLink RX2 99 yX2_is, Cond.instanceMethod yX2_is, Cond.selects RX2 yX2_is yX2_is, Cond.initialized RX2, Cond.code yX2_is cX2_is 2 (some .boolean), Cond.methodLink RX2 51 yX2_isOne, Cond.static yX2_isOne, Cond.code yX2_isOne cX2_isOne 1 (some .boolean), Cond.methodLink RX2 31 yX2_in, Cond.static yX2_in, Cond.code yX2_in cX2_in 3 (some .boolean), Cond.methodLink RX2 42 yX2_turned, Cond.static yX2_turned, Cond.code yX2_turned cX2_turned 5 (some .int), Cond.methodLink RX2 108 yX2_printed, Cond.static yX2_printed, Cond.code yX2_printed cX2_printed 3 (some .int), Cond.methodLink RX2 105 yX2_letters, Cond.static yX2_letters, Cond.code yX2_letters cX2_letters 1 (some .int), Cond.methodLink RX2 45 yX2_bits, Cond.static yX2_bits]
def wsX2_printedLetter_r2 : List Cond := [Cond.code yX2_bits cX2_bits 3 (some .int), Cond.methodLink RX2 111 yX2_letter, Cond.static yX2_letter, Cond.code yX2_letter cX2_letter 4 (some .char)]
def wsX2_printedLetter : List Cond := .code yX2_printedLetter cX2_printedLetter 7 (some .char) :: ((wsX2_printedLetter_r1 ++ wsX2_printedLetter_r2) ++ wsX20)
def wsX2_distance : List Cond := .code yX2_distance cX2_distance 5 (some .int) :: ([.constant RX2 26 (65535), .methodLink RX2 22 yX2_variable, .static yX2_variable, .initialized RX2, .code yX2_variable cX2_variable 3 (some .int), .methodLink RX2 45 yX2_bits, .static yX2_bits, .code yX2_bits cX2_bits 3 (some .int)])
def wsX2_distanceByTrying : List Cond := .code yX2_distanceByTrying cX2_distanceByTrying 2 (some .int) :: ([.fieldLink RX2 7 "ZhegalkinBenchModel" "now" "[I", .methodLink RX2 99 yX2_is, .instanceMethod yX2_is, .selects RX2 yX2_is yX2_is, .initialized RX2, .code yX2_is cX2_is 2 (some .boolean), .fieldLink RX2 27 "ZhegalkinBenchModel" "thrown" "I", .methodLink RX2 51 yX2_isOne, .static yX2_isOne, .code yX2_isOne cX2_isOne 1 (some .boolean), .methodLink RX2 31 yX2_in, .static yX2_in, .code yX2_in cX2_in 3 (some .boolean), .methodLink RX2 115 yX2_distance, .static yX2_distance, .code yX2_distance cX2_distance 5 (some .int), .constant RX2 26 (65535), .methodLink RX2 22 yX2_variable, .static yX2_variable, .code yX2_variable cX2_variable 3 (some .int), .methodLink RX2 45 yX2_bits, .static yX2_bits, .code yX2_bits cX2_bits 3 (some .int)] ++ wsX20)
def wsX2_distanceBySums : List Cond := .code yX2_distanceBySums cX2_distanceBySums 2 (some .int) :: ([.fieldLink RX2 7 "ZhegalkinBenchModel" "now" "[I", .methodLink RX2 99 yX2_is, .instanceMethod yX2_is, .selects RX2 yX2_is yX2_is, .initialized RX2, .code yX2_is cX2_is 2 (some .boolean), .fieldLink RX2 27 "ZhegalkinBenchModel" "thrown" "I", .methodLink RX2 51 yX2_isOne, .static yX2_isOne, .code yX2_isOne cX2_isOne 1 (some .boolean), .methodLink RX2 31 yX2_in, .static yX2_in, .code yX2_in cX2_in 3 (some .boolean), .methodLink RX2 115 yX2_distance, .static yX2_distance, .code yX2_distance cX2_distance 5 (some .int), .constant RX2 26 (65535), .methodLink RX2 22 yX2_variable, .static yX2_variable, .code yX2_variable cX2_variable 3 (some .int), .methodLink RX2 45 yX2_bits, .static yX2_bits, .code yX2_bits cX2_bits 3 (some .int)] ++ wsX20)
def wsX2_selfDual : List Cond := .code yX2_selfDual cX2_selfDual 3 (some .boolean) :: ([])
def wsX2_monotone : List Cond := .code yX2_monotone cX2_monotone 5 (some .boolean) :: ([])
def wsX2_isSelfDual : List Cond := .code yX2_isSelfDual cX2_isSelfDual 2 (some .boolean) :: ([.fieldLink RX2 7 "ZhegalkinBenchModel" "now" "[I", .methodLink RX2 99 yX2_is, .instanceMethod yX2_is, .selects RX2 yX2_is yX2_is, .initialized RX2, .code yX2_is cX2_is 2 (some .boolean), .fieldLink RX2 27 "ZhegalkinBenchModel" "thrown" "I", .methodLink RX2 51 yX2_isOne, .static yX2_isOne, .code yX2_isOne cX2_isOne 1 (some .boolean), .methodLink RX2 31 yX2_in, .static yX2_in, .code yX2_in cX2_in 3 (some .boolean), .methodLink RX2 118 yX2_selfDual, .static yX2_selfDual, .code yX2_selfDual cX2_selfDual 3 (some .boolean)] ++ wsX20)
def wsX2_isMonotone : List Cond := .code yX2_isMonotone cX2_isMonotone 2 (some .boolean) :: ([.fieldLink RX2 7 "ZhegalkinBenchModel" "now" "[I", .methodLink RX2 99 yX2_is, .instanceMethod yX2_is, .selects RX2 yX2_is yX2_is, .initialized RX2, .code yX2_is cX2_is 2 (some .boolean), .fieldLink RX2 27 "ZhegalkinBenchModel" "thrown" "I", .methodLink RX2 51 yX2_isOne, .static yX2_isOne, .code yX2_isOne cX2_isOne 1 (some .boolean), .methodLink RX2 31 yX2_in, .static yX2_in, .code yX2_in cX2_in 3 (some .boolean), .methodLink RX2 121 yX2_monotone, .static yX2_monotone, .code yX2_monotone cX2_monotone 5 (some .boolean)] ++ wsX20)
def wsX2_enough : List Cond := .code yX2_enough cX2_enough 5 (some .boolean) :: ([.fieldLink RX2 7 "ZhegalkinBenchModel" "now" "[I", .methodLink RX2 118 yX2_selfDual, .static yX2_selfDual, .initialized RX2, .code yX2_selfDual cX2_selfDual 3 (some .boolean), .methodLink RX2 121 yX2_monotone, .static yX2_monotone, .code yX2_monotone cX2_monotone 5 (some .boolean), .methodLink RX2 102 yX2_degree, .static yX2_degree, .code yX2_degree cX2_degree 4 (some .int), .methodLink RX2 42 yX2_turned, .static yX2_turned, .code yX2_turned cX2_turned 5 (some .int), .methodLink RX2 45 yX2_bits, .static yX2_bits, .code yX2_bits cX2_bits 3 (some .int)] ++ wsX20)
def wsX2_areEnough_r1 : List Cond := [Cond.fieldLink RX2 27 "ZhegalkinBenchModel" "thrown" "I", Cond.methodLink RX2 31 yX2_in, Cond.static yX2_in, Cond.initialized RX2, Cond.code yX2_in cX2_in 3 (some .boolean), Cond.methodLink RX2 124 yX2_enough, Cond.instanceMethod yX2_enough, Cond.selects RX2 yX2_enough yX2_enough, Cond.code yX2_enough cX2_enough 5 (some .boolean), Cond.fieldLink RX2 7 "ZhegalkinBenchModel" "now" "[I", Cond.methodLink RX2 118 yX2_selfDual, Cond.static yX2_selfDual, Cond.code yX2_selfDual cX2_selfDual 3 (some .boolean), Cond.methodLink RX2 121 yX2_monotone, Cond.static yX2_monotone, Cond.code yX2_monotone cX2_monotone 5 (some .boolean), Cond.methodLink RX2 102 yX2_degree, Cond.static yX2_degree, Cond.code yX2_degree cX2_degree 4 (some .int), Cond.methodLink RX2 42 yX2_turned, Cond.static yX2_turned, Cond.code yX2_turned cX2_turned 5 (some .int), Cond.methodLink RX2 45 yX2_bits, Cond.static yX2_bits]
def wsX2_areEnough_r2 : List Cond := [Cond.code yX2_bits cX2_bits 3 (some .int)]
def wsX2_areEnough : List Cond := .code yX2_areEnough cX2_areEnough 2 (some .boolean) :: ((wsX2_areEnough_r1 ++ wsX2_areEnough_r2) ++ wsX20)
def wsX2_fewestEnough : List Cond := .code yX2_fewestEnough cX2_fewestEnough 4 (some .int) :: ([.fieldLink RX2 27 "ZhegalkinBenchModel" "thrown" "I", .methodLink RX2 45 yX2_bits, .static yX2_bits, .initialized RX2, .code yX2_bits cX2_bits 3 (some .int), .methodLink RX2 124 yX2_enough, .instanceMethod yX2_enough, .selects RX2 yX2_enough yX2_enough, .code yX2_enough cX2_enough 5 (some .boolean), .fieldLink RX2 7 "ZhegalkinBenchModel" "now" "[I", .methodLink RX2 118 yX2_selfDual, .static yX2_selfDual, .code yX2_selfDual cX2_selfDual 3 (some .boolean), .methodLink RX2 121 yX2_monotone, .static yX2_monotone, .code yX2_monotone cX2_monotone 5 (some .boolean), .methodLink RX2 102 yX2_degree, .static yX2_degree, .code yX2_degree cX2_degree 4 (some .int), .methodLink RX2 42 yX2_turned, .static yX2_turned, .code yX2_turned cX2_turned 5 (some .int)] ++ wsX20)
def wsX2_recordedStates : List Cond := .code yX2_recordedStates cX2_recordedStates 1 (some .int) :: ([.fieldLink RX2 27 "ZhegalkinBenchModel" "thrown" "I", .fieldLink RX2 35 "ZhegalkinBenchModel" "kept" "I"] ++ wsX20)
def wsJ9_abs_0f7a4 : List Cond := .code yJ9_abs_0f7a4 cJ9_abs_0f7a4 1 (some .int) :: ([])
def wsJ9_max_7cf53 : List Cond := .code yJ9_max_7cf53 cJ9_max_7cf53 2 (some .int) :: ([])
def wsJ9_min_7cf53 : List Cond := .code yJ9_min_7cf53 cJ9_min_7cf53 2 (some .int) :: ([])
def wsL_define_r1 : List Cond := [Cond.classLink RL 13 "java/lang/IndexOutOfBoundsException", Cond.classLink RL 15 "java/lang/IllegalStateException", Cond.methodLink RL 7 yX1_define, Cond.instanceMethod yX1_define, Cond.selects RX1 yX1_define yX1_define, Cond.initialized RX1, Cond.code yX1_define cX1_define 3 (some .int), Cond.fieldLink RX1 9 "ZhegalkinBench" "tables" "[I", Cond.methodLink RX1 54 yX1_checkFunction, Cond.static yX1_checkFunction, Cond.code yX1_checkFunction cX1_checkFunction 1 none, Cond.classLink RX1 116 "java/lang/IndexOutOfBoundsException", Cond.initialized "java/lang/IndexOutOfBoundsException", Cond.methodLink RX1 58 yX1_validTextProducts, Cond.instanceMethod yX1_validTextProducts, Cond.selects RX1 yX1_validTextProducts yX1_validTextProducts, Cond.code yX1_validTextProducts cX1_validTextProducts 1 (some .int), Cond.classLink RX1 94 "java/lang/IllegalStateException", Cond.initialized "java/lang/IllegalStateException", Cond.fieldLink RX1 37 "ZhegalkinBench" "reader" "LZhegalkinBench$TextReader;", Cond.fieldLink RX1 27 "ZhegalkinBench" "text" "[C", Cond.fieldLink RX1 31 "ZhegalkinBench" "textLength" "I", Cond.instanceMethod yX0_firstError, Cond.initialized RX0]
def wsL_define_r2 : List Cond := [Cond.selects RX0 yX0_firstError yX0_firstError, Cond.code yX0_firstError cX0_firstError 4 (some .int), Cond.fieldLink RX0 11 "ZhegalkinBench$TextReader" "where" "I", Cond.fieldLink RX0 15 "ZhegalkinBench$TextReader" "finished" "I", Cond.methodLink RX0 24 yX0_startProduct, Cond.instanceMethod yX0_startProduct, Cond.selects RX0 yX0_startProduct yX0_startProduct, Cond.code yX0_startProduct cX0_startProduct 1 none, Cond.fieldLink RX0 18 "ZhegalkinBench$TextReader" "product" "I", Cond.fieldLink RX0 21 "ZhegalkinBench$TextReader" "nextVariable" "I", Cond.methodLink RX0 27 yX0_takes, Cond.instanceMethod yX0_takes, Cond.selects RX0 yX0_takes yX0_takes, Cond.code yX0_takes cX0_takes 2 (some .boolean), Cond.methodLink RX0 43 yX0_takesZero, Cond.instanceMethod yX0_takesZero, Cond.selects RX0 yX0_takesZero yX0_takesZero, Cond.code yX0_takesZero cX0_takesZero 1 (some .boolean), Cond.methodLink RX0 46 yX0_takesOne, Cond.instanceMethod yX0_takesOne, Cond.selects RX0 yX0_takesOne yX0_takesOne, Cond.code yX0_takesOne cX0_takesOne 2 (some .boolean), Cond.methodLink RX0 35 yX0_isNew, Cond.instanceMethod yX0_isNew]
def wsL_define_r3 : List Cond := [Cond.selects RX0 yX0_isNew yX0_isNew, Cond.code yX0_isNew cX0_isNew 2 (some .boolean), Cond.static yX1_bit, Cond.code yX1_bit cX1_bit 2 (some .int), Cond.methodLink RX0 49 yX0_takesPlus, Cond.instanceMethod yX0_takesPlus, Cond.selects RX0 yX0_takesPlus yX0_takesPlus, Cond.code yX0_takesPlus cX0_takesPlus 2 (some .boolean), Cond.constant RX0 55 (65535), Cond.methodLink RX0 52 yX0_takesVariable, Cond.instanceMethod yX0_takesVariable, Cond.selects RX0 yX0_takesVariable yX0_takesVariable, Cond.code yX0_takesVariable cX0_takesVariable 3 (some .boolean), Cond.methodLink RX0 56 yX0_canBecomeNew, Cond.instanceMethod yX0_canBecomeNew, Cond.selects RX0 yX0_canBecomeNew yX0_canBecomeNew, Cond.code yX0_canBecomeNew cX0_canBecomeNew 5 (some .boolean), Cond.methodLink RX0 31 yX0_canEnd, Cond.instanceMethod yX0_canEnd, Cond.selects RX0 yX0_canEnd yX0_canEnd, Cond.code yX0_canEnd cX0_canEnd 1 (some .boolean), Cond.instanceMethod yX0_productsRead, Cond.selects RX0 yX0_productsRead yX0_productsRead, Cond.code yX0_productsRead cX0_productsRead 1 (some .int)]
def wsL_define_r4 : List Cond := [Cond.methodLink RX1 62 yX1_recordState, Cond.instanceMethod yX1_recordState, Cond.selects RX1 yX1_recordState yX1_recordState, Cond.code yX1_recordState cX1_recordState 1 none, Cond.fieldLink RX1 16 "ZhegalkinBench" "recordedCount" "I", Cond.fieldLink RX1 13 "ZhegalkinBench" "recorded" "[I", Cond.methodLink RX1 105 arraycopyName, Cond.native arraycopyName, Cond.static arraycopyName, Cond.initialized "java/lang/System", Cond.methodLink RX1 65 yX1_addHalves, Cond.static yX1_addHalves, Cond.code yX1_addHalves cX1_addHalves 4 (some .int), Cond.fieldLink RX1 50 "ZhegalkinBench" "VARIABLE_TABLES" "[I", Cond.methodLink RX1 69 yJ6_bitCount_0f7a4, Cond.static yJ6_bitCount_0f7a4, Cond.initialized RJ6, Cond.code yJ6_bitCount_0f7a4 cJ6_bitCount_0f7a4 1 (some .int), Cond.constant RJ6 265 (1431655765), Cond.constant RJ6 266 (858993459), Cond.constant RJ6 267 (252645135)]
def wsL_define : List Cond := .codeWith yL_define cL_define 4 (some .int) [(0, 9, 12, 13), (0, 9, 15, 15)] :: ((wsL_define_r1 ++ (wsL_define_r2 ++ (wsL_define_r3 ++ wsL_define_r4))) ++ wsX10 ++ wsX00 ++ (vx_atS RX1 120 "java/lang/IndexOutOfBoundsException" ["java/lang/RuntimeException", "java/lang/Exception"]).filter goodWord ++ (vx_atS RX1 98 "java/lang/IllegalStateException" ["java/lang/RuntimeException", "java/lang/Exception"]).filter goodWord)
def wsL_setTable_r1 : List Cond := [Cond.classLink RL 13 "java/lang/IndexOutOfBoundsException", Cond.classLink RL 21 "java/lang/IllegalArgumentException", Cond.methodLink RL 17 yX1_setTable, Cond.instanceMethod yX1_setTable, Cond.selects RX1 yX1_setTable yX1_setTable, Cond.initialized RX1, Cond.code yX1_setTable cX1_setTable 4 (some .int), Cond.classLink RX1 74 "java/lang/IllegalArgumentException", Cond.initialized "java/lang/IllegalArgumentException", Cond.constant RX1 53 (65535), Cond.fieldLink RX1 9 "ZhegalkinBench" "tables" "[I", Cond.methodLink RX1 54 yX1_checkFunction, Cond.static yX1_checkFunction, Cond.code yX1_checkFunction cX1_checkFunction 1 none, Cond.classLink RX1 116 "java/lang/IndexOutOfBoundsException", Cond.initialized "java/lang/IndexOutOfBoundsException", Cond.methodLink RX1 62 yX1_recordState, Cond.instanceMethod yX1_recordState, Cond.selects RX1 yX1_recordState yX1_recordState, Cond.code yX1_recordState cX1_recordState 1 none, Cond.fieldLink RX1 16 "ZhegalkinBench" "recordedCount" "I", Cond.fieldLink RX1 13 "ZhegalkinBench" "recorded" "[I", Cond.methodLink RX1 105 arraycopyName, Cond.native arraycopyName]
def wsL_setTable_r2 : List Cond := [Cond.static arraycopyName, Cond.initialized "java/lang/System"]
def wsL_setTable : List Cond := .codeWith yL_setTable cL_setTable 5 (some .int) [(0, 10, 13, 13), (0, 10, 17, 21)] :: ((wsL_setTable_r1 ++ wsL_setTable_r2) ++ wsX10 ++ (vx_atS RX1 78 "java/lang/IllegalArgumentException" ["java/lang/RuntimeException", "java/lang/Exception"]).filter goodWord ++ (vx_atS RX1 120 "java/lang/IndexOutOfBoundsException" ["java/lang/RuntimeException", "java/lang/Exception"]).filter goodWord)
def wsL_join_r1 : List Cond := [Cond.classLink RL 13 "java/lang/IndexOutOfBoundsException", Cond.classLink RL 21 "java/lang/IllegalArgumentException", Cond.methodLink RL 23 yX1_join, Cond.instanceMethod yX1_join, Cond.selects RX1 yX1_join yX1_join, Cond.initialized RX1, Cond.code yX1_join cX1_join 6 (some .int), Cond.classLink RX1 74 "java/lang/IllegalArgumentException", Cond.initialized "java/lang/IllegalArgumentException", Cond.fieldLink RX1 9 "ZhegalkinBench" "tables" "[I", Cond.methodLink RX1 54 yX1_checkFunction, Cond.static yX1_checkFunction, Cond.code yX1_checkFunction cX1_checkFunction 1 none, Cond.classLink RX1 116 "java/lang/IndexOutOfBoundsException", Cond.initialized "java/lang/IndexOutOfBoundsException", Cond.methodLink RX1 83 yX1_joinTables, Cond.static yX1_joinTables, Cond.code yX1_joinTables cX1_joinTables 3 (some .int), Cond.constant RX1 53 (65535), Cond.methodLink RX1 62 yX1_recordState, Cond.instanceMethod yX1_recordState, Cond.selects RX1 yX1_recordState yX1_recordState, Cond.code yX1_recordState cX1_recordState 1 none, Cond.fieldLink RX1 16 "ZhegalkinBench" "recordedCount" "I"]
def wsL_join_r2 : List Cond := [Cond.fieldLink RX1 13 "ZhegalkinBench" "recorded" "[I", Cond.methodLink RX1 105 arraycopyName, Cond.native arraycopyName, Cond.static arraycopyName, Cond.initialized "java/lang/System"]
def wsL_join : List Cond := .codeWith yL_join cL_join 7 (some .int) [(0, 14, 17, 13), (0, 14, 21, 21)] :: ((wsL_join_r1 ++ wsL_join_r2) ++ wsX10 ++ (vx_atS RX1 78 "java/lang/IllegalArgumentException" ["java/lang/RuntimeException", "java/lang/Exception"]).filter goodWord ++ (vx_atS RX1 120 "java/lang/IndexOutOfBoundsException" ["java/lang/RuntimeException", "java/lang/Exception"]).filter goodWord)
def wsL_fix_r1 : List Cond := [Cond.classLink RL 13 "java/lang/IndexOutOfBoundsException", Cond.methodLink RL 27 yX1_fix, Cond.instanceMethod yX1_fix, Cond.selects RX1 yX1_fix yX1_fix, Cond.initialized RX1, Cond.code yX1_fix cX1_fix 4 (some .int), Cond.fieldLink RX1 9 "ZhegalkinBench" "tables" "[I", Cond.methodLink RX1 54 yX1_checkFunction, Cond.static yX1_checkFunction, Cond.code yX1_checkFunction cX1_checkFunction 1 none, Cond.classLink RX1 116 "java/lang/IndexOutOfBoundsException", Cond.initialized "java/lang/IndexOutOfBoundsException", Cond.methodLink RX1 87 yX1_checkVariable, Cond.static yX1_checkVariable, Cond.code yX1_checkVariable cX1_checkVariable 1 none, Cond.methodLink RX1 62 yX1_recordState, Cond.instanceMethod yX1_recordState, Cond.selects RX1 yX1_recordState yX1_recordState, Cond.code yX1_recordState cX1_recordState 1 none, Cond.fieldLink RX1 16 "ZhegalkinBench" "recordedCount" "I", Cond.fieldLink RX1 13 "ZhegalkinBench" "recorded" "[I", Cond.methodLink RX1 105 arraycopyName, Cond.native arraycopyName, Cond.static arraycopyName]
def wsL_fix_r2 : List Cond := [Cond.initialized "java/lang/System", Cond.methodLink RX1 90 yX1_half, Cond.static yX1_half, Cond.code yX1_half cX1_half 5 (some .int), Cond.fieldLink RX1 50 "ZhegalkinBench" "VARIABLE_TABLES" "[I"]
def wsL_fix : List Cond := .codeWith yL_fix cL_fix 6 (some .int) [(0, 12, 15, 13)] :: ((wsL_fix_r1 ++ wsL_fix_r2) ++ wsX10 ++ (vx_atS RX1 120 "java/lang/IndexOutOfBoundsException" ["java/lang/RuntimeException", "java/lang/Exception"]).filter goodWord)
def wsL_substitute_r1 : List Cond := [Cond.classLink RL 13 "java/lang/IndexOutOfBoundsException", Cond.methodLink RL 31 yX1_substitute, Cond.instanceMethod yX1_substitute, Cond.selects RX1 yX1_substitute yX1_substitute, Cond.initialized RX1, Cond.code yX1_substitute cX1_substitute 7 (some .int), Cond.fieldLink RX1 9 "ZhegalkinBench" "tables" "[I", Cond.methodLink RX1 54 yX1_checkFunction, Cond.static yX1_checkFunction, Cond.code yX1_checkFunction cX1_checkFunction 1 none, Cond.classLink RX1 116 "java/lang/IndexOutOfBoundsException", Cond.initialized "java/lang/IndexOutOfBoundsException", Cond.methodLink RX1 87 yX1_checkVariable, Cond.static yX1_checkVariable, Cond.code yX1_checkVariable cX1_checkVariable 1 none, Cond.methodLink RX1 90 yX1_half, Cond.static yX1_half, Cond.code yX1_half cX1_half 5 (some .int), Cond.fieldLink RX1 50 "ZhegalkinBench" "VARIABLE_TABLES" "[I", Cond.methodLink RX1 62 yX1_recordState, Cond.instanceMethod yX1_recordState, Cond.selects RX1 yX1_recordState yX1_recordState, Cond.code yX1_recordState cX1_recordState 1 none, Cond.fieldLink RX1 16 "ZhegalkinBench" "recordedCount" "I"]
def wsL_substitute_r2 : List Cond := [Cond.fieldLink RX1 13 "ZhegalkinBench" "recorded" "[I", Cond.methodLink RX1 105 arraycopyName, Cond.native arraycopyName, Cond.static arraycopyName, Cond.initialized "java/lang/System"]
def wsL_substitute : List Cond := .codeWith yL_substitute cL_substitute 6 (some .int) [(0, 12, 15, 13)] :: ((wsL_substitute_r1 ++ wsL_substitute_r2) ++ wsX10 ++ (vx_atS RX1 120 "java/lang/IndexOutOfBoundsException" ["java/lang/RuntimeException", "java/lang/Exception"]).filter goodWord)
def wsL_type : List Cond := .codeWith yL_type cL_type 4 (some .int) [(0, 9, 12, 15)] :: ([.classLink RL 15 "java/lang/IllegalStateException", .methodLink RL 35 yX1_type, .instanceMethod yX1_type, .selects RX1 yX1_type yX1_type, .initialized RX1, .code yX1_type cX1_type 2 (some .int), .classLink RX1 94 "java/lang/IllegalStateException", .initialized "java/lang/IllegalStateException", .fieldLink RX1 31 "ZhegalkinBench" "textLength" "I", .fieldLink RX1 27 "ZhegalkinBench" "text" "[C"] ++ wsX10 ++ (vx_atS RX1 98 "java/lang/IllegalStateException" ["java/lang/RuntimeException", "java/lang/Exception"]).filter goodWord)
def wsL_textProducts_r1 : List Cond := [Cond.classLink RL 15 "java/lang/IllegalStateException", Cond.methodLink RL 39 yX1_textProducts, Cond.instanceMethod yX1_textProducts, Cond.selects RX1 yX1_textProducts yX1_textProducts, Cond.initialized RX1, Cond.code yX1_textProducts cX1_textProducts 1 (some .int), Cond.methodLink RX1 58 yX1_validTextProducts, Cond.instanceMethod yX1_validTextProducts, Cond.selects RX1 yX1_validTextProducts yX1_validTextProducts, Cond.code yX1_validTextProducts cX1_validTextProducts 1 (some .int), Cond.classLink RX1 94 "java/lang/IllegalStateException", Cond.initialized "java/lang/IllegalStateException", Cond.fieldLink RX1 37 "ZhegalkinBench" "reader" "LZhegalkinBench$TextReader;", Cond.fieldLink RX1 27 "ZhegalkinBench" "text" "[C", Cond.fieldLink RX1 31 "ZhegalkinBench" "textLength" "I", Cond.instanceMethod yX0_firstError, Cond.initialized RX0, Cond.selects RX0 yX0_firstError yX0_firstError, Cond.code yX0_firstError cX0_firstError 4 (some .int), Cond.fieldLink RX0 11 "ZhegalkinBench$TextReader" "where" "I", Cond.fieldLink RX0 15 "ZhegalkinBench$TextReader" "finished" "I", Cond.methodLink RX0 24 yX0_startProduct, Cond.instanceMethod yX0_startProduct, Cond.selects RX0 yX0_startProduct yX0_startProduct]
def wsL_textProducts_r2 : List Cond := [Cond.code yX0_startProduct cX0_startProduct 1 none, Cond.fieldLink RX0 18 "ZhegalkinBench$TextReader" "product" "I", Cond.fieldLink RX0 21 "ZhegalkinBench$TextReader" "nextVariable" "I", Cond.methodLink RX0 27 yX0_takes, Cond.instanceMethod yX0_takes, Cond.selects RX0 yX0_takes yX0_takes, Cond.code yX0_takes cX0_takes 2 (some .boolean), Cond.methodLink RX0 43 yX0_takesZero, Cond.instanceMethod yX0_takesZero, Cond.selects RX0 yX0_takesZero yX0_takesZero, Cond.code yX0_takesZero cX0_takesZero 1 (some .boolean), Cond.methodLink RX0 46 yX0_takesOne, Cond.instanceMethod yX0_takesOne, Cond.selects RX0 yX0_takesOne yX0_takesOne, Cond.code yX0_takesOne cX0_takesOne 2 (some .boolean), Cond.methodLink RX0 35 yX0_isNew, Cond.instanceMethod yX0_isNew, Cond.selects RX0 yX0_isNew yX0_isNew, Cond.code yX0_isNew cX0_isNew 2 (some .boolean), Cond.static yX1_bit, Cond.code yX1_bit cX1_bit 2 (some .int), Cond.methodLink RX0 49 yX0_takesPlus, Cond.instanceMethod yX0_takesPlus, Cond.selects RX0 yX0_takesPlus yX0_takesPlus]
def wsL_textProducts_r3 : List Cond := [Cond.code yX0_takesPlus cX0_takesPlus 2 (some .boolean), Cond.constant RX0 55 (65535), Cond.methodLink RX0 52 yX0_takesVariable, Cond.instanceMethod yX0_takesVariable, Cond.selects RX0 yX0_takesVariable yX0_takesVariable, Cond.code yX0_takesVariable cX0_takesVariable 3 (some .boolean), Cond.methodLink RX0 56 yX0_canBecomeNew, Cond.instanceMethod yX0_canBecomeNew, Cond.selects RX0 yX0_canBecomeNew yX0_canBecomeNew, Cond.code yX0_canBecomeNew cX0_canBecomeNew 5 (some .boolean), Cond.methodLink RX0 31 yX0_canEnd, Cond.instanceMethod yX0_canEnd, Cond.selects RX0 yX0_canEnd yX0_canEnd, Cond.code yX0_canEnd cX0_canEnd 1 (some .boolean), Cond.instanceMethod yX0_productsRead, Cond.selects RX0 yX0_productsRead yX0_productsRead, Cond.code yX0_productsRead cX0_productsRead 1 (some .int)]
def wsL_textProducts : List Cond := .codeWith yL_textProducts cL_textProducts 3 (some .int) [(0, 8, 11, 15)] :: ((wsL_textProducts_r1 ++ (wsL_textProducts_r2 ++ wsL_textProducts_r3)) ++ wsX10 ++ wsX00 ++ (vx_atS RX1 98 "java/lang/IllegalStateException" ["java/lang/RuntimeException", "java/lang/Exception"]).filter goodWord)
def wsL_undo : List Cond := .codeWith yL_undo cL_undo 3 (some .int) [(0, 8, 11, 15)] :: ([.classLink RL 15 "java/lang/IllegalStateException", .methodLink RL 43 yX1_undo, .instanceMethod yX1_undo, .selects RX1 yX1_undo yX1_undo, .initialized RX1, .code yX1_undo cX1_undo 1 (some .int), .classLink RX1 94 "java/lang/IllegalStateException", .initialized "java/lang/IllegalStateException", .fieldLink RX1 16 "ZhegalkinBench" "recordedCount" "I", .fieldLink RX1 13 "ZhegalkinBench" "recorded" "[I", .fieldLink RX1 9 "ZhegalkinBench" "tables" "[I", .methodLink RX1 105 arraycopyName, .native arraycopyName, .static arraycopyName, .initialized "java/lang/System"] ++ wsX10 ++ (vx_atS RX1 98 "java/lang/IllegalStateException" ["java/lang/RuntimeException", "java/lang/Exception"]).filter goodWord)
def wsL_restoreSnapshot_r1 : List Cond := [Cond.classLink RL 15 "java/lang/IllegalStateException", Cond.methodLink RL 46 yX1_restoreSnapshot, Cond.instanceMethod yX1_restoreSnapshot, Cond.selects RX1 yX1_restoreSnapshot yX1_restoreSnapshot, Cond.initialized RX1, Cond.code yX1_restoreSnapshot cX1_restoreSnapshot 1 (some .int), Cond.classLink RX1 94 "java/lang/IllegalStateException", Cond.initialized "java/lang/IllegalStateException", Cond.fieldLink RX1 23 "ZhegalkinBench" "hasSnapshot" "Z", Cond.fieldLink RX1 20 "ZhegalkinBench" "snapshot" "[I", Cond.fieldLink RX1 9 "ZhegalkinBench" "tables" "[I", Cond.methodLink RX1 105 arraycopyName, Cond.native arraycopyName, Cond.static arraycopyName, Cond.initialized "java/lang/System", Cond.methodLink RX1 62 yX1_recordState, Cond.instanceMethod yX1_recordState, Cond.selects RX1 yX1_recordState yX1_recordState, Cond.code yX1_recordState cX1_recordState 1 none, Cond.fieldLink RX1 16 "ZhegalkinBench" "recordedCount" "I", Cond.fieldLink RX1 13 "ZhegalkinBench" "recorded" "[I", Cond.methodLink RX1 111 yX1_countAllProducts, Cond.instanceMethod yX1_countAllProducts, Cond.selects RX1 yX1_countAllProducts yX1_countAllProducts]
def wsL_restoreSnapshot_r2 : List Cond := [Cond.code yX1_countAllProducts cX1_countAllProducts 3 (some .int), Cond.methodLink RX1 65 yX1_addHalves, Cond.static yX1_addHalves, Cond.code yX1_addHalves cX1_addHalves 4 (some .int), Cond.fieldLink RX1 50 "ZhegalkinBench" "VARIABLE_TABLES" "[I", Cond.methodLink RX1 69 yJ6_bitCount_0f7a4, Cond.static yJ6_bitCount_0f7a4, Cond.initialized RJ6, Cond.code yJ6_bitCount_0f7a4 cJ6_bitCount_0f7a4 1 (some .int), Cond.constant RJ6 265 (1431655765), Cond.constant RJ6 266 (858993459), Cond.constant RJ6 267 (252645135)]
def wsL_restoreSnapshot : List Cond := .codeWith yL_restoreSnapshot cL_restoreSnapshot 3 (some .int) [(0, 8, 11, 15)] :: ((wsL_restoreSnapshot_r1 ++ wsL_restoreSnapshot_r2) ++ wsX10 ++ (vx_atS RX1 98 "java/lang/IllegalStateException" ["java/lang/RuntimeException", "java/lang/Exception"]).filter goodWord)
def wsL_tableOf : List Cond := .codeWith yL_tableOf cL_tableOf 4 (some .int) [(0, 9, 12, 13)] :: ([.classLink RL 13 "java/lang/IndexOutOfBoundsException", .methodLink RL 49 yX1_tableOf, .instanceMethod yX1_tableOf, .selects RX1 yX1_tableOf yX1_tableOf, .initialized RX1, .code yX1_tableOf cX1_tableOf 2 (some .int), .fieldLink RX1 9 "ZhegalkinBench" "tables" "[I", .methodLink RX1 54 yX1_checkFunction, .static yX1_checkFunction, .code yX1_checkFunction cX1_checkFunction 1 none, .classLink RX1 116 "java/lang/IndexOutOfBoundsException", .initialized "java/lang/IndexOutOfBoundsException"] ++ wsX10 ++ (vx_atS RX1 120 "java/lang/IndexOutOfBoundsException" ["java/lang/RuntimeException", "java/lang/Exception"]).filter goodWord)
def wsL_valueAt : List Cond := .codeWith yL_valueAt cL_valueAt 5 (some .int) [(0, 10, 13, 13)] :: ([.classLink RL 13 "java/lang/IndexOutOfBoundsException", .methodLink RL 52 yX1_valueAt, .instanceMethod yX1_valueAt, .selects RX1 yX1_valueAt yX1_valueAt, .initialized RX1, .code yX1_valueAt cX1_valueAt 3 (some .int), .classLink RX1 116 "java/lang/IndexOutOfBoundsException", .initialized "java/lang/IndexOutOfBoundsException", .fieldLink RX1 9 "ZhegalkinBench" "tables" "[I", .methodLink RX1 54 yX1_checkFunction, .static yX1_checkFunction, .code yX1_checkFunction cX1_checkFunction 1 none, .methodLink RX1 121 yX1_bit, .static yX1_bit, .code yX1_bit cX1_bit 2 (some .int)] ++ wsX10 ++ (vx_atS RX1 120 "java/lang/IndexOutOfBoundsException" ["java/lang/RuntimeException", "java/lang/Exception"]).filter goodWord)
def wsL_weightOf : List Cond := .codeWith yL_weightOf cL_weightOf 4 (some .int) [(0, 9, 12, 13)] :: ([.classLink RL 13 "java/lang/IndexOutOfBoundsException", .methodLink RL 55 yX1_weightOf, .instanceMethod yX1_weightOf, .selects RX1 yX1_weightOf yX1_weightOf, .initialized RX1, .code yX1_weightOf cX1_weightOf 2 (some .int), .fieldLink RX1 9 "ZhegalkinBench" "tables" "[I", .methodLink RX1 54 yX1_checkFunction, .static yX1_checkFunction, .code yX1_checkFunction cX1_checkFunction 1 none, .classLink RX1 116 "java/lang/IndexOutOfBoundsException", .initialized "java/lang/IndexOutOfBoundsException", .methodLink RX1 69 yJ6_bitCount_0f7a4, .static yJ6_bitCount_0f7a4, .initialized RJ6, .code yJ6_bitCount_0f7a4 cJ6_bitCount_0f7a4 1 (some .int), .constant RJ6 265 (1431655765), .constant RJ6 266 (858993459), .constant RJ6 267 (252645135)] ++ wsX10 ++ (vx_atS RX1 120 "java/lang/IndexOutOfBoundsException" ["java/lang/RuntimeException", "java/lang/Exception"]).filter goodWord)
def wsL_dependsOn : List Cond := .codeWith yL_dependsOn cL_dependsOn 5 (some .int) [(0, 17, 20, 13)] :: ([.classLink RL 13 "java/lang/IndexOutOfBoundsException", .methodLink RL 58 yX1_dependsOn, .instanceMethod yX1_dependsOn, .selects RX1 yX1_dependsOn yX1_dependsOn, .initialized RX1, .code yX1_dependsOn cX1_dependsOn 3 (some .boolean), .fieldLink RX1 9 "ZhegalkinBench" "tables" "[I", .methodLink RX1 54 yX1_checkFunction, .static yX1_checkFunction, .code yX1_checkFunction cX1_checkFunction 1 none, .classLink RX1 116 "java/lang/IndexOutOfBoundsException", .initialized "java/lang/IndexOutOfBoundsException", .methodLink RX1 87 yX1_checkVariable, .static yX1_checkVariable, .code yX1_checkVariable cX1_checkVariable 1 none, .methodLink RX1 90 yX1_half, .static yX1_half, .code yX1_half cX1_half 5 (some .int), .fieldLink RX1 50 "ZhegalkinBench" "VARIABLE_TABLES" "[I"] ++ wsX10 ++ (vx_atS RX1 120 "java/lang/IndexOutOfBoundsException" ["java/lang/RuntimeException", "java/lang/Exception"]).filter goodWord)
def wsL_productsByHalves : List Cond := .codeWith yL_productsByHalves cL_productsByHalves 4 (some .int) [(0, 9, 12, 13)] :: ([.classLink RL 13 "java/lang/IndexOutOfBoundsException", .methodLink RL 62 yX1_productsByHalves, .instanceMethod yX1_productsByHalves, .selects RX1 yX1_productsByHalves yX1_productsByHalves, .initialized RX1, .code yX1_productsByHalves cX1_productsByHalves 2 (some .int), .fieldLink RX1 9 "ZhegalkinBench" "tables" "[I", .methodLink RX1 54 yX1_checkFunction, .static yX1_checkFunction, .code yX1_checkFunction cX1_checkFunction 1 none, .classLink RX1 116 "java/lang/IndexOutOfBoundsException", .initialized "java/lang/IndexOutOfBoundsException", .methodLink RX1 65 yX1_addHalves, .static yX1_addHalves, .code yX1_addHalves cX1_addHalves 4 (some .int), .fieldLink RX1 50 "ZhegalkinBench" "VARIABLE_TABLES" "[I"] ++ wsX10 ++ (vx_atS RX1 120 "java/lang/IndexOutOfBoundsException" ["java/lang/RuntimeException", "java/lang/Exception"]).filter goodWord)
def wsL_productsBySums : List Cond := .codeWith yL_productsBySums cL_productsBySums 4 (some .int) [(0, 9, 12, 13)] :: ([.classLink RL 13 "java/lang/IndexOutOfBoundsException", .methodLink RL 65 yX1_productsBySums, .instanceMethod yX1_productsBySums, .selects RX1 yX1_productsBySums yX1_productsBySums, .initialized RX1, .code yX1_productsBySums cX1_productsBySums 4 (some .int), .fieldLink RX1 9 "ZhegalkinBench" "tables" "[I", .methodLink RX1 54 yX1_checkFunction, .static yX1_checkFunction, .code yX1_checkFunction cX1_checkFunction 1 none, .classLink RX1 116 "java/lang/IndexOutOfBoundsException", .initialized "java/lang/IndexOutOfBoundsException", .methodLink RX1 125 yX1_sumBelow, .static yX1_sumBelow, .code yX1_sumBelow cX1_sumBelow 4 (some .int), .methodLink RX1 121 yX1_bit, .static yX1_bit, .code yX1_bit cX1_bit 2 (some .int)] ++ wsX10 ++ (vx_atS RX1 120 "java/lang/IndexOutOfBoundsException" ["java/lang/RuntimeException", "java/lang/Exception"]).filter goodWord)
def wsL_degreeOf_r1 : List Cond := [Cond.classLink RL 13 "java/lang/IndexOutOfBoundsException", Cond.methodLink RL 68 yX1_degreeOf, Cond.instanceMethod yX1_degreeOf, Cond.selects RX1 yX1_degreeOf yX1_degreeOf, Cond.initialized RX1, Cond.code yX1_degreeOf cX1_degreeOf 2 (some .int), Cond.fieldLink RX1 9 "ZhegalkinBench" "tables" "[I", Cond.methodLink RX1 54 yX1_checkFunction, Cond.static yX1_checkFunction, Cond.code yX1_checkFunction cX1_checkFunction 1 none, Cond.classLink RX1 116 "java/lang/IndexOutOfBoundsException", Cond.initialized "java/lang/IndexOutOfBoundsException", Cond.methodLink RX1 128 yX1_degree, Cond.static yX1_degree, Cond.code yX1_degree cX1_degree 4 (some .int), Cond.methodLink RX1 150 Lib.Math.max.name, Cond.static Lib.Math.max.name, Cond.initialized "java/lang/Math", Cond.code Lib.Math.max.name Lib.Math.max.code 2 (some .int), Cond.methodLink RX1 65 yX1_addHalves, Cond.static yX1_addHalves, Cond.code yX1_addHalves cX1_addHalves 4 (some .int), Cond.fieldLink RX1 50 "ZhegalkinBench" "VARIABLE_TABLES" "[I", Cond.methodLink RX1 121 yX1_bit]
def wsL_degreeOf_r2 : List Cond := [Cond.static yX1_bit, Cond.code yX1_bit cX1_bit 2 (some .int), Cond.methodLink RX1 69 yJ6_bitCount_0f7a4, Cond.static yJ6_bitCount_0f7a4, Cond.initialized RJ6, Cond.code yJ6_bitCount_0f7a4 cJ6_bitCount_0f7a4 1 (some .int), Cond.constant RJ6 265 (1431655765), Cond.constant RJ6 266 (858993459), Cond.constant RJ6 267 (252645135)]
def wsL_degreeOf : List Cond := .codeWith yL_degreeOf cL_degreeOf 4 (some .int) [(0, 9, 12, 13)] :: ((wsL_degreeOf_r1 ++ wsL_degreeOf_r2) ++ wsX10 ++ (vx_atS RX1 120 "java/lang/IndexOutOfBoundsException" ["java/lang/RuntimeException", "java/lang/Exception"]).filter goodWord)
def wsL_printedLength_r1 : List Cond := [Cond.classLink RL 13 "java/lang/IndexOutOfBoundsException", Cond.methodLink RL 71 yX1_printedLength, Cond.instanceMethod yX1_printedLength, Cond.selects RX1 yX1_printedLength yX1_printedLength, Cond.initialized RX1, Cond.code yX1_printedLength cX1_printedLength 2 (some .int), Cond.fieldLink RX1 9 "ZhegalkinBench" "tables" "[I", Cond.fieldLink RX1 47 "ZhegalkinBench" "printedCount" "I", Cond.methodLink RX1 54 yX1_checkFunction, Cond.static yX1_checkFunction, Cond.code yX1_checkFunction cX1_checkFunction 1 none, Cond.classLink RX1 116 "java/lang/IndexOutOfBoundsException", Cond.initialized "java/lang/IndexOutOfBoundsException", Cond.methodLink RX1 65 yX1_addHalves, Cond.static yX1_addHalves, Cond.code yX1_addHalves cX1_addHalves 4 (some .int), Cond.fieldLink RX1 50 "ZhegalkinBench" "VARIABLE_TABLES" "[I", Cond.methodLink RX1 131 yX1_print, Cond.instanceMethod yX1_print, Cond.selects RX1 yX1_print yX1_print, Cond.code yX1_print cX1_print 3 none, Cond.methodLink RX1 177 yX1_put, Cond.instanceMethod yX1_put, Cond.selects RX1 yX1_put yX1_put]
def wsL_printedLength_r2 : List Cond := [Cond.code yX1_put cX1_put 2 none, Cond.fieldLink RX1 44 "ZhegalkinBench" "printed" "[C", Cond.methodLink RX1 121 yX1_bit, Cond.static yX1_bit, Cond.code yX1_bit cX1_bit 2 (some .int), Cond.methodLink RX1 181 yX1_printProduct, Cond.instanceMethod yX1_printProduct, Cond.selects RX1 yX1_printProduct yX1_printProduct, Cond.code yX1_printProduct cX1_printProduct 3 none]
def wsL_printedLength : List Cond := .codeWith yL_printedLength cL_printedLength 4 (some .int) [(0, 9, 12, 13)] :: ((wsL_printedLength_r1 ++ wsL_printedLength_r2) ++ wsX10 ++ (vx_atS RX1 120 "java/lang/IndexOutOfBoundsException" ["java/lang/RuntimeException", "java/lang/Exception"]).filter goodWord)
def wsL_printedLetter_r1 : List Cond := [Cond.classLink RL 13 "java/lang/IndexOutOfBoundsException", Cond.methodLink RL 74 yX1_printedLetter, Cond.instanceMethod yX1_printedLetter, Cond.selects RX1 yX1_printedLetter yX1_printedLetter, Cond.initialized RX1, Cond.code yX1_printedLetter cX1_printedLetter 3 (some .char), Cond.classLink RX1 116 "java/lang/IndexOutOfBoundsException", Cond.initialized "java/lang/IndexOutOfBoundsException", Cond.fieldLink RX1 9 "ZhegalkinBench" "tables" "[I", Cond.fieldLink RX1 47 "ZhegalkinBench" "printedCount" "I", Cond.fieldLink RX1 44 "ZhegalkinBench" "printed" "[C", Cond.methodLink RX1 54 yX1_checkFunction, Cond.static yX1_checkFunction, Cond.code yX1_checkFunction cX1_checkFunction 1 none, Cond.methodLink RX1 65 yX1_addHalves, Cond.static yX1_addHalves, Cond.code yX1_addHalves cX1_addHalves 4 (some .int), Cond.fieldLink RX1 50 "ZhegalkinBench" "VARIABLE_TABLES" "[I", Cond.methodLink RX1 131 yX1_print, Cond.instanceMethod yX1_print, Cond.selects RX1 yX1_print yX1_print, Cond.code yX1_print cX1_print 3 none, Cond.methodLink RX1 177 yX1_put, Cond.instanceMethod yX1_put]
def wsL_printedLetter_r2 : List Cond := [Cond.selects RX1 yX1_put yX1_put, Cond.code yX1_put cX1_put 2 none, Cond.methodLink RX1 121 yX1_bit, Cond.static yX1_bit, Cond.code yX1_bit cX1_bit 2 (some .int), Cond.methodLink RX1 181 yX1_printProduct, Cond.instanceMethod yX1_printProduct, Cond.selects RX1 yX1_printProduct yX1_printProduct, Cond.code yX1_printProduct cX1_printProduct 3 none]
def wsL_printedLetter : List Cond := .codeWith yL_printedLetter cL_printedLetter 5 (some .int) [(0, 10, 13, 13)] :: ((wsL_printedLetter_r1 ++ wsL_printedLetter_r2) ++ wsX10 ++ (vx_atS RX1 120 "java/lang/IndexOutOfBoundsException" ["java/lang/RuntimeException", "java/lang/Exception"]).filter goodWord)
def wsL_distanceByTrying_r1 : List Cond := [Cond.classLink RL 13 "java/lang/IndexOutOfBoundsException", Cond.methodLink RL 78 yX1_distanceByTrying, Cond.instanceMethod yX1_distanceByTrying, Cond.selects RX1 yX1_distanceByTrying yX1_distanceByTrying, Cond.initialized RX1, Cond.code yX1_distanceByTrying cX1_distanceByTrying 5 (some .int), Cond.fieldLink RX1 9 "ZhegalkinBench" "tables" "[I", Cond.methodLink RX1 139 Lib.Math.min.name, Cond.static Lib.Math.min.name, Cond.initialized "java/lang/Math", Cond.code Lib.Math.min.name Lib.Math.min.code 2 (some .int), Cond.methodLink RX1 54 yX1_checkFunction, Cond.static yX1_checkFunction, Cond.code yX1_checkFunction cX1_checkFunction 1 none, Cond.classLink RX1 116 "java/lang/IndexOutOfBoundsException", Cond.initialized "java/lang/IndexOutOfBoundsException", Cond.methodLink RX1 136 yX1_linearTable, Cond.static yX1_linearTable, Cond.code yX1_linearTable cX1_linearTable 3 (some .int), Cond.constant RX1 53 (65535), Cond.fieldLink RX1 50 "ZhegalkinBench" "VARIABLE_TABLES" "[I", Cond.methodLink RX1 121 yX1_bit, Cond.static yX1_bit, Cond.code yX1_bit cX1_bit 2 (some .int)]
def wsL_distanceByTrying_r2 : List Cond := [Cond.methodLink RX1 69 yJ6_bitCount_0f7a4, Cond.static yJ6_bitCount_0f7a4, Cond.initialized RJ6, Cond.code yJ6_bitCount_0f7a4 cJ6_bitCount_0f7a4 1 (some .int), Cond.constant RJ6 265 (1431655765), Cond.constant RJ6 266 (858993459), Cond.constant RJ6 267 (252645135)]
def wsL_distanceByTrying : List Cond := .codeWith yL_distanceByTrying cL_distanceByTrying 4 (some .int) [(0, 9, 12, 13)] :: ((wsL_distanceByTrying_r1 ++ wsL_distanceByTrying_r2) ++ wsX10 ++ (vx_atS RX1 120 "java/lang/IndexOutOfBoundsException" ["java/lang/RuntimeException", "java/lang/Exception"]).filter goodWord)
def wsL_distanceBySums_r1 : List Cond := [Cond.classLink RL 13 "java/lang/IndexOutOfBoundsException", Cond.methodLink RL 81 yX1_distanceBySums, Cond.instanceMethod yX1_distanceBySums, Cond.selects RX1 yX1_distanceBySums yX1_distanceBySums, Cond.initialized RX1, Cond.code yX1_distanceBySums cX1_distanceBySums 4 (some .int), Cond.fieldLink RX1 41 "ZhegalkinBench" "sums" "[I", Cond.fieldLink RX1 9 "ZhegalkinBench" "tables" "[I", Cond.methodLink RX1 147 Lib.Math.abs.name, Cond.static Lib.Math.abs.name, Cond.initialized "java/lang/Math", Cond.code Lib.Math.abs.name Lib.Math.abs.code 1 (some .int), Cond.methodLink RX1 150 Lib.Math.max.name, Cond.static Lib.Math.max.name, Cond.code Lib.Math.max.name Lib.Math.max.code 2 (some .int), Cond.methodLink RX1 54 yX1_checkFunction, Cond.static yX1_checkFunction, Cond.code yX1_checkFunction cX1_checkFunction 1 none, Cond.classLink RX1 116 "java/lang/IndexOutOfBoundsException", Cond.initialized "java/lang/IndexOutOfBoundsException", Cond.methodLink RX1 121 yX1_bit, Cond.static yX1_bit, Cond.code yX1_bit cX1_bit 2 (some .int), Cond.methodLink RX1 144 yX1_sumPairs]
def wsL_distanceBySums_r2 : List Cond := [Cond.instanceMethod yX1_sumPairs, Cond.selects RX1 yX1_sumPairs yX1_sumPairs, Cond.code yX1_sumPairs cX1_sumPairs 6 none]
def wsL_distanceBySums : List Cond := .codeWith yL_distanceBySums cL_distanceBySums 4 (some .int) [(0, 9, 12, 13)] :: ((wsL_distanceBySums_r1 ++ wsL_distanceBySums_r2) ++ wsX10 ++ (vx_atS RX1 120 "java/lang/IndexOutOfBoundsException" ["java/lang/RuntimeException", "java/lang/Exception"]).filter goodWord)
def wsL_isSelfDual : List Cond := .codeWith yL_isSelfDual cL_isSelfDual 4 (some .int) [(0, 16, 19, 13)] :: ([.classLink RL 13 "java/lang/IndexOutOfBoundsException", .methodLink RL 84 yX1_isSelfDual, .instanceMethod yX1_isSelfDual, .selects RX1 yX1_isSelfDual yX1_isSelfDual, .initialized RX1, .code yX1_isSelfDual cX1_isSelfDual 2 (some .boolean), .fieldLink RX1 9 "ZhegalkinBench" "tables" "[I", .methodLink RX1 54 yX1_checkFunction, .static yX1_checkFunction, .code yX1_checkFunction cX1_checkFunction 1 none, .classLink RX1 116 "java/lang/IndexOutOfBoundsException", .initialized "java/lang/IndexOutOfBoundsException", .methodLink RX1 153 yX1_hasOppositeEnds, .static yX1_hasOppositeEnds, .code yX1_hasOppositeEnds cX1_hasOppositeEnds 2 (some .boolean), .methodLink RX1 121 yX1_bit, .static yX1_bit, .code yX1_bit cX1_bit 2 (some .int)] ++ wsX10 ++ (vx_atS RX1 120 "java/lang/IndexOutOfBoundsException" ["java/lang/RuntimeException", "java/lang/Exception"]).filter goodWord)
def wsL_isMonotone : List Cond := .codeWith yL_isMonotone cL_isMonotone 4 (some .int) [(0, 16, 19, 13)] :: ([.classLink RL 13 "java/lang/IndexOutOfBoundsException", .methodLink RL 88 yX1_isMonotone, .instanceMethod yX1_isMonotone, .selects RX1 yX1_isMonotone yX1_isMonotone, .initialized RX1, .code yX1_isMonotone cX1_isMonotone 2 (some .boolean), .fieldLink RX1 9 "ZhegalkinBench" "tables" "[I", .methodLink RX1 54 yX1_checkFunction, .static yX1_checkFunction, .code yX1_checkFunction cX1_checkFunction 1 none, .classLink RX1 116 "java/lang/IndexOutOfBoundsException", .initialized "java/lang/IndexOutOfBoundsException", .methodLink RX1 157 yX1_neverFalls, .static yX1_neverFalls, .code yX1_neverFalls cX1_neverFalls 2 (some .boolean), .methodLink RX1 90 yX1_half, .static yX1_half, .code yX1_half cX1_half 5 (some .int), .fieldLink RX1 50 "ZhegalkinBench" "VARIABLE_TABLES" "[I"] ++ wsX10 ++ (vx_atS RX1 120 "java/lang/IndexOutOfBoundsException" ["java/lang/RuntimeException", "java/lang/Exception"]).filter goodWord)
def wsL_areEnough_r1 : List Cond := [Cond.classLink RL 21 "java/lang/IllegalArgumentException", Cond.methodLink RL 91 yX1_areEnough, Cond.instanceMethod yX1_areEnough, Cond.selects RX1 yX1_areEnough yX1_areEnough, Cond.initialized RX1, Cond.code yX1_areEnough cX1_areEnough 2 (some .boolean), Cond.classLink RX1 74 "java/lang/IllegalArgumentException", Cond.initialized "java/lang/IllegalArgumentException", Cond.methodLink RX1 162 yX1_sharedClasses, Cond.instanceMethod yX1_sharedClasses, Cond.selects RX1 yX1_sharedClasses yX1_sharedClasses, Cond.code yX1_sharedClasses cX1_sharedClasses 4 (some .int), Cond.fieldLink RX1 9 "ZhegalkinBench" "tables" "[I", Cond.methodLink RX1 121 yX1_bit, Cond.static yX1_bit, Cond.code yX1_bit cX1_bit 2 (some .int), Cond.methodLink RX1 174 yX1_classesOf, Cond.static yX1_classesOf, Cond.code yX1_classesOf cX1_classesOf 2 (some .int), Cond.methodLink RX1 153 yX1_hasOppositeEnds, Cond.static yX1_hasOppositeEnds, Cond.code yX1_hasOppositeEnds cX1_hasOppositeEnds 2 (some .boolean), Cond.methodLink RX1 157 yX1_neverFalls, Cond.static yX1_neverFalls]
def wsL_areEnough_r2 : List Cond := [Cond.code yX1_neverFalls cX1_neverFalls 2 (some .boolean), Cond.methodLink RX1 90 yX1_half, Cond.static yX1_half, Cond.code yX1_half cX1_half 5 (some .int), Cond.fieldLink RX1 50 "ZhegalkinBench" "VARIABLE_TABLES" "[I", Cond.methodLink RX1 128 yX1_degree, Cond.static yX1_degree, Cond.code yX1_degree cX1_degree 4 (some .int), Cond.methodLink RX1 150 Lib.Math.max.name, Cond.static Lib.Math.max.name, Cond.initialized "java/lang/Math", Cond.code Lib.Math.max.name Lib.Math.max.code 2 (some .int), Cond.methodLink RX1 65 yX1_addHalves, Cond.static yX1_addHalves, Cond.code yX1_addHalves cX1_addHalves 4 (some .int), Cond.methodLink RX1 69 yJ6_bitCount_0f7a4, Cond.static yJ6_bitCount_0f7a4, Cond.initialized RJ6, Cond.code yJ6_bitCount_0f7a4 cJ6_bitCount_0f7a4 1 (some .int), Cond.constant RJ6 265 (1431655765), Cond.constant RJ6 266 (858993459), Cond.constant RJ6 267 (252645135)]
def wsL_areEnough : List Cond := .codeWith yL_areEnough cL_areEnough 4 (some .int) [(0, 16, 19, 21)] :: ((wsL_areEnough_r1 ++ wsL_areEnough_r2) ++ wsX10 ++ (vx_atS RX1 78 "java/lang/IllegalArgumentException" ["java/lang/RuntimeException", "java/lang/Exception"]).filter goodWord)
def wsL_law0_r1 : List Cond := [Cond.classLink RL 8 RX1, Cond.instantiable RX1 11, Cond.initialized RX1, Cond.classLink RL 95 RX2, Cond.instantiable RX2 10, Cond.initialized RX2, Cond.arrayClass .long, Cond.methodLink RL 94 yX1_init, Cond.instanceMethod yX1_init, Cond.code yX1_init cX1_init 2 none, Cond.methodLink RX1 1 objectInit, Cond.instanceMethod objectInit, Cond.code objectInit ⟨#[0xb1]⟩ 1 none, Cond.arrayClass .int, Cond.fieldLink RX1 9 "ZhegalkinBench" "tables" "[I", Cond.fieldLink RX1 13 "ZhegalkinBench" "recorded" "[I", Cond.fieldLink RX1 16 "ZhegalkinBench" "recordedCount" "I", Cond.fieldLink RX1 20 "ZhegalkinBench" "snapshot" "[I", Cond.fieldLink RX1 23 "ZhegalkinBench" "hasSnapshot" "Z", Cond.arrayClass .char, Cond.fieldLink RX1 27 "ZhegalkinBench" "text" "[C", Cond.fieldLink RX1 31 "ZhegalkinBench" "textLength" "I", Cond.classLink RX1 34 RX0, Cond.instantiable RX0 4]
def wsL_law0_r2 : List Cond := [Cond.initialized RX0, Cond.fieldLink RX1 37 "ZhegalkinBench" "reader" "LZhegalkinBench$TextReader;", Cond.fieldLink RX1 41 "ZhegalkinBench" "sums" "[I", Cond.fieldLink RX1 44 "ZhegalkinBench" "printed" "[C", Cond.fieldLink RX1 47 "ZhegalkinBench" "printedCount" "I", Cond.fieldLink RX1 50 "ZhegalkinBench" "VARIABLE_TABLES" "[I", Cond.constant RX1 53 (65535), Cond.instanceMethod yX0_init, Cond.code yX0_init cX0_init 1 none, Cond.methodLink RX0 3 objectInit, Cond.fieldLink RX0 11 "ZhegalkinBench$TextReader" "where" "I", Cond.fieldLink RX0 15 "ZhegalkinBench$TextReader" "finished" "I", Cond.fieldLink RX0 18 "ZhegalkinBench$TextReader" "product" "I", Cond.fieldLink RX0 21 "ZhegalkinBench$TextReader" "nextVariable" "I", Cond.methodLink RL 97 yX2_init, Cond.instanceMethod yX2_init, Cond.code yX2_init cX2_init 2 none, Cond.methodLink RX2 1 objectInit, Cond.fieldLink RX2 7 "ZhegalkinBenchModel" "now" "[I", Cond.fieldLink RX2 13 "ZhegalkinBenchModel" "past" "[I", Cond.fieldLink RX2 16 "ZhegalkinBenchModel" "shot" "[I", Cond.fieldLink RX2 19 "ZhegalkinBenchModel" "text" "[I", Cond.constant RX2 26 (65535), Cond.methodLink RX2 22 yX2_variable]
def wsL_law0_r3 : List Cond := [Cond.static yX2_variable, Cond.code yX2_variable cX2_variable 3 (some .int), Cond.methodLink RL 98 yL_define, Cond.static yL_define, Cond.initialized RL, Cond.codeWith yL_define cL_define 4 (some .int) [(0, 9, 12, 13), (0, 9, 15, 15)], Cond.classLink RL 13 "java/lang/IndexOutOfBoundsException", Cond.classLink RL 15 "java/lang/IllegalStateException", Cond.methodLink RL 7 yX1_define, Cond.instanceMethod yX1_define, Cond.selects RX1 yX1_define yX1_define, Cond.code yX1_define cX1_define 3 (some .int), Cond.methodLink RX1 54 yX1_checkFunction, Cond.static yX1_checkFunction, Cond.code yX1_checkFunction cX1_checkFunction 1 none, Cond.classLink RX1 116 "java/lang/IndexOutOfBoundsException", Cond.initialized "java/lang/IndexOutOfBoundsException", Cond.methodLink RX1 58 yX1_validTextProducts, Cond.instanceMethod yX1_validTextProducts, Cond.selects RX1 yX1_validTextProducts yX1_validTextProducts, Cond.code yX1_validTextProducts cX1_validTextProducts 1 (some .int), Cond.classLink RX1 94 "java/lang/IllegalStateException", Cond.initialized "java/lang/IllegalStateException", Cond.instanceMethod yX0_firstError]
def wsL_law0_r4 : List Cond := [Cond.selects RX0 yX0_firstError yX0_firstError, Cond.code yX0_firstError cX0_firstError 4 (some .int), Cond.methodLink RX0 24 yX0_startProduct, Cond.instanceMethod yX0_startProduct, Cond.selects RX0 yX0_startProduct yX0_startProduct, Cond.code yX0_startProduct cX0_startProduct 1 none, Cond.methodLink RX0 27 yX0_takes, Cond.instanceMethod yX0_takes, Cond.selects RX0 yX0_takes yX0_takes, Cond.code yX0_takes cX0_takes 2 (some .boolean), Cond.methodLink RX0 43 yX0_takesZero, Cond.instanceMethod yX0_takesZero, Cond.selects RX0 yX0_takesZero yX0_takesZero, Cond.code yX0_takesZero cX0_takesZero 1 (some .boolean), Cond.methodLink RX0 46 yX0_takesOne, Cond.instanceMethod yX0_takesOne, Cond.selects RX0 yX0_takesOne yX0_takesOne, Cond.code yX0_takesOne cX0_takesOne 2 (some .boolean), Cond.methodLink RX0 35 yX0_isNew, Cond.instanceMethod yX0_isNew, Cond.selects RX0 yX0_isNew yX0_isNew, Cond.code yX0_isNew cX0_isNew 2 (some .boolean), Cond.static yX1_bit, Cond.code yX1_bit cX1_bit 2 (some .int)]
def wsL_law0_r5 : List Cond := [Cond.methodLink RX0 49 yX0_takesPlus, Cond.instanceMethod yX0_takesPlus, Cond.selects RX0 yX0_takesPlus yX0_takesPlus, Cond.code yX0_takesPlus cX0_takesPlus 2 (some .boolean), Cond.constant RX0 55 (65535), Cond.methodLink RX0 52 yX0_takesVariable, Cond.instanceMethod yX0_takesVariable, Cond.selects RX0 yX0_takesVariable yX0_takesVariable, Cond.code yX0_takesVariable cX0_takesVariable 3 (some .boolean), Cond.methodLink RX0 56 yX0_canBecomeNew, Cond.instanceMethod yX0_canBecomeNew, Cond.selects RX0 yX0_canBecomeNew yX0_canBecomeNew, Cond.code yX0_canBecomeNew cX0_canBecomeNew 5 (some .boolean), Cond.methodLink RX0 31 yX0_canEnd, Cond.instanceMethod yX0_canEnd, Cond.selects RX0 yX0_canEnd yX0_canEnd, Cond.code yX0_canEnd cX0_canEnd 1 (some .boolean), Cond.instanceMethod yX0_productsRead, Cond.selects RX0 yX0_productsRead yX0_productsRead, Cond.code yX0_productsRead cX0_productsRead 1 (some .int), Cond.methodLink RX1 62 yX1_recordState, Cond.instanceMethod yX1_recordState, Cond.selects RX1 yX1_recordState yX1_recordState, Cond.code yX1_recordState cX1_recordState 1 none]
def wsL_law0_r6 : List Cond := [Cond.methodLink RX1 105 arraycopyName, Cond.native arraycopyName, Cond.static arraycopyName, Cond.initialized "java/lang/System", Cond.methodLink RX1 65 yX1_addHalves, Cond.static yX1_addHalves, Cond.code yX1_addHalves cX1_addHalves 4 (some .int), Cond.methodLink RX1 69 yJ6_bitCount_0f7a4, Cond.static yJ6_bitCount_0f7a4, Cond.initialized RJ6, Cond.code yJ6_bitCount_0f7a4 cJ6_bitCount_0f7a4 1 (some .int), Cond.constant RJ6 265 (1431655765), Cond.constant RJ6 266 (858993459), Cond.constant RJ6 267 (252645135), Cond.methodLink RL 103 yX2_define, Cond.instanceMethod yX2_define, Cond.selects RX2 yX2_define yX2_define, Cond.code yX2_define cX2_define 2 (some .int), Cond.fieldLink RX2 27 "ZhegalkinBenchModel" "thrown" "I", Cond.fieldLink RX2 62 "ZhegalkinBenchModel" "told" "I", Cond.methodLink RX2 51 yX2_isOne, Cond.static yX2_isOne, Cond.code yX2_isOne cX2_isOne 1 (some .boolean), Cond.methodLink RX2 31 yX2_in]
def wsL_law0_r7 : List Cond := [Cond.static yX2_in, Cond.code yX2_in cX2_in 3 (some .boolean), Cond.methodLink RX2 55 yX2_fails, Cond.instanceMethod yX2_fails, Cond.selects RX2 yX2_fails yX2_fails, Cond.code yX2_fails cX2_fails 2 (some .int), Cond.methodLink RX2 58 yX2_reads, Cond.instanceMethod yX2_reads, Cond.selects RX2 yX2_reads yX2_reads, Cond.code yX2_reads cX2_reads 3 (some .boolean), Cond.fieldLink RX2 82 "ZhegalkinBenchModel" "at" "I", Cond.fieldLink RX2 73 "ZhegalkinBenchModel" "typed" "I", Cond.methodLink RX2 88 yX2_product, Cond.instanceMethod yX2_product, Cond.selects RX2 yX2_product yX2_product, Cond.code yX2_product cX2_product 4 (some .int), Cond.methodLink RX2 79 yX2_has, Cond.instanceMethod yX2_has, Cond.selects RX2 yX2_has yX2_has, Cond.code yX2_has cX2_has 2 (some .boolean), Cond.methodLink RX2 76 yX2_highest, Cond.static yX2_highest, Cond.code yX2_highest cX2_highest 2 (some .int), Cond.methodLink RX2 85 yX2_canCome]
def wsL_law0_r8 : List Cond := [Cond.instanceMethod yX2_canCome, Cond.selects RX2 yX2_canCome yX2_canCome, Cond.code yX2_canCome cX2_canCome 7 (some .boolean), Cond.methodLink RX2 45 yX2_bits, Cond.static yX2_bits, Cond.code yX2_bits cX2_bits 3 (some .int), Cond.methodLink RX2 42 yX2_turned, Cond.static yX2_turned, Cond.code yX2_turned cX2_turned 5 (some .int), Cond.methodLink RX2 65 yX2_sets, Cond.instanceMethod yX2_sets, Cond.selects RX2 yX2_sets yX2_sets, Cond.code yX2_sets cX2_sets 3 (some .int), Cond.methodLink RX2 48 yX2_records, Cond.instanceMethod yX2_records, Cond.selects RX2 yX2_records yX2_records, Cond.code yX2_records cX2_records 2 none, Cond.fieldLink RX2 35 "ZhegalkinBenchModel" "kept" "I", Cond.methodLink RX2 38 yX2_copies, Cond.static yX2_copies, Cond.code yX2_copies cX2_copies 5 none, Cond.methodLink RL 104 yX2_thrown, Cond.instanceMethod yX2_thrown, Cond.selects RX2 yX2_thrown yX2_thrown]
def wsL_law0_r9 : List Cond := [Cond.code yX2_thrown cX2_thrown 1 (some .int), Cond.methodLink RL 107 yL_setTable, Cond.static yL_setTable, Cond.codeWith yL_setTable cL_setTable 5 (some .int) [(0, 10, 13, 13), (0, 10, 17, 21)], Cond.classLink RL 21 "java/lang/IllegalArgumentException", Cond.methodLink RL 17 yX1_setTable, Cond.instanceMethod yX1_setTable, Cond.selects RX1 yX1_setTable yX1_setTable, Cond.code yX1_setTable cX1_setTable 4 (some .int), Cond.classLink RX1 74 "java/lang/IllegalArgumentException", Cond.initialized "java/lang/IllegalArgumentException", Cond.methodLink RL 110 yX2_setTable, Cond.instanceMethod yX2_setTable, Cond.selects RX2 yX2_setTable yX2_setTable, Cond.code yX2_setTable cX2_setTable 4 (some .int), Cond.methodLink RL 111 yL_join, Cond.static yL_join, Cond.codeWith yL_join cL_join 7 (some .int) [(0, 14, 17, 13), (0, 14, 21, 21)], Cond.methodLink RL 23 yX1_join, Cond.instanceMethod yX1_join, Cond.selects RX1 yX1_join yX1_join, Cond.code yX1_join cX1_join 6 (some .int), Cond.methodLink RX1 83 yX1_joinTables, Cond.static yX1_joinTables]
def wsL_law0_r10 : List Cond := [Cond.code yX1_joinTables cX1_joinTables 3 (some .int), Cond.methodLink RL 114 yX2_join, Cond.instanceMethod yX2_join, Cond.selects RX2 yX2_join yX2_join, Cond.code yX2_join cX2_join 7 (some .int), Cond.methodLink RL 115 yL_fix, Cond.static yL_fix, Cond.codeWith yL_fix cL_fix 6 (some .int) [(0, 12, 15, 13)], Cond.methodLink RL 27 yX1_fix, Cond.instanceMethod yX1_fix, Cond.selects RX1 yX1_fix yX1_fix, Cond.code yX1_fix cX1_fix 4 (some .int), Cond.methodLink RX1 87 yX1_checkVariable, Cond.static yX1_checkVariable, Cond.code yX1_checkVariable cX1_checkVariable 1 none, Cond.methodLink RX1 90 yX1_half, Cond.static yX1_half, Cond.code yX1_half cX1_half 5 (some .int), Cond.methodLink RL 118 yX2_fix, Cond.instanceMethod yX2_fix, Cond.selects RX2 yX2_fix yX2_fix, Cond.code yX2_fix cX2_fix 6 (some .int), Cond.methodLink RX2 69 yX2_valueWith, Cond.instanceMethod yX2_valueWith]
def wsL_law0_r11 : List Cond := [Cond.selects RX2 yX2_valueWith yX2_valueWith, Cond.code yX2_valueWith cX2_valueWith 6 (some .int), Cond.methodLink RL 119 yL_substitute, Cond.static yL_substitute, Cond.codeWith yL_substitute cL_substitute 6 (some .int) [(0, 12, 15, 13)], Cond.methodLink RL 31 yX1_substitute, Cond.instanceMethod yX1_substitute, Cond.selects RX1 yX1_substitute yX1_substitute, Cond.code yX1_substitute cX1_substitute 7 (some .int), Cond.methodLink RL 122 yX2_substitute, Cond.instanceMethod yX2_substitute, Cond.selects RX2 yX2_substitute yX2_substitute, Cond.code yX2_substitute cX2_substitute 6 (some .int), Cond.methodLink RL 123 yL_type, Cond.static yL_type, Cond.codeWith yL_type cL_type 4 (some .int) [(0, 9, 12, 15)], Cond.methodLink RL 35 yX1_type, Cond.instanceMethod yX1_type, Cond.selects RX1 yX1_type yX1_type, Cond.code yX1_type cX1_type 2 (some .int), Cond.methodLink RL 126 yX2_type, Cond.instanceMethod yX2_type, Cond.selects RX2 yX2_type yX2_type, Cond.code yX2_type cX2_type 2 (some .int)]
def wsL_law0_r12 : List Cond := [Cond.methodLink RL 127 yX1_clearText, Cond.instanceMethod yX1_clearText, Cond.selects RX1 yX1_clearText yX1_clearText, Cond.code yX1_clearText cX1_clearText 2 (some .int), Cond.methodLink RL 130 yX2_clearText, Cond.instanceMethod yX2_clearText, Cond.selects RX2 yX2_clearText yX2_clearText, Cond.code yX2_clearText cX2_clearText 2 (some .int), Cond.methodLink RL 131 yX1_textError, Cond.instanceMethod yX1_textError, Cond.selects RX1 yX1_textError yX1_textError, Cond.code yX1_textError cX1_textError 1 (some .int), Cond.methodLink RL 134 yX2_textError, Cond.instanceMethod yX2_textError, Cond.selects RX2 yX2_textError yX2_textError, Cond.code yX2_textError cX2_textError 1 (some .int), Cond.methodLink RL 135 yL_textProducts, Cond.static yL_textProducts, Cond.codeWith yL_textProducts cL_textProducts 3 (some .int) [(0, 8, 11, 15)], Cond.methodLink RL 39 yX1_textProducts, Cond.instanceMethod yX1_textProducts, Cond.selects RX1 yX1_textProducts yX1_textProducts, Cond.code yX1_textProducts cX1_textProducts 1 (some .int), Cond.methodLink RL 138 yX2_textProducts]
def wsL_law0_r13 : List Cond := [Cond.instanceMethod yX2_textProducts, Cond.selects RX2 yX2_textProducts yX2_textProducts, Cond.code yX2_textProducts cX2_textProducts 1 (some .int), Cond.methodLink RL 139 yL_undo, Cond.static yL_undo, Cond.codeWith yL_undo cL_undo 3 (some .int) [(0, 8, 11, 15)], Cond.methodLink RL 43 yX1_undo, Cond.instanceMethod yX1_undo, Cond.selects RX1 yX1_undo yX1_undo, Cond.code yX1_undo cX1_undo 1 (some .int), Cond.methodLink RL 141 yX2_undo, Cond.instanceMethod yX2_undo, Cond.selects RX2 yX2_undo yX2_undo, Cond.code yX2_undo cX2_undo 1 (some .int), Cond.methodLink RL 142 yX1_takeSnapshot, Cond.instanceMethod yX1_takeSnapshot, Cond.selects RX1 yX1_takeSnapshot yX1_takeSnapshot, Cond.code yX1_takeSnapshot cX1_takeSnapshot 1 (some .int), Cond.methodLink RX1 111 yX1_countAllProducts, Cond.instanceMethod yX1_countAllProducts, Cond.selects RX1 yX1_countAllProducts yX1_countAllProducts, Cond.code yX1_countAllProducts cX1_countAllProducts 3 (some .int), Cond.methodLink RL 145 yX2_takeSnapshot, Cond.instanceMethod yX2_takeSnapshot]
def wsL_law0_r14 : List Cond := [Cond.selects RX2 yX2_takeSnapshot yX2_takeSnapshot, Cond.code yX2_takeSnapshot cX2_takeSnapshot 1 (some .int), Cond.fieldLink RX2 92 "ZhegalkinBenchModel" "hasShot" "Z", Cond.methodLink RX2 96 yX2_allProducts, Cond.instanceMethod yX2_allProducts, Cond.selects RX2 yX2_allProducts yX2_allProducts, Cond.code yX2_allProducts cX2_allProducts 3 (some .int), Cond.methodLink RL 146 yL_restoreSnapshot, Cond.static yL_restoreSnapshot, Cond.codeWith yL_restoreSnapshot cL_restoreSnapshot 3 (some .int) [(0, 8, 11, 15)], Cond.methodLink RL 46 yX1_restoreSnapshot, Cond.instanceMethod yX1_restoreSnapshot, Cond.selects RX1 yX1_restoreSnapshot yX1_restoreSnapshot, Cond.code yX1_restoreSnapshot cX1_restoreSnapshot 1 (some .int), Cond.methodLink RL 148 yX2_restoreSnapshot, Cond.instanceMethod yX2_restoreSnapshot, Cond.selects RX2 yX2_restoreSnapshot yX2_restoreSnapshot, Cond.code yX2_restoreSnapshot cX2_restoreSnapshot 1 (some .int), Cond.methodLink RL 149 yL_tableOf, Cond.static yL_tableOf, Cond.codeWith yL_tableOf cL_tableOf 4 (some .int) [(0, 9, 12, 13)], Cond.methodLink RL 49 yX1_tableOf, Cond.instanceMethod yX1_tableOf, Cond.selects RX1 yX1_tableOf yX1_tableOf]
def wsL_law0_r15 : List Cond := [Cond.code yX1_tableOf cX1_tableOf 2 (some .int), Cond.methodLink RL 151 yX2_tableOf, Cond.instanceMethod yX2_tableOf, Cond.selects RX2 yX2_tableOf yX2_tableOf, Cond.code yX2_tableOf cX2_tableOf 2 (some .int), Cond.methodLink RX2 99 yX2_is, Cond.instanceMethod yX2_is, Cond.selects RX2 yX2_is yX2_is, Cond.code yX2_is cX2_is 2 (some .boolean), Cond.methodLink RL 152 yL_valueAt, Cond.static yL_valueAt, Cond.codeWith yL_valueAt cL_valueAt 5 (some .int) [(0, 10, 13, 13)], Cond.methodLink RL 52 yX1_valueAt, Cond.instanceMethod yX1_valueAt, Cond.selects RX1 yX1_valueAt yX1_valueAt, Cond.code yX1_valueAt cX1_valueAt 3 (some .int), Cond.methodLink RX1 121 yX1_bit, Cond.methodLink RL 154 yX2_valueAt, Cond.instanceMethod yX2_valueAt, Cond.selects RX2 yX2_valueAt yX2_valueAt, Cond.code yX2_valueAt cX2_valueAt 3 (some .int), Cond.methodLink RL 155 yL_weightOf, Cond.static yL_weightOf, Cond.codeWith yL_weightOf cL_weightOf 4 (some .int) [(0, 9, 12, 13)]]
def wsL_law0_r16 : List Cond := [Cond.methodLink RL 55 yX1_weightOf, Cond.instanceMethod yX1_weightOf, Cond.selects RX1 yX1_weightOf yX1_weightOf, Cond.code yX1_weightOf cX1_weightOf 2 (some .int), Cond.methodLink RL 157 yX2_weightOf, Cond.instanceMethod yX2_weightOf, Cond.selects RX2 yX2_weightOf yX2_weightOf, Cond.code yX2_weightOf cX2_weightOf 2 (some .int), Cond.methodLink RL 158 yL_dependsOn, Cond.static yL_dependsOn, Cond.codeWith yL_dependsOn cL_dependsOn 5 (some .int) [(0, 17, 20, 13)], Cond.methodLink RL 58 yX1_dependsOn, Cond.instanceMethod yX1_dependsOn, Cond.selects RX1 yX1_dependsOn yX1_dependsOn, Cond.code yX1_dependsOn cX1_dependsOn 3 (some .boolean), Cond.methodLink RL 160 yX2_dependsOn, Cond.instanceMethod yX2_dependsOn, Cond.selects RX2 yX2_dependsOn yX2_dependsOn, Cond.code yX2_dependsOn cX2_dependsOn 5 (some .boolean), Cond.methodLink RL 161 yL_productsByHalves, Cond.static yL_productsByHalves, Cond.codeWith yL_productsByHalves cL_productsByHalves 4 (some .int) [(0, 9, 12, 13)], Cond.methodLink RL 62 yX1_productsByHalves, Cond.instanceMethod yX1_productsByHalves]
def wsL_law0_r17 : List Cond := [Cond.selects RX1 yX1_productsByHalves yX1_productsByHalves, Cond.code yX1_productsByHalves cX1_productsByHalves 2 (some .int), Cond.methodLink RL 163 yX2_productsByHalves, Cond.instanceMethod yX2_productsByHalves, Cond.selects RX2 yX2_productsByHalves yX2_productsByHalves, Cond.code yX2_productsByHalves cX2_productsByHalves 2 (some .int), Cond.methodLink RL 164 yL_productsBySums, Cond.static yL_productsBySums, Cond.codeWith yL_productsBySums cL_productsBySums 4 (some .int) [(0, 9, 12, 13)], Cond.methodLink RL 65 yX1_productsBySums, Cond.instanceMethod yX1_productsBySums, Cond.selects RX1 yX1_productsBySums yX1_productsBySums, Cond.code yX1_productsBySums cX1_productsBySums 4 (some .int), Cond.methodLink RX1 125 yX1_sumBelow, Cond.static yX1_sumBelow, Cond.code yX1_sumBelow cX1_sumBelow 4 (some .int), Cond.methodLink RL 166 yX2_productsBySums, Cond.instanceMethod yX2_productsBySums, Cond.selects RX2 yX2_productsBySums yX2_productsBySums, Cond.code yX2_productsBySums cX2_productsBySums 2 (some .int), Cond.methodLink RL 167 yL_degreeOf, Cond.static yL_degreeOf, Cond.codeWith yL_degreeOf cL_degreeOf 4 (some .int) [(0, 9, 12, 13)], Cond.methodLink RL 68 yX1_degreeOf]
def wsL_law0_r18 : List Cond := [Cond.instanceMethod yX1_degreeOf, Cond.selects RX1 yX1_degreeOf yX1_degreeOf, Cond.code yX1_degreeOf cX1_degreeOf 2 (some .int), Cond.methodLink RX1 128 yX1_degree, Cond.static yX1_degree, Cond.code yX1_degree cX1_degree 4 (some .int), Cond.methodLink RX1 150 Lib.Math.max.name, Cond.static Lib.Math.max.name, Cond.initialized "java/lang/Math", Cond.code Lib.Math.max.name Lib.Math.max.code 2 (some .int), Cond.methodLink RL 169 yX2_degreeOf, Cond.instanceMethod yX2_degreeOf, Cond.selects RX2 yX2_degreeOf yX2_degreeOf, Cond.code yX2_degreeOf cX2_degreeOf 2 (some .int), Cond.methodLink RX2 102 yX2_degree, Cond.static yX2_degree, Cond.code yX2_degree cX2_degree 4 (some .int), Cond.methodLink RL 170 yL_printedLength, Cond.static yL_printedLength, Cond.codeWith yL_printedLength cL_printedLength 4 (some .int) [(0, 9, 12, 13)], Cond.methodLink RL 71 yX1_printedLength, Cond.instanceMethod yX1_printedLength, Cond.selects RX1 yX1_printedLength yX1_printedLength, Cond.code yX1_printedLength cX1_printedLength 2 (some .int)]
def wsL_law0_r19 : List Cond := [Cond.methodLink RX1 131 yX1_print, Cond.instanceMethod yX1_print, Cond.selects RX1 yX1_print yX1_print, Cond.code yX1_print cX1_print 3 none, Cond.methodLink RX1 177 yX1_put, Cond.instanceMethod yX1_put, Cond.selects RX1 yX1_put yX1_put, Cond.code yX1_put cX1_put 2 none, Cond.methodLink RX1 181 yX1_printProduct, Cond.instanceMethod yX1_printProduct, Cond.selects RX1 yX1_printProduct yX1_printProduct, Cond.code yX1_printProduct cX1_printProduct 3 none, Cond.methodLink RL 172 yX2_printedLength, Cond.instanceMethod yX2_printedLength, Cond.selects RX2 yX2_printedLength yX2_printedLength, Cond.code yX2_printedLength cX2_printedLength 2 (some .int), Cond.methodLink RX2 108 yX2_printed, Cond.static yX2_printed, Cond.code yX2_printed cX2_printed 3 (some .int), Cond.methodLink RX2 105 yX2_letters, Cond.static yX2_letters, Cond.code yX2_letters cX2_letters 1 (some .int), Cond.methodLink RL 173 yL_printedLetter, Cond.static yL_printedLetter]
def wsL_law0_r20 : List Cond := [Cond.codeWith yL_printedLetter cL_printedLetter 5 (some .int) [(0, 10, 13, 13)], Cond.methodLink RL 74 yX1_printedLetter, Cond.instanceMethod yX1_printedLetter, Cond.selects RX1 yX1_printedLetter yX1_printedLetter, Cond.code yX1_printedLetter cX1_printedLetter 3 (some .char), Cond.methodLink RL 175 yX2_printedLetter, Cond.instanceMethod yX2_printedLetter, Cond.selects RX2 yX2_printedLetter yX2_printedLetter, Cond.code yX2_printedLetter cX2_printedLetter 7 (some .char), Cond.methodLink RX2 111 yX2_letter, Cond.static yX2_letter, Cond.code yX2_letter cX2_letter 4 (some .char), Cond.methodLink RL 176 yL_distanceByTrying, Cond.static yL_distanceByTrying, Cond.codeWith yL_distanceByTrying cL_distanceByTrying 4 (some .int) [(0, 9, 12, 13)], Cond.methodLink RL 78 yX1_distanceByTrying, Cond.instanceMethod yX1_distanceByTrying, Cond.selects RX1 yX1_distanceByTrying yX1_distanceByTrying, Cond.code yX1_distanceByTrying cX1_distanceByTrying 5 (some .int), Cond.methodLink RX1 139 Lib.Math.min.name, Cond.static Lib.Math.min.name, Cond.code Lib.Math.min.name Lib.Math.min.code 2 (some .int), Cond.methodLink RX1 136 yX1_linearTable, Cond.static yX1_linearTable]
def wsL_law0_r21 : List Cond := [Cond.code yX1_linearTable cX1_linearTable 3 (some .int), Cond.methodLink RL 178 yX2_distanceByTrying, Cond.instanceMethod yX2_distanceByTrying, Cond.selects RX2 yX2_distanceByTrying yX2_distanceByTrying, Cond.code yX2_distanceByTrying cX2_distanceByTrying 2 (some .int), Cond.methodLink RX2 115 yX2_distance, Cond.static yX2_distance, Cond.code yX2_distance cX2_distance 5 (some .int), Cond.methodLink RL 179 yL_distanceBySums, Cond.static yL_distanceBySums, Cond.codeWith yL_distanceBySums cL_distanceBySums 4 (some .int) [(0, 9, 12, 13)], Cond.methodLink RL 81 yX1_distanceBySums, Cond.instanceMethod yX1_distanceBySums, Cond.selects RX1 yX1_distanceBySums yX1_distanceBySums, Cond.code yX1_distanceBySums cX1_distanceBySums 4 (some .int), Cond.methodLink RX1 147 Lib.Math.abs.name, Cond.static Lib.Math.abs.name, Cond.code Lib.Math.abs.name Lib.Math.abs.code 1 (some .int), Cond.methodLink RX1 144 yX1_sumPairs, Cond.instanceMethod yX1_sumPairs, Cond.selects RX1 yX1_sumPairs yX1_sumPairs, Cond.code yX1_sumPairs cX1_sumPairs 6 none, Cond.methodLink RL 181 yX2_distanceBySums, Cond.instanceMethod yX2_distanceBySums]
def wsL_law0_r22 : List Cond := [Cond.selects RX2 yX2_distanceBySums yX2_distanceBySums, Cond.code yX2_distanceBySums cX2_distanceBySums 2 (some .int), Cond.methodLink RL 182 yL_isSelfDual, Cond.static yL_isSelfDual, Cond.codeWith yL_isSelfDual cL_isSelfDual 4 (some .int) [(0, 16, 19, 13)], Cond.methodLink RL 84 yX1_isSelfDual, Cond.instanceMethod yX1_isSelfDual, Cond.selects RX1 yX1_isSelfDual yX1_isSelfDual, Cond.code yX1_isSelfDual cX1_isSelfDual 2 (some .boolean), Cond.methodLink RX1 153 yX1_hasOppositeEnds, Cond.static yX1_hasOppositeEnds, Cond.code yX1_hasOppositeEnds cX1_hasOppositeEnds 2 (some .boolean), Cond.methodLink RL 184 yX2_isSelfDual, Cond.instanceMethod yX2_isSelfDual, Cond.selects RX2 yX2_isSelfDual yX2_isSelfDual, Cond.code yX2_isSelfDual cX2_isSelfDual 2 (some .boolean), Cond.methodLink RX2 118 yX2_selfDual, Cond.static yX2_selfDual, Cond.code yX2_selfDual cX2_selfDual 3 (some .boolean), Cond.methodLink RL 185 yL_isMonotone, Cond.static yL_isMonotone, Cond.codeWith yL_isMonotone cL_isMonotone 4 (some .int) [(0, 16, 19, 13)], Cond.methodLink RL 88 yX1_isMonotone, Cond.instanceMethod yX1_isMonotone]
def wsL_law0_r23 : List Cond := [Cond.selects RX1 yX1_isMonotone yX1_isMonotone, Cond.code yX1_isMonotone cX1_isMonotone 2 (some .boolean), Cond.methodLink RX1 157 yX1_neverFalls, Cond.static yX1_neverFalls, Cond.code yX1_neverFalls cX1_neverFalls 2 (some .boolean), Cond.methodLink RL 187 yX2_isMonotone, Cond.instanceMethod yX2_isMonotone, Cond.selects RX2 yX2_isMonotone yX2_isMonotone, Cond.code yX2_isMonotone cX2_isMonotone 2 (some .boolean), Cond.methodLink RX2 121 yX2_monotone, Cond.static yX2_monotone, Cond.code yX2_monotone cX2_monotone 5 (some .boolean), Cond.methodLink RL 188 yL_areEnough, Cond.static yL_areEnough, Cond.codeWith yL_areEnough cL_areEnough 4 (some .int) [(0, 16, 19, 21)], Cond.methodLink RL 91 yX1_areEnough, Cond.instanceMethod yX1_areEnough, Cond.selects RX1 yX1_areEnough yX1_areEnough, Cond.code yX1_areEnough cX1_areEnough 2 (some .boolean), Cond.methodLink RX1 162 yX1_sharedClasses, Cond.instanceMethod yX1_sharedClasses, Cond.selects RX1 yX1_sharedClasses yX1_sharedClasses, Cond.code yX1_sharedClasses cX1_sharedClasses 4 (some .int), Cond.methodLink RX1 174 yX1_classesOf]
def wsL_law0_r24 : List Cond := [Cond.static yX1_classesOf, Cond.code yX1_classesOf cX1_classesOf 2 (some .int), Cond.methodLink RL 190 yX2_areEnough, Cond.instanceMethod yX2_areEnough, Cond.selects RX2 yX2_areEnough yX2_areEnough, Cond.code yX2_areEnough cX2_areEnough 2 (some .boolean), Cond.methodLink RX2 124 yX2_enough, Cond.instanceMethod yX2_enough, Cond.selects RX2 yX2_enough yX2_enough, Cond.code yX2_enough cX2_enough 5 (some .boolean), Cond.methodLink RL 191 yX1_fewestEnough, Cond.instanceMethod yX1_fewestEnough, Cond.selects RX1 yX1_fewestEnough yX1_fewestEnough, Cond.code yX1_fewestEnough cX1_fewestEnough 5 (some .int), Cond.methodLink RL 194 yX2_fewestEnough, Cond.instanceMethod yX2_fewestEnough, Cond.selects RX2 yX2_fewestEnough yX2_fewestEnough, Cond.code yX2_fewestEnough cX2_fewestEnough 4 (some .int), Cond.methodLink RL 195 yX1_recordedStates, Cond.instanceMethod yX1_recordedStates, Cond.selects RX1 yX1_recordedStates yX1_recordedStates, Cond.code yX1_recordedStates cX1_recordedStates 1 (some .int), Cond.methodLink RL 198 yX2_recordedStates, Cond.instanceMethod yX2_recordedStates]
def wsL_law0_r25 : List Cond := [Cond.selects RX2 yX2_recordedStates yX2_recordedStates, Cond.code yX2_recordedStates cX2_recordedStates 1 (some .int)]
def wsL_law0 : List Cond := (wsL_law0_r1 ++ (wsL_law0_r2 ++ (wsL_law0_r3 ++ (wsL_law0_r4 ++ (wsL_law0_r5 ++ (wsL_law0_r6 ++ (wsL_law0_r7 ++ (wsL_law0_r8 ++ (wsL_law0_r9 ++ (wsL_law0_r10 ++ (wsL_law0_r11 ++ (wsL_law0_r12 ++ (wsL_law0_r13 ++ (wsL_law0_r14 ++ (wsL_law0_r15 ++ (wsL_law0_r16 ++ (wsL_law0_r17 ++ (wsL_law0_r18 ++ (wsL_law0_r19 ++ (wsL_law0_r20 ++ (wsL_law0_r21 ++ (wsL_law0_r22 ++ (wsL_law0_r23 ++ (wsL_law0_r24 ++ wsL_law0_r25)))))))))))))))))))))))) ++ wsX10 ++ wsX20 ++ wsX00 ++ ([] : List Cond)
def wsL_law : List Cond := wsL_law0 ++ (vx_atS RX1 120 "java/lang/IndexOutOfBoundsException" ["java/lang/RuntimeException", "java/lang/Exception"]).filter goodWord ++ (vx_atS RX1 98 "java/lang/IllegalStateException" ["java/lang/RuntimeException", "java/lang/Exception"]).filter goodWord ++ (vx_atS RX1 78 "java/lang/IllegalArgumentException" ["java/lang/RuntimeException", "java/lang/Exception"]).filter goodWord
set_option maxRecDepth 20000 in
theorem wsL_law_in0_r1 : ∀ w ∈ wsL_law0_r1, w ∈ lw_tbl := fun w h => (goodIn_p wsL_law0_r1 [48, 51] (by decide +kernel) (by decide +kernel) w h).1
set_option maxRecDepth 20000 in
theorem wsL_law_in0_r2 : ∀ w ∈ wsL_law0_r2, w ∈ lw_tbl := fun w h => (goodIn_p wsL_law0_r2 [56, 538] (by decide +kernel) (by decide +kernel) w h).1
set_option maxRecDepth 20000 in
theorem wsL_law_in0_r3 : ∀ w ∈ wsL_law0_r3, w ∈ lw_tbl := fun w h => (goodIn_p wsL_law0_r3 [542, 221, 224, 296] (by decide +kernel) (by decide +kernel) w h).1
set_option maxRecDepth 20000 in
theorem wsL_law_in0_r4 : ∀ w ∈ wsL_law0_r4, w ∈ lw_tbl := fun w h => (goodIn_p wsL_law0_r4 [121, 125, 129, 133, 137, 141, 144] (by decide +kernel) (by decide +kernel) w h).1
set_option maxRecDepth 20000 in
theorem wsL_law_in0_r5 : ∀ w ∈ wsL_law0_r5, w ∈ lw_tbl := fun w h => (goodIn_p wsL_law0_r5 [148, 153, 157, 161, 316, 320] (by decide +kernel) (by decide +kernel) w h).1
set_option maxRecDepth 20000 in
theorem wsL_law_in0_r6 : ∀ w ∈ wsL_law0_r6, w ∈ lw_tbl := fun w h => (goodIn_p wsL_law0_r6 [175, 178, 582, 585] (by decide +kernel) (by decide +kernel) w h).1
set_option maxRecDepth 20000 in
theorem wsL_law_in0_r7 : ∀ w ∈ wsL_law0_r7, w ∈ lw_tbl := fun w h => (goodIn_p wsL_law0_r7 [588, 592, 596, 600, 604, 607] (by decide +kernel) (by decide +kernel) w h).1
set_option maxRecDepth 20000 in
theorem wsL_law_in0_r8 : ∀ w ∈ wsL_law0_r8, w ∈ lw_tbl := fun w h => (goodIn_p wsL_law0_r8 [611, 614, 617, 621, 625, 628] (by decide +kernel) (by decide +kernel) w h).1
set_option maxRecDepth 20000 in
theorem wsL_law_in0_r9 : ∀ w ∈ wsL_law0_r9, w ∈ lw_tbl := fun w h => (goodIn_p wsL_law0_r9 [578, 328, 632, 351] (by decide +kernel) (by decide +kernel) w h).1
set_option maxRecDepth 20000 in
theorem wsL_law_in0_r10 : ∀ w ∈ wsL_law0_r10, w ∈ lw_tbl := fun w h => (goodIn_p wsL_law0_r10 [355, 636, 362, 365, 202, 640] (by decide +kernel) (by decide +kernel) w h).1
set_option maxRecDepth 20000 in
theorem wsL_law_in0_r11 : ∀ w ∈ wsL_law0_r11, w ∈ lw_tbl := fun w h => (goodIn_p wsL_law0_r11 [644, 373, 648, 380, 652] (by decide +kernel) (by decide +kernel) w h).1
set_option maxRecDepth 20000 in
theorem wsL_law_in0_r12 : ∀ w ∈ wsL_law0_r12, w ∈ lw_tbl := fun w h => (goodIn_p wsL_law0_r12 [113, 656, 117, 660, 388] (by decide +kernel) (by decide +kernel) w h).1
set_option maxRecDepth 20000 in
theorem wsL_law_in0_r13 : ∀ w ∈ wsL_law0_r13, w ∈ lw_tbl := fun w h => (goodIn_p wsL_law0_r13 [664, 395, 668, 165, 172] (by decide +kernel) (by decide +kernel) w h).1
set_option maxRecDepth 20000 in
theorem wsL_law_in0_r14 : ∀ w ∈ wsL_law0_r14, w ∈ lw_tbl := fun w h => (goodIn_p wsL_law0_r14 [672, 676, 403, 680] (by decide +kernel) (by decide +kernel) w h).1
set_option maxRecDepth 20000 in
theorem wsL_law_in0_r15 : ∀ w ∈ wsL_law0_r15, w ∈ lw_tbl := fun w h => (goodIn_p wsL_law0_r15 [411, 684, 688, 418, 692] (by decide +kernel) (by decide +kernel) w h).1
set_option maxRecDepth 20000 in
theorem wsL_law_in0_r16 : ∀ w ∈ wsL_law0_r16, w ∈ lw_tbl := fun w h => (goodIn_p wsL_law0_r16 [426, 696, 433, 700] (by decide +kernel) (by decide +kernel) w h).1
set_option maxRecDepth 20000 in
theorem wsL_law_in0_r17 : ∀ w ∈ wsL_law0_r17, w ∈ lw_tbl := fun w h => (goodIn_p wsL_law0_r17 [440, 704, 447, 450, 708] (by decide +kernel) (by decide +kernel) w h).1
set_option maxRecDepth 20000 in
theorem wsL_law_in0_r18 : ∀ w ∈ wsL_law0_r18, w ∈ lw_tbl := fun w h => (goodIn_p wsL_law0_r18 [457, 205, 208, 712, 715, 464] (by decide +kernel) (by decide +kernel) w h).1
set_option maxRecDepth 20000 in
theorem wsL_law_in0_r19 : ∀ w ∈ wsL_law0_r19, w ∈ lw_tbl := fun w h => (goodIn_p wsL_law0_r19 [468, 472, 476, 719, 722, 725] (by decide +kernel) (by decide +kernel) w h).1
set_option maxRecDepth 20000 in
theorem wsL_law_in0_r20 : ∀ w ∈ wsL_law0_r20, w ∈ lw_tbl := fun w h => (goodIn_p wsL_law0_r20 [483, 729, 732, 491, 497] (by decide +kernel) (by decide +kernel) w h).1
set_option maxRecDepth 20000 in
theorem wsL_law_in0_r21 : ∀ w ∈ wsL_law0_r21, w ∈ lw_tbl := fun w h => (goodIn_p wsL_law0_r21 [494, 736, 739, 504, 511, 508] (by decide +kernel) (by decide +kernel) w h).1
set_option maxRecDepth 20000 in
theorem wsL_law_in0_r22 : ∀ w ∈ wsL_law0_r22, w ∈ lw_tbl := fun w h => (goodIn_p wsL_law0_r22 [743, 518, 196, 747, 750] (by decide +kernel) (by decide +kernel) w h).1
set_option maxRecDepth 20000 in
theorem wsL_law_in0_r23 : ∀ w ∈ wsL_law0_r23, w ∈ lw_tbl := fun w h => (goodIn_p wsL_law0_r23 [525, 199, 754, 757, 532, 189] (by decide +kernel) (by decide +kernel) w h).1
set_option maxRecDepth 20000 in
theorem wsL_law_in0_r24 : ∀ w ∈ wsL_law0_r24, w ∈ lw_tbl := fun w h => (goodIn_p wsL_law0_r24 [193, 761, 765, 185, 769, 212] (by decide +kernel) (by decide +kernel) w h).1
set_option maxRecDepth 20000 in
theorem wsL_law_in0_r25 : ∀ w ∈ wsL_law0_r25, w ∈ lw_tbl := fun w h => (goodIn_p wsL_law0_r25 [773] (by decide +kernel) (by decide +kernel) w h).1
theorem wsL_law_in0_f1 : ∀ w ∈ wsX10, w ∈ lw_tbl := by decide +kernel
theorem wsL_law_in0_f2 : ∀ w ∈ wsX20, w ∈ lw_tbl := by decide +kernel
theorem wsL_law_in0_f0 : ∀ w ∈ wsX00, w ∈ lw_tbl := by decide +kernel
theorem wsL_law_in0 : ∀ w ∈ wsL_law0, w ∈ lw_tbl := by
  unfold wsL_law0
  exact List.forall_mem_append.mpr ⟨List.forall_mem_append.mpr ⟨List.forall_mem_append.mpr ⟨List.forall_mem_append.mpr ⟨List.forall_mem_append.mpr ⟨wsL_law_in0_r1, List.forall_mem_append.mpr ⟨wsL_law_in0_r2, List.forall_mem_append.mpr ⟨wsL_law_in0_r3, List.forall_mem_append.mpr ⟨wsL_law_in0_r4, List.forall_mem_append.mpr ⟨wsL_law_in0_r5, List.forall_mem_append.mpr ⟨wsL_law_in0_r6, List.forall_mem_append.mpr ⟨wsL_law_in0_r7, List.forall_mem_append.mpr ⟨wsL_law_in0_r8, List.forall_mem_append.mpr ⟨wsL_law_in0_r9, List.forall_mem_append.mpr ⟨wsL_law_in0_r10, List.forall_mem_append.mpr ⟨wsL_law_in0_r11, List.forall_mem_append.mpr ⟨wsL_law_in0_r12, List.forall_mem_append.mpr ⟨wsL_law_in0_r13, List.forall_mem_append.mpr ⟨wsL_law_in0_r14, List.forall_mem_append.mpr ⟨wsL_law_in0_r15, List.forall_mem_append.mpr ⟨wsL_law_in0_r16, List.forall_mem_append.mpr ⟨wsL_law_in0_r17, List.forall_mem_append.mpr ⟨wsL_law_in0_r18, List.forall_mem_append.mpr ⟨wsL_law_in0_r19, List.forall_mem_append.mpr ⟨wsL_law_in0_r20, List.forall_mem_append.mpr ⟨wsL_law_in0_r21, List.forall_mem_append.mpr ⟨wsL_law_in0_r22, List.forall_mem_append.mpr ⟨wsL_law_in0_r23, List.forall_mem_append.mpr ⟨wsL_law_in0_r24, wsL_law_in0_r25⟩⟩⟩⟩⟩⟩⟩⟩⟩⟩⟩⟩⟩⟩⟩⟩⟩⟩⟩⟩⟩⟩⟩⟩, wsL_law_in0_f1⟩, wsL_law_in0_f2⟩, wsL_law_in0_f0⟩, fun _ h => absurd h List.not_mem_nil⟩
theorem wsL_law_x0 : ∀ w ∈ (vx_atS RX1 120 "java/lang/IndexOutOfBoundsException" ["java/lang/RuntimeException", "java/lang/Exception"]).filter goodWord, w ∈ lw_tbl := by decide +kernel
theorem wsL_law_x1 : ∀ w ∈ (vx_atS RX1 98 "java/lang/IllegalStateException" ["java/lang/RuntimeException", "java/lang/Exception"]).filter goodWord, w ∈ lw_tbl := by decide +kernel
theorem wsL_law_x2 : ∀ w ∈ (vx_atS RX1 78 "java/lang/IllegalArgumentException" ["java/lang/RuntimeException", "java/lang/Exception"]).filter goodWord, w ∈ lw_tbl := by decide +kernel
theorem wsL_law_in : ∀ w ∈ wsL_law, w ∈ lw_tbl := fun w h => (List.mem_append.mp h).elim (fun h => (List.mem_append.mp h).elim (fun h => (List.mem_append.mp h).elim (fun h => wsL_law_in0 w h) (fun h => wsL_law_x0 w h)) (fun h => wsL_law_x1 w h)) (fun h => wsL_law_x2 w h)
theorem inlX0 : ∀ w ∈ wsX00, w ∈ wsL_law := fun _ h => List.mem_append_left _ (List.mem_append_left _ (List.mem_append_left _ (List.mem_append_left _ (List.mem_append_right _ h))))
theorem inX0 : ∀ w ∈ wsX00, w ∈ lw_tbl := fun w h => wsL_law_in w (inlX0 w h)
theorem inlX1 : ∀ w ∈ wsX10, w ∈ wsL_law := fun _ h => List.mem_append_left _ (List.mem_append_left _ (List.mem_append_left _ (List.mem_append_left _ (List.mem_append_left _ (List.mem_append_left _ (List.mem_append_right _ h))))))
theorem inX1 : ∀ w ∈ wsX10, w ∈ lw_tbl := fun w h => wsL_law_in w (inlX1 w h)
theorem inlX2 : ∀ w ∈ wsX20, w ∈ wsL_law := fun _ h => List.mem_append_left _ (List.mem_append_left _ (List.mem_append_left _ (List.mem_append_left _ (List.mem_append_left _ (List.mem_append_right _ h)))))
theorem inX2 : ∀ w ∈ wsX20, w ∈ lw_tbl := fun w h => wsL_law_in w (inlX2 w h)
theorem inJ6 : ∀ w ∈ wsJ60, w ∈ lw_tbl := by decide +kernel
theorem inJ9 : ∀ w ∈ wsJ90, w ∈ lw_tbl := by decide +kernel
theorem inJ0 : ∀ w ∈ wsJ00, w ∈ lw_tbl := by decide +kernel
theorem inJ10 : ∀ w ∈ wsJ100, w ∈ lw_tbl := by decide +kernel
abbrev vwCl : List vw_C := [(RX0, TX0, 4), (RX1, TX1, 11), (RX2, TX2, 10)]
end
section
theorem dX0_init_0 : decode cX0_init 0 = .ok (.aload_n 0, 1) := by decide +kernel
theorem dX0_init_1 : decode cX0_init 1 = .ok (.invokespecial 3, 3) := by decide +kernel
theorem dX0_init_4 : decode cX0_init 4 = .ok (.aload_n 0, 1) := by decide +kernel
theorem dX0_init_5 : decode cX0_init 5 = .ok (.iconst 0, 1) := by decide +kernel
theorem dX0_init_6 : decode cX0_init 6 = .ok (.putfield 11, 3) := by decide +kernel
theorem dX0_init_9 : decode cX0_init 9 = .ok (.aload_n 0, 1) := by decide +kernel
theorem dX0_init_10 : decode cX0_init 10 = .ok (.iconst 0, 1) := by decide +kernel
theorem dX0_init_11 : decode cX0_init 11 = .ok (.putfield 15, 3) := by decide +kernel
theorem dX0_init_14 : decode cX0_init 14 = .ok (.aload_n 0, 1) := by decide +kernel
theorem dX0_init_15 : decode cX0_init 15 = .ok (.iconst 0, 1) := by decide +kernel
theorem dX0_init_16 : decode cX0_init 16 = .ok (.putfield 18, 3) := by decide +kernel
theorem dX0_init_19 : decode cX0_init 19 = .ok (.aload_n 0, 1) := by decide +kernel
theorem dX0_init_20 : decode cX0_init 20 = .ok (.iconst 0, 1) := by decide +kernel
theorem dX0_init_21 : decode cX0_init 21 = .ok (.putfield 21, 3) := by decide +kernel
theorem dX0_init_24 : decode cX0_init 24 = .ok (.return_, 1) := by decide +kernel
set_option maxRecDepth 20000 in
theorem ggX0_firstError_X0_startProduct : GoodIn wsX0_firstError wsX0_startProduct := goodIn_r _ [7, 8, 9, 46, 47, 48, 49] (by decide +kernel) (by decide +kernel)
set_option maxRecDepth 20000 in
theorem gX0_firstError_X0_startProduct : GoodIn wsX0_firstError (wsV RX0 24 RX0 yX0_startProduct wsX0_startProduct) := goodIn_app (goodIn_of _ (by decide +kernel)) ggX0_firstError_X0_startProduct
set_option maxRecDepth 20000 in
theorem ggX0_firstError_X0_takes : GoodIn wsX0_firstError wsX0_takes := goodIn_r _ [13, 14, 15, 16, 6, 17, 1, 9, 18, 19, 20, 21, 22, 23, 24, 25, 2, 26, 27, 28, 29, 30, 31, 32, 8, 33, 3, 4, 5, 7, 34, 35, 36, 37, 38, 39, 40, 41, 46, 47, 48, 49] (by decide +kernel) (by decide +kernel)
set_option maxRecDepth 20000 in
theorem gX0_firstError_X0_takes : GoodIn wsX0_firstError (wsV RX0 27 RX0 yX0_takes wsX0_takes) := goodIn_app (goodIn_of _ (by decide +kernel)) ggX0_firstError_X0_takes
set_option maxRecDepth 20000 in
theorem ggX0_firstError_X0_canEnd : GoodIn wsX0_firstError wsX0_canEnd := goodIn_r _ [45, 1, 8, 22, 23, 24, 6, 25, 2, 26, 27, 28, 46, 47, 48, 49] (by decide +kernel) (by decide +kernel)
set_option maxRecDepth 20000 in
theorem gX0_firstError_X0_canEnd : GoodIn wsX0_firstError (wsV RX0 31 RX0 yX0_canEnd wsX0_canEnd) := goodIn_app (goodIn_of _ (by decide +kernel)) ggX0_firstError_X0_canEnd
theorem dX0_firstError_0 : decode cX0_firstError 0 = .ok (.aload_n 0, 1) := by decide +kernel
theorem dX0_firstError_1 : decode cX0_firstError 1 = .ok (.iconst 0, 1) := by decide +kernel
theorem dX0_firstError_2 : decode cX0_firstError 2 = .ok (.putfield 11, 3) := by decide +kernel
theorem dX0_firstError_5 : decode cX0_firstError 5 = .ok (.aload_n 0, 1) := by decide +kernel
theorem dX0_firstError_6 : decode cX0_firstError 6 = .ok (.iconst 0, 1) := by decide +kernel
theorem dX0_firstError_7 : decode cX0_firstError 7 = .ok (.putfield 15, 3) := by decide +kernel
theorem dX0_firstError_10 : decode cX0_firstError 10 = .ok (.aload_n 0, 1) := by decide +kernel
theorem dX0_firstError_11 : decode cX0_firstError 11 = .ok (.invokevirtual 24, 3) := by decide +kernel
theorem dX0_firstError_14 : decode cX0_firstError 14 = .ok (.iconst 0, 1) := by decide +kernel
theorem dX0_firstError_15 : decode cX0_firstError 15 = .ok (.istore_n 3, 1) := by decide +kernel
theorem dX0_firstError_16 : decode cX0_firstError 16 = .ok (.iload_n 3, 1) := by decide +kernel
theorem dX0_firstError_17 : decode cX0_firstError 17 = .ok (.iload_n 2, 1) := by decide +kernel
theorem dX0_firstError_18 : decode cX0_firstError 18 = .ok (.if_icmp .ge 27, 3) := by decide +kernel
theorem dX0_firstError_21 : decode cX0_firstError 21 = .ok (.iload_n 3, 1) := by decide +kernel
theorem dX0_firstError_22 : decode cX0_firstError 22 = .ok (.aload_n 1, 1) := by decide +kernel
theorem dX0_firstError_23 : decode cX0_firstError 23 = .ok (.arraylength, 1) := by decide +kernel
theorem dX0_firstError_24 : decode cX0_firstError 24 = .ok (.if_icmp .ge 21, 3) := by decide +kernel
theorem dX0_firstError_27 : decode cX0_firstError 27 = .ok (.aload_n 0, 1) := by decide +kernel
theorem dX0_firstError_28 : decode cX0_firstError 28 = .ok (.aload_n 1, 1) := by decide +kernel
theorem dX0_firstError_29 : decode cX0_firstError 29 = .ok (.iload_n 3, 1) := by decide +kernel
theorem dX0_firstError_30 : decode cX0_firstError 30 = .ok (.caload, 1) := by decide +kernel
theorem dX0_firstError_31 : decode cX0_firstError 31 = .ok (.invokevirtual 27, 3) := by decide +kernel
theorem dX0_firstError_34 : decode cX0_firstError 34 = .ok (.ifCond .ne 5, 3) := by decide +kernel
theorem dX0_firstError_37 : decode cX0_firstError 37 = .ok (.iload_n 3, 1) := by decide +kernel
theorem dX0_firstError_38 : decode cX0_firstError 38 = .ok (.ireturn, 1) := by decide +kernel
theorem dX0_firstError_39 : decode cX0_firstError 39 = .ok (.iinc 3 1, 3) := by decide +kernel
theorem dX0_firstError_42 : decode cX0_firstError 42 = .ok (.goto (-26), 3) := by decide +kernel
theorem dX0_firstError_45 : decode cX0_firstError 45 = .ok (.aload_n 0, 1) := by decide +kernel
theorem dX0_firstError_46 : decode cX0_firstError 46 = .ok (.invokevirtual 31, 3) := by decide +kernel
theorem dX0_firstError_49 : decode cX0_firstError 49 = .ok (.ifCond .eq 7, 3) := by decide +kernel
theorem dX0_firstError_52 : decode cX0_firstError 52 = .ok (.iconst (-1), 1) := by decide +kernel
theorem dX0_firstError_53 : decode cX0_firstError 53 = .ok (.goto 4, 3) := by decide +kernel
theorem dX0_firstError_56 : decode cX0_firstError 56 = .ok (.iload_n 2, 1) := by decide +kernel
theorem dX0_firstError_57 : decode cX0_firstError 57 = .ok (.ireturn, 1) := by decide +kernel
theorem dX0_productsRead_0 : decode cX0_productsRead 0 = .ok (.aload_n 0, 1) := by decide +kernel
theorem dX0_productsRead_1 : decode cX0_productsRead 1 = .ok (.getfield 11, 3) := by decide +kernel
theorem dX0_productsRead_4 : decode cX0_productsRead 4 = .ok (.iconst 1, 1) := by decide +kernel
theorem dX0_productsRead_5 : decode cX0_productsRead 5 = .ok (.if_icmp .ne 7, 3) := by decide +kernel
theorem dX0_productsRead_8 : decode cX0_productsRead 8 = .ok (.iconst 0, 1) := by decide +kernel
theorem dX0_productsRead_9 : decode cX0_productsRead 9 = .ok (.goto 14, 3) := by decide +kernel
theorem dX0_productsRead_12 : decode cX0_productsRead 12 = .ok (.aload_n 0, 1) := by decide +kernel
theorem dX0_productsRead_13 : decode cX0_productsRead 13 = .ok (.getfield 15, 3) := by decide +kernel
theorem dX0_productsRead_16 : decode cX0_productsRead 16 = .ok (.iconst 1, 1) := by decide +kernel
theorem dX0_productsRead_17 : decode cX0_productsRead 17 = .ok (.aload_n 0, 1) := by decide +kernel
theorem dX0_productsRead_18 : decode cX0_productsRead 18 = .ok (.getfield 18, 3) := by decide +kernel
theorem dX0_productsRead_21 : decode cX0_productsRead 21 = .ok (.ishl, 1) := by decide +kernel
theorem dX0_productsRead_22 : decode cX0_productsRead 22 = .ok (.ior, 1) := by decide +kernel
theorem dX0_productsRead_23 : decode cX0_productsRead 23 = .ok (.ireturn, 1) := by decide +kernel
theorem dX0_startProduct_0 : decode cX0_startProduct 0 = .ok (.aload_n 0, 1) := by decide +kernel
theorem dX0_startProduct_1 : decode cX0_startProduct 1 = .ok (.iconst 0, 1) := by decide +kernel
theorem dX0_startProduct_2 : decode cX0_startProduct 2 = .ok (.putfield 18, 3) := by decide +kernel
theorem dX0_startProduct_5 : decode cX0_startProduct 5 = .ok (.aload_n 0, 1) := by decide +kernel
theorem dX0_startProduct_6 : decode cX0_startProduct 6 = .ok (.iconst 0, 1) := by decide +kernel
theorem dX0_startProduct_7 : decode cX0_startProduct 7 = .ok (.putfield 21, 3) := by decide +kernel
theorem dX0_startProduct_10 : decode cX0_startProduct 10 = .ok (.return_, 1) := by decide +kernel
set_option maxRecDepth 20000 in
theorem ggX0_canEnd_X0_isNew : GoodIn wsX0_canEnd wsX0_isNew := goodIn_r _ [7, 8, 9, 10, 11, 12, 13, 14, 15] (by decide +kernel) (by decide +kernel)
set_option maxRecDepth 20000 in
theorem gX0_canEnd_X0_isNew : GoodIn wsX0_canEnd (wsV RX0 35 RX0 yX0_isNew wsX0_isNew) := goodIn_app (goodIn_of _ (by decide +kernel)) ggX0_canEnd_X0_isNew
theorem dX0_canEnd_0 : decode cX0_canEnd 0 = .ok (.aload_n 0, 1) := by decide +kernel
theorem dX0_canEnd_1 : decode cX0_canEnd 1 = .ok (.getfield 11, 3) := by decide +kernel
theorem dX0_canEnd_4 : decode cX0_canEnd 4 = .ok (.iconst 1, 1) := by decide +kernel
theorem dX0_canEnd_5 : decode cX0_canEnd 5 = .ok (.if_icmp .eq 22, 3) := by decide +kernel
theorem dX0_canEnd_8 : decode cX0_canEnd 8 = .ok (.aload_n 0, 1) := by decide +kernel
theorem dX0_canEnd_9 : decode cX0_canEnd 9 = .ok (.getfield 11, 3) := by decide +kernel
theorem dX0_canEnd_12 : decode cX0_canEnd 12 = .ok (.iconst 3, 1) := by decide +kernel
theorem dX0_canEnd_13 : decode cX0_canEnd 13 = .ok (.if_icmp .ne 18, 3) := by decide +kernel
theorem dX0_canEnd_16 : decode cX0_canEnd 16 = .ok (.aload_n 0, 1) := by decide +kernel
theorem dX0_canEnd_17 : decode cX0_canEnd 17 = .ok (.aload_n 0, 1) := by decide +kernel
theorem dX0_canEnd_18 : decode cX0_canEnd 18 = .ok (.getfield 18, 3) := by decide +kernel
theorem dX0_canEnd_21 : decode cX0_canEnd 21 = .ok (.invokevirtual 35, 3) := by decide +kernel
theorem dX0_canEnd_24 : decode cX0_canEnd 24 = .ok (.ifCond .eq 7, 3) := by decide +kernel
theorem dX0_canEnd_27 : decode cX0_canEnd 27 = .ok (.iconst 1, 1) := by decide +kernel
theorem dX0_canEnd_28 : decode cX0_canEnd 28 = .ok (.goto 4, 3) := by decide +kernel
theorem dX0_canEnd_31 : decode cX0_canEnd 31 = .ok (.iconst 0, 1) := by decide +kernel
theorem dX0_canEnd_32 : decode cX0_canEnd 32 = .ok (.ireturn, 1) := by decide +kernel
set_option maxRecDepth 20000 in
theorem ggX0_isNew_X1_bit : GoodIn wsX0_isNew wsX1_bit := goodIn_r _ [4] (by decide +kernel) (by decide +kernel)
set_option maxRecDepth 20000 in
theorem gX0_isNew_X1_bit_n39 : GoodIn wsX0_isNew (wsX1_bit) := ggX0_isNew_X1_bit
theorem dX0_isNew_0 : decode cX0_isNew 0 = .ok (.aload_n 0, 1) := by decide +kernel
theorem dX0_isNew_1 : decode cX0_isNew 1 = .ok (.getfield 15, 3) := by decide +kernel
theorem dX0_isNew_4 : decode cX0_isNew 4 = .ok (.iload_n 1, 1) := by decide +kernel
theorem dX0_isNew_5 : decode cX0_isNew 5 = .ok (.invokestatic 39, 3) := by decide +kernel
theorem dX0_isNew_8 : decode cX0_isNew 8 = .ok (.ifCond .ne 7, 3) := by decide +kernel
theorem dX0_isNew_11 : decode cX0_isNew 11 = .ok (.iconst 1, 1) := by decide +kernel
theorem dX0_isNew_12 : decode cX0_isNew 12 = .ok (.goto 4, 3) := by decide +kernel
theorem dX0_isNew_15 : decode cX0_isNew 15 = .ok (.iconst 0, 1) := by decide +kernel
theorem dX0_isNew_16 : decode cX0_isNew 16 = .ok (.ireturn, 1) := by decide +kernel
set_option maxRecDepth 20000 in
theorem ggX0_takes_X0_takesZero : GoodIn wsX0_takes wsX0_takesZero := goodIn_r _ [5, 6, 7, 38, 39, 40, 41] (by decide +kernel) (by decide +kernel)
set_option maxRecDepth 20000 in
theorem gX0_takes_X0_takesZero : GoodIn wsX0_takes (wsV RX0 43 RX0 yX0_takesZero wsX0_takesZero) := goodIn_app (goodIn_of _ (by decide +kernel)) ggX0_takes_X0_takesZero
set_option maxRecDepth 20000 in
theorem ggX0_takes_X0_takesOne : GoodIn wsX0_takes wsX0_takesOne := goodIn_r _ [11, 6, 7, 12, 13, 14, 4, 15, 16, 17, 18, 19, 38, 39, 40, 41] (by decide +kernel) (by decide +kernel)
set_option maxRecDepth 20000 in
theorem gX0_takes_X0_takesOne : GoodIn wsX0_takes (wsV RX0 46 RX0 yX0_takesOne wsX0_takesOne) := goodIn_app (goodIn_of _ (by decide +kernel)) ggX0_takes_X0_takesOne
set_option maxRecDepth 20000 in
theorem ggX0_takes_X0_takesPlus : GoodIn wsX0_takes wsX0_takesPlus := goodIn_r _ [23, 6, 24, 16, 25, 12, 13, 14, 4, 15, 17, 18, 19, 26, 27, 28, 29, 7, 38, 39, 40, 41] (by decide +kernel) (by decide +kernel)
set_option maxRecDepth 20000 in
theorem gX0_takes_X0_takesPlus : GoodIn wsX0_takes (wsV RX0 49 RX0 yX0_takesPlus wsX0_takesPlus) := goodIn_app (goodIn_of _ (by decide +kernel)) ggX0_takes_X0_takesPlus
set_option maxRecDepth 20000 in
theorem ggX0_takes_X0_takesVariable : GoodIn wsX0_takes wsX0_takesVariable := goodIn_r _ [33, 7, 24, 6, 34, 35, 36, 4, 37, 12, 13, 14, 15, 16, 17, 18, 19, 38, 39, 40, 41] (by decide +kernel) (by decide +kernel)
set_option maxRecDepth 20000 in
theorem gX0_takes_X0_takesVariable : GoodIn wsX0_takes (wsV RX0 52 RX0 yX0_takesVariable wsX0_takesVariable) := goodIn_app (goodIn_of _ (by decide +kernel)) ggX0_takes_X0_takesVariable
theorem dX0_takes_0 : decode cX0_takes 0 = .ok (.iload_n 1, 1) := by decide +kernel
theorem dX0_takes_1 : decode cX0_takes 1 = .ok (.bipush 48, 2) := by decide +kernel
theorem dX0_takes_3 : decode cX0_takes 3 = .ok (.if_icmp .ne 8, 3) := by decide +kernel
theorem dX0_takes_6 : decode cX0_takes 6 = .ok (.aload_n 0, 1) := by decide +kernel
theorem dX0_takes_7 : decode cX0_takes 7 = .ok (.invokevirtual 43, 3) := by decide +kernel
theorem dX0_takes_10 : decode cX0_takes 10 = .ok (.ireturn, 1) := by decide +kernel
theorem dX0_takes_11 : decode cX0_takes 11 = .ok (.iload_n 1, 1) := by decide +kernel
theorem dX0_takes_12 : decode cX0_takes 12 = .ok (.bipush 49, 2) := by decide +kernel
theorem dX0_takes_14 : decode cX0_takes 14 = .ok (.if_icmp .ne 8, 3) := by decide +kernel
theorem dX0_takes_17 : decode cX0_takes 17 = .ok (.aload_n 0, 1) := by decide +kernel
theorem dX0_takes_18 : decode cX0_takes 18 = .ok (.invokevirtual 46, 3) := by decide +kernel
theorem dX0_takes_21 : decode cX0_takes 21 = .ok (.ireturn, 1) := by decide +kernel
theorem dX0_takes_22 : decode cX0_takes 22 = .ok (.iload_n 1, 1) := by decide +kernel
theorem dX0_takes_23 : decode cX0_takes 23 = .ok (.bipush 43, 2) := by decide +kernel
theorem dX0_takes_25 : decode cX0_takes 25 = .ok (.if_icmp .ne 8, 3) := by decide +kernel
theorem dX0_takes_28 : decode cX0_takes 28 = .ok (.aload_n 0, 1) := by decide +kernel
theorem dX0_takes_29 : decode cX0_takes 29 = .ok (.invokevirtual 49, 3) := by decide +kernel
theorem dX0_takes_32 : decode cX0_takes 32 = .ok (.ireturn, 1) := by decide +kernel
theorem dX0_takes_33 : decode cX0_takes 33 = .ok (.aload_n 0, 1) := by decide +kernel
theorem dX0_takes_34 : decode cX0_takes 34 = .ok (.iload_n 1, 1) := by decide +kernel
theorem dX0_takes_35 : decode cX0_takes 35 = .ok (.bipush 97, 2) := by decide +kernel
theorem dX0_takes_37 : decode cX0_takes 37 = .ok (.isub, 1) := by decide +kernel
theorem dX0_takes_38 : decode cX0_takes 38 = .ok (.invokevirtual 52, 3) := by decide +kernel
theorem dX0_takes_41 : decode cX0_takes 41 = .ok (.ireturn, 1) := by decide +kernel
theorem dX0_takesZero_0 : decode cX0_takesZero 0 = .ok (.aload_n 0, 1) := by decide +kernel
theorem dX0_takesZero_1 : decode cX0_takesZero 1 = .ok (.getfield 11, 3) := by decide +kernel
theorem dX0_takesZero_4 : decode cX0_takesZero 4 = .ok (.ifCond .eq 5, 3) := by decide +kernel
theorem dX0_takesZero_7 : decode cX0_takesZero 7 = .ok (.iconst 0, 1) := by decide +kernel
theorem dX0_takesZero_8 : decode cX0_takesZero 8 = .ok (.ireturn, 1) := by decide +kernel
theorem dX0_takesZero_9 : decode cX0_takesZero 9 = .ok (.aload_n 0, 1) := by decide +kernel
theorem dX0_takesZero_10 : decode cX0_takesZero 10 = .ok (.iconst 1, 1) := by decide +kernel
theorem dX0_takesZero_11 : decode cX0_takesZero 11 = .ok (.putfield 11, 3) := by decide +kernel
theorem dX0_takesZero_14 : decode cX0_takesZero 14 = .ok (.aload_n 0, 1) := by decide +kernel
theorem dX0_takesZero_15 : decode cX0_takesZero 15 = .ok (.iconst 4, 1) := by decide +kernel
theorem dX0_takesZero_16 : decode cX0_takesZero 16 = .ok (.putfield 21, 3) := by decide +kernel
theorem dX0_takesZero_19 : decode cX0_takesZero 19 = .ok (.iconst 1, 1) := by decide +kernel
theorem dX0_takesZero_20 : decode cX0_takesZero 20 = .ok (.ireturn, 1) := by decide +kernel
set_option maxRecDepth 20000 in
theorem ggX0_takesOne_X0_isNew : GoodIn wsX0_takesOne wsX0_isNew := goodIn_r _ [7, 8, 9, 10, 11, 12, 13, 14, 15] (by decide +kernel) (by decide +kernel)
set_option maxRecDepth 20000 in
theorem gX0_takesOne_X0_isNew : GoodIn wsX0_takesOne (wsV RX0 35 RX0 yX0_isNew wsX0_isNew) := goodIn_app (goodIn_of _ (by decide +kernel)) ggX0_takesOne_X0_isNew
theorem dX0_takesOne_0 : decode cX0_takesOne 0 = .ok (.aload_n 0, 1) := by decide +kernel
theorem dX0_takesOne_1 : decode cX0_takesOne 1 = .ok (.getfield 11, 3) := by decide +kernel
theorem dX0_takesOne_4 : decode cX0_takesOne 4 = .ok (.ifCond .eq 11, 3) := by decide +kernel
theorem dX0_takesOne_7 : decode cX0_takesOne 7 = .ok (.aload_n 0, 1) := by decide +kernel
theorem dX0_takesOne_8 : decode cX0_takesOne 8 = .ok (.getfield 11, 3) := by decide +kernel
theorem dX0_takesOne_11 : decode cX0_takesOne 11 = .ok (.iconst 2, 1) := by decide +kernel
theorem dX0_takesOne_12 : decode cX0_takesOne 12 = .ok (.if_icmp .ne 7, 3) := by decide +kernel
theorem dX0_takesOne_15 : decode cX0_takesOne 15 = .ok (.iconst 1, 1) := by decide +kernel
theorem dX0_takesOne_16 : decode cX0_takesOne 16 = .ok (.goto 4, 3) := by decide +kernel
theorem dX0_takesOne_19 : decode cX0_takesOne 19 = .ok (.iconst 0, 1) := by decide +kernel
theorem dX0_takesOne_20 : decode cX0_takesOne 20 = .ok (.istore_n 1, 1) := by decide +kernel
theorem dX0_takesOne_21 : decode cX0_takesOne 21 = .ok (.iload_n 1, 1) := by decide +kernel
theorem dX0_takesOne_22 : decode cX0_takesOne 22 = .ok (.ifCond .eq 11, 3) := by decide +kernel
theorem dX0_takesOne_25 : decode cX0_takesOne 25 = .ok (.aload_n 0, 1) := by decide +kernel
theorem dX0_takesOne_26 : decode cX0_takesOne 26 = .ok (.iconst 0, 1) := by decide +kernel
theorem dX0_takesOne_27 : decode cX0_takesOne 27 = .ok (.invokevirtual 35, 3) := by decide +kernel
theorem dX0_takesOne_30 : decode cX0_takesOne 30 = .ok (.ifCond .ne 5, 3) := by decide +kernel
theorem dX0_takesOne_33 : decode cX0_takesOne 33 = .ok (.iconst 0, 1) := by decide +kernel
theorem dX0_takesOne_34 : decode cX0_takesOne 34 = .ok (.ireturn, 1) := by decide +kernel
theorem dX0_takesOne_35 : decode cX0_takesOne 35 = .ok (.aload_n 0, 1) := by decide +kernel
theorem dX0_takesOne_36 : decode cX0_takesOne 36 = .ok (.iconst 3, 1) := by decide +kernel
theorem dX0_takesOne_37 : decode cX0_takesOne 37 = .ok (.putfield 11, 3) := by decide +kernel
theorem dX0_takesOne_40 : decode cX0_takesOne 40 = .ok (.aload_n 0, 1) := by decide +kernel
theorem dX0_takesOne_41 : decode cX0_takesOne 41 = .ok (.iconst 4, 1) := by decide +kernel
theorem dX0_takesOne_42 : decode cX0_takesOne 42 = .ok (.putfield 21, 3) := by decide +kernel
theorem dX0_takesOne_45 : decode cX0_takesOne 45 = .ok (.iconst 1, 1) := by decide +kernel
theorem dX0_takesOne_46 : decode cX0_takesOne 46 = .ok (.ireturn, 1) := by decide +kernel
set_option maxRecDepth 20000 in
theorem ggX0_takesPlus_X0_isNew : GoodIn wsX0_takesPlus wsX0_isNew := goodIn_r _ [9, 3, 10, 11, 12, 18, 19, 20, 21] (by decide +kernel) (by decide +kernel)
set_option maxRecDepth 20000 in
theorem gX0_takesPlus_X0_isNew : GoodIn wsX0_takesPlus (wsV RX0 35 RX0 yX0_isNew wsX0_isNew) := goodIn_app (goodIn_of _ (by decide +kernel)) ggX0_takesPlus_X0_isNew
set_option maxRecDepth 20000 in
theorem ggX0_takesPlus_X0_startProduct : GoodIn wsX0_takesPlus wsX0_startProduct := goodIn_r _ [16, 2, 17, 18, 19, 20, 21] (by decide +kernel) (by decide +kernel)
set_option maxRecDepth 20000 in
theorem gX0_takesPlus_X0_startProduct : GoodIn wsX0_takesPlus (wsV RX0 24 RX0 yX0_startProduct wsX0_startProduct) := goodIn_app (goodIn_of _ (by decide +kernel)) ggX0_takesPlus_X0_startProduct
theorem dX0_takesPlus_0 : decode cX0_takesPlus 0 = .ok (.aload_n 0, 1) := by decide +kernel
theorem dX0_takesPlus_1 : decode cX0_takesPlus 1 = .ok (.getfield 11, 3) := by decide +kernel
theorem dX0_takesPlus_4 : decode cX0_takesPlus 4 = .ok (.iconst 3, 1) := by decide +kernel
theorem dX0_takesPlus_5 : decode cX0_takesPlus 5 = .ok (.if_icmp .ne 14, 3) := by decide +kernel
theorem dX0_takesPlus_8 : decode cX0_takesPlus 8 = .ok (.aload_n 0, 1) := by decide +kernel
theorem dX0_takesPlus_9 : decode cX0_takesPlus 9 = .ok (.aload_n 0, 1) := by decide +kernel
theorem dX0_takesPlus_10 : decode cX0_takesPlus 10 = .ok (.getfield 18, 3) := by decide +kernel
theorem dX0_takesPlus_13 : decode cX0_takesPlus 13 = .ok (.invokevirtual 35, 3) := by decide +kernel
theorem dX0_takesPlus_16 : decode cX0_takesPlus 16 = .ok (.ifCond .ne 5, 3) := by decide +kernel
theorem dX0_takesPlus_19 : decode cX0_takesPlus 19 = .ok (.iconst 0, 1) := by decide +kernel
theorem dX0_takesPlus_20 : decode cX0_takesPlus 20 = .ok (.ireturn, 1) := by decide +kernel
theorem dX0_takesPlus_21 : decode cX0_takesPlus 21 = .ok (.aload_n 0, 1) := by decide +kernel
theorem dX0_takesPlus_22 : decode cX0_takesPlus 22 = .ok (.getfield 15, 3) := by decide +kernel
theorem dX0_takesPlus_25 : decode cX0_takesPlus 25 = .ok (.iconst 1, 1) := by decide +kernel
theorem dX0_takesPlus_26 : decode cX0_takesPlus 26 = .ok (.aload_n 0, 1) := by decide +kernel
theorem dX0_takesPlus_27 : decode cX0_takesPlus 27 = .ok (.getfield 18, 3) := by decide +kernel
theorem dX0_takesPlus_30 : decode cX0_takesPlus 30 = .ok (.ishl, 1) := by decide +kernel
theorem dX0_takesPlus_31 : decode cX0_takesPlus 31 = .ok (.ior, 1) := by decide +kernel
theorem dX0_takesPlus_32 : decode cX0_takesPlus 32 = .ok (.istore_n 1, 1) := by decide +kernel
theorem dX0_takesPlus_33 : decode cX0_takesPlus 33 = .ok (.iload_n 1, 1) := by decide +kernel
theorem dX0_takesPlus_34 : decode cX0_takesPlus 34 = .ok (.ldc 55, 2) := by decide +kernel
theorem dX0_takesPlus_36 : decode cX0_takesPlus 36 = .ok (.if_icmp .ne 5, 3) := by decide +kernel
theorem dX0_takesPlus_39 : decode cX0_takesPlus 39 = .ok (.iconst 0, 1) := by decide +kernel
theorem dX0_takesPlus_40 : decode cX0_takesPlus 40 = .ok (.ireturn, 1) := by decide +kernel
theorem dX0_takesPlus_41 : decode cX0_takesPlus 41 = .ok (.aload_n 0, 1) := by decide +kernel
theorem dX0_takesPlus_42 : decode cX0_takesPlus 42 = .ok (.iconst 2, 1) := by decide +kernel
theorem dX0_takesPlus_43 : decode cX0_takesPlus 43 = .ok (.putfield 11, 3) := by decide +kernel
theorem dX0_takesPlus_46 : decode cX0_takesPlus 46 = .ok (.aload_n 0, 1) := by decide +kernel
theorem dX0_takesPlus_47 : decode cX0_takesPlus 47 = .ok (.iload_n 1, 1) := by decide +kernel
theorem dX0_takesPlus_48 : decode cX0_takesPlus 48 = .ok (.putfield 15, 3) := by decide +kernel
theorem dX0_takesPlus_51 : decode cX0_takesPlus 51 = .ok (.aload_n 0, 1) := by decide +kernel
theorem dX0_takesPlus_52 : decode cX0_takesPlus 52 = .ok (.invokevirtual 24, 3) := by decide +kernel
theorem dX0_takesPlus_55 : decode cX0_takesPlus 55 = .ok (.iconst 1, 1) := by decide +kernel
theorem dX0_takesPlus_56 : decode cX0_takesPlus 56 = .ok (.ireturn, 1) := by decide +kernel
set_option maxRecDepth 20000 in
theorem ggX0_takesVariable_X0_canBecomeNew : GoodIn wsX0_takesVariable wsX0_canBecomeNew := goodIn_r _ [8, 9, 10, 11, 7, 12, 13, 14, 15, 16, 17, 18, 19, 20] (by decide +kernel) (by decide +kernel)
set_option maxRecDepth 20000 in
theorem gX0_takesVariable_X0_canBecomeNew : GoodIn wsX0_takesVariable (wsV RX0 56 RX0 yX0_canBecomeNew wsX0_canBecomeNew) := goodIn_app (goodIn_of _ (by decide +kernel)) ggX0_takesVariable_X0_canBecomeNew
theorem dX0_takesVariable_0 : decode cX0_takesVariable 0 = .ok (.iload_n 1, 1) := by decide +kernel
theorem dX0_takesVariable_1 : decode cX0_takesVariable 1 = .ok (.aload_n 0, 1) := by decide +kernel
theorem dX0_takesVariable_2 : decode cX0_takesVariable 2 = .ok (.getfield 21, 3) := by decide +kernel
theorem dX0_takesVariable_5 : decode cX0_takesVariable 5 = .ok (.if_icmp .lt 8, 3) := by decide +kernel
theorem dX0_takesVariable_8 : decode cX0_takesVariable 8 = .ok (.iload_n 1, 1) := by decide +kernel
theorem dX0_takesVariable_9 : decode cX0_takesVariable 9 = .ok (.iconst 4, 1) := by decide +kernel
theorem dX0_takesVariable_10 : decode cX0_takesVariable 10 = .ok (.if_icmp .lt 5, 3) := by decide +kernel
theorem dX0_takesVariable_13 : decode cX0_takesVariable 13 = .ok (.iconst 0, 1) := by decide +kernel
theorem dX0_takesVariable_14 : decode cX0_takesVariable 14 = .ok (.ireturn, 1) := by decide +kernel
theorem dX0_takesVariable_15 : decode cX0_takesVariable 15 = .ok (.aload_n 0, 1) := by decide +kernel
theorem dX0_takesVariable_16 : decode cX0_takesVariable 16 = .ok (.getfield 18, 3) := by decide +kernel
theorem dX0_takesVariable_19 : decode cX0_takesVariable 19 = .ok (.iconst 1, 1) := by decide +kernel
theorem dX0_takesVariable_20 : decode cX0_takesVariable 20 = .ok (.iload_n 1, 1) := by decide +kernel
theorem dX0_takesVariable_21 : decode cX0_takesVariable 21 = .ok (.ishl, 1) := by decide +kernel
theorem dX0_takesVariable_22 : decode cX0_takesVariable 22 = .ok (.ior, 1) := by decide +kernel
theorem dX0_takesVariable_23 : decode cX0_takesVariable 23 = .ok (.istore_n 2, 1) := by decide +kernel
theorem dX0_takesVariable_24 : decode cX0_takesVariable 24 = .ok (.aload_n 0, 1) := by decide +kernel
theorem dX0_takesVariable_25 : decode cX0_takesVariable 25 = .ok (.iload_n 2, 1) := by decide +kernel
theorem dX0_takesVariable_26 : decode cX0_takesVariable 26 = .ok (.iload_n 1, 1) := by decide +kernel
theorem dX0_takesVariable_27 : decode cX0_takesVariable 27 = .ok (.iconst 1, 1) := by decide +kernel
theorem dX0_takesVariable_28 : decode cX0_takesVariable 28 = .ok (.iadd, 1) := by decide +kernel
theorem dX0_takesVariable_29 : decode cX0_takesVariable 29 = .ok (.invokevirtual 56, 3) := by decide +kernel
theorem dX0_takesVariable_32 : decode cX0_takesVariable 32 = .ok (.ifCond .ne 5, 3) := by decide +kernel
theorem dX0_takesVariable_35 : decode cX0_takesVariable 35 = .ok (.iconst 0, 1) := by decide +kernel
theorem dX0_takesVariable_36 : decode cX0_takesVariable 36 = .ok (.ireturn, 1) := by decide +kernel
theorem dX0_takesVariable_37 : decode cX0_takesVariable 37 = .ok (.aload_n 0, 1) := by decide +kernel
theorem dX0_takesVariable_38 : decode cX0_takesVariable 38 = .ok (.iconst 3, 1) := by decide +kernel
theorem dX0_takesVariable_39 : decode cX0_takesVariable 39 = .ok (.putfield 11, 3) := by decide +kernel
theorem dX0_takesVariable_42 : decode cX0_takesVariable 42 = .ok (.aload_n 0, 1) := by decide +kernel
theorem dX0_takesVariable_43 : decode cX0_takesVariable 43 = .ok (.iload_n 2, 1) := by decide +kernel
theorem dX0_takesVariable_44 : decode cX0_takesVariable 44 = .ok (.putfield 18, 3) := by decide +kernel
theorem dX0_takesVariable_47 : decode cX0_takesVariable 47 = .ok (.aload_n 0, 1) := by decide +kernel
theorem dX0_takesVariable_48 : decode cX0_takesVariable 48 = .ok (.iload_n 1, 1) := by decide +kernel
theorem dX0_takesVariable_49 : decode cX0_takesVariable 49 = .ok (.iconst 1, 1) := by decide +kernel
theorem dX0_takesVariable_50 : decode cX0_takesVariable 50 = .ok (.iadd, 1) := by decide +kernel
theorem dX0_takesVariable_51 : decode cX0_takesVariable 51 = .ok (.putfield 21, 3) := by decide +kernel
theorem dX0_takesVariable_54 : decode cX0_takesVariable 54 = .ok (.iconst 1, 1) := by decide +kernel
theorem dX0_takesVariable_55 : decode cX0_takesVariable 55 = .ok (.ireturn, 1) := by decide +kernel
set_option maxRecDepth 20000 in
theorem ggX0_canBecomeNew_X0_isNew : GoodIn wsX0_canBecomeNew wsX0_isNew := goodIn_r _ [5, 6, 7, 8, 9, 10, 11, 12, 13] (by decide +kernel) (by decide +kernel)
set_option maxRecDepth 20000 in
theorem gX0_canBecomeNew_X0_isNew : GoodIn wsX0_canBecomeNew (wsV RX0 35 RX0 yX0_isNew wsX0_isNew) := goodIn_app (goodIn_of _ (by decide +kernel)) ggX0_canBecomeNew_X0_isNew
theorem dX0_canBecomeNew_0 : decode cX0_canBecomeNew 0 = .ok (.iconst 1, 1) := by decide +kernel
theorem dX0_canBecomeNew_1 : decode cX0_canBecomeNew 1 = .ok (.iload_n 2, 1) := by decide +kernel
theorem dX0_canBecomeNew_2 : decode cX0_canBecomeNew 2 = .ok (.ishl, 1) := by decide +kernel
theorem dX0_canBecomeNew_3 : decode cX0_canBecomeNew 3 = .ok (.iconst 1, 1) := by decide +kernel
theorem dX0_canBecomeNew_4 : decode cX0_canBecomeNew 4 = .ok (.isub, 1) := by decide +kernel
theorem dX0_canBecomeNew_5 : decode cX0_canBecomeNew 5 = .ok (.istore_n 3, 1) := by decide +kernel
theorem dX0_canBecomeNew_6 : decode cX0_canBecomeNew 6 = .ok (.iconst 0, 1) := by decide +kernel
theorem dX0_canBecomeNew_7 : decode cX0_canBecomeNew 7 = .ok (.istore 4, 2) := by decide +kernel
theorem dX0_canBecomeNew_9 : decode cX0_canBecomeNew 9 = .ok (.iload 4, 2) := by decide +kernel
theorem dX0_canBecomeNew_11 : decode cX0_canBecomeNew 11 = .ok (.bipush 16, 2) := by decide +kernel
theorem dX0_canBecomeNew_13 : decode cX0_canBecomeNew 13 = .ok (.if_icmp .ge 28, 3) := by decide +kernel
theorem dX0_canBecomeNew_16 : decode cX0_canBecomeNew 16 = .ok (.iload 4, 2) := by decide +kernel
theorem dX0_canBecomeNew_18 : decode cX0_canBecomeNew 18 = .ok (.iload_n 3, 1) := by decide +kernel
theorem dX0_canBecomeNew_19 : decode cX0_canBecomeNew 19 = .ok (.iand, 1) := by decide +kernel
theorem dX0_canBecomeNew_20 : decode cX0_canBecomeNew 20 = .ok (.iload_n 1, 1) := by decide +kernel
theorem dX0_canBecomeNew_21 : decode cX0_canBecomeNew 21 = .ok (.if_icmp .ne 14, 3) := by decide +kernel
theorem dX0_canBecomeNew_24 : decode cX0_canBecomeNew 24 = .ok (.aload_n 0, 1) := by decide +kernel
theorem dX0_canBecomeNew_25 : decode cX0_canBecomeNew 25 = .ok (.iload 4, 2) := by decide +kernel
theorem dX0_canBecomeNew_27 : decode cX0_canBecomeNew 27 = .ok (.invokevirtual 35, 3) := by decide +kernel
theorem dX0_canBecomeNew_30 : decode cX0_canBecomeNew 30 = .ok (.ifCond .eq 5, 3) := by decide +kernel
theorem dX0_canBecomeNew_33 : decode cX0_canBecomeNew 33 = .ok (.iconst 1, 1) := by decide +kernel
theorem dX0_canBecomeNew_34 : decode cX0_canBecomeNew 34 = .ok (.ireturn, 1) := by decide +kernel
theorem dX0_canBecomeNew_35 : decode cX0_canBecomeNew 35 = .ok (.iinc 4 1, 3) := by decide +kernel
theorem dX0_canBecomeNew_38 : decode cX0_canBecomeNew 38 = .ok (.goto (-29), 3) := by decide +kernel
theorem dX0_canBecomeNew_41 : decode cX0_canBecomeNew 41 = .ok (.iconst 0, 1) := by decide +kernel
theorem dX0_canBecomeNew_42 : decode cX0_canBecomeNew 42 = .ok (.ireturn, 1) := by decide +kernel
set_option maxRecDepth 20000 in
theorem ggX1_init_X0_init : GoodIn wsX1_init wsX0_init := goodIn_r _ [23, 24, 2, 3, 25, 26, 27, 28, 40, 41, 42, 43] (by decide +kernel) (by decide +kernel)
set_option maxRecDepth 20000 in
theorem gX1_init_X0_init_n36 : GoodIn wsX1_init (wsX0_init) := ggX1_init_X0_init
theorem dX1_init_0 : decode cX1_init 0 = .ok (.aload_n 0, 1) := by decide +kernel
theorem dX1_init_1 : decode cX1_init 1 = .ok (.invokespecial 1, 3) := by decide +kernel
theorem dX1_init_4 : decode cX1_init 4 = .ok (.aload_n 0, 1) := by decide +kernel
theorem dX1_init_5 : decode cX1_init 5 = .ok (.bipush 6, 2) := by decide +kernel
theorem dX1_init_7 : decode cX1_init 7 = .ok (.newarray .int, 2) := by decide +kernel
theorem dX1_init_9 : decode cX1_init 9 = .ok (.putfield 9, 3) := by decide +kernel
theorem dX1_init_12 : decode cX1_init 12 = .ok (.aload_n 0, 1) := by decide +kernel
theorem dX1_init_13 : decode cX1_init 13 = .ok (.bipush 24, 2) := by decide +kernel
theorem dX1_init_15 : decode cX1_init 15 = .ok (.newarray .int, 2) := by decide +kernel
theorem dX1_init_17 : decode cX1_init 17 = .ok (.putfield 13, 3) := by decide +kernel
theorem dX1_init_20 : decode cX1_init 20 = .ok (.aload_n 0, 1) := by decide +kernel
theorem dX1_init_21 : decode cX1_init 21 = .ok (.iconst 0, 1) := by decide +kernel
theorem dX1_init_22 : decode cX1_init 22 = .ok (.putfield 16, 3) := by decide +kernel
theorem dX1_init_25 : decode cX1_init 25 = .ok (.aload_n 0, 1) := by decide +kernel
theorem dX1_init_26 : decode cX1_init 26 = .ok (.bipush 6, 2) := by decide +kernel
theorem dX1_init_28 : decode cX1_init 28 = .ok (.newarray .int, 2) := by decide +kernel
theorem dX1_init_30 : decode cX1_init 30 = .ok (.putfield 20, 3) := by decide +kernel
theorem dX1_init_33 : decode cX1_init 33 = .ok (.aload_n 0, 1) := by decide +kernel
theorem dX1_init_34 : decode cX1_init 34 = .ok (.iconst 0, 1) := by decide +kernel
theorem dX1_init_35 : decode cX1_init 35 = .ok (.putfield 23, 3) := by decide +kernel
theorem dX1_init_38 : decode cX1_init 38 = .ok (.aload_n 0, 1) := by decide +kernel
theorem dX1_init_39 : decode cX1_init 39 = .ok (.bipush 80, 2) := by decide +kernel
theorem dX1_init_41 : decode cX1_init 41 = .ok (.newarray .char, 2) := by decide +kernel
theorem dX1_init_43 : decode cX1_init 43 = .ok (.putfield 27, 3) := by decide +kernel
theorem dX1_init_46 : decode cX1_init 46 = .ok (.aload_n 0, 1) := by decide +kernel
theorem dX1_init_47 : decode cX1_init 47 = .ok (.iconst 0, 1) := by decide +kernel
theorem dX1_init_48 : decode cX1_init 48 = .ok (.putfield 31, 3) := by decide +kernel
theorem dX1_init_51 : decode cX1_init 51 = .ok (.aload_n 0, 1) := by decide +kernel
theorem dX1_init_52 : decode cX1_init 52 = .ok (.new 34, 3) := by decide +kernel
theorem dX1_init_55 : decode cX1_init 55 = .ok (.dup, 1) := by decide +kernel
theorem dX1_init_56 : decode cX1_init 56 = .ok (.invokespecial 36, 3) := by decide +kernel
theorem dX1_init_59 : decode cX1_init 59 = .ok (.putfield 37, 3) := by decide +kernel
theorem dX1_init_62 : decode cX1_init 62 = .ok (.aload_n 0, 1) := by decide +kernel
theorem dX1_init_63 : decode cX1_init 63 = .ok (.bipush 16, 2) := by decide +kernel
theorem dX1_init_65 : decode cX1_init 65 = .ok (.newarray .int, 2) := by decide +kernel
theorem dX1_init_67 : decode cX1_init 67 = .ok (.putfield 41, 3) := by decide +kernel
theorem dX1_init_70 : decode cX1_init 70 = .ok (.aload_n 0, 1) := by decide +kernel
theorem dX1_init_71 : decode cX1_init 71 = .ok (.bipush 48, 2) := by decide +kernel
theorem dX1_init_73 : decode cX1_init 73 = .ok (.newarray .char, 2) := by decide +kernel
theorem dX1_init_75 : decode cX1_init 75 = .ok (.putfield 44, 3) := by decide +kernel
theorem dX1_init_78 : decode cX1_init 78 = .ok (.aload_n 0, 1) := by decide +kernel
theorem dX1_init_79 : decode cX1_init 79 = .ok (.iconst 0, 1) := by decide +kernel
theorem dX1_init_80 : decode cX1_init 80 = .ok (.putfield 47, 3) := by decide +kernel
theorem dX1_init_83 : decode cX1_init 83 = .ok (.iconst 0, 1) := by decide +kernel
theorem dX1_init_84 : decode cX1_init 84 = .ok (.istore_n 1, 1) := by decide +kernel
theorem dX1_init_85 : decode cX1_init 85 = .ok (.iload_n 1, 1) := by decide +kernel
theorem dX1_init_86 : decode cX1_init 86 = .ok (.iconst 4, 1) := by decide +kernel
theorem dX1_init_87 : decode cX1_init 87 = .ok (.if_icmp .ge 20, 3) := by decide +kernel
theorem dX1_init_90 : decode cX1_init 90 = .ok (.aload_n 0, 1) := by decide +kernel
theorem dX1_init_91 : decode cX1_init 91 = .ok (.getfield 9, 3) := by decide +kernel
theorem dX1_init_94 : decode cX1_init 94 = .ok (.iload_n 1, 1) := by decide +kernel
theorem dX1_init_95 : decode cX1_init 95 = .ok (.getstatic 50, 3) := by decide +kernel
theorem dX1_init_98 : decode cX1_init 98 = .ok (.iload_n 1, 1) := by decide +kernel
theorem dX1_init_99 : decode cX1_init 99 = .ok (.iaload, 1) := by decide +kernel
theorem dX1_init_100 : decode cX1_init 100 = .ok (.iastore, 1) := by decide +kernel
theorem dX1_init_101 : decode cX1_init 101 = .ok (.iinc 1 1, 3) := by decide +kernel
theorem dX1_init_104 : decode cX1_init 104 = .ok (.goto (-19), 3) := by decide +kernel
theorem dX1_init_107 : decode cX1_init 107 = .ok (.aload_n 0, 1) := by decide +kernel
theorem dX1_init_108 : decode cX1_init 108 = .ok (.getfield 9, 3) := by decide +kernel
theorem dX1_init_111 : decode cX1_init 111 = .ok (.iconst 4, 1) := by decide +kernel
theorem dX1_init_112 : decode cX1_init 112 = .ok (.iconst 0, 1) := by decide +kernel
theorem dX1_init_113 : decode cX1_init 113 = .ok (.iastore, 1) := by decide +kernel
theorem dX1_init_114 : decode cX1_init 114 = .ok (.aload_n 0, 1) := by decide +kernel
theorem dX1_init_115 : decode cX1_init 115 = .ok (.getfield 9, 3) := by decide +kernel
theorem dX1_init_118 : decode cX1_init 118 = .ok (.iconst 5, 1) := by decide +kernel
theorem dX1_init_119 : decode cX1_init 119 = .ok (.ldc 53, 2) := by decide +kernel
theorem dX1_init_121 : decode cX1_init 121 = .ok (.iastore, 1) := by decide +kernel
theorem dX1_init_122 : decode cX1_init 122 = .ok (.return_, 1) := by decide +kernel
set_option maxRecDepth 20000 in
theorem ggX1_define_X1_checkFunction : GoodIn wsX1_define wsX1_checkFunction := goodIn_ca (goodIn_r _ [5, 6, 7] (by decide +kernel) (by decide +kernel)) (goodIn_sub (fun _ h => List.mem_cons_of_mem _ (List.mem_append_left _ (List.mem_append_right _ h))) (by decide +kernel))
set_option maxRecDepth 20000 in
theorem gX1_define_X1_checkFunction : GoodIn wsX1_define (va_wsS RX1 54 yX1_checkFunction wsX1_checkFunction) := goodIn_app (goodIn_of _ (by decide +kernel)) ggX1_define_X1_checkFunction
set_option maxRecDepth 20000 in
theorem ggX1_define_X1_validTextProducts : GoodIn wsX1_define wsX1_validTextProducts := goodIn_ca (goodIn_r _ [11, 12, 13, 14, 15, 16, 17, 18, 19, 20, 21, 22, 23, 24, 25, 26, 27, 28, 29, 30, 31, 32, 33, 34, 35, 36, 37, 38, 39, 40, 41, 42, 43, 44, 45, 4, 46, 47, 48, 49, 50, 51, 52, 53, 54, 55, 56, 57, 58, 59, 60, 61, 62, 63, 64, 65, 66, 88, 89, 90, 91, 92, 93, 94, 95, 96, 97, 98, 99, 100, 101, 102] (by decide +kernel) (by decide +kernel)) (goodIn_sub (fun _ h => List.mem_cons_of_mem _ (List.mem_append_right _ h)) (by decide +kernel))
set_option maxRecDepth 20000 in
theorem gX1_define_X1_validTextProducts : GoodIn wsX1_define (wsV RX1 58 RX1 yX1_validTextProducts wsX1_validTextProducts) := goodIn_app (goodIn_of _ (by decide +kernel)) ggX1_define_X1_validTextProducts
set_option maxRecDepth 20000 in
theorem ggX1_define_X1_recordState : GoodIn wsX1_define wsX1_recordState := goodIn_r _ [70, 71, 72, 73, 74, 75, 76, 1, 88, 89, 90, 91, 92, 93, 94, 95, 96, 97, 98] (by decide +kernel) (by decide +kernel)
set_option maxRecDepth 20000 in
theorem gX1_define_X1_recordState : GoodIn wsX1_define (wsV RX1 62 RX1 yX1_recordState wsX1_recordState) := goodIn_app (goodIn_of _ (by decide +kernel)) ggX1_define_X1_recordState
set_option maxRecDepth 20000 in
theorem ggX1_define_X1_addHalves : GoodIn wsX1_define wsX1_addHalves := goodIn_r _ [79, 80] (by decide +kernel) (by decide +kernel)
set_option maxRecDepth 20000 in
theorem gX1_define_X1_addHalves : GoodIn wsX1_define (va_wsS RX1 65 yX1_addHalves wsX1_addHalves) := goodIn_app (goodIn_of _ (by decide +kernel)) ggX1_define_X1_addHalves
set_option maxRecDepth 20000 in
theorem ggX1_define_J6_bitCount_0f7a4 : GoodIn wsX1_define wsJ6_bitCount_0f7a4 := goodIn_r _ [84, 85, 86, 87] (by decide +kernel) (by decide +kernel)
set_option maxRecDepth 20000 in
theorem gX1_define_J6_bitCount_0f7a4 : GoodIn wsX1_define (va_wsS RX1 69 yJ6_bitCount_0f7a4 wsJ6_bitCount_0f7a4) := goodIn_app (goodIn_of _ (by decide +kernel)) ggX1_define_J6_bitCount_0f7a4
theorem dX1_define_0 : decode cX1_define 0 = .ok (.iload_n 1, 1) := by decide +kernel
theorem dX1_define_1 : decode cX1_define 1 = .ok (.invokestatic 54, 3) := by decide +kernel
theorem dX1_define_4 : decode cX1_define 4 = .ok (.aload_n 0, 1) := by decide +kernel
theorem dX1_define_5 : decode cX1_define 5 = .ok (.invokevirtual 58, 3) := by decide +kernel
theorem dX1_define_8 : decode cX1_define 8 = .ok (.istore_n 2, 1) := by decide +kernel
theorem dX1_define_9 : decode cX1_define 9 = .ok (.aload_n 0, 1) := by decide +kernel
theorem dX1_define_10 : decode cX1_define 10 = .ok (.invokevirtual 62, 3) := by decide +kernel
theorem dX1_define_13 : decode cX1_define 13 = .ok (.aload_n 0, 1) := by decide +kernel
theorem dX1_define_14 : decode cX1_define 14 = .ok (.getfield 9, 3) := by decide +kernel
theorem dX1_define_17 : decode cX1_define 17 = .ok (.iload_n 1, 1) := by decide +kernel
theorem dX1_define_18 : decode cX1_define 18 = .ok (.iload_n 2, 1) := by decide +kernel
theorem dX1_define_19 : decode cX1_define 19 = .ok (.invokestatic 65, 3) := by decide +kernel
theorem dX1_define_22 : decode cX1_define 22 = .ok (.iastore, 1) := by decide +kernel
theorem dX1_define_23 : decode cX1_define 23 = .ok (.iload_n 2, 1) := by decide +kernel
theorem dX1_define_24 : decode cX1_define 24 = .ok (.invokestatic 69, 3) := by decide +kernel
theorem dX1_define_27 : decode cX1_define 27 = .ok (.ireturn, 1) := by decide +kernel
set_option maxRecDepth 20000 in
theorem ggX1_setTable_X1_checkFunction : GoodIn wsX1_setTable wsX1_checkFunction := goodIn_ca (goodIn_r _ [8, 9, 10] (by decide +kernel) (by decide +kernel)) (goodIn_sub (fun _ h => List.mem_cons_of_mem _ (List.mem_append_right _ h)) (by decide +kernel))
set_option maxRecDepth 20000 in
theorem gX1_setTable_X1_checkFunction : GoodIn wsX1_setTable (va_wsS RX1 54 yX1_checkFunction wsX1_checkFunction) := goodIn_app (goodIn_of _ (by decide +kernel)) ggX1_setTable_X1_checkFunction
set_option maxRecDepth 20000 in
theorem ggX1_setTable_X1_recordState : GoodIn wsX1_setTable wsX1_recordState := goodIn_r _ [14, 15, 16, 17, 18, 19, 20, 4, 21, 22, 23, 24, 25, 26, 27, 28, 29, 30, 31] (by decide +kernel) (by decide +kernel)
set_option maxRecDepth 20000 in
theorem gX1_setTable_X1_recordState : GoodIn wsX1_setTable (wsV RX1 62 RX1 yX1_recordState wsX1_recordState) := goodIn_app (goodIn_of _ (by decide +kernel)) ggX1_setTable_X1_recordState
theorem dX1_setTable_0 : decode cX1_setTable 0 = .ok (.iload_n 1, 1) := by decide +kernel
theorem dX1_setTable_1 : decode cX1_setTable 1 = .ok (.invokestatic 54, 3) := by decide +kernel
theorem dX1_setTable_4 : decode cX1_setTable 4 = .ok (.iload_n 2, 1) := by decide +kernel
theorem dX1_setTable_5 : decode cX1_setTable 5 = .ok (.ifCond .lt 9, 3) := by decide +kernel
theorem dX1_setTable_8 : decode cX1_setTable 8 = .ok (.iload_n 2, 1) := by decide +kernel
theorem dX1_setTable_9 : decode cX1_setTable 9 = .ok (.ldc 53, 2) := by decide +kernel
theorem dX1_setTable_11 : decode cX1_setTable 11 = .ok (.if_icmp .le 13, 3) := by decide +kernel
theorem dX1_setTable_14 : decode cX1_setTable 14 = .ok (.new 74, 3) := by decide +kernel
theorem dX1_setTable_17 : decode cX1_setTable 17 = .ok (.dup, 1) := by decide +kernel
theorem dX1_setTable_18 : decode cX1_setTable 18 = .ok (.ldc 76, 2) := by decide +kernel
theorem dX1_setTable_20 : decode cX1_setTable 20 = .ok (.invokespecial 78, 3) := by decide +kernel
theorem dX1_setTable_23 : decode cX1_setTable 23 = .ok (.athrow, 1) := by decide +kernel
theorem dX1_setTable_24 : decode cX1_setTable 24 = .ok (.aload_n 0, 1) := by decide +kernel
theorem dX1_setTable_25 : decode cX1_setTable 25 = .ok (.getfield 9, 3) := by decide +kernel
theorem dX1_setTable_28 : decode cX1_setTable 28 = .ok (.iload_n 1, 1) := by decide +kernel
theorem dX1_setTable_29 : decode cX1_setTable 29 = .ok (.iaload, 1) := by decide +kernel
theorem dX1_setTable_30 : decode cX1_setTable 30 = .ok (.istore_n 3, 1) := by decide +kernel
theorem dX1_setTable_31 : decode cX1_setTable 31 = .ok (.aload_n 0, 1) := by decide +kernel
theorem dX1_setTable_32 : decode cX1_setTable 32 = .ok (.invokevirtual 62, 3) := by decide +kernel
theorem dX1_setTable_35 : decode cX1_setTable 35 = .ok (.aload_n 0, 1) := by decide +kernel
theorem dX1_setTable_36 : decode cX1_setTable 36 = .ok (.getfield 9, 3) := by decide +kernel
theorem dX1_setTable_39 : decode cX1_setTable 39 = .ok (.iload_n 1, 1) := by decide +kernel
theorem dX1_setTable_40 : decode cX1_setTable 40 = .ok (.iload_n 2, 1) := by decide +kernel
theorem dX1_setTable_41 : decode cX1_setTable 41 = .ok (.iastore, 1) := by decide +kernel
theorem dX1_setTable_42 : decode cX1_setTable 42 = .ok (.iload_n 3, 1) := by decide +kernel
theorem dX1_setTable_43 : decode cX1_setTable 43 = .ok (.ireturn, 1) := by decide +kernel
set_option maxRecDepth 20000 in
theorem ggX1_join_X1_checkFunction : GoodIn wsX1_join wsX1_checkFunction := goodIn_ca (goodIn_r _ [7, 8, 9] (by decide +kernel) (by decide +kernel)) (goodIn_sub (fun _ h => List.mem_cons_of_mem _ (List.mem_append_right _ h)) (by decide +kernel))
set_option maxRecDepth 20000 in
theorem gX1_join_X1_checkFunction : GoodIn wsX1_join (va_wsS RX1 54 yX1_checkFunction wsX1_checkFunction) := goodIn_app (goodIn_of _ (by decide +kernel)) ggX1_join_X1_checkFunction
set_option maxRecDepth 20000 in
theorem ggX1_join_X1_joinTables : GoodIn wsX1_join wsX1_joinTables := goodIn_r _ [12, 13] (by decide +kernel) (by decide +kernel)
set_option maxRecDepth 20000 in
theorem gX1_join_X1_joinTables : GoodIn wsX1_join (va_wsS RX1 83 yX1_joinTables wsX1_joinTables) := goodIn_app (goodIn_of _ (by decide +kernel)) ggX1_join_X1_joinTables
set_option maxRecDepth 20000 in
theorem ggX1_join_X1_recordState : GoodIn wsX1_join wsX1_recordState := goodIn_r _ [17, 18, 19, 20, 21, 22, 23, 3, 24, 25, 26, 27, 28, 29, 30, 31, 32, 33, 34] (by decide +kernel) (by decide +kernel)
set_option maxRecDepth 20000 in
theorem gX1_join_X1_recordState : GoodIn wsX1_join (wsV RX1 62 RX1 yX1_recordState wsX1_recordState) := goodIn_app (goodIn_of _ (by decide +kernel)) ggX1_join_X1_recordState
theorem dX1_join_0 : decode cX1_join 0 = .ok (.iload_n 1, 1) := by decide +kernel
theorem dX1_join_1 : decode cX1_join 1 = .ok (.invokestatic 54, 3) := by decide +kernel
theorem dX1_join_4 : decode cX1_join 4 = .ok (.iload_n 2, 1) := by decide +kernel
theorem dX1_join_5 : decode cX1_join 5 = .ok (.invokestatic 54, 3) := by decide +kernel
theorem dX1_join_8 : decode cX1_join 8 = .ok (.iload_n 3, 1) := by decide +kernel
theorem dX1_join_9 : decode cX1_join 9 = .ok (.invokestatic 54, 3) := by decide +kernel
theorem dX1_join_12 : decode cX1_join 12 = .ok (.iload 4, 2) := by decide +kernel
theorem dX1_join_14 : decode cX1_join 14 = .ok (.ifCond .lt 9, 3) := by decide +kernel
theorem dX1_join_17 : decode cX1_join 17 = .ok (.iload 4, 2) := by decide +kernel
theorem dX1_join_19 : decode cX1_join 19 = .ok (.iconst 3, 1) := by decide +kernel
theorem dX1_join_20 : decode cX1_join 20 = .ok (.if_icmp .le 13, 3) := by decide +kernel
theorem dX1_join_23 : decode cX1_join 23 = .ok (.new 74, 3) := by decide +kernel
theorem dX1_join_26 : decode cX1_join 26 = .ok (.dup, 1) := by decide +kernel
theorem dX1_join_27 : decode cX1_join 27 = .ok (.ldc 81, 2) := by decide +kernel
theorem dX1_join_29 : decode cX1_join 29 = .ok (.invokespecial 78, 3) := by decide +kernel
theorem dX1_join_32 : decode cX1_join 32 = .ok (.athrow, 1) := by decide +kernel
theorem dX1_join_33 : decode cX1_join 33 = .ok (.aload_n 0, 1) := by decide +kernel
theorem dX1_join_34 : decode cX1_join 34 = .ok (.getfield 9, 3) := by decide +kernel
theorem dX1_join_37 : decode cX1_join 37 = .ok (.iload_n 2, 1) := by decide +kernel
theorem dX1_join_38 : decode cX1_join 38 = .ok (.iaload, 1) := by decide +kernel
theorem dX1_join_39 : decode cX1_join 39 = .ok (.aload_n 0, 1) := by decide +kernel
theorem dX1_join_40 : decode cX1_join 40 = .ok (.getfield 9, 3) := by decide +kernel
theorem dX1_join_43 : decode cX1_join 43 = .ok (.iload_n 3, 1) := by decide +kernel
theorem dX1_join_44 : decode cX1_join 44 = .ok (.iaload, 1) := by decide +kernel
theorem dX1_join_45 : decode cX1_join 45 = .ok (.iload 4, 2) := by decide +kernel
theorem dX1_join_47 : decode cX1_join 47 = .ok (.invokestatic 83, 3) := by decide +kernel
theorem dX1_join_50 : decode cX1_join 50 = .ok (.istore 5, 2) := by decide +kernel
theorem dX1_join_52 : decode cX1_join 52 = .ok (.aload_n 0, 1) := by decide +kernel
theorem dX1_join_53 : decode cX1_join 53 = .ok (.invokevirtual 62, 3) := by decide +kernel
theorem dX1_join_56 : decode cX1_join 56 = .ok (.aload_n 0, 1) := by decide +kernel
theorem dX1_join_57 : decode cX1_join 57 = .ok (.getfield 9, 3) := by decide +kernel
theorem dX1_join_60 : decode cX1_join 60 = .ok (.iload_n 1, 1) := by decide +kernel
theorem dX1_join_61 : decode cX1_join 61 = .ok (.iload 5, 2) := by decide +kernel
theorem dX1_join_63 : decode cX1_join 63 = .ok (.iastore, 1) := by decide +kernel
theorem dX1_join_64 : decode cX1_join 64 = .ok (.iload 5, 2) := by decide +kernel
theorem dX1_join_66 : decode cX1_join 66 = .ok (.ireturn, 1) := by decide +kernel
set_option maxRecDepth 20000 in
theorem ggX1_fix_X1_checkFunction : GoodIn wsX1_fix wsX1_checkFunction := goodIn_ca (goodIn_r _ [5, 6, 7] (by decide +kernel) (by decide +kernel)) (goodIn_sub (fun _ h => List.mem_cons_of_mem _ (List.mem_append_right _ h)) (by decide +kernel))
set_option maxRecDepth 20000 in
theorem gX1_fix_X1_checkFunction : GoodIn wsX1_fix (va_wsS RX1 54 yX1_checkFunction wsX1_checkFunction) := goodIn_app (goodIn_of _ (by decide +kernel)) ggX1_fix_X1_checkFunction
set_option maxRecDepth 20000 in
theorem ggX1_fix_X1_checkVariable : GoodIn wsX1_fix wsX1_checkVariable := goodIn_ca (goodIn_r _ [10, 6, 7] (by decide +kernel) (by decide +kernel)) (goodIn_sub (fun _ h => List.mem_cons_of_mem _ (List.mem_append_right _ h)) (by decide +kernel))
set_option maxRecDepth 20000 in
theorem gX1_fix_X1_checkVariable : GoodIn wsX1_fix (va_wsS RX1 87 yX1_checkVariable wsX1_checkVariable) := goodIn_app (goodIn_of _ (by decide +kernel)) ggX1_fix_X1_checkVariable
set_option maxRecDepth 20000 in
theorem ggX1_fix_X1_recordState : GoodIn wsX1_fix wsX1_recordState := goodIn_r _ [14, 15, 16, 17, 18, 19, 20, 1, 25, 26, 27, 28, 29, 30, 31, 32, 33, 34, 35] (by decide +kernel) (by decide +kernel)
set_option maxRecDepth 20000 in
theorem gX1_fix_X1_recordState : GoodIn wsX1_fix (wsV RX1 62 RX1 yX1_recordState wsX1_recordState) := goodIn_app (goodIn_of _ (by decide +kernel)) ggX1_fix_X1_recordState
set_option maxRecDepth 20000 in
theorem ggX1_fix_X1_half : GoodIn wsX1_fix wsX1_half := goodIn_r _ [23, 24] (by decide +kernel) (by decide +kernel)
set_option maxRecDepth 20000 in
theorem gX1_fix_X1_half : GoodIn wsX1_fix (va_wsS RX1 90 yX1_half wsX1_half) := goodIn_app (goodIn_of _ (by decide +kernel)) ggX1_fix_X1_half
theorem dX1_fix_0 : decode cX1_fix 0 = .ok (.iload_n 1, 1) := by decide +kernel
theorem dX1_fix_1 : decode cX1_fix 1 = .ok (.invokestatic 54, 3) := by decide +kernel
theorem dX1_fix_4 : decode cX1_fix 4 = .ok (.iload_n 2, 1) := by decide +kernel
theorem dX1_fix_5 : decode cX1_fix 5 = .ok (.invokestatic 87, 3) := by decide +kernel
theorem dX1_fix_8 : decode cX1_fix 8 = .ok (.aload_n 0, 1) := by decide +kernel
theorem dX1_fix_9 : decode cX1_fix 9 = .ok (.invokevirtual 62, 3) := by decide +kernel
theorem dX1_fix_12 : decode cX1_fix 12 = .ok (.aload_n 0, 1) := by decide +kernel
theorem dX1_fix_13 : decode cX1_fix 13 = .ok (.getfield 9, 3) := by decide +kernel
theorem dX1_fix_16 : decode cX1_fix 16 = .ok (.iload_n 1, 1) := by decide +kernel
theorem dX1_fix_17 : decode cX1_fix 17 = .ok (.aload_n 0, 1) := by decide +kernel
theorem dX1_fix_18 : decode cX1_fix 18 = .ok (.getfield 9, 3) := by decide +kernel
theorem dX1_fix_21 : decode cX1_fix 21 = .ok (.iload_n 1, 1) := by decide +kernel
theorem dX1_fix_22 : decode cX1_fix 22 = .ok (.iaload, 1) := by decide +kernel
theorem dX1_fix_23 : decode cX1_fix 23 = .ok (.iload_n 2, 1) := by decide +kernel
theorem dX1_fix_24 : decode cX1_fix 24 = .ok (.iload_n 3, 1) := by decide +kernel
theorem dX1_fix_25 : decode cX1_fix 25 = .ok (.invokestatic 90, 3) := by decide +kernel
theorem dX1_fix_28 : decode cX1_fix 28 = .ok (.iastore, 1) := by decide +kernel
theorem dX1_fix_29 : decode cX1_fix 29 = .ok (.aload_n 0, 1) := by decide +kernel
theorem dX1_fix_30 : decode cX1_fix 30 = .ok (.getfield 9, 3) := by decide +kernel
theorem dX1_fix_33 : decode cX1_fix 33 = .ok (.iload_n 1, 1) := by decide +kernel
theorem dX1_fix_34 : decode cX1_fix 34 = .ok (.iaload, 1) := by decide +kernel
theorem dX1_fix_35 : decode cX1_fix 35 = .ok (.ireturn, 1) := by decide +kernel
set_option maxRecDepth 20000 in
theorem ggX1_substitute_X1_checkFunction : GoodIn wsX1_substitute wsX1_checkFunction := goodIn_ca (goodIn_r _ [5, 6, 7] (by decide +kernel) (by decide +kernel)) (goodIn_sub (fun _ h => List.mem_cons_of_mem _ (List.mem_append_right _ h)) (by decide +kernel))
set_option maxRecDepth 20000 in
theorem gX1_substitute_X1_checkFunction : GoodIn wsX1_substitute (va_wsS RX1 54 yX1_checkFunction wsX1_checkFunction) := goodIn_app (goodIn_of _ (by decide +kernel)) ggX1_substitute_X1_checkFunction
set_option maxRecDepth 20000 in
theorem ggX1_substitute_X1_checkVariable : GoodIn wsX1_substitute wsX1_checkVariable := goodIn_ca (goodIn_r _ [10, 6, 7] (by decide +kernel) (by decide +kernel)) (goodIn_sub (fun _ h => List.mem_cons_of_mem _ (List.mem_append_right _ h)) (by decide +kernel))
set_option maxRecDepth 20000 in
theorem gX1_substitute_X1_checkVariable : GoodIn wsX1_substitute (va_wsS RX1 87 yX1_checkVariable wsX1_checkVariable) := goodIn_app (goodIn_of _ (by decide +kernel)) ggX1_substitute_X1_checkVariable
set_option maxRecDepth 20000 in
theorem ggX1_substitute_X1_half : GoodIn wsX1_substitute wsX1_half := goodIn_r _ [13, 14] (by decide +kernel) (by decide +kernel)
set_option maxRecDepth 20000 in
theorem gX1_substitute_X1_half : GoodIn wsX1_substitute (va_wsS RX1 90 yX1_half wsX1_half) := goodIn_app (goodIn_of _ (by decide +kernel)) ggX1_substitute_X1_half
set_option maxRecDepth 20000 in
theorem ggX1_substitute_X1_recordState : GoodIn wsX1_substitute wsX1_recordState := goodIn_r _ [18, 19, 20, 21, 22, 23, 24, 1, 25, 26, 27, 28, 29, 30, 31, 32, 33, 34, 35] (by decide +kernel) (by decide +kernel)
set_option maxRecDepth 20000 in
theorem gX1_substitute_X1_recordState : GoodIn wsX1_substitute (wsV RX1 62 RX1 yX1_recordState wsX1_recordState) := goodIn_app (goodIn_of _ (by decide +kernel)) ggX1_substitute_X1_recordState
theorem dX1_substitute_0 : decode cX1_substitute 0 = .ok (.iload_n 1, 1) := by decide +kernel
theorem dX1_substitute_1 : decode cX1_substitute 1 = .ok (.invokestatic 54, 3) := by decide +kernel
theorem dX1_substitute_4 : decode cX1_substitute 4 = .ok (.iload_n 2, 1) := by decide +kernel
theorem dX1_substitute_5 : decode cX1_substitute 5 = .ok (.invokestatic 87, 3) := by decide +kernel
theorem dX1_substitute_8 : decode cX1_substitute 8 = .ok (.iload_n 3, 1) := by decide +kernel
theorem dX1_substitute_9 : decode cX1_substitute 9 = .ok (.invokestatic 54, 3) := by decide +kernel
theorem dX1_substitute_12 : decode cX1_substitute 12 = .ok (.aload_n 0, 1) := by decide +kernel
theorem dX1_substitute_13 : decode cX1_substitute 13 = .ok (.getfield 9, 3) := by decide +kernel
theorem dX1_substitute_16 : decode cX1_substitute 16 = .ok (.iload_n 1, 1) := by decide +kernel
theorem dX1_substitute_17 : decode cX1_substitute 17 = .ok (.iaload, 1) := by decide +kernel
theorem dX1_substitute_18 : decode cX1_substitute 18 = .ok (.iload_n 2, 1) := by decide +kernel
theorem dX1_substitute_19 : decode cX1_substitute 19 = .ok (.iconst 1, 1) := by decide +kernel
theorem dX1_substitute_20 : decode cX1_substitute 20 = .ok (.invokestatic 90, 3) := by decide +kernel
theorem dX1_substitute_23 : decode cX1_substitute 23 = .ok (.istore 4, 2) := by decide +kernel
theorem dX1_substitute_25 : decode cX1_substitute 25 = .ok (.aload_n 0, 1) := by decide +kernel
theorem dX1_substitute_26 : decode cX1_substitute 26 = .ok (.getfield 9, 3) := by decide +kernel
theorem dX1_substitute_29 : decode cX1_substitute 29 = .ok (.iload_n 1, 1) := by decide +kernel
theorem dX1_substitute_30 : decode cX1_substitute 30 = .ok (.iaload, 1) := by decide +kernel
theorem dX1_substitute_31 : decode cX1_substitute 31 = .ok (.iload_n 2, 1) := by decide +kernel
theorem dX1_substitute_32 : decode cX1_substitute 32 = .ok (.iconst 0, 1) := by decide +kernel
theorem dX1_substitute_33 : decode cX1_substitute 33 = .ok (.invokestatic 90, 3) := by decide +kernel
theorem dX1_substitute_36 : decode cX1_substitute 36 = .ok (.istore 5, 2) := by decide +kernel
theorem dX1_substitute_38 : decode cX1_substitute 38 = .ok (.aload_n 0, 1) := by decide +kernel
theorem dX1_substitute_39 : decode cX1_substitute 39 = .ok (.getfield 9, 3) := by decide +kernel
theorem dX1_substitute_42 : decode cX1_substitute 42 = .ok (.iload_n 3, 1) := by decide +kernel
theorem dX1_substitute_43 : decode cX1_substitute 43 = .ok (.iaload, 1) := by decide +kernel
theorem dX1_substitute_44 : decode cX1_substitute 44 = .ok (.istore 6, 2) := by decide +kernel
theorem dX1_substitute_46 : decode cX1_substitute 46 = .ok (.aload_n 0, 1) := by decide +kernel
theorem dX1_substitute_47 : decode cX1_substitute 47 = .ok (.invokevirtual 62, 3) := by decide +kernel
theorem dX1_substitute_50 : decode cX1_substitute 50 = .ok (.aload_n 0, 1) := by decide +kernel
theorem dX1_substitute_51 : decode cX1_substitute 51 = .ok (.getfield 9, 3) := by decide +kernel
theorem dX1_substitute_54 : decode cX1_substitute 54 = .ok (.iload_n 1, 1) := by decide +kernel
theorem dX1_substitute_55 : decode cX1_substitute 55 = .ok (.iload 6, 2) := by decide +kernel
theorem dX1_substitute_57 : decode cX1_substitute 57 = .ok (.iload 4, 2) := by decide +kernel
theorem dX1_substitute_59 : decode cX1_substitute 59 = .ok (.iand, 1) := by decide +kernel
theorem dX1_substitute_60 : decode cX1_substitute 60 = .ok (.iload 6, 2) := by decide +kernel
theorem dX1_substitute_62 : decode cX1_substitute 62 = .ok (.iconst (-1), 1) := by decide +kernel
theorem dX1_substitute_63 : decode cX1_substitute 63 = .ok (.ixor, 1) := by decide +kernel
theorem dX1_substitute_64 : decode cX1_substitute 64 = .ok (.iload 5, 2) := by decide +kernel
theorem dX1_substitute_66 : decode cX1_substitute 66 = .ok (.iand, 1) := by decide +kernel
theorem dX1_substitute_67 : decode cX1_substitute 67 = .ok (.ior, 1) := by decide +kernel
theorem dX1_substitute_68 : decode cX1_substitute 68 = .ok (.iastore, 1) := by decide +kernel
theorem dX1_substitute_69 : decode cX1_substitute 69 = .ok (.aload_n 0, 1) := by decide +kernel
theorem dX1_substitute_70 : decode cX1_substitute 70 = .ok (.getfield 9, 3) := by decide +kernel
theorem dX1_substitute_73 : decode cX1_substitute 73 = .ok (.iload_n 1, 1) := by decide +kernel
theorem dX1_substitute_74 : decode cX1_substitute 74 = .ok (.iaload, 1) := by decide +kernel
theorem dX1_substitute_75 : decode cX1_substitute 75 = .ok (.ireturn, 1) := by decide +kernel
theorem dX1_type_0 : decode cX1_type 0 = .ok (.aload_n 0, 1) := by decide +kernel
theorem dX1_type_1 : decode cX1_type 1 = .ok (.getfield 31, 3) := by decide +kernel
theorem dX1_type_4 : decode cX1_type 4 = .ok (.bipush 80, 2) := by decide +kernel
theorem dX1_type_6 : decode cX1_type 6 = .ok (.if_icmp .lt 13, 3) := by decide +kernel
theorem dX1_type_9 : decode cX1_type 9 = .ok (.new 94, 3) := by decide +kernel
theorem dX1_type_12 : decode cX1_type 12 = .ok (.dup, 1) := by decide +kernel
theorem dX1_type_13 : decode cX1_type 13 = .ok (.ldc 96, 2) := by decide +kernel
theorem dX1_type_15 : decode cX1_type 15 = .ok (.invokespecial 98, 3) := by decide +kernel
theorem dX1_type_18 : decode cX1_type 18 = .ok (.athrow, 1) := by decide +kernel
theorem dX1_type_19 : decode cX1_type 19 = .ok (.aload_n 0, 1) := by decide +kernel
theorem dX1_type_20 : decode cX1_type 20 = .ok (.getfield 27, 3) := by decide +kernel
theorem dX1_type_23 : decode cX1_type 23 = .ok (.aload_n 0, 1) := by decide +kernel
theorem dX1_type_24 : decode cX1_type 24 = .ok (.getfield 31, 3) := by decide +kernel
theorem dX1_type_27 : decode cX1_type 27 = .ok (.iload_n 1, 1) := by decide +kernel
theorem dX1_type_28 : decode cX1_type 28 = .ok (.castore, 1) := by decide +kernel
theorem dX1_type_29 : decode cX1_type 29 = .ok (.aload_n 0, 1) := by decide +kernel
theorem dX1_type_30 : decode cX1_type 30 = .ok (.dup, 1) := by decide +kernel
theorem dX1_type_31 : decode cX1_type 31 = .ok (.getfield 31, 3) := by decide +kernel
theorem dX1_type_34 : decode cX1_type 34 = .ok (.iconst 1, 1) := by decide +kernel
theorem dX1_type_35 : decode cX1_type 35 = .ok (.iadd, 1) := by decide +kernel
theorem dX1_type_36 : decode cX1_type 36 = .ok (.putfield 31, 3) := by decide +kernel
theorem dX1_type_39 : decode cX1_type 39 = .ok (.aload_n 0, 1) := by decide +kernel
theorem dX1_type_40 : decode cX1_type 40 = .ok (.getfield 31, 3) := by decide +kernel
theorem dX1_type_43 : decode cX1_type 43 = .ok (.ireturn, 1) := by decide +kernel
theorem dX1_clearText_0 : decode cX1_clearText 0 = .ok (.aload_n 0, 1) := by decide +kernel
theorem dX1_clearText_1 : decode cX1_clearText 1 = .ok (.getfield 31, 3) := by decide +kernel
theorem dX1_clearText_4 : decode cX1_clearText 4 = .ok (.istore_n 1, 1) := by decide +kernel
theorem dX1_clearText_5 : decode cX1_clearText 5 = .ok (.aload_n 0, 1) := by decide +kernel
theorem dX1_clearText_6 : decode cX1_clearText 6 = .ok (.iconst 0, 1) := by decide +kernel
theorem dX1_clearText_7 : decode cX1_clearText 7 = .ok (.putfield 31, 3) := by decide +kernel
theorem dX1_clearText_10 : decode cX1_clearText 10 = .ok (.iload_n 1, 1) := by decide +kernel
theorem dX1_clearText_11 : decode cX1_clearText 11 = .ok (.ireturn, 1) := by decide +kernel
set_option maxRecDepth 20000 in
theorem ggX1_textError_X0_firstError : GoodIn wsX1_textError wsX0_firstError := goodIn_r _ [7, 8, 9, 10, 11, 12, 5, 13, 14, 15, 16, 17, 18, 19, 20, 21, 22, 23, 24, 25, 26, 27, 28, 29, 30, 31, 32, 33, 34, 35, 36, 37, 38, 39, 40, 41, 42, 43, 44, 45, 46, 47, 48, 49, 50, 51, 63, 64, 65, 66] (by decide +kernel) (by decide +kernel)
set_option maxRecDepth 20000 in
theorem gX1_textError_X0_firstError_n99 : GoodIn wsX1_textError (wsX0_firstError) := ggX1_textError_X0_firstError
theorem dX1_textError_0 : decode cX1_textError 0 = .ok (.aload_n 0, 1) := by decide +kernel
theorem dX1_textError_1 : decode cX1_textError 1 = .ok (.getfield 37, 3) := by decide +kernel
theorem dX1_textError_4 : decode cX1_textError 4 = .ok (.aload_n 0, 1) := by decide +kernel
theorem dX1_textError_5 : decode cX1_textError 5 = .ok (.getfield 27, 3) := by decide +kernel
theorem dX1_textError_8 : decode cX1_textError 8 = .ok (.aload_n 0, 1) := by decide +kernel
theorem dX1_textError_9 : decode cX1_textError 9 = .ok (.getfield 31, 3) := by decide +kernel
theorem dX1_textError_12 : decode cX1_textError 12 = .ok (.invokevirtual 99, 3) := by decide +kernel
theorem dX1_textError_15 : decode cX1_textError 15 = .ok (.ireturn, 1) := by decide +kernel
set_option maxRecDepth 20000 in
theorem ggX1_textProducts_X1_validTextProducts : GoodIn wsX1_textProducts wsX1_validTextProducts := goodIn_ca (goodIn_r _ [5, 6, 7, 8, 9, 10, 11, 12, 13, 14, 15, 16, 17, 18, 19, 20, 21, 22, 23, 24, 25, 26, 27, 28, 29, 30, 31, 32, 33, 34, 35, 36, 37, 38, 39, 4, 40, 41, 42, 43, 44, 45, 46, 47, 48, 49, 50, 51, 52, 53, 54, 55, 56, 57, 58, 59, 60, 61, 62, 63, 64, 65, 66, 67, 68, 69, 70, 71, 72, 73, 74, 75] (by decide +kernel) (by decide +kernel)) (goodIn_sub (fun _ h => List.mem_cons_of_mem _ (List.mem_append_right _ h)) (by decide +kernel))
set_option maxRecDepth 20000 in
theorem gX1_textProducts_X1_validTextProducts : GoodIn wsX1_textProducts (wsV RX1 58 RX1 yX1_validTextProducts wsX1_validTextProducts) := goodIn_app (goodIn_of _ (by decide +kernel)) ggX1_textProducts_X1_validTextProducts
theorem dX1_textProducts_0 : decode cX1_textProducts 0 = .ok (.aload_n 0, 1) := by decide +kernel
theorem dX1_textProducts_1 : decode cX1_textProducts 1 = .ok (.invokevirtual 58, 3) := by decide +kernel
theorem dX1_textProducts_4 : decode cX1_textProducts 4 = .ok (.ireturn, 1) := by decide +kernel
theorem dX1_undo_0 : decode cX1_undo 0 = .ok (.aload_n 0, 1) := by decide +kernel
theorem dX1_undo_1 : decode cX1_undo 1 = .ok (.getfield 16, 3) := by decide +kernel
theorem dX1_undo_4 : decode cX1_undo 4 = .ok (.ifCond .gt 13, 3) := by decide +kernel
theorem dX1_undo_7 : decode cX1_undo 7 = .ok (.new 94, 3) := by decide +kernel
theorem dX1_undo_10 : decode cX1_undo 10 = .ok (.dup, 1) := by decide +kernel
theorem dX1_undo_11 : decode cX1_undo 11 = .ok (.ldc 103, 2) := by decide +kernel
theorem dX1_undo_13 : decode cX1_undo 13 = .ok (.invokespecial 98, 3) := by decide +kernel
theorem dX1_undo_16 : decode cX1_undo 16 = .ok (.athrow, 1) := by decide +kernel
theorem dX1_undo_17 : decode cX1_undo 17 = .ok (.aload_n 0, 1) := by decide +kernel
theorem dX1_undo_18 : decode cX1_undo 18 = .ok (.dup, 1) := by decide +kernel
theorem dX1_undo_19 : decode cX1_undo 19 = .ok (.getfield 16, 3) := by decide +kernel
theorem dX1_undo_22 : decode cX1_undo 22 = .ok (.iconst 1, 1) := by decide +kernel
theorem dX1_undo_23 : decode cX1_undo 23 = .ok (.isub, 1) := by decide +kernel
theorem dX1_undo_24 : decode cX1_undo 24 = .ok (.putfield 16, 3) := by decide +kernel
theorem dX1_undo_27 : decode cX1_undo 27 = .ok (.aload_n 0, 1) := by decide +kernel
theorem dX1_undo_28 : decode cX1_undo 28 = .ok (.getfield 13, 3) := by decide +kernel
theorem dX1_undo_31 : decode cX1_undo 31 = .ok (.aload_n 0, 1) := by decide +kernel
theorem dX1_undo_32 : decode cX1_undo 32 = .ok (.getfield 16, 3) := by decide +kernel
theorem dX1_undo_35 : decode cX1_undo 35 = .ok (.bipush 6, 2) := by decide +kernel
theorem dX1_undo_37 : decode cX1_undo 37 = .ok (.imul, 1) := by decide +kernel
theorem dX1_undo_38 : decode cX1_undo 38 = .ok (.aload_n 0, 1) := by decide +kernel
theorem dX1_undo_39 : decode cX1_undo 39 = .ok (.getfield 9, 3) := by decide +kernel
theorem dX1_undo_42 : decode cX1_undo 42 = .ok (.iconst 0, 1) := by decide +kernel
theorem dX1_undo_43 : decode cX1_undo 43 = .ok (.bipush 6, 2) := by decide +kernel
theorem dX1_undo_45 : decode cX1_undo 45 = .ok (.invokestatic 105, 3) := by decide +kernel
theorem dX1_undo_48 : decode cX1_undo 48 = .ok (.aload_n 0, 1) := by decide +kernel
theorem dX1_undo_49 : decode cX1_undo 49 = .ok (.getfield 16, 3) := by decide +kernel
theorem dX1_undo_52 : decode cX1_undo 52 = .ok (.ireturn, 1) := by decide +kernel
set_option maxRecDepth 20000 in
theorem ggX1_takeSnapshot_X1_countAllProducts : GoodIn wsX1_takeSnapshot wsX1_countAllProducts := goodIn_r _ [12, 1, 13, 14, 11, 15, 16, 17, 18, 19, 20, 21, 22, 23, 24, 25, 26, 27, 28, 29, 30, 31, 32, 33, 34] (by decide +kernel) (by decide +kernel)
set_option maxRecDepth 20000 in
theorem gX1_takeSnapshot_X1_countAllProducts : GoodIn wsX1_takeSnapshot (wsV RX1 111 RX1 yX1_countAllProducts wsX1_countAllProducts) := goodIn_app (goodIn_of _ (by decide +kernel)) ggX1_takeSnapshot_X1_countAllProducts
theorem dX1_takeSnapshot_0 : decode cX1_takeSnapshot 0 = .ok (.aload_n 0, 1) := by decide +kernel
theorem dX1_takeSnapshot_1 : decode cX1_takeSnapshot 1 = .ok (.getfield 9, 3) := by decide +kernel
theorem dX1_takeSnapshot_4 : decode cX1_takeSnapshot 4 = .ok (.iconst 0, 1) := by decide +kernel
theorem dX1_takeSnapshot_5 : decode cX1_takeSnapshot 5 = .ok (.aload_n 0, 1) := by decide +kernel
theorem dX1_takeSnapshot_6 : decode cX1_takeSnapshot 6 = .ok (.getfield 20, 3) := by decide +kernel
theorem dX1_takeSnapshot_9 : decode cX1_takeSnapshot 9 = .ok (.iconst 0, 1) := by decide +kernel
theorem dX1_takeSnapshot_10 : decode cX1_takeSnapshot 10 = .ok (.bipush 6, 2) := by decide +kernel
theorem dX1_takeSnapshot_12 : decode cX1_takeSnapshot 12 = .ok (.invokestatic 105, 3) := by decide +kernel
theorem dX1_takeSnapshot_15 : decode cX1_takeSnapshot 15 = .ok (.aload_n 0, 1) := by decide +kernel
theorem dX1_takeSnapshot_16 : decode cX1_takeSnapshot 16 = .ok (.iconst 1, 1) := by decide +kernel
theorem dX1_takeSnapshot_17 : decode cX1_takeSnapshot 17 = .ok (.putfield 23, 3) := by decide +kernel
theorem dX1_takeSnapshot_20 : decode cX1_takeSnapshot 20 = .ok (.aload_n 0, 1) := by decide +kernel
theorem dX1_takeSnapshot_21 : decode cX1_takeSnapshot 21 = .ok (.invokevirtual 111, 3) := by decide +kernel
theorem dX1_takeSnapshot_24 : decode cX1_takeSnapshot 24 = .ok (.ireturn, 1) := by decide +kernel
set_option maxRecDepth 20000 in
theorem ggX1_restoreSnapshot_X1_recordState : GoodIn wsX1_restoreSnapshot wsX1_recordState := goodIn_r _ [14, 15, 16, 6, 7, 8, 9, 5, 32, 33, 34, 35, 36, 37, 38, 39, 40, 41, 42] (by decide +kernel) (by decide +kernel)
set_option maxRecDepth 20000 in
theorem gX1_restoreSnapshot_X1_recordState : GoodIn wsX1_restoreSnapshot (wsV RX1 62 RX1 yX1_recordState wsX1_recordState) := goodIn_app (goodIn_of _ (by decide +kernel)) ggX1_restoreSnapshot_X1_recordState
set_option maxRecDepth 20000 in
theorem ggX1_restoreSnapshot_X1_countAllProducts : GoodIn wsX1_restoreSnapshot wsX1_countAllProducts := goodIn_r _ [20, 5, 21, 22, 13, 23, 24, 25, 26, 27, 28, 29, 30, 31, 32, 33, 34, 35, 36, 37, 38, 39, 40, 41, 42] (by decide +kernel) (by decide +kernel)
set_option maxRecDepth 20000 in
theorem gX1_restoreSnapshot_X1_countAllProducts : GoodIn wsX1_restoreSnapshot (wsV RX1 111 RX1 yX1_countAllProducts wsX1_countAllProducts) := goodIn_app (goodIn_of _ (by decide +kernel)) ggX1_restoreSnapshot_X1_countAllProducts
theorem dX1_restoreSnapshot_0 : decode cX1_restoreSnapshot 0 = .ok (.aload_n 0, 1) := by decide +kernel
theorem dX1_restoreSnapshot_1 : decode cX1_restoreSnapshot 1 = .ok (.getfield 23, 3) := by decide +kernel
theorem dX1_restoreSnapshot_4 : decode cX1_restoreSnapshot 4 = .ok (.ifCond .ne 13, 3) := by decide +kernel
theorem dX1_restoreSnapshot_7 : decode cX1_restoreSnapshot 7 = .ok (.new 94, 3) := by decide +kernel
theorem dX1_restoreSnapshot_10 : decode cX1_restoreSnapshot 10 = .ok (.dup, 1) := by decide +kernel
theorem dX1_restoreSnapshot_11 : decode cX1_restoreSnapshot 11 = .ok (.ldc 114, 2) := by decide +kernel
theorem dX1_restoreSnapshot_13 : decode cX1_restoreSnapshot 13 = .ok (.invokespecial 98, 3) := by decide +kernel
theorem dX1_restoreSnapshot_16 : decode cX1_restoreSnapshot 16 = .ok (.athrow, 1) := by decide +kernel
theorem dX1_restoreSnapshot_17 : decode cX1_restoreSnapshot 17 = .ok (.aload_n 0, 1) := by decide +kernel
theorem dX1_restoreSnapshot_18 : decode cX1_restoreSnapshot 18 = .ok (.invokevirtual 62, 3) := by decide +kernel
theorem dX1_restoreSnapshot_21 : decode cX1_restoreSnapshot 21 = .ok (.aload_n 0, 1) := by decide +kernel
theorem dX1_restoreSnapshot_22 : decode cX1_restoreSnapshot 22 = .ok (.getfield 20, 3) := by decide +kernel
theorem dX1_restoreSnapshot_25 : decode cX1_restoreSnapshot 25 = .ok (.iconst 0, 1) := by decide +kernel
theorem dX1_restoreSnapshot_26 : decode cX1_restoreSnapshot 26 = .ok (.aload_n 0, 1) := by decide +kernel
theorem dX1_restoreSnapshot_27 : decode cX1_restoreSnapshot 27 = .ok (.getfield 9, 3) := by decide +kernel
theorem dX1_restoreSnapshot_30 : decode cX1_restoreSnapshot 30 = .ok (.iconst 0, 1) := by decide +kernel
theorem dX1_restoreSnapshot_31 : decode cX1_restoreSnapshot 31 = .ok (.bipush 6, 2) := by decide +kernel
theorem dX1_restoreSnapshot_33 : decode cX1_restoreSnapshot 33 = .ok (.invokestatic 105, 3) := by decide +kernel
theorem dX1_restoreSnapshot_36 : decode cX1_restoreSnapshot 36 = .ok (.aload_n 0, 1) := by decide +kernel
theorem dX1_restoreSnapshot_37 : decode cX1_restoreSnapshot 37 = .ok (.invokevirtual 111, 3) := by decide +kernel
theorem dX1_restoreSnapshot_40 : decode cX1_restoreSnapshot 40 = .ok (.ireturn, 1) := by decide +kernel
set_option maxRecDepth 20000 in
theorem ggX1_tableOf_X1_checkFunction : GoodIn wsX1_tableOf wsX1_checkFunction := goodIn_ca (goodIn_r _ [5, 6, 7] (by decide +kernel) (by decide +kernel)) (goodIn_sub (fun _ h => List.mem_cons_of_mem _ (List.mem_append_right _ h)) (by decide +kernel))
set_option maxRecDepth 20000 in
theorem gX1_tableOf_X1_checkFunction : GoodIn wsX1_tableOf (va_wsS RX1 54 yX1_checkFunction wsX1_checkFunction) := goodIn_app (goodIn_of _ (by decide +kernel)) ggX1_tableOf_X1_checkFunction
theorem dX1_tableOf_0 : decode cX1_tableOf 0 = .ok (.iload_n 1, 1) := by decide +kernel
theorem dX1_tableOf_1 : decode cX1_tableOf 1 = .ok (.invokestatic 54, 3) := by decide +kernel
theorem dX1_tableOf_4 : decode cX1_tableOf 4 = .ok (.aload_n 0, 1) := by decide +kernel
theorem dX1_tableOf_5 : decode cX1_tableOf 5 = .ok (.getfield 9, 3) := by decide +kernel
theorem dX1_tableOf_8 : decode cX1_tableOf 8 = .ok (.iload_n 1, 1) := by decide +kernel
theorem dX1_tableOf_9 : decode cX1_tableOf 9 = .ok (.iaload, 1) := by decide +kernel
theorem dX1_tableOf_10 : decode cX1_tableOf 10 = .ok (.ireturn, 1) := by decide +kernel
set_option maxRecDepth 20000 in
theorem ggX1_valueAt_X1_checkFunction : GoodIn wsX1_valueAt wsX1_checkFunction := goodIn_ca (goodIn_r _ [7, 1, 2] (by decide +kernel) (by decide +kernel)) (goodIn_sub (fun _ h => List.mem_cons_of_mem _ (List.mem_append_right _ h)) (by decide +kernel))
set_option maxRecDepth 20000 in
theorem gX1_valueAt_X1_checkFunction : GoodIn wsX1_valueAt (va_wsS RX1 54 yX1_checkFunction wsX1_checkFunction) := goodIn_app (goodIn_of _ (by decide +kernel)) ggX1_valueAt_X1_checkFunction
set_option maxRecDepth 20000 in
theorem ggX1_valueAt_X1_bit : GoodIn wsX1_valueAt wsX1_bit := goodIn_r _ [10] (by decide +kernel) (by decide +kernel)
set_option maxRecDepth 20000 in
theorem gX1_valueAt_X1_bit : GoodIn wsX1_valueAt (va_wsS RX1 121 yX1_bit wsX1_bit) := goodIn_app (goodIn_of _ (by decide +kernel)) ggX1_valueAt_X1_bit
theorem dX1_valueAt_0 : decode cX1_valueAt 0 = .ok (.iload_n 1, 1) := by decide +kernel
theorem dX1_valueAt_1 : decode cX1_valueAt 1 = .ok (.invokestatic 54, 3) := by decide +kernel
theorem dX1_valueAt_4 : decode cX1_valueAt 4 = .ok (.iload_n 2, 1) := by decide +kernel
theorem dX1_valueAt_5 : decode cX1_valueAt 5 = .ok (.ifCond .lt 9, 3) := by decide +kernel
theorem dX1_valueAt_8 : decode cX1_valueAt 8 = .ok (.iload_n 2, 1) := by decide +kernel
theorem dX1_valueAt_9 : decode cX1_valueAt 9 = .ok (.bipush 16, 2) := by decide +kernel
theorem dX1_valueAt_11 : decode cX1_valueAt 11 = .ok (.if_icmp .lt 13, 3) := by decide +kernel
theorem dX1_valueAt_14 : decode cX1_valueAt 14 = .ok (.new 116, 3) := by decide +kernel
theorem dX1_valueAt_17 : decode cX1_valueAt 17 = .ok (.dup, 1) := by decide +kernel
theorem dX1_valueAt_18 : decode cX1_valueAt 18 = .ok (.ldc 118, 2) := by decide +kernel
theorem dX1_valueAt_20 : decode cX1_valueAt 20 = .ok (.invokespecial 120, 3) := by decide +kernel
theorem dX1_valueAt_23 : decode cX1_valueAt 23 = .ok (.athrow, 1) := by decide +kernel
theorem dX1_valueAt_24 : decode cX1_valueAt 24 = .ok (.aload_n 0, 1) := by decide +kernel
theorem dX1_valueAt_25 : decode cX1_valueAt 25 = .ok (.getfield 9, 3) := by decide +kernel
theorem dX1_valueAt_28 : decode cX1_valueAt 28 = .ok (.iload_n 1, 1) := by decide +kernel
theorem dX1_valueAt_29 : decode cX1_valueAt 29 = .ok (.iaload, 1) := by decide +kernel
theorem dX1_valueAt_30 : decode cX1_valueAt 30 = .ok (.iload_n 2, 1) := by decide +kernel
theorem dX1_valueAt_31 : decode cX1_valueAt 31 = .ok (.invokestatic 121, 3) := by decide +kernel
theorem dX1_valueAt_34 : decode cX1_valueAt 34 = .ok (.ireturn, 1) := by decide +kernel
set_option maxRecDepth 20000 in
theorem ggX1_weightOf_X1_checkFunction : GoodIn wsX1_weightOf wsX1_checkFunction := goodIn_ca (goodIn_r _ [5, 6, 7] (by decide +kernel) (by decide +kernel)) (goodIn_sub (fun _ h => List.mem_cons_of_mem _ (List.mem_append_right _ h)) (by decide +kernel))
set_option maxRecDepth 20000 in
theorem gX1_weightOf_X1_checkFunction : GoodIn wsX1_weightOf (va_wsS RX1 54 yX1_checkFunction wsX1_checkFunction) := goodIn_app (goodIn_of _ (by decide +kernel)) ggX1_weightOf_X1_checkFunction
set_option maxRecDepth 20000 in
theorem ggX1_weightOf_J6_bitCount_0f7a4 : GoodIn wsX1_weightOf wsJ6_bitCount_0f7a4 := goodIn_r _ [11, 12, 13, 14] (by decide +kernel) (by decide +kernel)
set_option maxRecDepth 20000 in
theorem gX1_weightOf_J6_bitCount_0f7a4 : GoodIn wsX1_weightOf (va_wsS RX1 69 yJ6_bitCount_0f7a4 wsJ6_bitCount_0f7a4) := goodIn_app (goodIn_of _ (by decide +kernel)) ggX1_weightOf_J6_bitCount_0f7a4
theorem dX1_weightOf_0 : decode cX1_weightOf 0 = .ok (.iload_n 1, 1) := by decide +kernel
theorem dX1_weightOf_1 : decode cX1_weightOf 1 = .ok (.invokestatic 54, 3) := by decide +kernel
theorem dX1_weightOf_4 : decode cX1_weightOf 4 = .ok (.aload_n 0, 1) := by decide +kernel
theorem dX1_weightOf_5 : decode cX1_weightOf 5 = .ok (.getfield 9, 3) := by decide +kernel
theorem dX1_weightOf_8 : decode cX1_weightOf 8 = .ok (.iload_n 1, 1) := by decide +kernel
theorem dX1_weightOf_9 : decode cX1_weightOf 9 = .ok (.iaload, 1) := by decide +kernel
theorem dX1_weightOf_10 : decode cX1_weightOf 10 = .ok (.invokestatic 69, 3) := by decide +kernel
theorem dX1_weightOf_13 : decode cX1_weightOf 13 = .ok (.ireturn, 1) := by decide +kernel
set_option maxRecDepth 20000 in
theorem ggX1_dependsOn_X1_checkFunction : GoodIn wsX1_dependsOn wsX1_checkFunction := goodIn_ca (goodIn_r _ [5, 6, 7] (by decide +kernel) (by decide +kernel)) (goodIn_sub (fun _ h => List.mem_cons_of_mem _ (List.mem_append_right _ h)) (by decide +kernel))
set_option maxRecDepth 20000 in
theorem gX1_dependsOn_X1_checkFunction : GoodIn wsX1_dependsOn (va_wsS RX1 54 yX1_checkFunction wsX1_checkFunction) := goodIn_app (goodIn_of _ (by decide +kernel)) ggX1_dependsOn_X1_checkFunction
set_option maxRecDepth 20000 in
theorem ggX1_dependsOn_X1_checkVariable : GoodIn wsX1_dependsOn wsX1_checkVariable := goodIn_ca (goodIn_r _ [10, 6, 7] (by decide +kernel) (by decide +kernel)) (goodIn_sub (fun _ h => List.mem_cons_of_mem _ (List.mem_append_right _ h)) (by decide +kernel))
set_option maxRecDepth 20000 in
theorem gX1_dependsOn_X1_checkVariable : GoodIn wsX1_dependsOn (va_wsS RX1 87 yX1_checkVariable wsX1_checkVariable) := goodIn_app (goodIn_of _ (by decide +kernel)) ggX1_dependsOn_X1_checkVariable
set_option maxRecDepth 20000 in
theorem ggX1_dependsOn_X1_half : GoodIn wsX1_dependsOn wsX1_half := goodIn_r _ [13, 14] (by decide +kernel) (by decide +kernel)
set_option maxRecDepth 20000 in
theorem gX1_dependsOn_X1_half : GoodIn wsX1_dependsOn (va_wsS RX1 90 yX1_half wsX1_half) := goodIn_app (goodIn_of _ (by decide +kernel)) ggX1_dependsOn_X1_half
theorem dX1_dependsOn_0 : decode cX1_dependsOn 0 = .ok (.iload_n 1, 1) := by decide +kernel
theorem dX1_dependsOn_1 : decode cX1_dependsOn 1 = .ok (.invokestatic 54, 3) := by decide +kernel
theorem dX1_dependsOn_4 : decode cX1_dependsOn 4 = .ok (.iload_n 2, 1) := by decide +kernel
theorem dX1_dependsOn_5 : decode cX1_dependsOn 5 = .ok (.invokestatic 87, 3) := by decide +kernel
theorem dX1_dependsOn_8 : decode cX1_dependsOn 8 = .ok (.aload_n 0, 1) := by decide +kernel
theorem dX1_dependsOn_9 : decode cX1_dependsOn 9 = .ok (.getfield 9, 3) := by decide +kernel
theorem dX1_dependsOn_12 : decode cX1_dependsOn 12 = .ok (.iload_n 1, 1) := by decide +kernel
theorem dX1_dependsOn_13 : decode cX1_dependsOn 13 = .ok (.iaload, 1) := by decide +kernel
theorem dX1_dependsOn_14 : decode cX1_dependsOn 14 = .ok (.iload_n 2, 1) := by decide +kernel
theorem dX1_dependsOn_15 : decode cX1_dependsOn 15 = .ok (.iconst 1, 1) := by decide +kernel
theorem dX1_dependsOn_16 : decode cX1_dependsOn 16 = .ok (.invokestatic 90, 3) := by decide +kernel
theorem dX1_dependsOn_19 : decode cX1_dependsOn 19 = .ok (.aload_n 0, 1) := by decide +kernel
theorem dX1_dependsOn_20 : decode cX1_dependsOn 20 = .ok (.getfield 9, 3) := by decide +kernel
theorem dX1_dependsOn_23 : decode cX1_dependsOn 23 = .ok (.iload_n 1, 1) := by decide +kernel
theorem dX1_dependsOn_24 : decode cX1_dependsOn 24 = .ok (.iaload, 1) := by decide +kernel
theorem dX1_dependsOn_25 : decode cX1_dependsOn 25 = .ok (.iload_n 2, 1) := by decide +kernel
theorem dX1_dependsOn_26 : decode cX1_dependsOn 26 = .ok (.iconst 0, 1) := by decide +kernel
theorem dX1_dependsOn_27 : decode cX1_dependsOn 27 = .ok (.invokestatic 90, 3) := by decide +kernel
theorem dX1_dependsOn_30 : decode cX1_dependsOn 30 = .ok (.if_icmp .eq 7, 3) := by decide +kernel
theorem dX1_dependsOn_33 : decode cX1_dependsOn 33 = .ok (.iconst 1, 1) := by decide +kernel
theorem dX1_dependsOn_34 : decode cX1_dependsOn 34 = .ok (.goto 4, 3) := by decide +kernel
theorem dX1_dependsOn_37 : decode cX1_dependsOn 37 = .ok (.iconst 0, 1) := by decide +kernel
theorem dX1_dependsOn_38 : decode cX1_dependsOn 38 = .ok (.ireturn, 1) := by decide +kernel
set_option maxRecDepth 20000 in
theorem ggX1_productsByHalves_X1_checkFunction : GoodIn wsX1_productsByHalves wsX1_checkFunction := goodIn_ca (goodIn_r _ [5, 6, 7] (by decide +kernel) (by decide +kernel)) (goodIn_sub (fun _ h => List.mem_cons_of_mem _ (List.mem_append_right _ h)) (by decide +kernel))
set_option maxRecDepth 20000 in
theorem gX1_productsByHalves_X1_checkFunction : GoodIn wsX1_productsByHalves (va_wsS RX1 54 yX1_checkFunction wsX1_checkFunction) := goodIn_app (goodIn_of _ (by decide +kernel)) ggX1_productsByHalves_X1_checkFunction
set_option maxRecDepth 20000 in
theorem ggX1_productsByHalves_X1_addHalves : GoodIn wsX1_productsByHalves wsX1_addHalves := goodIn_r _ [10, 11] (by decide +kernel) (by decide +kernel)
set_option maxRecDepth 20000 in
theorem gX1_productsByHalves_X1_addHalves : GoodIn wsX1_productsByHalves (va_wsS RX1 65 yX1_addHalves wsX1_addHalves) := goodIn_app (goodIn_of _ (by decide +kernel)) ggX1_productsByHalves_X1_addHalves
theorem dX1_productsByHalves_0 : decode cX1_productsByHalves 0 = .ok (.iload_n 1, 1) := by decide +kernel
theorem dX1_productsByHalves_1 : decode cX1_productsByHalves 1 = .ok (.invokestatic 54, 3) := by decide +kernel
theorem dX1_productsByHalves_4 : decode cX1_productsByHalves 4 = .ok (.aload_n 0, 1) := by decide +kernel
theorem dX1_productsByHalves_5 : decode cX1_productsByHalves 5 = .ok (.getfield 9, 3) := by decide +kernel
theorem dX1_productsByHalves_8 : decode cX1_productsByHalves 8 = .ok (.iload_n 1, 1) := by decide +kernel
theorem dX1_productsByHalves_9 : decode cX1_productsByHalves 9 = .ok (.iaload, 1) := by decide +kernel
theorem dX1_productsByHalves_10 : decode cX1_productsByHalves 10 = .ok (.invokestatic 65, 3) := by decide +kernel
theorem dX1_productsByHalves_13 : decode cX1_productsByHalves 13 = .ok (.ireturn, 1) := by decide +kernel
set_option maxRecDepth 20000 in
theorem ggX1_productsBySums_X1_checkFunction : GoodIn wsX1_productsBySums wsX1_checkFunction := goodIn_ca (goodIn_r _ [5, 6, 7] (by decide +kernel) (by decide +kernel)) (goodIn_sub (fun _ h => List.mem_cons_of_mem _ (List.mem_append_right _ h)) (by decide +kernel))
set_option maxRecDepth 20000 in
theorem gX1_productsBySums_X1_checkFunction : GoodIn wsX1_productsBySums (va_wsS RX1 54 yX1_checkFunction wsX1_checkFunction) := goodIn_app (goodIn_of _ (by decide +kernel)) ggX1_productsBySums_X1_checkFunction
set_option maxRecDepth 20000 in
theorem ggX1_productsBySums_X1_sumBelow : GoodIn wsX1_productsBySums wsX1_sumBelow := goodIn_r _ [10, 11, 12, 4, 13] (by decide +kernel) (by decide +kernel)
set_option maxRecDepth 20000 in
theorem gX1_productsBySums_X1_sumBelow : GoodIn wsX1_productsBySums (va_wsS RX1 125 yX1_sumBelow wsX1_sumBelow) := goodIn_app (goodIn_of _ (by decide +kernel)) ggX1_productsBySums_X1_sumBelow
theorem dX1_productsBySums_0 : decode cX1_productsBySums 0 = .ok (.iload_n 1, 1) := by decide +kernel
theorem dX1_productsBySums_1 : decode cX1_productsBySums 1 = .ok (.invokestatic 54, 3) := by decide +kernel
theorem dX1_productsBySums_4 : decode cX1_productsBySums 4 = .ok (.iconst 0, 1) := by decide +kernel
theorem dX1_productsBySums_5 : decode cX1_productsBySums 5 = .ok (.istore_n 2, 1) := by decide +kernel
theorem dX1_productsBySums_6 : decode cX1_productsBySums 6 = .ok (.iconst 0, 1) := by decide +kernel
theorem dX1_productsBySums_7 : decode cX1_productsBySums 7 = .ok (.istore_n 3, 1) := by decide +kernel
theorem dX1_productsBySums_8 : decode cX1_productsBySums 8 = .ok (.iload_n 3, 1) := by decide +kernel
theorem dX1_productsBySums_9 : decode cX1_productsBySums 9 = .ok (.bipush 16, 2) := by decide +kernel
theorem dX1_productsBySums_11 : decode cX1_productsBySums 11 = .ok (.if_icmp .ge 24, 3) := by decide +kernel
theorem dX1_productsBySums_14 : decode cX1_productsBySums 14 = .ok (.iload_n 2, 1) := by decide +kernel
theorem dX1_productsBySums_15 : decode cX1_productsBySums 15 = .ok (.aload_n 0, 1) := by decide +kernel
theorem dX1_productsBySums_16 : decode cX1_productsBySums 16 = .ok (.getfield 9, 3) := by decide +kernel
theorem dX1_productsBySums_19 : decode cX1_productsBySums 19 = .ok (.iload_n 1, 1) := by decide +kernel
theorem dX1_productsBySums_20 : decode cX1_productsBySums 20 = .ok (.iaload, 1) := by decide +kernel
theorem dX1_productsBySums_21 : decode cX1_productsBySums 21 = .ok (.iload_n 3, 1) := by decide +kernel
theorem dX1_productsBySums_22 : decode cX1_productsBySums 22 = .ok (.invokestatic 125, 3) := by decide +kernel
theorem dX1_productsBySums_25 : decode cX1_productsBySums 25 = .ok (.iload_n 3, 1) := by decide +kernel
theorem dX1_productsBySums_26 : decode cX1_productsBySums 26 = .ok (.ishl, 1) := by decide +kernel
theorem dX1_productsBySums_27 : decode cX1_productsBySums 27 = .ok (.ior, 1) := by decide +kernel
theorem dX1_productsBySums_28 : decode cX1_productsBySums 28 = .ok (.istore_n 2, 1) := by decide +kernel
theorem dX1_productsBySums_29 : decode cX1_productsBySums 29 = .ok (.iinc 3 1, 3) := by decide +kernel
theorem dX1_productsBySums_32 : decode cX1_productsBySums 32 = .ok (.goto (-24), 3) := by decide +kernel
theorem dX1_productsBySums_35 : decode cX1_productsBySums 35 = .ok (.iload_n 2, 1) := by decide +kernel
theorem dX1_productsBySums_36 : decode cX1_productsBySums 36 = .ok (.ireturn, 1) := by decide +kernel
set_option maxRecDepth 20000 in
theorem ggX1_degreeOf_X1_checkFunction : GoodIn wsX1_degreeOf wsX1_checkFunction := goodIn_ca (goodIn_r _ [5, 6, 7] (by decide +kernel) (by decide +kernel)) (goodIn_sub (fun _ h => List.mem_cons_of_mem _ (List.mem_append_right _ h)) (by decide +kernel))
set_option maxRecDepth 20000 in
theorem gX1_degreeOf_X1_checkFunction : GoodIn wsX1_degreeOf (va_wsS RX1 54 yX1_checkFunction wsX1_checkFunction) := goodIn_app (goodIn_of _ (by decide +kernel)) ggX1_degreeOf_X1_checkFunction
set_option maxRecDepth 20000 in
theorem ggX1_degreeOf_X1_degree : GoodIn wsX1_degreeOf wsX1_degree := goodIn_r _ [10, 11, 12, 13, 14, 15, 16, 4, 17, 18, 19, 20, 21, 22, 23, 24, 25, 26, 27, 28] (by decide +kernel) (by decide +kernel)
set_option maxRecDepth 20000 in
theorem gX1_degreeOf_X1_degree : GoodIn wsX1_degreeOf (va_wsS RX1 128 yX1_degree wsX1_degree) := goodIn_app (goodIn_of _ (by decide +kernel)) ggX1_degreeOf_X1_degree
theorem dX1_degreeOf_0 : decode cX1_degreeOf 0 = .ok (.iload_n 1, 1) := by decide +kernel
theorem dX1_degreeOf_1 : decode cX1_degreeOf 1 = .ok (.invokestatic 54, 3) := by decide +kernel
theorem dX1_degreeOf_4 : decode cX1_degreeOf 4 = .ok (.aload_n 0, 1) := by decide +kernel
theorem dX1_degreeOf_5 : decode cX1_degreeOf 5 = .ok (.getfield 9, 3) := by decide +kernel
theorem dX1_degreeOf_8 : decode cX1_degreeOf 8 = .ok (.iload_n 1, 1) := by decide +kernel
theorem dX1_degreeOf_9 : decode cX1_degreeOf 9 = .ok (.iaload, 1) := by decide +kernel
theorem dX1_degreeOf_10 : decode cX1_degreeOf 10 = .ok (.invokestatic 128, 3) := by decide +kernel
theorem dX1_degreeOf_13 : decode cX1_degreeOf 13 = .ok (.ireturn, 1) := by decide +kernel
set_option maxRecDepth 20000 in
theorem ggX1_printedLength_X1_checkFunction : GoodIn wsX1_printedLength wsX1_checkFunction := goodIn_ca (goodIn_r _ [6, 7, 8] (by decide +kernel) (by decide +kernel)) (goodIn_sub (fun _ h => List.mem_cons_of_mem _ (List.mem_append_right _ h)) (by decide +kernel))
set_option maxRecDepth 20000 in
theorem gX1_printedLength_X1_checkFunction : GoodIn wsX1_printedLength (va_wsS RX1 54 yX1_checkFunction wsX1_checkFunction) := goodIn_app (goodIn_of _ (by decide +kernel)) ggX1_printedLength_X1_checkFunction
set_option maxRecDepth 20000 in
theorem ggX1_printedLength_X1_addHalves : GoodIn wsX1_printedLength wsX1_addHalves := goodIn_r _ [11, 12] (by decide +kernel) (by decide +kernel)
set_option maxRecDepth 20000 in
theorem gX1_printedLength_X1_addHalves : GoodIn wsX1_printedLength (va_wsS RX1 65 yX1_addHalves wsX1_addHalves) := goodIn_app (goodIn_of _ (by decide +kernel)) ggX1_printedLength_X1_addHalves
set_option maxRecDepth 20000 in
theorem ggX1_printedLength_X1_print : GoodIn wsX1_printedLength wsX1_print := goodIn_r _ [16, 2, 17, 18, 19, 5, 20, 21, 22, 23, 24, 25, 26, 27, 28, 29, 30, 31, 32, 33, 34, 35, 36, 37, 38, 39] (by decide +kernel) (by decide +kernel)
set_option maxRecDepth 20000 in
theorem gX1_printedLength_X1_print : GoodIn wsX1_printedLength (wsV RX1 131 RX1 yX1_print wsX1_print) := goodIn_app (goodIn_of _ (by decide +kernel)) ggX1_printedLength_X1_print
theorem dX1_printedLength_0 : decode cX1_printedLength 0 = .ok (.iload_n 1, 1) := by decide +kernel
theorem dX1_printedLength_1 : decode cX1_printedLength 1 = .ok (.invokestatic 54, 3) := by decide +kernel
theorem dX1_printedLength_4 : decode cX1_printedLength 4 = .ok (.aload_n 0, 1) := by decide +kernel
theorem dX1_printedLength_5 : decode cX1_printedLength 5 = .ok (.aload_n 0, 1) := by decide +kernel
theorem dX1_printedLength_6 : decode cX1_printedLength 6 = .ok (.getfield 9, 3) := by decide +kernel
theorem dX1_printedLength_9 : decode cX1_printedLength 9 = .ok (.iload_n 1, 1) := by decide +kernel
theorem dX1_printedLength_10 : decode cX1_printedLength 10 = .ok (.iaload, 1) := by decide +kernel
theorem dX1_printedLength_11 : decode cX1_printedLength 11 = .ok (.invokestatic 65, 3) := by decide +kernel
theorem dX1_printedLength_14 : decode cX1_printedLength 14 = .ok (.invokevirtual 131, 3) := by decide +kernel
theorem dX1_printedLength_17 : decode cX1_printedLength 17 = .ok (.aload_n 0, 1) := by decide +kernel
theorem dX1_printedLength_18 : decode cX1_printedLength 18 = .ok (.getfield 47, 3) := by decide +kernel
theorem dX1_printedLength_21 : decode cX1_printedLength 21 = .ok (.ireturn, 1) := by decide +kernel
set_option maxRecDepth 20000 in
theorem ggX1_printedLetter_X1_checkFunction : GoodIn wsX1_printedLetter wsX1_checkFunction := goodIn_ca (goodIn_r _ [9, 1, 2] (by decide +kernel) (by decide +kernel)) (goodIn_sub (fun _ h => List.mem_cons_of_mem _ (List.mem_append_right _ h)) (by decide +kernel))
set_option maxRecDepth 20000 in
theorem gX1_printedLetter_X1_checkFunction : GoodIn wsX1_printedLetter (va_wsS RX1 54 yX1_checkFunction wsX1_checkFunction) := goodIn_app (goodIn_of _ (by decide +kernel)) ggX1_printedLetter_X1_checkFunction
set_option maxRecDepth 20000 in
theorem ggX1_printedLetter_X1_addHalves : GoodIn wsX1_printedLetter wsX1_addHalves := goodIn_r _ [12, 13] (by decide +kernel) (by decide +kernel)
set_option maxRecDepth 20000 in
theorem gX1_printedLetter_X1_addHalves : GoodIn wsX1_printedLetter (va_wsS RX1 65 yX1_addHalves wsX1_addHalves) := goodIn_app (goodIn_of _ (by decide +kernel)) ggX1_printedLetter_X1_addHalves
set_option maxRecDepth 20000 in
theorem ggX1_printedLetter_X1_print : GoodIn wsX1_printedLetter wsX1_print := goodIn_r _ [17, 4, 18, 19, 20, 8, 21, 5, 22, 23, 24, 25, 26, 27, 28, 29, 30, 31, 32, 33, 34, 35, 36, 37, 38, 39] (by decide +kernel) (by decide +kernel)
set_option maxRecDepth 20000 in
theorem gX1_printedLetter_X1_print : GoodIn wsX1_printedLetter (wsV RX1 131 RX1 yX1_print wsX1_print) := goodIn_app (goodIn_of _ (by decide +kernel)) ggX1_printedLetter_X1_print
theorem dX1_printedLetter_0 : decode cX1_printedLetter 0 = .ok (.iload_n 1, 1) := by decide +kernel
theorem dX1_printedLetter_1 : decode cX1_printedLetter 1 = .ok (.invokestatic 54, 3) := by decide +kernel
theorem dX1_printedLetter_4 : decode cX1_printedLetter 4 = .ok (.aload_n 0, 1) := by decide +kernel
theorem dX1_printedLetter_5 : decode cX1_printedLetter 5 = .ok (.aload_n 0, 1) := by decide +kernel
theorem dX1_printedLetter_6 : decode cX1_printedLetter 6 = .ok (.getfield 9, 3) := by decide +kernel
theorem dX1_printedLetter_9 : decode cX1_printedLetter 9 = .ok (.iload_n 1, 1) := by decide +kernel
theorem dX1_printedLetter_10 : decode cX1_printedLetter 10 = .ok (.iaload, 1) := by decide +kernel
theorem dX1_printedLetter_11 : decode cX1_printedLetter 11 = .ok (.invokestatic 65, 3) := by decide +kernel
theorem dX1_printedLetter_14 : decode cX1_printedLetter 14 = .ok (.invokevirtual 131, 3) := by decide +kernel
theorem dX1_printedLetter_17 : decode cX1_printedLetter 17 = .ok (.iload_n 2, 1) := by decide +kernel
theorem dX1_printedLetter_18 : decode cX1_printedLetter 18 = .ok (.ifCond .lt 11, 3) := by decide +kernel
theorem dX1_printedLetter_21 : decode cX1_printedLetter 21 = .ok (.iload_n 2, 1) := by decide +kernel
theorem dX1_printedLetter_22 : decode cX1_printedLetter 22 = .ok (.aload_n 0, 1) := by decide +kernel
theorem dX1_printedLetter_23 : decode cX1_printedLetter 23 = .ok (.getfield 47, 3) := by decide +kernel
theorem dX1_printedLetter_26 : decode cX1_printedLetter 26 = .ok (.if_icmp .lt 13, 3) := by decide +kernel
theorem dX1_printedLetter_29 : decode cX1_printedLetter 29 = .ok (.new 116, 3) := by decide +kernel
theorem dX1_printedLetter_32 : decode cX1_printedLetter 32 = .ok (.dup, 1) := by decide +kernel
theorem dX1_printedLetter_33 : decode cX1_printedLetter 33 = .ok (.ldc 134, 2) := by decide +kernel
theorem dX1_printedLetter_35 : decode cX1_printedLetter 35 = .ok (.invokespecial 120, 3) := by decide +kernel
theorem dX1_printedLetter_38 : decode cX1_printedLetter 38 = .ok (.athrow, 1) := by decide +kernel
theorem dX1_printedLetter_39 : decode cX1_printedLetter 39 = .ok (.aload_n 0, 1) := by decide +kernel
theorem dX1_printedLetter_40 : decode cX1_printedLetter 40 = .ok (.getfield 44, 3) := by decide +kernel
theorem dX1_printedLetter_43 : decode cX1_printedLetter 43 = .ok (.iload_n 2, 1) := by decide +kernel
theorem dX1_printedLetter_44 : decode cX1_printedLetter 44 = .ok (.caload, 1) := by decide +kernel
theorem dX1_printedLetter_45 : decode cX1_printedLetter 45 = .ok (.ireturn, 1) := by decide +kernel
set_option maxRecDepth 20000 in
theorem ggX1_distanceByTrying_X1_checkFunction : GoodIn wsX1_distanceByTrying wsX1_checkFunction := goodIn_ca (goodIn_r _ [9, 10, 11] (by decide +kernel) (by decide +kernel)) (goodIn_sub (fun _ h => List.mem_cons_of_mem _ (List.mem_append_right _ h)) (by decide +kernel))
set_option maxRecDepth 20000 in
theorem gX1_distanceByTrying_X1_checkFunction : GoodIn wsX1_distanceByTrying (va_wsS RX1 54 yX1_checkFunction wsX1_checkFunction) := goodIn_app (goodIn_of _ (by decide +kernel)) ggX1_distanceByTrying_X1_checkFunction
set_option maxRecDepth 20000 in
theorem ggX1_distanceByTrying_X1_linearTable : GoodIn wsX1_distanceByTrying wsX1_linearTable := goodIn_r _ [14, 15, 16, 17, 18, 8, 19] (by decide +kernel) (by decide +kernel)
set_option maxRecDepth 20000 in
theorem gX1_distanceByTrying_X1_linearTable : GoodIn wsX1_distanceByTrying (va_wsS RX1 136 yX1_linearTable wsX1_linearTable) := goodIn_app (goodIn_of _ (by decide +kernel)) ggX1_distanceByTrying_X1_linearTable
set_option maxRecDepth 20000 in
theorem ggX1_distanceByTrying_J6_bitCount_0f7a4 : GoodIn wsX1_distanceByTrying wsJ6_bitCount_0f7a4 := goodIn_r _ [23, 24, 25, 26] (by decide +kernel) (by decide +kernel)
set_option maxRecDepth 20000 in
theorem gX1_distanceByTrying_J6_bitCount_0f7a4 : GoodIn wsX1_distanceByTrying (va_wsS RX1 69 yJ6_bitCount_0f7a4 wsJ6_bitCount_0f7a4) := goodIn_app (goodIn_of _ (by decide +kernel)) ggX1_distanceByTrying_J6_bitCount_0f7a4
theorem dX1_distanceByTrying_0 : decode cX1_distanceByTrying 0 = .ok (.iload_n 1, 1) := by decide +kernel
theorem dX1_distanceByTrying_1 : decode cX1_distanceByTrying 1 = .ok (.invokestatic 54, 3) := by decide +kernel
theorem dX1_distanceByTrying_4 : decode cX1_distanceByTrying 4 = .ok (.bipush 16, 2) := by decide +kernel
theorem dX1_distanceByTrying_6 : decode cX1_distanceByTrying 6 = .ok (.istore_n 2, 1) := by decide +kernel
theorem dX1_distanceByTrying_7 : decode cX1_distanceByTrying 7 = .ok (.iconst 0, 1) := by decide +kernel
theorem dX1_distanceByTrying_8 : decode cX1_distanceByTrying 8 = .ok (.istore_n 3, 1) := by decide +kernel
theorem dX1_distanceByTrying_9 : decode cX1_distanceByTrying 9 = .ok (.iload_n 3, 1) := by decide +kernel
theorem dX1_distanceByTrying_10 : decode cX1_distanceByTrying 10 = .ok (.bipush 32, 2) := by decide +kernel
theorem dX1_distanceByTrying_12 : decode cX1_distanceByTrying 12 = .ok (.if_icmp .ge 32, 3) := by decide +kernel
theorem dX1_distanceByTrying_15 : decode cX1_distanceByTrying 15 = .ok (.aload_n 0, 1) := by decide +kernel
theorem dX1_distanceByTrying_16 : decode cX1_distanceByTrying 16 = .ok (.getfield 9, 3) := by decide +kernel
theorem dX1_distanceByTrying_19 : decode cX1_distanceByTrying 19 = .ok (.iload_n 1, 1) := by decide +kernel
theorem dX1_distanceByTrying_20 : decode cX1_distanceByTrying 20 = .ok (.iaload, 1) := by decide +kernel
theorem dX1_distanceByTrying_21 : decode cX1_distanceByTrying 21 = .ok (.iload_n 3, 1) := by decide +kernel
theorem dX1_distanceByTrying_22 : decode cX1_distanceByTrying 22 = .ok (.invokestatic 136, 3) := by decide +kernel
theorem dX1_distanceByTrying_25 : decode cX1_distanceByTrying 25 = .ok (.ixor, 1) := by decide +kernel
theorem dX1_distanceByTrying_26 : decode cX1_distanceByTrying 26 = .ok (.istore 4, 2) := by decide +kernel
theorem dX1_distanceByTrying_28 : decode cX1_distanceByTrying 28 = .ok (.iload_n 2, 1) := by decide +kernel
theorem dX1_distanceByTrying_29 : decode cX1_distanceByTrying 29 = .ok (.iload 4, 2) := by decide +kernel
theorem dX1_distanceByTrying_31 : decode cX1_distanceByTrying 31 = .ok (.invokestatic 69, 3) := by decide +kernel
theorem dX1_distanceByTrying_34 : decode cX1_distanceByTrying 34 = .ok (.invokestatic 139, 3) := by decide +kernel
theorem dX1_distanceByTrying_37 : decode cX1_distanceByTrying 37 = .ok (.istore_n 2, 1) := by decide +kernel
theorem dX1_distanceByTrying_38 : decode cX1_distanceByTrying 38 = .ok (.iinc 3 1, 3) := by decide +kernel
theorem dX1_distanceByTrying_41 : decode cX1_distanceByTrying 41 = .ok (.goto (-32), 3) := by decide +kernel
theorem dX1_distanceByTrying_44 : decode cX1_distanceByTrying 44 = .ok (.iload_n 2, 1) := by decide +kernel
theorem dX1_distanceByTrying_45 : decode cX1_distanceByTrying 45 = .ok (.ireturn, 1) := by decide +kernel
set_option maxRecDepth 20000 in
theorem ggX1_distanceBySums_X1_checkFunction : GoodIn wsX1_distanceBySums wsX1_checkFunction := goodIn_ca (goodIn_r _ [13, 14, 15] (by decide +kernel) (by decide +kernel)) (goodIn_sub (fun _ h => List.mem_cons_of_mem _ (List.mem_append_right _ h)) (by decide +kernel))
set_option maxRecDepth 20000 in
theorem gX1_distanceBySums_X1_checkFunction : GoodIn wsX1_distanceBySums (va_wsS RX1 54 yX1_checkFunction wsX1_checkFunction) := goodIn_app (goodIn_of _ (by decide +kernel)) ggX1_distanceBySums_X1_checkFunction
set_option maxRecDepth 20000 in
theorem ggX1_distanceBySums_X1_bit : GoodIn wsX1_distanceBySums wsX1_bit := goodIn_r _ [18] (by decide +kernel) (by decide +kernel)
set_option maxRecDepth 20000 in
theorem gX1_distanceBySums_X1_bit : GoodIn wsX1_distanceBySums (va_wsS RX1 121 yX1_bit wsX1_bit) := goodIn_app (goodIn_of _ (by decide +kernel)) ggX1_distanceBySums_X1_bit
set_option maxRecDepth 20000 in
theorem ggX1_distanceBySums_X1_sumPairs : GoodIn wsX1_distanceBySums wsX1_sumPairs := goodIn_r _ [22, 1, 23, 24, 25, 26, 27, 28, 29, 30, 31, 32, 33] (by decide +kernel) (by decide +kernel)
set_option maxRecDepth 20000 in
theorem gX1_distanceBySums_X1_sumPairs : GoodIn wsX1_distanceBySums (wsV RX1 144 RX1 yX1_sumPairs wsX1_sumPairs) := goodIn_app (goodIn_of _ (by decide +kernel)) ggX1_distanceBySums_X1_sumPairs
theorem dX1_distanceBySums_0 : decode cX1_distanceBySums 0 = .ok (.iload_n 1, 1) := by decide +kernel
theorem dX1_distanceBySums_1 : decode cX1_distanceBySums 1 = .ok (.invokestatic 54, 3) := by decide +kernel
theorem dX1_distanceBySums_4 : decode cX1_distanceBySums 4 = .ok (.iconst 0, 1) := by decide +kernel
theorem dX1_distanceBySums_5 : decode cX1_distanceBySums 5 = .ok (.istore_n 2, 1) := by decide +kernel
theorem dX1_distanceBySums_6 : decode cX1_distanceBySums 6 = .ok (.iload_n 2, 1) := by decide +kernel
theorem dX1_distanceBySums_7 : decode cX1_distanceBySums 7 = .ok (.bipush 16, 2) := by decide +kernel
theorem dX1_distanceBySums_9 : decode cX1_distanceBySums 9 = .ok (.if_icmp .ge 29, 3) := by decide +kernel
theorem dX1_distanceBySums_12 : decode cX1_distanceBySums 12 = .ok (.aload_n 0, 1) := by decide +kernel
theorem dX1_distanceBySums_13 : decode cX1_distanceBySums 13 = .ok (.getfield 41, 3) := by decide +kernel
theorem dX1_distanceBySums_16 : decode cX1_distanceBySums 16 = .ok (.iload_n 2, 1) := by decide +kernel
theorem dX1_distanceBySums_17 : decode cX1_distanceBySums 17 = .ok (.iconst 1, 1) := by decide +kernel
theorem dX1_distanceBySums_18 : decode cX1_distanceBySums 18 = .ok (.iconst 2, 1) := by decide +kernel
theorem dX1_distanceBySums_19 : decode cX1_distanceBySums 19 = .ok (.aload_n 0, 1) := by decide +kernel
theorem dX1_distanceBySums_20 : decode cX1_distanceBySums 20 = .ok (.getfield 9, 3) := by decide +kernel
theorem dX1_distanceBySums_23 : decode cX1_distanceBySums 23 = .ok (.iload_n 1, 1) := by decide +kernel
theorem dX1_distanceBySums_24 : decode cX1_distanceBySums 24 = .ok (.iaload, 1) := by decide +kernel
theorem dX1_distanceBySums_25 : decode cX1_distanceBySums 25 = .ok (.iload_n 2, 1) := by decide +kernel
theorem dX1_distanceBySums_26 : decode cX1_distanceBySums 26 = .ok (.invokestatic 121, 3) := by decide +kernel
theorem dX1_distanceBySums_29 : decode cX1_distanceBySums 29 = .ok (.imul, 1) := by decide +kernel
theorem dX1_distanceBySums_30 : decode cX1_distanceBySums 30 = .ok (.isub, 1) := by decide +kernel
theorem dX1_distanceBySums_31 : decode cX1_distanceBySums 31 = .ok (.iastore, 1) := by decide +kernel
theorem dX1_distanceBySums_32 : decode cX1_distanceBySums 32 = .ok (.iinc 2 1, 3) := by decide +kernel
theorem dX1_distanceBySums_35 : decode cX1_distanceBySums 35 = .ok (.goto (-29), 3) := by decide +kernel
theorem dX1_distanceBySums_38 : decode cX1_distanceBySums 38 = .ok (.iconst 0, 1) := by decide +kernel
theorem dX1_distanceBySums_39 : decode cX1_distanceBySums 39 = .ok (.istore_n 2, 1) := by decide +kernel
theorem dX1_distanceBySums_40 : decode cX1_distanceBySums 40 = .ok (.iload_n 2, 1) := by decide +kernel
theorem dX1_distanceBySums_41 : decode cX1_distanceBySums 41 = .ok (.iconst 4, 1) := by decide +kernel
theorem dX1_distanceBySums_42 : decode cX1_distanceBySums 42 = .ok (.if_icmp .ge 14, 3) := by decide +kernel
theorem dX1_distanceBySums_45 : decode cX1_distanceBySums 45 = .ok (.aload_n 0, 1) := by decide +kernel
theorem dX1_distanceBySums_46 : decode cX1_distanceBySums 46 = .ok (.iload_n 2, 1) := by decide +kernel
theorem dX1_distanceBySums_47 : decode cX1_distanceBySums 47 = .ok (.invokevirtual 144, 3) := by decide +kernel
theorem dX1_distanceBySums_50 : decode cX1_distanceBySums 50 = .ok (.iinc 2 1, 3) := by decide +kernel
theorem dX1_distanceBySums_53 : decode cX1_distanceBySums 53 = .ok (.goto (-13), 3) := by decide +kernel
theorem dX1_distanceBySums_56 : decode cX1_distanceBySums 56 = .ok (.iconst 0, 1) := by decide +kernel
theorem dX1_distanceBySums_57 : decode cX1_distanceBySums 57 = .ok (.istore_n 2, 1) := by decide +kernel
theorem dX1_distanceBySums_58 : decode cX1_distanceBySums 58 = .ok (.iconst 0, 1) := by decide +kernel
theorem dX1_distanceBySums_59 : decode cX1_distanceBySums 59 = .ok (.istore_n 3, 1) := by decide +kernel
theorem dX1_distanceBySums_60 : decode cX1_distanceBySums 60 = .ok (.iload_n 3, 1) := by decide +kernel
theorem dX1_distanceBySums_61 : decode cX1_distanceBySums 61 = .ok (.bipush 16, 2) := by decide +kernel
theorem dX1_distanceBySums_63 : decode cX1_distanceBySums 63 = .ok (.if_icmp .ge 23, 3) := by decide +kernel
theorem dX1_distanceBySums_66 : decode cX1_distanceBySums 66 = .ok (.iload_n 2, 1) := by decide +kernel
theorem dX1_distanceBySums_67 : decode cX1_distanceBySums 67 = .ok (.aload_n 0, 1) := by decide +kernel
theorem dX1_distanceBySums_68 : decode cX1_distanceBySums 68 = .ok (.getfield 41, 3) := by decide +kernel
theorem dX1_distanceBySums_71 : decode cX1_distanceBySums 71 = .ok (.iload_n 3, 1) := by decide +kernel
theorem dX1_distanceBySums_72 : decode cX1_distanceBySums 72 = .ok (.iaload, 1) := by decide +kernel
theorem dX1_distanceBySums_73 : decode cX1_distanceBySums 73 = .ok (.invokestatic 147, 3) := by decide +kernel
theorem dX1_distanceBySums_76 : decode cX1_distanceBySums 76 = .ok (.invokestatic 150, 3) := by decide +kernel
theorem dX1_distanceBySums_79 : decode cX1_distanceBySums 79 = .ok (.istore_n 2, 1) := by decide +kernel
theorem dX1_distanceBySums_80 : decode cX1_distanceBySums 80 = .ok (.iinc 3 1, 3) := by decide +kernel
theorem dX1_distanceBySums_83 : decode cX1_distanceBySums 83 = .ok (.goto (-23), 3) := by decide +kernel
theorem dX1_distanceBySums_86 : decode cX1_distanceBySums 86 = .ok (.bipush 16, 2) := by decide +kernel
theorem dX1_distanceBySums_88 : decode cX1_distanceBySums 88 = .ok (.iload_n 2, 1) := by decide +kernel
theorem dX1_distanceBySums_89 : decode cX1_distanceBySums 89 = .ok (.isub, 1) := by decide +kernel
theorem dX1_distanceBySums_90 : decode cX1_distanceBySums 90 = .ok (.iconst 2, 1) := by decide +kernel
theorem dX1_distanceBySums_91 : decode cX1_distanceBySums 91 = .ok (.idiv, 1) := by decide +kernel
theorem dX1_distanceBySums_92 : decode cX1_distanceBySums 92 = .ok (.ireturn, 1) := by decide +kernel
set_option maxRecDepth 20000 in
theorem ggX1_isSelfDual_X1_checkFunction : GoodIn wsX1_isSelfDual wsX1_checkFunction := goodIn_ca (goodIn_r _ [5, 6, 7] (by decide +kernel) (by decide +kernel)) (goodIn_sub (fun _ h => List.mem_cons_of_mem _ (List.mem_append_right _ h)) (by decide +kernel))
set_option maxRecDepth 20000 in
theorem gX1_isSelfDual_X1_checkFunction : GoodIn wsX1_isSelfDual (va_wsS RX1 54 yX1_checkFunction wsX1_checkFunction) := goodIn_app (goodIn_of _ (by decide +kernel)) ggX1_isSelfDual_X1_checkFunction
set_option maxRecDepth 20000 in
theorem ggX1_isSelfDual_X1_hasOppositeEnds : GoodIn wsX1_isSelfDual wsX1_hasOppositeEnds := goodIn_r _ [10, 11, 12, 4, 13] (by decide +kernel) (by decide +kernel)
set_option maxRecDepth 20000 in
theorem gX1_isSelfDual_X1_hasOppositeEnds : GoodIn wsX1_isSelfDual (va_wsS RX1 153 yX1_hasOppositeEnds wsX1_hasOppositeEnds) := goodIn_app (goodIn_of _ (by decide +kernel)) ggX1_isSelfDual_X1_hasOppositeEnds
theorem dX1_isSelfDual_0 : decode cX1_isSelfDual 0 = .ok (.iload_n 1, 1) := by decide +kernel
theorem dX1_isSelfDual_1 : decode cX1_isSelfDual 1 = .ok (.invokestatic 54, 3) := by decide +kernel
theorem dX1_isSelfDual_4 : decode cX1_isSelfDual 4 = .ok (.aload_n 0, 1) := by decide +kernel
theorem dX1_isSelfDual_5 : decode cX1_isSelfDual 5 = .ok (.getfield 9, 3) := by decide +kernel
theorem dX1_isSelfDual_8 : decode cX1_isSelfDual 8 = .ok (.iload_n 1, 1) := by decide +kernel
theorem dX1_isSelfDual_9 : decode cX1_isSelfDual 9 = .ok (.iaload, 1) := by decide +kernel
theorem dX1_isSelfDual_10 : decode cX1_isSelfDual 10 = .ok (.invokestatic 153, 3) := by decide +kernel
theorem dX1_isSelfDual_13 : decode cX1_isSelfDual 13 = .ok (.ireturn, 1) := by decide +kernel
set_option maxRecDepth 20000 in
theorem ggX1_isMonotone_X1_checkFunction : GoodIn wsX1_isMonotone wsX1_checkFunction := goodIn_ca (goodIn_r _ [5, 6, 7] (by decide +kernel) (by decide +kernel)) (goodIn_sub (fun _ h => List.mem_cons_of_mem _ (List.mem_append_right _ h)) (by decide +kernel))
set_option maxRecDepth 20000 in
theorem gX1_isMonotone_X1_checkFunction : GoodIn wsX1_isMonotone (va_wsS RX1 54 yX1_checkFunction wsX1_checkFunction) := goodIn_app (goodIn_of _ (by decide +kernel)) ggX1_isMonotone_X1_checkFunction
set_option maxRecDepth 20000 in
theorem ggX1_isMonotone_X1_neverFalls : GoodIn wsX1_isMonotone wsX1_neverFalls := goodIn_r _ [10, 11, 12, 4, 13, 14] (by decide +kernel) (by decide +kernel)
set_option maxRecDepth 20000 in
theorem gX1_isMonotone_X1_neverFalls : GoodIn wsX1_isMonotone (va_wsS RX1 157 yX1_neverFalls wsX1_neverFalls) := goodIn_app (goodIn_of _ (by decide +kernel)) ggX1_isMonotone_X1_neverFalls
theorem dX1_isMonotone_0 : decode cX1_isMonotone 0 = .ok (.iload_n 1, 1) := by decide +kernel
theorem dX1_isMonotone_1 : decode cX1_isMonotone 1 = .ok (.invokestatic 54, 3) := by decide +kernel
theorem dX1_isMonotone_4 : decode cX1_isMonotone 4 = .ok (.aload_n 0, 1) := by decide +kernel
theorem dX1_isMonotone_5 : decode cX1_isMonotone 5 = .ok (.getfield 9, 3) := by decide +kernel
theorem dX1_isMonotone_8 : decode cX1_isMonotone 8 = .ok (.iload_n 1, 1) := by decide +kernel
theorem dX1_isMonotone_9 : decode cX1_isMonotone 9 = .ok (.iaload, 1) := by decide +kernel
theorem dX1_isMonotone_10 : decode cX1_isMonotone 10 = .ok (.invokestatic 157, 3) := by decide +kernel
theorem dX1_isMonotone_13 : decode cX1_isMonotone 13 = .ok (.ireturn, 1) := by decide +kernel
set_option maxRecDepth 20000 in
theorem ggX1_areEnough_X1_sharedClasses : GoodIn wsX1_areEnough wsX1_sharedClasses := goodIn_r _ [7, 8, 9, 10, 6, 11, 12, 13, 14, 15, 16, 17, 18, 19, 20, 21, 22, 23, 24, 25, 26, 27, 28, 29, 30, 31, 32, 33, 34, 35, 36, 37, 38, 39, 40, 41, 42, 43, 44, 45, 46, 47, 48, 49, 50, 51, 52] (by decide +kernel) (by decide +kernel)
set_option maxRecDepth 20000 in
theorem gX1_areEnough_X1_sharedClasses : GoodIn wsX1_areEnough (wsV RX1 162 RX1 yX1_sharedClasses wsX1_sharedClasses) := goodIn_app (goodIn_of _ (by decide +kernel)) ggX1_areEnough_X1_sharedClasses
theorem dX1_areEnough_0 : decode cX1_areEnough 0 = .ok (.iload_n 1, 1) := by decide +kernel
theorem dX1_areEnough_1 : decode cX1_areEnough 1 = .ok (.iconst 1, 1) := by decide +kernel
theorem dX1_areEnough_2 : decode cX1_areEnough 2 = .ok (.if_icmp .lt 9, 3) := by decide +kernel
theorem dX1_areEnough_5 : decode cX1_areEnough 5 = .ok (.iload_n 1, 1) := by decide +kernel
theorem dX1_areEnough_6 : decode cX1_areEnough 6 = .ok (.bipush 64, 2) := by decide +kernel
theorem dX1_areEnough_8 : decode cX1_areEnough 8 = .ok (.if_icmp .lt 13, 3) := by decide +kernel
theorem dX1_areEnough_11 : decode cX1_areEnough 11 = .ok (.new 74, 3) := by decide +kernel
theorem dX1_areEnough_14 : decode cX1_areEnough 14 = .ok (.dup, 1) := by decide +kernel
theorem dX1_areEnough_15 : decode cX1_areEnough 15 = .ok (.ldc 160, 2) := by decide +kernel
theorem dX1_areEnough_17 : decode cX1_areEnough 17 = .ok (.invokespecial 78, 3) := by decide +kernel
theorem dX1_areEnough_20 : decode cX1_areEnough 20 = .ok (.athrow, 1) := by decide +kernel
theorem dX1_areEnough_21 : decode cX1_areEnough 21 = .ok (.aload_n 0, 1) := by decide +kernel
theorem dX1_areEnough_22 : decode cX1_areEnough 22 = .ok (.iload_n 1, 1) := by decide +kernel
theorem dX1_areEnough_23 : decode cX1_areEnough 23 = .ok (.invokevirtual 162, 3) := by decide +kernel
theorem dX1_areEnough_26 : decode cX1_areEnough 26 = .ok (.ifCond .ne 7, 3) := by decide +kernel
theorem dX1_areEnough_29 : decode cX1_areEnough 29 = .ok (.iconst 1, 1) := by decide +kernel
theorem dX1_areEnough_30 : decode cX1_areEnough 30 = .ok (.goto 4, 3) := by decide +kernel
theorem dX1_areEnough_33 : decode cX1_areEnough 33 = .ok (.iconst 0, 1) := by decide +kernel
theorem dX1_areEnough_34 : decode cX1_areEnough 34 = .ok (.ireturn, 1) := by decide +kernel
set_option maxRecDepth 20000 in
theorem ggX1_fewestEnough_J6_bitCount_0f7a4 : GoodIn wsX1_fewestEnough wsJ6_bitCount_0f7a4 := goodIn_r _ [4, 5, 6, 7] (by decide +kernel) (by decide +kernel)
set_option maxRecDepth 20000 in
theorem gX1_fewestEnough_J6_bitCount_0f7a4 : GoodIn wsX1_fewestEnough (va_wsS RX1 69 yJ6_bitCount_0f7a4 wsJ6_bitCount_0f7a4) := goodIn_app (goodIn_of _ (by decide +kernel)) ggX1_fewestEnough_J6_bitCount_0f7a4
set_option maxRecDepth 20000 in
theorem ggX1_fewestEnough_X1_sharedClasses : GoodIn wsX1_fewestEnough wsX1_sharedClasses := goodIn_r _ [12, 13, 14, 15, 11, 16, 17, 18, 19, 20, 21, 22, 23, 24, 25, 26, 27, 28, 29, 30, 31, 32, 33, 34, 35, 36, 37, 38, 39, 1, 2, 3, 4, 5, 6, 7, 40, 41, 42, 43, 44, 45, 46, 47, 48, 49, 50] (by decide +kernel) (by decide +kernel)
set_option maxRecDepth 20000 in
theorem gX1_fewestEnough_X1_sharedClasses : GoodIn wsX1_fewestEnough (wsV RX1 162 RX1 yX1_sharedClasses wsX1_sharedClasses) := goodIn_app (goodIn_of _ (by decide +kernel)) ggX1_fewestEnough_X1_sharedClasses
theorem dX1_fewestEnough_0 : decode cX1_fewestEnough 0 = .ok (.iconst (-1), 1) := by decide +kernel
theorem dX1_fewestEnough_1 : decode cX1_fewestEnough 1 = .ok (.istore_n 1, 1) := by decide +kernel
theorem dX1_fewestEnough_2 : decode cX1_fewestEnough 2 = .ok (.iconst 1, 1) := by decide +kernel
theorem dX1_fewestEnough_3 : decode cX1_fewestEnough 3 = .ok (.istore_n 2, 1) := by decide +kernel
theorem dX1_fewestEnough_4 : decode cX1_fewestEnough 4 = .ok (.iload_n 2, 1) := by decide +kernel
theorem dX1_fewestEnough_5 : decode cX1_fewestEnough 5 = .ok (.bipush 64, 2) := by decide +kernel
theorem dX1_fewestEnough_7 : decode cX1_fewestEnough 7 = .ok (.if_icmp .ge 46, 3) := by decide +kernel
theorem dX1_fewestEnough_10 : decode cX1_fewestEnough 10 = .ok (.iload_n 2, 1) := by decide +kernel
theorem dX1_fewestEnough_11 : decode cX1_fewestEnough 11 = .ok (.invokestatic 69, 3) := by decide +kernel
theorem dX1_fewestEnough_14 : decode cX1_fewestEnough 14 = .ok (.istore_n 3, 1) := by decide +kernel
theorem dX1_fewestEnough_15 : decode cX1_fewestEnough 15 = .ok (.iload_n 1, 1) := by decide +kernel
theorem dX1_fewestEnough_16 : decode cX1_fewestEnough 16 = .ok (.iconst (-1), 1) := by decide +kernel
theorem dX1_fewestEnough_17 : decode cX1_fewestEnough 17 = .ok (.if_icmp .eq 8, 3) := by decide +kernel
theorem dX1_fewestEnough_20 : decode cX1_fewestEnough 20 = .ok (.iload_n 3, 1) := by decide +kernel
theorem dX1_fewestEnough_21 : decode cX1_fewestEnough 21 = .ok (.iload_n 1, 1) := by decide +kernel
theorem dX1_fewestEnough_22 : decode cX1_fewestEnough 22 = .ok (.if_icmp .ge 7, 3) := by decide +kernel
theorem dX1_fewestEnough_25 : decode cX1_fewestEnough 25 = .ok (.iconst 1, 1) := by decide +kernel
theorem dX1_fewestEnough_26 : decode cX1_fewestEnough 26 = .ok (.goto 4, 3) := by decide +kernel
theorem dX1_fewestEnough_29 : decode cX1_fewestEnough 29 = .ok (.iconst 0, 1) := by decide +kernel
theorem dX1_fewestEnough_30 : decode cX1_fewestEnough 30 = .ok (.istore 4, 2) := by decide +kernel
theorem dX1_fewestEnough_32 : decode cX1_fewestEnough 32 = .ok (.iload 4, 2) := by decide +kernel
theorem dX1_fewestEnough_34 : decode cX1_fewestEnough 34 = .ok (.ifCond .eq 13, 3) := by decide +kernel
theorem dX1_fewestEnough_37 : decode cX1_fewestEnough 37 = .ok (.aload_n 0, 1) := by decide +kernel
theorem dX1_fewestEnough_38 : decode cX1_fewestEnough 38 = .ok (.iload_n 2, 1) := by decide +kernel
theorem dX1_fewestEnough_39 : decode cX1_fewestEnough 39 = .ok (.invokevirtual 162, 3) := by decide +kernel
theorem dX1_fewestEnough_42 : decode cX1_fewestEnough 42 = .ok (.ifCond .ne 5, 3) := by decide +kernel
theorem dX1_fewestEnough_45 : decode cX1_fewestEnough 45 = .ok (.iload_n 3, 1) := by decide +kernel
theorem dX1_fewestEnough_46 : decode cX1_fewestEnough 46 = .ok (.istore_n 1, 1) := by decide +kernel
theorem dX1_fewestEnough_47 : decode cX1_fewestEnough 47 = .ok (.iinc 2 1, 3) := by decide +kernel
theorem dX1_fewestEnough_50 : decode cX1_fewestEnough 50 = .ok (.goto (-46), 3) := by decide +kernel
theorem dX1_fewestEnough_53 : decode cX1_fewestEnough 53 = .ok (.iload_n 1, 1) := by decide +kernel
theorem dX1_fewestEnough_54 : decode cX1_fewestEnough 54 = .ok (.ireturn, 1) := by decide +kernel
theorem dX1_recordedStates_0 : decode cX1_recordedStates 0 = .ok (.aload_n 0, 1) := by decide +kernel
theorem dX1_recordedStates_1 : decode cX1_recordedStates 1 = .ok (.getfield 16, 3) := by decide +kernel
theorem dX1_recordedStates_4 : decode cX1_recordedStates 4 = .ok (.ireturn, 1) := by decide +kernel
theorem dX1_checkFunction_0 : decode cX1_checkFunction 0 = .ok (.iload_n 0, 1) := by decide +kernel
theorem dX1_checkFunction_1 : decode cX1_checkFunction 1 = .ok (.ifCond .lt 9, 3) := by decide +kernel
theorem dX1_checkFunction_4 : decode cX1_checkFunction 4 = .ok (.iload_n 0, 1) := by decide +kernel
theorem dX1_checkFunction_5 : decode cX1_checkFunction 5 = .ok (.bipush 6, 2) := by decide +kernel
theorem dX1_checkFunction_7 : decode cX1_checkFunction 7 = .ok (.if_icmp .lt 13, 3) := by decide +kernel
theorem dX1_checkFunction_10 : decode cX1_checkFunction 10 = .ok (.new 116, 3) := by decide +kernel
theorem dX1_checkFunction_13 : decode cX1_checkFunction 13 = .ok (.dup, 1) := by decide +kernel
theorem dX1_checkFunction_14 : decode cX1_checkFunction 14 = .ok (.ldc 165, 2) := by decide +kernel
theorem dX1_checkFunction_16 : decode cX1_checkFunction 16 = .ok (.invokespecial 120, 3) := by decide +kernel
theorem dX1_checkFunction_19 : decode cX1_checkFunction 19 = .ok (.athrow, 1) := by decide +kernel
theorem dX1_checkFunction_20 : decode cX1_checkFunction 20 = .ok (.return_, 1) := by decide +kernel
theorem dX1_checkVariable_0 : decode cX1_checkVariable 0 = .ok (.iload_n 0, 1) := by decide +kernel
theorem dX1_checkVariable_1 : decode cX1_checkVariable 1 = .ok (.ifCond .lt 8, 3) := by decide +kernel
theorem dX1_checkVariable_4 : decode cX1_checkVariable 4 = .ok (.iload_n 0, 1) := by decide +kernel
theorem dX1_checkVariable_5 : decode cX1_checkVariable 5 = .ok (.iconst 4, 1) := by decide +kernel
theorem dX1_checkVariable_6 : decode cX1_checkVariable 6 = .ok (.if_icmp .lt 13, 3) := by decide +kernel
theorem dX1_checkVariable_9 : decode cX1_checkVariable 9 = .ok (.new 116, 3) := by decide +kernel
theorem dX1_checkVariable_12 : decode cX1_checkVariable 12 = .ok (.dup, 1) := by decide +kernel
theorem dX1_checkVariable_13 : decode cX1_checkVariable 13 = .ok (.ldc 167, 2) := by decide +kernel
theorem dX1_checkVariable_15 : decode cX1_checkVariable 15 = .ok (.invokespecial 120, 3) := by decide +kernel
theorem dX1_checkVariable_18 : decode cX1_checkVariable 18 = .ok (.athrow, 1) := by decide +kernel
theorem dX1_checkVariable_19 : decode cX1_checkVariable 19 = .ok (.return_, 1) := by decide +kernel
set_option maxRecDepth 20000 in
theorem ggX1_validTextProducts_X0_firstError : GoodIn wsX1_validTextProducts wsX0_firstError := goodIn_r _ [9, 10, 11, 12, 13, 14, 7, 15, 16, 17, 18, 19, 20, 21, 22, 23, 24, 25, 26, 27, 28, 29, 30, 31, 32, 33, 34, 35, 36, 37, 38, 39, 40, 41, 42, 43, 44, 45, 46, 47, 48, 49, 50, 51, 52, 53, 68, 69, 70, 71] (by decide +kernel) (by decide +kernel)
set_option maxRecDepth 20000 in
theorem gX1_validTextProducts_X0_firstError_n99 : GoodIn wsX1_validTextProducts (wsX0_firstError) := ggX1_validTextProducts_X0_firstError
set_option maxRecDepth 20000 in
theorem ggX1_validTextProducts_X0_productsRead : GoodIn wsX1_validTextProducts wsX0_productsRead := goodIn_r _ [56, 10, 11, 16, 68, 69, 70, 71] (by decide +kernel) (by decide +kernel)
set_option maxRecDepth 20000 in
theorem gX1_validTextProducts_X0_productsRead_n171 : GoodIn wsX1_validTextProducts (wsX0_productsRead) := ggX1_validTextProducts_X0_productsRead
theorem dX1_validTextProducts_0 : decode cX1_validTextProducts 0 = .ok (.aload_n 0, 1) := by decide +kernel
theorem dX1_validTextProducts_1 : decode cX1_validTextProducts 1 = .ok (.getfield 37, 3) := by decide +kernel
theorem dX1_validTextProducts_4 : decode cX1_validTextProducts 4 = .ok (.aload_n 0, 1) := by decide +kernel
theorem dX1_validTextProducts_5 : decode cX1_validTextProducts 5 = .ok (.getfield 27, 3) := by decide +kernel
theorem dX1_validTextProducts_8 : decode cX1_validTextProducts 8 = .ok (.aload_n 0, 1) := by decide +kernel
theorem dX1_validTextProducts_9 : decode cX1_validTextProducts 9 = .ok (.getfield 31, 3) := by decide +kernel
theorem dX1_validTextProducts_12 : decode cX1_validTextProducts 12 = .ok (.invokevirtual 99, 3) := by decide +kernel
theorem dX1_validTextProducts_15 : decode cX1_validTextProducts 15 = .ok (.iconst (-1), 1) := by decide +kernel
theorem dX1_validTextProducts_16 : decode cX1_validTextProducts 16 = .ok (.if_icmp .eq 13, 3) := by decide +kernel
theorem dX1_validTextProducts_19 : decode cX1_validTextProducts 19 = .ok (.new 94, 3) := by decide +kernel
theorem dX1_validTextProducts_22 : decode cX1_validTextProducts 22 = .ok (.dup, 1) := by decide +kernel
theorem dX1_validTextProducts_23 : decode cX1_validTextProducts 23 = .ok (.ldc 169, 2) := by decide +kernel
theorem dX1_validTextProducts_25 : decode cX1_validTextProducts 25 = .ok (.invokespecial 98, 3) := by decide +kernel
theorem dX1_validTextProducts_28 : decode cX1_validTextProducts 28 = .ok (.athrow, 1) := by decide +kernel
theorem dX1_validTextProducts_29 : decode cX1_validTextProducts 29 = .ok (.aload_n 0, 1) := by decide +kernel
theorem dX1_validTextProducts_30 : decode cX1_validTextProducts 30 = .ok (.getfield 37, 3) := by decide +kernel
theorem dX1_validTextProducts_33 : decode cX1_validTextProducts 33 = .ok (.invokevirtual 171, 3) := by decide +kernel
theorem dX1_validTextProducts_36 : decode cX1_validTextProducts 36 = .ok (.ireturn, 1) := by decide +kernel
theorem dX1_recordState_0 : decode cX1_recordState 0 = .ok (.aload_n 0, 1) := by decide +kernel
theorem dX1_recordState_1 : decode cX1_recordState 1 = .ok (.getfield 16, 3) := by decide +kernel
theorem dX1_recordState_4 : decode cX1_recordState 4 = .ok (.iconst 4, 1) := by decide +kernel
theorem dX1_recordState_5 : decode cX1_recordState 5 = .ok (.if_icmp .lt 29, 3) := by decide +kernel
theorem dX1_recordState_8 : decode cX1_recordState 8 = .ok (.aload_n 0, 1) := by decide +kernel
theorem dX1_recordState_9 : decode cX1_recordState 9 = .ok (.iconst 3, 1) := by decide +kernel
theorem dX1_recordState_10 : decode cX1_recordState 10 = .ok (.putfield 16, 3) := by decide +kernel
theorem dX1_recordState_13 : decode cX1_recordState 13 = .ok (.aload_n 0, 1) := by decide +kernel
theorem dX1_recordState_14 : decode cX1_recordState 14 = .ok (.getfield 13, 3) := by decide +kernel
theorem dX1_recordState_17 : decode cX1_recordState 17 = .ok (.bipush 6, 2) := by decide +kernel
theorem dX1_recordState_19 : decode cX1_recordState 19 = .ok (.aload_n 0, 1) := by decide +kernel
theorem dX1_recordState_20 : decode cX1_recordState 20 = .ok (.getfield 13, 3) := by decide +kernel
theorem dX1_recordState_23 : decode cX1_recordState 23 = .ok (.iconst 0, 1) := by decide +kernel
theorem dX1_recordState_24 : decode cX1_recordState 24 = .ok (.aload_n 0, 1) := by decide +kernel
theorem dX1_recordState_25 : decode cX1_recordState 25 = .ok (.getfield 16, 3) := by decide +kernel
theorem dX1_recordState_28 : decode cX1_recordState 28 = .ok (.bipush 6, 2) := by decide +kernel
theorem dX1_recordState_30 : decode cX1_recordState 30 = .ok (.imul, 1) := by decide +kernel
theorem dX1_recordState_31 : decode cX1_recordState 31 = .ok (.invokestatic 105, 3) := by decide +kernel
theorem dX1_recordState_34 : decode cX1_recordState 34 = .ok (.aload_n 0, 1) := by decide +kernel
theorem dX1_recordState_35 : decode cX1_recordState 35 = .ok (.getfield 9, 3) := by decide +kernel
theorem dX1_recordState_38 : decode cX1_recordState 38 = .ok (.iconst 0, 1) := by decide +kernel
theorem dX1_recordState_39 : decode cX1_recordState 39 = .ok (.aload_n 0, 1) := by decide +kernel
theorem dX1_recordState_40 : decode cX1_recordState 40 = .ok (.getfield 13, 3) := by decide +kernel
theorem dX1_recordState_43 : decode cX1_recordState 43 = .ok (.aload_n 0, 1) := by decide +kernel
theorem dX1_recordState_44 : decode cX1_recordState 44 = .ok (.getfield 16, 3) := by decide +kernel
theorem dX1_recordState_47 : decode cX1_recordState 47 = .ok (.bipush 6, 2) := by decide +kernel
theorem dX1_recordState_49 : decode cX1_recordState 49 = .ok (.imul, 1) := by decide +kernel
theorem dX1_recordState_50 : decode cX1_recordState 50 = .ok (.bipush 6, 2) := by decide +kernel
theorem dX1_recordState_52 : decode cX1_recordState 52 = .ok (.invokestatic 105, 3) := by decide +kernel
theorem dX1_recordState_55 : decode cX1_recordState 55 = .ok (.aload_n 0, 1) := by decide +kernel
theorem dX1_recordState_56 : decode cX1_recordState 56 = .ok (.dup, 1) := by decide +kernel
theorem dX1_recordState_57 : decode cX1_recordState 57 = .ok (.getfield 16, 3) := by decide +kernel
theorem dX1_recordState_60 : decode cX1_recordState 60 = .ok (.iconst 1, 1) := by decide +kernel
theorem dX1_recordState_61 : decode cX1_recordState 61 = .ok (.iadd, 1) := by decide +kernel
theorem dX1_recordState_62 : decode cX1_recordState 62 = .ok (.putfield 16, 3) := by decide +kernel
theorem dX1_recordState_65 : decode cX1_recordState 65 = .ok (.return_, 1) := by decide +kernel
set_option maxRecDepth 20000 in
theorem ggX1_countAllProducts_X1_addHalves : GoodIn wsX1_countAllProducts wsX1_addHalves := goodIn_r _ [5, 6] (by decide +kernel) (by decide +kernel)
set_option maxRecDepth 20000 in
theorem gX1_countAllProducts_X1_addHalves : GoodIn wsX1_countAllProducts (va_wsS RX1 65 yX1_addHalves wsX1_addHalves) := goodIn_app (goodIn_of _ (by decide +kernel)) ggX1_countAllProducts_X1_addHalves
set_option maxRecDepth 20000 in
theorem ggX1_countAllProducts_J6_bitCount_0f7a4 : GoodIn wsX1_countAllProducts wsJ6_bitCount_0f7a4 := goodIn_r _ [10, 11, 12, 13] (by decide +kernel) (by decide +kernel)
set_option maxRecDepth 20000 in
theorem gX1_countAllProducts_J6_bitCount_0f7a4 : GoodIn wsX1_countAllProducts (va_wsS RX1 69 yJ6_bitCount_0f7a4 wsJ6_bitCount_0f7a4) := goodIn_app (goodIn_of _ (by decide +kernel)) ggX1_countAllProducts_J6_bitCount_0f7a4
theorem dX1_countAllProducts_0 : decode cX1_countAllProducts 0 = .ok (.iconst 0, 1) := by decide +kernel
theorem dX1_countAllProducts_1 : decode cX1_countAllProducts 1 = .ok (.istore_n 1, 1) := by decide +kernel
theorem dX1_countAllProducts_2 : decode cX1_countAllProducts 2 = .ok (.iconst 0, 1) := by decide +kernel
theorem dX1_countAllProducts_3 : decode cX1_countAllProducts 3 = .ok (.istore_n 2, 1) := by decide +kernel
theorem dX1_countAllProducts_4 : decode cX1_countAllProducts 4 = .ok (.iload_n 2, 1) := by decide +kernel
theorem dX1_countAllProducts_5 : decode cX1_countAllProducts 5 = .ok (.bipush 6, 2) := by decide +kernel
theorem dX1_countAllProducts_7 : decode cX1_countAllProducts 7 = .ok (.if_icmp .ge 24, 3) := by decide +kernel
theorem dX1_countAllProducts_10 : decode cX1_countAllProducts 10 = .ok (.iload_n 1, 1) := by decide +kernel
theorem dX1_countAllProducts_11 : decode cX1_countAllProducts 11 = .ok (.aload_n 0, 1) := by decide +kernel
theorem dX1_countAllProducts_12 : decode cX1_countAllProducts 12 = .ok (.getfield 9, 3) := by decide +kernel
theorem dX1_countAllProducts_15 : decode cX1_countAllProducts 15 = .ok (.iload_n 2, 1) := by decide +kernel
theorem dX1_countAllProducts_16 : decode cX1_countAllProducts 16 = .ok (.iaload, 1) := by decide +kernel
theorem dX1_countAllProducts_17 : decode cX1_countAllProducts 17 = .ok (.invokestatic 65, 3) := by decide +kernel
theorem dX1_countAllProducts_20 : decode cX1_countAllProducts 20 = .ok (.invokestatic 69, 3) := by decide +kernel
theorem dX1_countAllProducts_23 : decode cX1_countAllProducts 23 = .ok (.iadd, 1) := by decide +kernel
theorem dX1_countAllProducts_24 : decode cX1_countAllProducts 24 = .ok (.istore_n 1, 1) := by decide +kernel
theorem dX1_countAllProducts_25 : decode cX1_countAllProducts 25 = .ok (.iinc 2 1, 3) := by decide +kernel
theorem dX1_countAllProducts_28 : decode cX1_countAllProducts 28 = .ok (.goto (-24), 3) := by decide +kernel
theorem dX1_countAllProducts_31 : decode cX1_countAllProducts 31 = .ok (.iload_n 1, 1) := by decide +kernel
theorem dX1_countAllProducts_32 : decode cX1_countAllProducts 32 = .ok (.ireturn, 1) := by decide +kernel
theorem dX1_bit_0 : decode cX1_bit 0 = .ok (.iload_n 0, 1) := by decide +kernel
theorem dX1_bit_1 : decode cX1_bit 1 = .ok (.iload_n 1, 1) := by decide +kernel
theorem dX1_bit_2 : decode cX1_bit 2 = .ok (.ishr, 1) := by decide +kernel
theorem dX1_bit_3 : decode cX1_bit 3 = .ok (.iconst 1, 1) := by decide +kernel
theorem dX1_bit_4 : decode cX1_bit 4 = .ok (.iand, 1) := by decide +kernel
theorem dX1_bit_5 : decode cX1_bit 5 = .ok (.ireturn, 1) := by decide +kernel
theorem dX1_joinTables_0 : decode cX1_joinTables 0 = .ok (.iload_n 2, 1) := by decide +kernel
theorem dX1_joinTables_1 : decode cX1_joinTables 1 = .ok (.tableswitch 39 0 2 #[27, 31, 35], 27) := by decide +kernel
theorem dX1_joinTables_28 : decode cX1_joinTables 28 = .ok (.iload_n 0, 1) := by decide +kernel
theorem dX1_joinTables_29 : decode cX1_joinTables 29 = .ok (.iload_n 1, 1) := by decide +kernel
theorem dX1_joinTables_30 : decode cX1_joinTables 30 = .ok (.ixor, 1) := by decide +kernel
theorem dX1_joinTables_31 : decode cX1_joinTables 31 = .ok (.ireturn, 1) := by decide +kernel
theorem dX1_joinTables_32 : decode cX1_joinTables 32 = .ok (.iload_n 0, 1) := by decide +kernel
theorem dX1_joinTables_33 : decode cX1_joinTables 33 = .ok (.iload_n 1, 1) := by decide +kernel
theorem dX1_joinTables_34 : decode cX1_joinTables 34 = .ok (.iand, 1) := by decide +kernel
theorem dX1_joinTables_35 : decode cX1_joinTables 35 = .ok (.ireturn, 1) := by decide +kernel
theorem dX1_joinTables_36 : decode cX1_joinTables 36 = .ok (.iload_n 0, 1) := by decide +kernel
theorem dX1_joinTables_37 : decode cX1_joinTables 37 = .ok (.iload_n 1, 1) := by decide +kernel
theorem dX1_joinTables_38 : decode cX1_joinTables 38 = .ok (.ior, 1) := by decide +kernel
theorem dX1_joinTables_39 : decode cX1_joinTables 39 = .ok (.ireturn, 1) := by decide +kernel
theorem dX1_joinTables_40 : decode cX1_joinTables 40 = .ok (.iload_n 0, 1) := by decide +kernel
theorem dX1_joinTables_41 : decode cX1_joinTables 41 = .ok (.iconst (-1), 1) := by decide +kernel
theorem dX1_joinTables_42 : decode cX1_joinTables 42 = .ok (.ixor, 1) := by decide +kernel
theorem dX1_joinTables_43 : decode cX1_joinTables 43 = .ok (.ldc 53, 2) := by decide +kernel
theorem dX1_joinTables_45 : decode cX1_joinTables 45 = .ok (.iand, 1) := by decide +kernel
theorem dX1_joinTables_46 : decode cX1_joinTables 46 = .ok (.iload_n 1, 1) := by decide +kernel
theorem dX1_joinTables_47 : decode cX1_joinTables 47 = .ok (.ior, 1) := by decide +kernel
theorem dX1_joinTables_48 : decode cX1_joinTables 48 = .ok (.ireturn, 1) := by decide +kernel
theorem dX1_half_0 : decode cX1_half 0 = .ok (.iconst 1, 1) := by decide +kernel
theorem dX1_half_1 : decode cX1_half 1 = .ok (.iload_n 1, 1) := by decide +kernel
theorem dX1_half_2 : decode cX1_half 2 = .ok (.ishl, 1) := by decide +kernel
theorem dX1_half_3 : decode cX1_half 3 = .ok (.istore_n 3, 1) := by decide +kernel
theorem dX1_half_4 : decode cX1_half 4 = .ok (.iload_n 2, 1) := by decide +kernel
theorem dX1_half_5 : decode cX1_half 5 = .ok (.ifCond .eq 20, 3) := by decide +kernel
theorem dX1_half_8 : decode cX1_half 8 = .ok (.iload_n 0, 1) := by decide +kernel
theorem dX1_half_9 : decode cX1_half 9 = .ok (.getstatic 50, 3) := by decide +kernel
theorem dX1_half_12 : decode cX1_half 12 = .ok (.iload_n 1, 1) := by decide +kernel
theorem dX1_half_13 : decode cX1_half 13 = .ok (.iaload, 1) := by decide +kernel
theorem dX1_half_14 : decode cX1_half 14 = .ok (.iand, 1) := by decide +kernel
theorem dX1_half_15 : decode cX1_half 15 = .ok (.istore 4, 2) := by decide +kernel
theorem dX1_half_17 : decode cX1_half 17 = .ok (.iload 4, 2) := by decide +kernel
theorem dX1_half_19 : decode cX1_half 19 = .ok (.iload 4, 2) := by decide +kernel
theorem dX1_half_21 : decode cX1_half 21 = .ok (.iload_n 3, 1) := by decide +kernel
theorem dX1_half_22 : decode cX1_half 22 = .ok (.ishr, 1) := by decide +kernel
theorem dX1_half_23 : decode cX1_half 23 = .ok (.ior, 1) := by decide +kernel
theorem dX1_half_24 : decode cX1_half 24 = .ok (.ireturn, 1) := by decide +kernel
theorem dX1_half_25 : decode cX1_half 25 = .ok (.iload_n 0, 1) := by decide +kernel
theorem dX1_half_26 : decode cX1_half 26 = .ok (.getstatic 50, 3) := by decide +kernel
theorem dX1_half_29 : decode cX1_half 29 = .ok (.iload_n 1, 1) := by decide +kernel
theorem dX1_half_30 : decode cX1_half 30 = .ok (.iaload, 1) := by decide +kernel
theorem dX1_half_31 : decode cX1_half 31 = .ok (.iconst (-1), 1) := by decide +kernel
theorem dX1_half_32 : decode cX1_half 32 = .ok (.ixor, 1) := by decide +kernel
theorem dX1_half_33 : decode cX1_half 33 = .ok (.iand, 1) := by decide +kernel
theorem dX1_half_34 : decode cX1_half 34 = .ok (.istore 4, 2) := by decide +kernel
theorem dX1_half_36 : decode cX1_half 36 = .ok (.iload 4, 2) := by decide +kernel
theorem dX1_half_38 : decode cX1_half 38 = .ok (.iload 4, 2) := by decide +kernel
theorem dX1_half_40 : decode cX1_half 40 = .ok (.iload_n 3, 1) := by decide +kernel
theorem dX1_half_41 : decode cX1_half 41 = .ok (.ishl, 1) := by decide +kernel
theorem dX1_half_42 : decode cX1_half 42 = .ok (.ior, 1) := by decide +kernel
theorem dX1_half_43 : decode cX1_half 43 = .ok (.ireturn, 1) := by decide +kernel
theorem dX1_addHalves_0 : decode cX1_addHalves 0 = .ok (.iload_n 0, 1) := by decide +kernel
theorem dX1_addHalves_1 : decode cX1_addHalves 1 = .ok (.istore_n 1, 1) := by decide +kernel
theorem dX1_addHalves_2 : decode cX1_addHalves 2 = .ok (.iconst 0, 1) := by decide +kernel
theorem dX1_addHalves_3 : decode cX1_addHalves 3 = .ok (.istore_n 2, 1) := by decide +kernel
theorem dX1_addHalves_4 : decode cX1_addHalves 4 = .ok (.iload_n 2, 1) := by decide +kernel
theorem dX1_addHalves_5 : decode cX1_addHalves 5 = .ok (.iconst 4, 1) := by decide +kernel
theorem dX1_addHalves_6 : decode cX1_addHalves 6 = .ok (.if_icmp .ge 27, 3) := by decide +kernel
theorem dX1_addHalves_9 : decode cX1_addHalves 9 = .ok (.iload_n 1, 1) := by decide +kernel
theorem dX1_addHalves_10 : decode cX1_addHalves 10 = .ok (.getstatic 50, 3) := by decide +kernel
theorem dX1_addHalves_13 : decode cX1_addHalves 13 = .ok (.iload_n 2, 1) := by decide +kernel
theorem dX1_addHalves_14 : decode cX1_addHalves 14 = .ok (.iaload, 1) := by decide +kernel
theorem dX1_addHalves_15 : decode cX1_addHalves 15 = .ok (.iconst (-1), 1) := by decide +kernel
theorem dX1_addHalves_16 : decode cX1_addHalves 16 = .ok (.ixor, 1) := by decide +kernel
theorem dX1_addHalves_17 : decode cX1_addHalves 17 = .ok (.iand, 1) := by decide +kernel
theorem dX1_addHalves_18 : decode cX1_addHalves 18 = .ok (.istore_n 3, 1) := by decide +kernel
theorem dX1_addHalves_19 : decode cX1_addHalves 19 = .ok (.iload_n 1, 1) := by decide +kernel
theorem dX1_addHalves_20 : decode cX1_addHalves 20 = .ok (.iload_n 3, 1) := by decide +kernel
theorem dX1_addHalves_21 : decode cX1_addHalves 21 = .ok (.iconst 1, 1) := by decide +kernel
theorem dX1_addHalves_22 : decode cX1_addHalves 22 = .ok (.iload_n 2, 1) := by decide +kernel
theorem dX1_addHalves_23 : decode cX1_addHalves 23 = .ok (.ishl, 1) := by decide +kernel
theorem dX1_addHalves_24 : decode cX1_addHalves 24 = .ok (.ishl, 1) := by decide +kernel
theorem dX1_addHalves_25 : decode cX1_addHalves 25 = .ok (.ixor, 1) := by decide +kernel
theorem dX1_addHalves_26 : decode cX1_addHalves 26 = .ok (.istore_n 1, 1) := by decide +kernel
theorem dX1_addHalves_27 : decode cX1_addHalves 27 = .ok (.iinc 2 1, 3) := by decide +kernel
theorem dX1_addHalves_30 : decode cX1_addHalves 30 = .ok (.goto (-26), 3) := by decide +kernel
theorem dX1_addHalves_33 : decode cX1_addHalves 33 = .ok (.iload_n 1, 1) := by decide +kernel
theorem dX1_addHalves_34 : decode cX1_addHalves 34 = .ok (.ireturn, 1) := by decide +kernel
set_option maxRecDepth 20000 in
theorem ggX1_sumBelow_X1_bit : GoodIn wsX1_sumBelow wsX1_bit := goodIn_r _ [4] (by decide +kernel) (by decide +kernel)
set_option maxRecDepth 20000 in
theorem gX1_sumBelow_X1_bit : GoodIn wsX1_sumBelow (va_wsS RX1 121 yX1_bit wsX1_bit) := goodIn_app (goodIn_of _ (by decide +kernel)) ggX1_sumBelow_X1_bit
theorem dX1_sumBelow_0 : decode cX1_sumBelow 0 = .ok (.iconst 0, 1) := by decide +kernel
theorem dX1_sumBelow_1 : decode cX1_sumBelow 1 = .ok (.istore_n 2, 1) := by decide +kernel
theorem dX1_sumBelow_2 : decode cX1_sumBelow 2 = .ok (.iconst 0, 1) := by decide +kernel
theorem dX1_sumBelow_3 : decode cX1_sumBelow 3 = .ok (.istore_n 3, 1) := by decide +kernel
theorem dX1_sumBelow_4 : decode cX1_sumBelow 4 = .ok (.iload_n 3, 1) := by decide +kernel
theorem dX1_sumBelow_5 : decode cX1_sumBelow 5 = .ok (.iload_n 1, 1) := by decide +kernel
theorem dX1_sumBelow_6 : decode cX1_sumBelow 6 = .ok (.if_icmp .gt 25, 3) := by decide +kernel
theorem dX1_sumBelow_9 : decode cX1_sumBelow 9 = .ok (.iload_n 3, 1) := by decide +kernel
theorem dX1_sumBelow_10 : decode cX1_sumBelow 10 = .ok (.iload_n 1, 1) := by decide +kernel
theorem dX1_sumBelow_11 : decode cX1_sumBelow 11 = .ok (.iconst (-1), 1) := by decide +kernel
theorem dX1_sumBelow_12 : decode cX1_sumBelow 12 = .ok (.ixor, 1) := by decide +kernel
theorem dX1_sumBelow_13 : decode cX1_sumBelow 13 = .ok (.iand, 1) := by decide +kernel
theorem dX1_sumBelow_14 : decode cX1_sumBelow 14 = .ok (.ifCond .ne 11, 3) := by decide +kernel
theorem dX1_sumBelow_17 : decode cX1_sumBelow 17 = .ok (.iload_n 2, 1) := by decide +kernel
theorem dX1_sumBelow_18 : decode cX1_sumBelow 18 = .ok (.iload_n 0, 1) := by decide +kernel
theorem dX1_sumBelow_19 : decode cX1_sumBelow 19 = .ok (.iload_n 3, 1) := by decide +kernel
theorem dX1_sumBelow_20 : decode cX1_sumBelow 20 = .ok (.invokestatic 121, 3) := by decide +kernel
theorem dX1_sumBelow_23 : decode cX1_sumBelow 23 = .ok (.ixor, 1) := by decide +kernel
theorem dX1_sumBelow_24 : decode cX1_sumBelow 24 = .ok (.istore_n 2, 1) := by decide +kernel
theorem dX1_sumBelow_25 : decode cX1_sumBelow 25 = .ok (.iinc 3 1, 3) := by decide +kernel
theorem dX1_sumBelow_28 : decode cX1_sumBelow 28 = .ok (.goto (-24), 3) := by decide +kernel
theorem dX1_sumBelow_31 : decode cX1_sumBelow 31 = .ok (.iload_n 2, 1) := by decide +kernel
theorem dX1_sumBelow_32 : decode cX1_sumBelow 32 = .ok (.ireturn, 1) := by decide +kernel
set_option maxRecDepth 20000 in
theorem ggX1_degree_X1_addHalves : GoodIn wsX1_degree wsX1_addHalves := goodIn_r _ [8, 9] (by decide +kernel) (by decide +kernel)
set_option maxRecDepth 20000 in
theorem gX1_degree_X1_addHalves : GoodIn wsX1_degree (va_wsS RX1 65 yX1_addHalves wsX1_addHalves) := goodIn_app (goodIn_of _ (by decide +kernel)) ggX1_degree_X1_addHalves
set_option maxRecDepth 20000 in
theorem ggX1_degree_X1_bit : GoodIn wsX1_degree wsX1_bit := goodIn_r _ [12] (by decide +kernel) (by decide +kernel)
set_option maxRecDepth 20000 in
theorem gX1_degree_X1_bit : GoodIn wsX1_degree (va_wsS RX1 121 yX1_bit wsX1_bit) := goodIn_app (goodIn_of _ (by decide +kernel)) ggX1_degree_X1_bit
set_option maxRecDepth 20000 in
theorem ggX1_degree_J6_bitCount_0f7a4 : GoodIn wsX1_degree wsJ6_bitCount_0f7a4 := goodIn_r _ [16, 17, 18, 19] (by decide +kernel) (by decide +kernel)
set_option maxRecDepth 20000 in
theorem gX1_degree_J6_bitCount_0f7a4 : GoodIn wsX1_degree (va_wsS RX1 69 yJ6_bitCount_0f7a4 wsJ6_bitCount_0f7a4) := goodIn_app (goodIn_of _ (by decide +kernel)) ggX1_degree_J6_bitCount_0f7a4
theorem dX1_degree_0 : decode cX1_degree 0 = .ok (.iload_n 0, 1) := by decide +kernel
theorem dX1_degree_1 : decode cX1_degree 1 = .ok (.invokestatic 65, 3) := by decide +kernel
theorem dX1_degree_4 : decode cX1_degree 4 = .ok (.istore_n 1, 1) := by decide +kernel
theorem dX1_degree_5 : decode cX1_degree 5 = .ok (.iconst 0, 1) := by decide +kernel
theorem dX1_degree_6 : decode cX1_degree 6 = .ok (.istore_n 2, 1) := by decide +kernel
theorem dX1_degree_7 : decode cX1_degree 7 = .ok (.iconst 0, 1) := by decide +kernel
theorem dX1_degree_8 : decode cX1_degree 8 = .ok (.istore_n 3, 1) := by decide +kernel
theorem dX1_degree_9 : decode cX1_degree 9 = .ok (.iload_n 3, 1) := by decide +kernel
theorem dX1_degree_10 : decode cX1_degree 10 = .ok (.bipush 16, 2) := by decide +kernel
theorem dX1_degree_12 : decode cX1_degree 12 = .ok (.if_icmp .ge 27, 3) := by decide +kernel
theorem dX1_degree_15 : decode cX1_degree 15 = .ok (.iload_n 1, 1) := by decide +kernel
theorem dX1_degree_16 : decode cX1_degree 16 = .ok (.iload_n 3, 1) := by decide +kernel
theorem dX1_degree_17 : decode cX1_degree 17 = .ok (.invokestatic 121, 3) := by decide +kernel
theorem dX1_degree_20 : decode cX1_degree 20 = .ok (.iconst 1, 1) := by decide +kernel
theorem dX1_degree_21 : decode cX1_degree 21 = .ok (.if_icmp .ne 12, 3) := by decide +kernel
theorem dX1_degree_24 : decode cX1_degree 24 = .ok (.iload_n 2, 1) := by decide +kernel
theorem dX1_degree_25 : decode cX1_degree 25 = .ok (.iload_n 3, 1) := by decide +kernel
theorem dX1_degree_26 : decode cX1_degree 26 = .ok (.invokestatic 69, 3) := by decide +kernel
theorem dX1_degree_29 : decode cX1_degree 29 = .ok (.invokestatic 150, 3) := by decide +kernel
theorem dX1_degree_32 : decode cX1_degree 32 = .ok (.istore_n 2, 1) := by decide +kernel
theorem dX1_degree_33 : decode cX1_degree 33 = .ok (.iinc 3 1, 3) := by decide +kernel
theorem dX1_degree_36 : decode cX1_degree 36 = .ok (.goto (-27), 3) := by decide +kernel
theorem dX1_degree_39 : decode cX1_degree 39 = .ok (.iload_n 2, 1) := by decide +kernel
theorem dX1_degree_40 : decode cX1_degree 40 = .ok (.ireturn, 1) := by decide +kernel
set_option maxRecDepth 20000 in
theorem ggX1_linearTable_X1_bit : GoodIn wsX1_linearTable wsX1_bit := goodIn_r _ [6] (by decide +kernel) (by decide +kernel)
set_option maxRecDepth 20000 in
theorem gX1_linearTable_X1_bit : GoodIn wsX1_linearTable (va_wsS RX1 121 yX1_bit wsX1_bit) := goodIn_app (goodIn_of _ (by decide +kernel)) ggX1_linearTable_X1_bit
theorem dX1_linearTable_0 : decode cX1_linearTable 0 = .ok (.iload_n 0, 1) := by decide +kernel
theorem dX1_linearTable_1 : decode cX1_linearTable 1 = .ok (.iconst 4, 1) := by decide +kernel
theorem dX1_linearTable_2 : decode cX1_linearTable 2 = .ok (.invokestatic 121, 3) := by decide +kernel
theorem dX1_linearTable_5 : decode cX1_linearTable 5 = .ok (.iconst 1, 1) := by decide +kernel
theorem dX1_linearTable_6 : decode cX1_linearTable 6 = .ok (.if_icmp .ne 8, 3) := by decide +kernel
theorem dX1_linearTable_9 : decode cX1_linearTable 9 = .ok (.ldc 53, 2) := by decide +kernel
theorem dX1_linearTable_11 : decode cX1_linearTable 11 = .ok (.goto 4, 3) := by decide +kernel
theorem dX1_linearTable_14 : decode cX1_linearTable 14 = .ok (.iconst 0, 1) := by decide +kernel
theorem dX1_linearTable_15 : decode cX1_linearTable 15 = .ok (.istore_n 1, 1) := by decide +kernel
theorem dX1_linearTable_16 : decode cX1_linearTable 16 = .ok (.iconst 0, 1) := by decide +kernel
theorem dX1_linearTable_17 : decode cX1_linearTable 17 = .ok (.istore_n 2, 1) := by decide +kernel
theorem dX1_linearTable_18 : decode cX1_linearTable 18 = .ok (.iload_n 2, 1) := by decide +kernel
theorem dX1_linearTable_19 : decode cX1_linearTable 19 = .ok (.iconst 4, 1) := by decide +kernel
theorem dX1_linearTable_20 : decode cX1_linearTable 20 = .ok (.if_icmp .ge 26, 3) := by decide +kernel
theorem dX1_linearTable_23 : decode cX1_linearTable 23 = .ok (.iload_n 0, 1) := by decide +kernel
theorem dX1_linearTable_24 : decode cX1_linearTable 24 = .ok (.iload_n 2, 1) := by decide +kernel
theorem dX1_linearTable_25 : decode cX1_linearTable 25 = .ok (.invokestatic 121, 3) := by decide +kernel
theorem dX1_linearTable_28 : decode cX1_linearTable 28 = .ok (.iconst 1, 1) := by decide +kernel
theorem dX1_linearTable_29 : decode cX1_linearTable 29 = .ok (.if_icmp .ne 11, 3) := by decide +kernel
theorem dX1_linearTable_32 : decode cX1_linearTable 32 = .ok (.iload_n 1, 1) := by decide +kernel
theorem dX1_linearTable_33 : decode cX1_linearTable 33 = .ok (.getstatic 50, 3) := by decide +kernel
theorem dX1_linearTable_36 : decode cX1_linearTable 36 = .ok (.iload_n 2, 1) := by decide +kernel
theorem dX1_linearTable_37 : decode cX1_linearTable 37 = .ok (.iaload, 1) := by decide +kernel
theorem dX1_linearTable_38 : decode cX1_linearTable 38 = .ok (.ixor, 1) := by decide +kernel
theorem dX1_linearTable_39 : decode cX1_linearTable 39 = .ok (.istore_n 1, 1) := by decide +kernel
theorem dX1_linearTable_40 : decode cX1_linearTable 40 = .ok (.iinc 2 1, 3) := by decide +kernel
theorem dX1_linearTable_43 : decode cX1_linearTable 43 = .ok (.goto (-25), 3) := by decide +kernel
theorem dX1_linearTable_46 : decode cX1_linearTable 46 = .ok (.iload_n 1, 1) := by decide +kernel
theorem dX1_linearTable_47 : decode cX1_linearTable 47 = .ok (.ireturn, 1) := by decide +kernel
theorem dX1_sumPairs_0 : decode cX1_sumPairs 0 = .ok (.iconst 1, 1) := by decide +kernel
theorem dX1_sumPairs_1 : decode cX1_sumPairs 1 = .ok (.iload_n 1, 1) := by decide +kernel
theorem dX1_sumPairs_2 : decode cX1_sumPairs 2 = .ok (.ishl, 1) := by decide +kernel
theorem dX1_sumPairs_3 : decode cX1_sumPairs 3 = .ok (.istore_n 2, 1) := by decide +kernel
theorem dX1_sumPairs_4 : decode cX1_sumPairs 4 = .ok (.iconst 0, 1) := by decide +kernel
theorem dX1_sumPairs_5 : decode cX1_sumPairs 5 = .ok (.istore_n 3, 1) := by decide +kernel
theorem dX1_sumPairs_6 : decode cX1_sumPairs 6 = .ok (.iload_n 3, 1) := by decide +kernel
theorem dX1_sumPairs_7 : decode cX1_sumPairs 7 = .ok (.iload_n 2, 1) := by decide +kernel
theorem dX1_sumPairs_8 : decode cX1_sumPairs 8 = .ok (.iadd, 1) := by decide +kernel
theorem dX1_sumPairs_9 : decode cX1_sumPairs 9 = .ok (.bipush 16, 2) := by decide +kernel
theorem dX1_sumPairs_11 : decode cX1_sumPairs 11 = .ok (.if_icmp .ge 57, 3) := by decide +kernel
theorem dX1_sumPairs_14 : decode cX1_sumPairs 14 = .ok (.iload_n 3, 1) := by decide +kernel
theorem dX1_sumPairs_15 : decode cX1_sumPairs 15 = .ok (.iload_n 2, 1) := by decide +kernel
theorem dX1_sumPairs_16 : decode cX1_sumPairs 16 = .ok (.iand, 1) := by decide +kernel
theorem dX1_sumPairs_17 : decode cX1_sumPairs 17 = .ok (.ifCond .ne 45, 3) := by decide +kernel
theorem dX1_sumPairs_20 : decode cX1_sumPairs 20 = .ok (.aload_n 0, 1) := by decide +kernel
theorem dX1_sumPairs_21 : decode cX1_sumPairs 21 = .ok (.getfield 41, 3) := by decide +kernel
theorem dX1_sumPairs_24 : decode cX1_sumPairs 24 = .ok (.iload_n 3, 1) := by decide +kernel
theorem dX1_sumPairs_25 : decode cX1_sumPairs 25 = .ok (.iaload, 1) := by decide +kernel
theorem dX1_sumPairs_26 : decode cX1_sumPairs 26 = .ok (.istore 4, 2) := by decide +kernel
theorem dX1_sumPairs_28 : decode cX1_sumPairs 28 = .ok (.aload_n 0, 1) := by decide +kernel
theorem dX1_sumPairs_29 : decode cX1_sumPairs 29 = .ok (.getfield 41, 3) := by decide +kernel
theorem dX1_sumPairs_32 : decode cX1_sumPairs 32 = .ok (.iload_n 3, 1) := by decide +kernel
theorem dX1_sumPairs_33 : decode cX1_sumPairs 33 = .ok (.iload_n 2, 1) := by decide +kernel
theorem dX1_sumPairs_34 : decode cX1_sumPairs 34 = .ok (.iadd, 1) := by decide +kernel
theorem dX1_sumPairs_35 : decode cX1_sumPairs 35 = .ok (.iaload, 1) := by decide +kernel
theorem dX1_sumPairs_36 : decode cX1_sumPairs 36 = .ok (.istore 5, 2) := by decide +kernel
theorem dX1_sumPairs_38 : decode cX1_sumPairs 38 = .ok (.aload_n 0, 1) := by decide +kernel
theorem dX1_sumPairs_39 : decode cX1_sumPairs 39 = .ok (.getfield 41, 3) := by decide +kernel
theorem dX1_sumPairs_42 : decode cX1_sumPairs 42 = .ok (.iload_n 3, 1) := by decide +kernel
theorem dX1_sumPairs_43 : decode cX1_sumPairs 43 = .ok (.iload 4, 2) := by decide +kernel
theorem dX1_sumPairs_45 : decode cX1_sumPairs 45 = .ok (.iload 5, 2) := by decide +kernel
theorem dX1_sumPairs_47 : decode cX1_sumPairs 47 = .ok (.iadd, 1) := by decide +kernel
theorem dX1_sumPairs_48 : decode cX1_sumPairs 48 = .ok (.iastore, 1) := by decide +kernel
theorem dX1_sumPairs_49 : decode cX1_sumPairs 49 = .ok (.aload_n 0, 1) := by decide +kernel
theorem dX1_sumPairs_50 : decode cX1_sumPairs 50 = .ok (.getfield 41, 3) := by decide +kernel
theorem dX1_sumPairs_53 : decode cX1_sumPairs 53 = .ok (.iload_n 3, 1) := by decide +kernel
theorem dX1_sumPairs_54 : decode cX1_sumPairs 54 = .ok (.iload_n 2, 1) := by decide +kernel
theorem dX1_sumPairs_55 : decode cX1_sumPairs 55 = .ok (.iadd, 1) := by decide +kernel
theorem dX1_sumPairs_56 : decode cX1_sumPairs 56 = .ok (.iload 4, 2) := by decide +kernel
theorem dX1_sumPairs_58 : decode cX1_sumPairs 58 = .ok (.iload 5, 2) := by decide +kernel
theorem dX1_sumPairs_60 : decode cX1_sumPairs 60 = .ok (.isub, 1) := by decide +kernel
theorem dX1_sumPairs_61 : decode cX1_sumPairs 61 = .ok (.iastore, 1) := by decide +kernel
theorem dX1_sumPairs_62 : decode cX1_sumPairs 62 = .ok (.iinc 3 1, 3) := by decide +kernel
theorem dX1_sumPairs_65 : decode cX1_sumPairs 65 = .ok (.goto (-59), 3) := by decide +kernel
theorem dX1_sumPairs_68 : decode cX1_sumPairs 68 = .ok (.return_, 1) := by decide +kernel
set_option maxRecDepth 20000 in
theorem ggX1_hasOppositeEnds_X1_bit : GoodIn wsX1_hasOppositeEnds wsX1_bit := goodIn_r _ [4] (by decide +kernel) (by decide +kernel)
set_option maxRecDepth 20000 in
theorem gX1_hasOppositeEnds_X1_bit : GoodIn wsX1_hasOppositeEnds (va_wsS RX1 121 yX1_bit wsX1_bit) := goodIn_app (goodIn_of _ (by decide +kernel)) ggX1_hasOppositeEnds_X1_bit
theorem dX1_hasOppositeEnds_0 : decode cX1_hasOppositeEnds 0 = .ok (.iconst 0, 1) := by decide +kernel
theorem dX1_hasOppositeEnds_1 : decode cX1_hasOppositeEnds 1 = .ok (.istore_n 1, 1) := by decide +kernel
theorem dX1_hasOppositeEnds_2 : decode cX1_hasOppositeEnds 2 = .ok (.iload_n 1, 1) := by decide +kernel
theorem dX1_hasOppositeEnds_3 : decode cX1_hasOppositeEnds 3 = .ok (.bipush 16, 2) := by decide +kernel
theorem dX1_hasOppositeEnds_5 : decode cX1_hasOppositeEnds 5 = .ok (.if_icmp .ge 27, 3) := by decide +kernel
theorem dX1_hasOppositeEnds_8 : decode cX1_hasOppositeEnds 8 = .ok (.iload_n 0, 1) := by decide +kernel
theorem dX1_hasOppositeEnds_9 : decode cX1_hasOppositeEnds 9 = .ok (.iload_n 1, 1) := by decide +kernel
theorem dX1_hasOppositeEnds_10 : decode cX1_hasOppositeEnds 10 = .ok (.invokestatic 121, 3) := by decide +kernel
theorem dX1_hasOppositeEnds_13 : decode cX1_hasOppositeEnds 13 = .ok (.iload_n 0, 1) := by decide +kernel
theorem dX1_hasOppositeEnds_14 : decode cX1_hasOppositeEnds 14 = .ok (.bipush 15, 2) := by decide +kernel
theorem dX1_hasOppositeEnds_16 : decode cX1_hasOppositeEnds 16 = .ok (.iload_n 1, 1) := by decide +kernel
theorem dX1_hasOppositeEnds_17 : decode cX1_hasOppositeEnds 17 = .ok (.isub, 1) := by decide +kernel
theorem dX1_hasOppositeEnds_18 : decode cX1_hasOppositeEnds 18 = .ok (.invokestatic 121, 3) := by decide +kernel
theorem dX1_hasOppositeEnds_21 : decode cX1_hasOppositeEnds 21 = .ok (.if_icmp .ne 5, 3) := by decide +kernel
theorem dX1_hasOppositeEnds_24 : decode cX1_hasOppositeEnds 24 = .ok (.iconst 0, 1) := by decide +kernel
theorem dX1_hasOppositeEnds_25 : decode cX1_hasOppositeEnds 25 = .ok (.ireturn, 1) := by decide +kernel
theorem dX1_hasOppositeEnds_26 : decode cX1_hasOppositeEnds 26 = .ok (.iinc 1 1, 3) := by decide +kernel
theorem dX1_hasOppositeEnds_29 : decode cX1_hasOppositeEnds 29 = .ok (.goto (-27), 3) := by decide +kernel
theorem dX1_hasOppositeEnds_32 : decode cX1_hasOppositeEnds 32 = .ok (.iconst 1, 1) := by decide +kernel
theorem dX1_hasOppositeEnds_33 : decode cX1_hasOppositeEnds 33 = .ok (.ireturn, 1) := by decide +kernel
set_option maxRecDepth 20000 in
theorem ggX1_neverFalls_X1_half : GoodIn wsX1_neverFalls wsX1_half := goodIn_r _ [4, 5] (by decide +kernel) (by decide +kernel)
set_option maxRecDepth 20000 in
theorem gX1_neverFalls_X1_half : GoodIn wsX1_neverFalls (va_wsS RX1 90 yX1_half wsX1_half) := goodIn_app (goodIn_of _ (by decide +kernel)) ggX1_neverFalls_X1_half
theorem dX1_neverFalls_0 : decode cX1_neverFalls 0 = .ok (.iconst 0, 1) := by decide +kernel
theorem dX1_neverFalls_1 : decode cX1_neverFalls 1 = .ok (.istore_n 1, 1) := by decide +kernel
theorem dX1_neverFalls_2 : decode cX1_neverFalls 2 = .ok (.iload_n 1, 1) := by decide +kernel
theorem dX1_neverFalls_3 : decode cX1_neverFalls 3 = .ok (.iconst 4, 1) := by decide +kernel
theorem dX1_neverFalls_4 : decode cX1_neverFalls 4 = .ok (.if_icmp .ge 29, 3) := by decide +kernel
theorem dX1_neverFalls_7 : decode cX1_neverFalls 7 = .ok (.iload_n 0, 1) := by decide +kernel
theorem dX1_neverFalls_8 : decode cX1_neverFalls 8 = .ok (.iload_n 1, 1) := by decide +kernel
theorem dX1_neverFalls_9 : decode cX1_neverFalls 9 = .ok (.iconst 0, 1) := by decide +kernel
theorem dX1_neverFalls_10 : decode cX1_neverFalls 10 = .ok (.invokestatic 90, 3) := by decide +kernel
theorem dX1_neverFalls_13 : decode cX1_neverFalls 13 = .ok (.iload_n 0, 1) := by decide +kernel
theorem dX1_neverFalls_14 : decode cX1_neverFalls 14 = .ok (.iload_n 1, 1) := by decide +kernel
theorem dX1_neverFalls_15 : decode cX1_neverFalls 15 = .ok (.iconst 1, 1) := by decide +kernel
theorem dX1_neverFalls_16 : decode cX1_neverFalls 16 = .ok (.invokestatic 90, 3) := by decide +kernel
theorem dX1_neverFalls_19 : decode cX1_neverFalls 19 = .ok (.iconst (-1), 1) := by decide +kernel
theorem dX1_neverFalls_20 : decode cX1_neverFalls 20 = .ok (.ixor, 1) := by decide +kernel
theorem dX1_neverFalls_21 : decode cX1_neverFalls 21 = .ok (.iand, 1) := by decide +kernel
theorem dX1_neverFalls_22 : decode cX1_neverFalls 22 = .ok (.ifCond .eq 5, 3) := by decide +kernel
theorem dX1_neverFalls_25 : decode cX1_neverFalls 25 = .ok (.iconst 0, 1) := by decide +kernel
theorem dX1_neverFalls_26 : decode cX1_neverFalls 26 = .ok (.ireturn, 1) := by decide +kernel
theorem dX1_neverFalls_27 : decode cX1_neverFalls 27 = .ok (.iinc 1 1, 3) := by decide +kernel
theorem dX1_neverFalls_30 : decode cX1_neverFalls 30 = .ok (.goto (-28), 3) := by decide +kernel
theorem dX1_neverFalls_33 : decode cX1_neverFalls 33 = .ok (.iconst 1, 1) := by decide +kernel
theorem dX1_neverFalls_34 : decode cX1_neverFalls 34 = .ok (.ireturn, 1) := by decide +kernel
set_option maxRecDepth 20000 in
theorem ggX1_classesOf_X1_bit : GoodIn wsX1_classesOf wsX1_bit := goodIn_r _ [4] (by decide +kernel) (by decide +kernel)
set_option maxRecDepth 20000 in
theorem gX1_classesOf_X1_bit : GoodIn wsX1_classesOf (va_wsS RX1 121 yX1_bit wsX1_bit) := goodIn_app (goodIn_of _ (by decide +kernel)) ggX1_classesOf_X1_bit
set_option maxRecDepth 20000 in
theorem ggX1_classesOf_X1_hasOppositeEnds : GoodIn wsX1_classesOf wsX1_hasOppositeEnds := goodIn_r _ [7, 1, 2, 3, 4] (by decide +kernel) (by decide +kernel)
set_option maxRecDepth 20000 in
theorem gX1_classesOf_X1_hasOppositeEnds : GoodIn wsX1_classesOf (va_wsS RX1 153 yX1_hasOppositeEnds wsX1_hasOppositeEnds) := goodIn_app (goodIn_of _ (by decide +kernel)) ggX1_classesOf_X1_hasOppositeEnds
set_option maxRecDepth 20000 in
theorem ggX1_classesOf_X1_neverFalls : GoodIn wsX1_classesOf wsX1_neverFalls := goodIn_r _ [10, 11, 12, 3, 13, 14] (by decide +kernel) (by decide +kernel)
set_option maxRecDepth 20000 in
theorem gX1_classesOf_X1_neverFalls : GoodIn wsX1_classesOf (va_wsS RX1 157 yX1_neverFalls wsX1_neverFalls) := goodIn_app (goodIn_of _ (by decide +kernel)) ggX1_classesOf_X1_neverFalls
set_option maxRecDepth 20000 in
theorem ggX1_classesOf_X1_degree : GoodIn wsX1_classesOf wsX1_degree := goodIn_r _ [17, 18, 19, 20, 21, 22, 23, 3, 24, 14, 1, 2, 4, 25, 26, 27, 28, 29, 30, 31] (by decide +kernel) (by decide +kernel)
set_option maxRecDepth 20000 in
theorem gX1_classesOf_X1_degree : GoodIn wsX1_classesOf (va_wsS RX1 128 yX1_degree wsX1_degree) := goodIn_app (goodIn_of _ (by decide +kernel)) ggX1_classesOf_X1_degree
theorem dX1_classesOf_0 : decode cX1_classesOf 0 = .ok (.iconst 0, 1) := by decide +kernel
theorem dX1_classesOf_1 : decode cX1_classesOf 1 = .ok (.istore_n 1, 1) := by decide +kernel
theorem dX1_classesOf_2 : decode cX1_classesOf 2 = .ok (.iload_n 0, 1) := by decide +kernel
theorem dX1_classesOf_3 : decode cX1_classesOf 3 = .ok (.iconst 0, 1) := by decide +kernel
theorem dX1_classesOf_4 : decode cX1_classesOf 4 = .ok (.invokestatic 121, 3) := by decide +kernel
theorem dX1_classesOf_7 : decode cX1_classesOf 7 = .ok (.ifCond .ne 7, 3) := by decide +kernel
theorem dX1_classesOf_10 : decode cX1_classesOf 10 = .ok (.iload_n 1, 1) := by decide +kernel
theorem dX1_classesOf_11 : decode cX1_classesOf 11 = .ok (.iconst 1, 1) := by decide +kernel
theorem dX1_classesOf_12 : decode cX1_classesOf 12 = .ok (.ior, 1) := by decide +kernel
theorem dX1_classesOf_13 : decode cX1_classesOf 13 = .ok (.istore_n 1, 1) := by decide +kernel
theorem dX1_classesOf_14 : decode cX1_classesOf 14 = .ok (.iload_n 0, 1) := by decide +kernel
theorem dX1_classesOf_15 : decode cX1_classesOf 15 = .ok (.bipush 15, 2) := by decide +kernel
theorem dX1_classesOf_17 : decode cX1_classesOf 17 = .ok (.invokestatic 121, 3) := by decide +kernel
theorem dX1_classesOf_20 : decode cX1_classesOf 20 = .ok (.iconst 1, 1) := by decide +kernel
theorem dX1_classesOf_21 : decode cX1_classesOf 21 = .ok (.if_icmp .ne 7, 3) := by decide +kernel
theorem dX1_classesOf_24 : decode cX1_classesOf 24 = .ok (.iload_n 1, 1) := by decide +kernel
theorem dX1_classesOf_25 : decode cX1_classesOf 25 = .ok (.iconst 2, 1) := by decide +kernel
theorem dX1_classesOf_26 : decode cX1_classesOf 26 = .ok (.ior, 1) := by decide +kernel
theorem dX1_classesOf_27 : decode cX1_classesOf 27 = .ok (.istore_n 1, 1) := by decide +kernel
theorem dX1_classesOf_28 : decode cX1_classesOf 28 = .ok (.iload_n 0, 1) := by decide +kernel
theorem dX1_classesOf_29 : decode cX1_classesOf 29 = .ok (.invokestatic 153, 3) := by decide +kernel
theorem dX1_classesOf_32 : decode cX1_classesOf 32 = .ok (.ifCond .eq 7, 3) := by decide +kernel
theorem dX1_classesOf_35 : decode cX1_classesOf 35 = .ok (.iload_n 1, 1) := by decide +kernel
theorem dX1_classesOf_36 : decode cX1_classesOf 36 = .ok (.iconst 4, 1) := by decide +kernel
theorem dX1_classesOf_37 : decode cX1_classesOf 37 = .ok (.ior, 1) := by decide +kernel
theorem dX1_classesOf_38 : decode cX1_classesOf 38 = .ok (.istore_n 1, 1) := by decide +kernel
theorem dX1_classesOf_39 : decode cX1_classesOf 39 = .ok (.iload_n 0, 1) := by decide +kernel
theorem dX1_classesOf_40 : decode cX1_classesOf 40 = .ok (.invokestatic 157, 3) := by decide +kernel
theorem dX1_classesOf_43 : decode cX1_classesOf 43 = .ok (.ifCond .eq 8, 3) := by decide +kernel
theorem dX1_classesOf_46 : decode cX1_classesOf 46 = .ok (.iload_n 1, 1) := by decide +kernel
theorem dX1_classesOf_47 : decode cX1_classesOf 47 = .ok (.bipush 8, 2) := by decide +kernel
theorem dX1_classesOf_49 : decode cX1_classesOf 49 = .ok (.ior, 1) := by decide +kernel
theorem dX1_classesOf_50 : decode cX1_classesOf 50 = .ok (.istore_n 1, 1) := by decide +kernel
theorem dX1_classesOf_51 : decode cX1_classesOf 51 = .ok (.iload_n 0, 1) := by decide +kernel
theorem dX1_classesOf_52 : decode cX1_classesOf 52 = .ok (.invokestatic 128, 3) := by decide +kernel
theorem dX1_classesOf_55 : decode cX1_classesOf 55 = .ok (.iconst 1, 1) := by decide +kernel
theorem dX1_classesOf_56 : decode cX1_classesOf 56 = .ok (.if_icmp .gt 8, 3) := by decide +kernel
theorem dX1_classesOf_59 : decode cX1_classesOf 59 = .ok (.iload_n 1, 1) := by decide +kernel
theorem dX1_classesOf_60 : decode cX1_classesOf 60 = .ok (.bipush 16, 2) := by decide +kernel
theorem dX1_classesOf_62 : decode cX1_classesOf 62 = .ok (.ior, 1) := by decide +kernel
theorem dX1_classesOf_63 : decode cX1_classesOf 63 = .ok (.istore_n 1, 1) := by decide +kernel
theorem dX1_classesOf_64 : decode cX1_classesOf 64 = .ok (.iload_n 1, 1) := by decide +kernel
theorem dX1_classesOf_65 : decode cX1_classesOf 65 = .ok (.ireturn, 1) := by decide +kernel
set_option maxRecDepth 20000 in
theorem ggX1_sharedClasses_X1_bit : GoodIn wsX1_sharedClasses wsX1_bit := goodIn_r _ [5] (by decide +kernel) (by decide +kernel)
set_option maxRecDepth 20000 in
theorem gX1_sharedClasses_X1_bit : GoodIn wsX1_sharedClasses (va_wsS RX1 121 yX1_bit wsX1_bit) := goodIn_app (goodIn_of _ (by decide +kernel)) ggX1_sharedClasses_X1_bit
set_option maxRecDepth 20000 in
theorem ggX1_sharedClasses_X1_classesOf : GoodIn wsX1_sharedClasses wsX1_classesOf := goodIn_r _ [8, 2, 3, 4, 5, 9, 10, 11, 12, 13, 14, 15, 16, 17, 18, 19, 20, 21, 22, 23, 24, 25, 26, 27, 28, 29, 30, 31, 32, 33, 34, 35] (by decide +kernel) (by decide +kernel)
set_option maxRecDepth 20000 in
theorem gX1_sharedClasses_X1_classesOf : GoodIn wsX1_sharedClasses (va_wsS RX1 174 yX1_classesOf wsX1_classesOf) := goodIn_app (goodIn_of _ (by decide +kernel)) ggX1_sharedClasses_X1_classesOf
theorem dX1_sharedClasses_0 : decode cX1_sharedClasses 0 = .ok (.bipush 31, 2) := by decide +kernel
theorem dX1_sharedClasses_2 : decode cX1_sharedClasses 2 = .ok (.istore_n 2, 1) := by decide +kernel
theorem dX1_sharedClasses_3 : decode cX1_sharedClasses 3 = .ok (.iconst 0, 1) := by decide +kernel
theorem dX1_sharedClasses_4 : decode cX1_sharedClasses 4 = .ok (.istore_n 3, 1) := by decide +kernel
theorem dX1_sharedClasses_5 : decode cX1_sharedClasses 5 = .ok (.iload_n 3, 1) := by decide +kernel
theorem dX1_sharedClasses_6 : decode cX1_sharedClasses 6 = .ok (.bipush 6, 2) := by decide +kernel
theorem dX1_sharedClasses_8 : decode cX1_sharedClasses 8 = .ok (.if_icmp .ge 30, 3) := by decide +kernel
theorem dX1_sharedClasses_11 : decode cX1_sharedClasses 11 = .ok (.iload_n 1, 1) := by decide +kernel
theorem dX1_sharedClasses_12 : decode cX1_sharedClasses 12 = .ok (.iload_n 3, 1) := by decide +kernel
theorem dX1_sharedClasses_13 : decode cX1_sharedClasses 13 = .ok (.invokestatic 121, 3) := by decide +kernel
theorem dX1_sharedClasses_16 : decode cX1_sharedClasses 16 = .ok (.iconst 1, 1) := by decide +kernel
theorem dX1_sharedClasses_17 : decode cX1_sharedClasses 17 = .ok (.if_icmp .ne 15, 3) := by decide +kernel
theorem dX1_sharedClasses_20 : decode cX1_sharedClasses 20 = .ok (.iload_n 2, 1) := by decide +kernel
theorem dX1_sharedClasses_21 : decode cX1_sharedClasses 21 = .ok (.aload_n 0, 1) := by decide +kernel
theorem dX1_sharedClasses_22 : decode cX1_sharedClasses 22 = .ok (.getfield 9, 3) := by decide +kernel
theorem dX1_sharedClasses_25 : decode cX1_sharedClasses 25 = .ok (.iload_n 3, 1) := by decide +kernel
theorem dX1_sharedClasses_26 : decode cX1_sharedClasses 26 = .ok (.iaload, 1) := by decide +kernel
theorem dX1_sharedClasses_27 : decode cX1_sharedClasses 27 = .ok (.invokestatic 174, 3) := by decide +kernel
theorem dX1_sharedClasses_30 : decode cX1_sharedClasses 30 = .ok (.iand, 1) := by decide +kernel
theorem dX1_sharedClasses_31 : decode cX1_sharedClasses 31 = .ok (.istore_n 2, 1) := by decide +kernel
theorem dX1_sharedClasses_32 : decode cX1_sharedClasses 32 = .ok (.iinc 3 1, 3) := by decide +kernel
theorem dX1_sharedClasses_35 : decode cX1_sharedClasses 35 = .ok (.goto (-30), 3) := by decide +kernel
theorem dX1_sharedClasses_38 : decode cX1_sharedClasses 38 = .ok (.iload_n 2, 1) := by decide +kernel
theorem dX1_sharedClasses_39 : decode cX1_sharedClasses 39 = .ok (.ireturn, 1) := by decide +kernel
set_option maxRecDepth 20000 in
theorem ggX1_print_X1_put : GoodIn wsX1_print wsX1_put := goodIn_r _ [6, 1, 7, 15, 16, 17, 18, 19, 20, 21, 22, 23, 24, 25] (by decide +kernel) (by decide +kernel)
set_option maxRecDepth 20000 in
theorem gX1_print_X1_put : GoodIn wsX1_print (wsV RX1 177 RX1 yX1_put wsX1_put) := goodIn_app (goodIn_of _ (by decide +kernel)) ggX1_print_X1_put
set_option maxRecDepth 20000 in
theorem ggX1_print_X1_bit : GoodIn wsX1_print wsX1_bit := goodIn_r _ [10] (by decide +kernel) (by decide +kernel)
set_option maxRecDepth 20000 in
theorem gX1_print_X1_bit : GoodIn wsX1_print (va_wsS RX1 121 yX1_bit wsX1_bit) := goodIn_app (goodIn_of _ (by decide +kernel)) ggX1_print_X1_bit
set_option maxRecDepth 20000 in
theorem ggX1_print_X1_printProduct : GoodIn wsX1_print wsX1_printProduct := goodIn_r _ [14, 2, 3, 4, 5, 6, 1, 7, 8, 9, 10, 15, 16, 17, 18, 19, 20, 21, 22, 23, 24, 25] (by decide +kernel) (by decide +kernel)
set_option maxRecDepth 20000 in
theorem gX1_print_X1_printProduct : GoodIn wsX1_print (wsV RX1 181 RX1 yX1_printProduct wsX1_printProduct) := goodIn_app (goodIn_of _ (by decide +kernel)) ggX1_print_X1_printProduct
theorem dX1_print_0 : decode cX1_print 0 = .ok (.aload_n 0, 1) := by decide +kernel
theorem dX1_print_1 : decode cX1_print 1 = .ok (.iconst 0, 1) := by decide +kernel
theorem dX1_print_2 : decode cX1_print 2 = .ok (.putfield 47, 3) := by decide +kernel
theorem dX1_print_5 : decode cX1_print 5 = .ok (.iload_n 1, 1) := by decide +kernel
theorem dX1_print_6 : decode cX1_print 6 = .ok (.ifCond .ne 9, 3) := by decide +kernel
theorem dX1_print_9 : decode cX1_print 9 = .ok (.aload_n 0, 1) := by decide +kernel
theorem dX1_print_10 : decode cX1_print 10 = .ok (.bipush 48, 2) := by decide +kernel
theorem dX1_print_12 : decode cX1_print 12 = .ok (.invokevirtual 177, 3) := by decide +kernel
theorem dX1_print_15 : decode cX1_print 15 = .ok (.iconst 0, 1) := by decide +kernel
theorem dX1_print_16 : decode cX1_print 16 = .ok (.istore_n 2, 1) := by decide +kernel
theorem dX1_print_17 : decode cX1_print 17 = .ok (.iload_n 2, 1) := by decide +kernel
theorem dX1_print_18 : decode cX1_print 18 = .ok (.bipush 16, 2) := by decide +kernel
theorem dX1_print_20 : decode cX1_print 20 = .ok (.if_icmp .ge 36, 3) := by decide +kernel
theorem dX1_print_23 : decode cX1_print 23 = .ok (.iload_n 1, 1) := by decide +kernel
theorem dX1_print_24 : decode cX1_print 24 = .ok (.iload_n 2, 1) := by decide +kernel
theorem dX1_print_25 : decode cX1_print 25 = .ok (.invokestatic 121, 3) := by decide +kernel
theorem dX1_print_28 : decode cX1_print 28 = .ok (.iconst 1, 1) := by decide +kernel
theorem dX1_print_29 : decode cX1_print 29 = .ok (.if_icmp .ne 21, 3) := by decide +kernel
theorem dX1_print_32 : decode cX1_print 32 = .ok (.aload_n 0, 1) := by decide +kernel
theorem dX1_print_33 : decode cX1_print 33 = .ok (.getfield 47, 3) := by decide +kernel
theorem dX1_print_36 : decode cX1_print 36 = .ok (.ifCond .le 9, 3) := by decide +kernel
theorem dX1_print_39 : decode cX1_print 39 = .ok (.aload_n 0, 1) := by decide +kernel
theorem dX1_print_40 : decode cX1_print 40 = .ok (.bipush 43, 2) := by decide +kernel
theorem dX1_print_42 : decode cX1_print 42 = .ok (.invokevirtual 177, 3) := by decide +kernel
theorem dX1_print_45 : decode cX1_print 45 = .ok (.aload_n 0, 1) := by decide +kernel
theorem dX1_print_46 : decode cX1_print 46 = .ok (.iload_n 2, 1) := by decide +kernel
theorem dX1_print_47 : decode cX1_print 47 = .ok (.invokevirtual 181, 3) := by decide +kernel
theorem dX1_print_50 : decode cX1_print 50 = .ok (.iinc 2 1, 3) := by decide +kernel
theorem dX1_print_53 : decode cX1_print 53 = .ok (.goto (-36), 3) := by decide +kernel
theorem dX1_print_56 : decode cX1_print 56 = .ok (.return_, 1) := by decide +kernel
set_option maxRecDepth 20000 in
theorem ggX1_printProduct_X1_put : GoodIn wsX1_printProduct wsX1_put := goodIn_r _ [5, 6, 7, 11, 12, 13, 14, 15, 16, 17, 18, 19, 20, 21] (by decide +kernel) (by decide +kernel)
set_option maxRecDepth 20000 in
theorem gX1_printProduct_X1_put : GoodIn wsX1_printProduct (wsV RX1 177 RX1 yX1_put wsX1_put) := goodIn_app (goodIn_of _ (by decide +kernel)) ggX1_printProduct_X1_put
set_option maxRecDepth 20000 in
theorem ggX1_printProduct_X1_bit : GoodIn wsX1_printProduct wsX1_bit := goodIn_r _ [10] (by decide +kernel) (by decide +kernel)
set_option maxRecDepth 20000 in
theorem gX1_printProduct_X1_bit : GoodIn wsX1_printProduct (va_wsS RX1 121 yX1_bit wsX1_bit) := goodIn_app (goodIn_of _ (by decide +kernel)) ggX1_printProduct_X1_bit
theorem dX1_printProduct_0 : decode cX1_printProduct 0 = .ok (.iload_n 1, 1) := by decide +kernel
theorem dX1_printProduct_1 : decode cX1_printProduct 1 = .ok (.ifCond .ne 9, 3) := by decide +kernel
theorem dX1_printProduct_4 : decode cX1_printProduct 4 = .ok (.aload_n 0, 1) := by decide +kernel
theorem dX1_printProduct_5 : decode cX1_printProduct 5 = .ok (.bipush 49, 2) := by decide +kernel
theorem dX1_printProduct_7 : decode cX1_printProduct 7 = .ok (.invokevirtual 177, 3) := by decide +kernel
theorem dX1_printProduct_10 : decode cX1_printProduct 10 = .ok (.iconst 0, 1) := by decide +kernel
theorem dX1_printProduct_11 : decode cX1_printProduct 11 = .ok (.istore_n 2, 1) := by decide +kernel
theorem dX1_printProduct_12 : decode cX1_printProduct 12 = .ok (.iload_n 2, 1) := by decide +kernel
theorem dX1_printProduct_13 : decode cX1_printProduct 13 = .ok (.iconst 4, 1) := by decide +kernel
theorem dX1_printProduct_14 : decode cX1_printProduct 14 = .ok (.if_icmp .ge 27, 3) := by decide +kernel
theorem dX1_printProduct_17 : decode cX1_printProduct 17 = .ok (.iload_n 1, 1) := by decide +kernel
theorem dX1_printProduct_18 : decode cX1_printProduct 18 = .ok (.iload_n 2, 1) := by decide +kernel
theorem dX1_printProduct_19 : decode cX1_printProduct 19 = .ok (.invokestatic 121, 3) := by decide +kernel
theorem dX1_printProduct_22 : decode cX1_printProduct 22 = .ok (.iconst 1, 1) := by decide +kernel
theorem dX1_printProduct_23 : decode cX1_printProduct 23 = .ok (.if_icmp .ne 12, 3) := by decide +kernel
theorem dX1_printProduct_26 : decode cX1_printProduct 26 = .ok (.aload_n 0, 1) := by decide +kernel
theorem dX1_printProduct_27 : decode cX1_printProduct 27 = .ok (.bipush 97, 2) := by decide +kernel
theorem dX1_printProduct_29 : decode cX1_printProduct 29 = .ok (.iload_n 2, 1) := by decide +kernel
theorem dX1_printProduct_30 : decode cX1_printProduct 30 = .ok (.iadd, 1) := by decide +kernel
theorem dX1_printProduct_31 : decode cX1_printProduct 31 = .ok (.i2c, 1) := by decide +kernel
theorem dX1_printProduct_32 : decode cX1_printProduct 32 = .ok (.invokevirtual 177, 3) := by decide +kernel
theorem dX1_printProduct_35 : decode cX1_printProduct 35 = .ok (.iinc 2 1, 3) := by decide +kernel
theorem dX1_printProduct_38 : decode cX1_printProduct 38 = .ok (.goto (-26), 3) := by decide +kernel
theorem dX1_printProduct_41 : decode cX1_printProduct 41 = .ok (.return_, 1) := by decide +kernel
theorem dX1_put_0 : decode cX1_put 0 = .ok (.aload_n 0, 1) := by decide +kernel
theorem dX1_put_1 : decode cX1_put 1 = .ok (.getfield 47, 3) := by decide +kernel
theorem dX1_put_4 : decode cX1_put 4 = .ok (.bipush 48, 2) := by decide +kernel
theorem dX1_put_6 : decode cX1_put 6 = .ok (.if_icmp .ge 23, 3) := by decide +kernel
theorem dX1_put_9 : decode cX1_put 9 = .ok (.aload_n 0, 1) := by decide +kernel
theorem dX1_put_10 : decode cX1_put 10 = .ok (.getfield 44, 3) := by decide +kernel
theorem dX1_put_13 : decode cX1_put 13 = .ok (.aload_n 0, 1) := by decide +kernel
theorem dX1_put_14 : decode cX1_put 14 = .ok (.getfield 47, 3) := by decide +kernel
theorem dX1_put_17 : decode cX1_put 17 = .ok (.iload_n 1, 1) := by decide +kernel
theorem dX1_put_18 : decode cX1_put 18 = .ok (.castore, 1) := by decide +kernel
theorem dX1_put_19 : decode cX1_put 19 = .ok (.aload_n 0, 1) := by decide +kernel
theorem dX1_put_20 : decode cX1_put 20 = .ok (.dup, 1) := by decide +kernel
theorem dX1_put_21 : decode cX1_put 21 = .ok (.getfield 47, 3) := by decide +kernel
theorem dX1_put_24 : decode cX1_put 24 = .ok (.iconst 1, 1) := by decide +kernel
theorem dX1_put_25 : decode cX1_put 25 = .ok (.iadd, 1) := by decide +kernel
theorem dX1_put_26 : decode cX1_put 26 = .ok (.putfield 47, 3) := by decide +kernel
theorem dX1_put_29 : decode cX1_put 29 = .ok (.return_, 1) := by decide +kernel
set_option maxRecDepth 20000 in
theorem ggX2_init_X2_variable : GoodIn wsX2_init wsX2_variable := goodIn_r _ [13] (by decide +kernel) (by decide +kernel)
set_option maxRecDepth 20000 in
theorem gX2_init_X2_variable : GoodIn wsX2_init (va_wsS RX2 22 yX2_variable wsX2_variable) := goodIn_app (goodIn_of _ (by decide +kernel)) ggX2_init_X2_variable
theorem dX2_init_0 : decode cX2_init 0 = .ok (.aload_n 0, 1) := by decide +kernel
theorem dX2_init_1 : decode cX2_init 1 = .ok (.invokespecial 1, 3) := by decide +kernel
theorem dX2_init_4 : decode cX2_init 4 = .ok (.aload_n 0, 1) := by decide +kernel
theorem dX2_init_5 : decode cX2_init 5 = .ok (.bipush 6, 2) := by decide +kernel
theorem dX2_init_7 : decode cX2_init 7 = .ok (.newarray .int, 2) := by decide +kernel
theorem dX2_init_9 : decode cX2_init 9 = .ok (.putfield 7, 3) := by decide +kernel
theorem dX2_init_12 : decode cX2_init 12 = .ok (.aload_n 0, 1) := by decide +kernel
theorem dX2_init_13 : decode cX2_init 13 = .ok (.bipush 24, 2) := by decide +kernel
theorem dX2_init_15 : decode cX2_init 15 = .ok (.newarray .int, 2) := by decide +kernel
theorem dX2_init_17 : decode cX2_init 17 = .ok (.putfield 13, 3) := by decide +kernel
theorem dX2_init_20 : decode cX2_init 20 = .ok (.aload_n 0, 1) := by decide +kernel
theorem dX2_init_21 : decode cX2_init 21 = .ok (.bipush 6, 2) := by decide +kernel
theorem dX2_init_23 : decode cX2_init 23 = .ok (.newarray .int, 2) := by decide +kernel
theorem dX2_init_25 : decode cX2_init 25 = .ok (.putfield 16, 3) := by decide +kernel
theorem dX2_init_28 : decode cX2_init 28 = .ok (.aload_n 0, 1) := by decide +kernel
theorem dX2_init_29 : decode cX2_init 29 = .ok (.bipush 80, 2) := by decide +kernel
theorem dX2_init_31 : decode cX2_init 31 = .ok (.newarray .int, 2) := by decide +kernel
theorem dX2_init_33 : decode cX2_init 33 = .ok (.putfield 19, 3) := by decide +kernel
theorem dX2_init_36 : decode cX2_init 36 = .ok (.iconst 0, 1) := by decide +kernel
theorem dX2_init_37 : decode cX2_init 37 = .ok (.istore_n 1, 1) := by decide +kernel
theorem dX2_init_38 : decode cX2_init 38 = .ok (.iload_n 1, 1) := by decide +kernel
theorem dX2_init_39 : decode cX2_init 39 = .ok (.iconst 4, 1) := by decide +kernel
theorem dX2_init_40 : decode cX2_init 40 = .ok (.if_icmp .ge 19, 3) := by decide +kernel
theorem dX2_init_43 : decode cX2_init 43 = .ok (.aload_n 0, 1) := by decide +kernel
theorem dX2_init_44 : decode cX2_init 44 = .ok (.getfield 7, 3) := by decide +kernel
theorem dX2_init_47 : decode cX2_init 47 = .ok (.iload_n 1, 1) := by decide +kernel
theorem dX2_init_48 : decode cX2_init 48 = .ok (.iload_n 1, 1) := by decide +kernel
theorem dX2_init_49 : decode cX2_init 49 = .ok (.invokestatic 22, 3) := by decide +kernel
theorem dX2_init_52 : decode cX2_init 52 = .ok (.iastore, 1) := by decide +kernel
theorem dX2_init_53 : decode cX2_init 53 = .ok (.iinc 1 1, 3) := by decide +kernel
theorem dX2_init_56 : decode cX2_init 56 = .ok (.goto (-18), 3) := by decide +kernel
theorem dX2_init_59 : decode cX2_init 59 = .ok (.aload_n 0, 1) := by decide +kernel
theorem dX2_init_60 : decode cX2_init 60 = .ok (.getfield 7, 3) := by decide +kernel
theorem dX2_init_63 : decode cX2_init 63 = .ok (.iconst 5, 1) := by decide +kernel
theorem dX2_init_64 : decode cX2_init 64 = .ok (.ldc 26, 2) := by decide +kernel
theorem dX2_init_66 : decode cX2_init 66 = .ok (.iastore, 1) := by decide +kernel
theorem dX2_init_67 : decode cX2_init 67 = .ok (.return_, 1) := by decide +kernel
theorem dX2_thrown_0 : decode cX2_thrown 0 = .ok (.aload_n 0, 1) := by decide +kernel
theorem dX2_thrown_1 : decode cX2_thrown 1 = .ok (.getfield 27, 3) := by decide +kernel
theorem dX2_thrown_4 : decode cX2_thrown 4 = .ok (.ireturn, 1) := by decide +kernel
theorem dX2_fails_0 : decode cX2_fails 0 = .ok (.aload_n 0, 1) := by decide +kernel
theorem dX2_fails_1 : decode cX2_fails 1 = .ok (.iload_n 1, 1) := by decide +kernel
theorem dX2_fails_2 : decode cX2_fails 2 = .ok (.putfield 27, 3) := by decide +kernel
theorem dX2_fails_5 : decode cX2_fails 5 = .ok (.iconst 0, 1) := by decide +kernel
theorem dX2_fails_6 : decode cX2_fails 6 = .ok (.ireturn, 1) := by decide +kernel
theorem dX2_in_0 : decode cX2_in 0 = .ok (.iload_n 0, 1) := by decide +kernel
theorem dX2_in_1 : decode cX2_in 1 = .ok (.iload_n 1, 1) := by decide +kernel
theorem dX2_in_2 : decode cX2_in 2 = .ok (.if_icmp .lt 12, 3) := by decide +kernel
theorem dX2_in_5 : decode cX2_in 5 = .ok (.iload_n 0, 1) := by decide +kernel
theorem dX2_in_6 : decode cX2_in 6 = .ok (.iload_n 2, 1) := by decide +kernel
theorem dX2_in_7 : decode cX2_in 7 = .ok (.if_icmp .gt 7, 3) := by decide +kernel
theorem dX2_in_10 : decode cX2_in 10 = .ok (.iconst 1, 1) := by decide +kernel
theorem dX2_in_11 : decode cX2_in 11 = .ok (.goto 4, 3) := by decide +kernel
theorem dX2_in_14 : decode cX2_in 14 = .ok (.iconst 0, 1) := by decide +kernel
theorem dX2_in_15 : decode cX2_in 15 = .ok (.ireturn, 1) := by decide +kernel
set_option maxRecDepth 20000 in
theorem ggX2_isOne_X2_in : GoodIn wsX2_isOne wsX2_in := goodIn_r _ [4] (by decide +kernel) (by decide +kernel)
set_option maxRecDepth 20000 in
theorem gX2_isOne_X2_in : GoodIn wsX2_isOne (va_wsS RX2 31 yX2_in wsX2_in) := goodIn_app (goodIn_of _ (by decide +kernel)) ggX2_isOne_X2_in
theorem dX2_isOne_0 : decode cX2_isOne 0 = .ok (.iload_n 0, 1) := by decide +kernel
theorem dX2_isOne_1 : decode cX2_isOne 1 = .ok (.iconst 0, 1) := by decide +kernel
theorem dX2_isOne_2 : decode cX2_isOne 2 = .ok (.iconst 5, 1) := by decide +kernel
theorem dX2_isOne_3 : decode cX2_isOne 3 = .ok (.invokestatic 31, 3) := by decide +kernel
theorem dX2_isOne_6 : decode cX2_isOne 6 = .ok (.ireturn, 1) := by decide +kernel
theorem dX2_variable_0 : decode cX2_variable 0 = .ok (.iconst 0, 1) := by decide +kernel
theorem dX2_variable_1 : decode cX2_variable 1 = .ok (.istore_n 1, 1) := by decide +kernel
theorem dX2_variable_2 : decode cX2_variable 2 = .ok (.iconst 0, 1) := by decide +kernel
theorem dX2_variable_3 : decode cX2_variable 3 = .ok (.istore_n 2, 1) := by decide +kernel
theorem dX2_variable_4 : decode cX2_variable 4 = .ok (.iload_n 2, 1) := by decide +kernel
theorem dX2_variable_5 : decode cX2_variable 5 = .ok (.bipush 16, 2) := by decide +kernel
theorem dX2_variable_7 : decode cX2_variable 7 = .ok (.if_icmp .ge 19, 3) := by decide +kernel
theorem dX2_variable_10 : decode cX2_variable 10 = .ok (.iload_n 1, 1) := by decide +kernel
theorem dX2_variable_11 : decode cX2_variable 11 = .ok (.iload_n 2, 1) := by decide +kernel
theorem dX2_variable_12 : decode cX2_variable 12 = .ok (.iload_n 0, 1) := by decide +kernel
theorem dX2_variable_13 : decode cX2_variable 13 = .ok (.ishr, 1) := by decide +kernel
theorem dX2_variable_14 : decode cX2_variable 14 = .ok (.iconst 1, 1) := by decide +kernel
theorem dX2_variable_15 : decode cX2_variable 15 = .ok (.iand, 1) := by decide +kernel
theorem dX2_variable_16 : decode cX2_variable 16 = .ok (.iload_n 2, 1) := by decide +kernel
theorem dX2_variable_17 : decode cX2_variable 17 = .ok (.ishl, 1) := by decide +kernel
theorem dX2_variable_18 : decode cX2_variable 18 = .ok (.ior, 1) := by decide +kernel
theorem dX2_variable_19 : decode cX2_variable 19 = .ok (.istore_n 1, 1) := by decide +kernel
theorem dX2_variable_20 : decode cX2_variable 20 = .ok (.iinc 2 1, 3) := by decide +kernel
theorem dX2_variable_23 : decode cX2_variable 23 = .ok (.goto (-19), 3) := by decide +kernel
theorem dX2_variable_26 : decode cX2_variable 26 = .ok (.iload_n 1, 1) := by decide +kernel
theorem dX2_variable_27 : decode cX2_variable 27 = .ok (.ireturn, 1) := by decide +kernel
theorem dX2_bits_0 : decode cX2_bits 0 = .ok (.iconst 0, 1) := by decide +kernel
theorem dX2_bits_1 : decode cX2_bits 1 = .ok (.istore_n 1, 1) := by decide +kernel
theorem dX2_bits_2 : decode cX2_bits 2 = .ok (.iconst 0, 1) := by decide +kernel
theorem dX2_bits_3 : decode cX2_bits 3 = .ok (.istore_n 2, 1) := by decide +kernel
theorem dX2_bits_4 : decode cX2_bits 4 = .ok (.iload_n 2, 1) := by decide +kernel
theorem dX2_bits_5 : decode cX2_bits 5 = .ok (.bipush 16, 2) := by decide +kernel
theorem dX2_bits_7 : decode cX2_bits 7 = .ok (.if_icmp .ge 17, 3) := by decide +kernel
theorem dX2_bits_10 : decode cX2_bits 10 = .ok (.iload_n 1, 1) := by decide +kernel
theorem dX2_bits_11 : decode cX2_bits 11 = .ok (.iload_n 0, 1) := by decide +kernel
theorem dX2_bits_12 : decode cX2_bits 12 = .ok (.iload_n 2, 1) := by decide +kernel
theorem dX2_bits_13 : decode cX2_bits 13 = .ok (.ishr, 1) := by decide +kernel
theorem dX2_bits_14 : decode cX2_bits 14 = .ok (.iconst 1, 1) := by decide +kernel
theorem dX2_bits_15 : decode cX2_bits 15 = .ok (.iand, 1) := by decide +kernel
theorem dX2_bits_16 : decode cX2_bits 16 = .ok (.iadd, 1) := by decide +kernel
theorem dX2_bits_17 : decode cX2_bits 17 = .ok (.istore_n 1, 1) := by decide +kernel
theorem dX2_bits_18 : decode cX2_bits 18 = .ok (.iinc 2 1, 3) := by decide +kernel
theorem dX2_bits_21 : decode cX2_bits 21 = .ok (.goto (-17), 3) := by decide +kernel
theorem dX2_bits_24 : decode cX2_bits 24 = .ok (.iload_n 1, 1) := by decide +kernel
theorem dX2_bits_25 : decode cX2_bits 25 = .ok (.ireturn, 1) := by decide +kernel
theorem dX2_copies_0 : decode cX2_copies 0 = .ok (.iconst 0, 1) := by decide +kernel
theorem dX2_copies_1 : decode cX2_copies 1 = .ok (.istore 4, 2) := by decide +kernel
theorem dX2_copies_3 : decode cX2_copies 3 = .ok (.iload 4, 2) := by decide +kernel
theorem dX2_copies_5 : decode cX2_copies 5 = .ok (.bipush 6, 2) := by decide +kernel
theorem dX2_copies_7 : decode cX2_copies 7 = .ok (.if_icmp .ge 21, 3) := by decide +kernel
theorem dX2_copies_10 : decode cX2_copies 10 = .ok (.aload_n 2, 1) := by decide +kernel
theorem dX2_copies_11 : decode cX2_copies 11 = .ok (.iload_n 3, 1) := by decide +kernel
theorem dX2_copies_12 : decode cX2_copies 12 = .ok (.iload 4, 2) := by decide +kernel
theorem dX2_copies_14 : decode cX2_copies 14 = .ok (.iadd, 1) := by decide +kernel
theorem dX2_copies_15 : decode cX2_copies 15 = .ok (.aload_n 0, 1) := by decide +kernel
theorem dX2_copies_16 : decode cX2_copies 16 = .ok (.iload_n 1, 1) := by decide +kernel
theorem dX2_copies_17 : decode cX2_copies 17 = .ok (.iload 4, 2) := by decide +kernel
theorem dX2_copies_19 : decode cX2_copies 19 = .ok (.iadd, 1) := by decide +kernel
theorem dX2_copies_20 : decode cX2_copies 20 = .ok (.iaload, 1) := by decide +kernel
theorem dX2_copies_21 : decode cX2_copies 21 = .ok (.iastore, 1) := by decide +kernel
theorem dX2_copies_22 : decode cX2_copies 22 = .ok (.iinc 4 1, 3) := by decide +kernel
theorem dX2_copies_25 : decode cX2_copies 25 = .ok (.goto (-22), 3) := by decide +kernel
theorem dX2_copies_28 : decode cX2_copies 28 = .ok (.return_, 1) := by decide +kernel
set_option maxRecDepth 20000 in
theorem ggX2_records_X2_copies : GoodIn wsX2_records wsX2_copies := goodIn_r _ [7] (by decide +kernel) (by decide +kernel)
set_option maxRecDepth 20000 in
theorem gX2_records_X2_copies : GoodIn wsX2_records (va_wsS RX2 38 yX2_copies wsX2_copies) := goodIn_app (goodIn_of _ (by decide +kernel)) ggX2_records_X2_copies
theorem dX2_records_0 : decode cX2_records 0 = .ok (.aload_n 0, 1) := by decide +kernel
theorem dX2_records_1 : decode cX2_records 1 = .ok (.getfield 35, 3) := by decide +kernel
theorem dX2_records_4 : decode cX2_records 4 = .ok (.iconst 4, 1) := by decide +kernel
theorem dX2_records_5 : decode cX2_records 5 = .ok (.if_icmp .ne 42, 3) := by decide +kernel
theorem dX2_records_8 : decode cX2_records 8 = .ok (.iconst 0, 1) := by decide +kernel
theorem dX2_records_9 : decode cX2_records 9 = .ok (.istore_n 1, 1) := by decide +kernel
theorem dX2_records_10 : decode cX2_records 10 = .ok (.iload_n 1, 1) := by decide +kernel
theorem dX2_records_11 : decode cX2_records 11 = .ok (.bipush 18, 2) := by decide +kernel
theorem dX2_records_13 : decode cX2_records 13 = .ok (.if_icmp .ge 24, 3) := by decide +kernel
theorem dX2_records_16 : decode cX2_records 16 = .ok (.aload_n 0, 1) := by decide +kernel
theorem dX2_records_17 : decode cX2_records 17 = .ok (.getfield 13, 3) := by decide +kernel
theorem dX2_records_20 : decode cX2_records 20 = .ok (.iload_n 1, 1) := by decide +kernel
theorem dX2_records_21 : decode cX2_records 21 = .ok (.aload_n 0, 1) := by decide +kernel
theorem dX2_records_22 : decode cX2_records 22 = .ok (.getfield 13, 3) := by decide +kernel
theorem dX2_records_25 : decode cX2_records 25 = .ok (.iload_n 1, 1) := by decide +kernel
theorem dX2_records_26 : decode cX2_records 26 = .ok (.bipush 6, 2) := by decide +kernel
theorem dX2_records_28 : decode cX2_records 28 = .ok (.iadd, 1) := by decide +kernel
theorem dX2_records_29 : decode cX2_records 29 = .ok (.iaload, 1) := by decide +kernel
theorem dX2_records_30 : decode cX2_records 30 = .ok (.iastore, 1) := by decide +kernel
theorem dX2_records_31 : decode cX2_records 31 = .ok (.iinc 1 1, 3) := by decide +kernel
theorem dX2_records_34 : decode cX2_records 34 = .ok (.goto (-24), 3) := by decide +kernel
theorem dX2_records_37 : decode cX2_records 37 = .ok (.aload_n 0, 1) := by decide +kernel
theorem dX2_records_38 : decode cX2_records 38 = .ok (.dup, 1) := by decide +kernel
theorem dX2_records_39 : decode cX2_records 39 = .ok (.getfield 35, 3) := by decide +kernel
theorem dX2_records_42 : decode cX2_records 42 = .ok (.iconst 1, 1) := by decide +kernel
theorem dX2_records_43 : decode cX2_records 43 = .ok (.isub, 1) := by decide +kernel
theorem dX2_records_44 : decode cX2_records 44 = .ok (.putfield 35, 3) := by decide +kernel
theorem dX2_records_47 : decode cX2_records 47 = .ok (.aload_n 0, 1) := by decide +kernel
theorem dX2_records_48 : decode cX2_records 48 = .ok (.getfield 7, 3) := by decide +kernel
theorem dX2_records_51 : decode cX2_records 51 = .ok (.iconst 0, 1) := by decide +kernel
theorem dX2_records_52 : decode cX2_records 52 = .ok (.aload_n 0, 1) := by decide +kernel
theorem dX2_records_53 : decode cX2_records 53 = .ok (.getfield 13, 3) := by decide +kernel
theorem dX2_records_56 : decode cX2_records 56 = .ok (.bipush 6, 2) := by decide +kernel
theorem dX2_records_58 : decode cX2_records 58 = .ok (.aload_n 0, 1) := by decide +kernel
theorem dX2_records_59 : decode cX2_records 59 = .ok (.getfield 35, 3) := by decide +kernel
theorem dX2_records_62 : decode cX2_records 62 = .ok (.imul, 1) := by decide +kernel
theorem dX2_records_63 : decode cX2_records 63 = .ok (.invokestatic 38, 3) := by decide +kernel
theorem dX2_records_66 : decode cX2_records 66 = .ok (.aload_n 0, 1) := by decide +kernel
theorem dX2_records_67 : decode cX2_records 67 = .ok (.dup, 1) := by decide +kernel
theorem dX2_records_68 : decode cX2_records 68 = .ok (.getfield 35, 3) := by decide +kernel
theorem dX2_records_71 : decode cX2_records 71 = .ok (.iconst 1, 1) := by decide +kernel
theorem dX2_records_72 : decode cX2_records 72 = .ok (.iadd, 1) := by decide +kernel
theorem dX2_records_73 : decode cX2_records 73 = .ok (.putfield 35, 3) := by decide +kernel
theorem dX2_records_76 : decode cX2_records 76 = .ok (.return_, 1) := by decide +kernel
theorem dX2_turned_0 : decode cX2_turned 0 = .ok (.iconst 0, 1) := by decide +kernel
theorem dX2_turned_1 : decode cX2_turned 1 = .ok (.istore_n 1, 1) := by decide +kernel
theorem dX2_turned_2 : decode cX2_turned 2 = .ok (.iconst 0, 1) := by decide +kernel
theorem dX2_turned_3 : decode cX2_turned 3 = .ok (.istore_n 2, 1) := by decide +kernel
theorem dX2_turned_4 : decode cX2_turned 4 = .ok (.iload_n 2, 1) := by decide +kernel
theorem dX2_turned_5 : decode cX2_turned 5 = .ok (.bipush 16, 2) := by decide +kernel
theorem dX2_turned_7 : decode cX2_turned 7 = .ok (.if_icmp .ge 57, 3) := by decide +kernel
theorem dX2_turned_10 : decode cX2_turned 10 = .ok (.iconst 0, 1) := by decide +kernel
theorem dX2_turned_11 : decode cX2_turned 11 = .ok (.istore_n 3, 1) := by decide +kernel
theorem dX2_turned_12 : decode cX2_turned 12 = .ok (.iconst 0, 1) := by decide +kernel
theorem dX2_turned_13 : decode cX2_turned 13 = .ok (.istore 4, 2) := by decide +kernel
theorem dX2_turned_15 : decode cX2_turned 15 = .ok (.iload 4, 2) := by decide +kernel
theorem dX2_turned_17 : decode cX2_turned 17 = .ok (.bipush 16, 2) := by decide +kernel
theorem dX2_turned_19 : decode cX2_turned 19 = .ok (.if_icmp .ge 31, 3) := by decide +kernel
theorem dX2_turned_22 : decode cX2_turned 22 = .ok (.iload_n 3, 1) := by decide +kernel
theorem dX2_turned_23 : decode cX2_turned 23 = .ok (.iload 4, 2) := by decide +kernel
theorem dX2_turned_25 : decode cX2_turned 25 = .ok (.iload_n 2, 1) := by decide +kernel
theorem dX2_turned_26 : decode cX2_turned 26 = .ok (.iconst (-1), 1) := by decide +kernel
theorem dX2_turned_27 : decode cX2_turned 27 = .ok (.ixor, 1) := by decide +kernel
theorem dX2_turned_28 : decode cX2_turned 28 = .ok (.iand, 1) := by decide +kernel
theorem dX2_turned_29 : decode cX2_turned 29 = .ok (.ifCond .ne 12, 3) := by decide +kernel
theorem dX2_turned_32 : decode cX2_turned 32 = .ok (.iload_n 0, 1) := by decide +kernel
theorem dX2_turned_33 : decode cX2_turned 33 = .ok (.iload 4, 2) := by decide +kernel
theorem dX2_turned_35 : decode cX2_turned 35 = .ok (.ishr, 1) := by decide +kernel
theorem dX2_turned_36 : decode cX2_turned 36 = .ok (.iconst 1, 1) := by decide +kernel
theorem dX2_turned_37 : decode cX2_turned 37 = .ok (.iand, 1) := by decide +kernel
theorem dX2_turned_38 : decode cX2_turned 38 = .ok (.goto 4, 3) := by decide +kernel
theorem dX2_turned_41 : decode cX2_turned 41 = .ok (.iconst 0, 1) := by decide +kernel
theorem dX2_turned_42 : decode cX2_turned 42 = .ok (.iadd, 1) := by decide +kernel
theorem dX2_turned_43 : decode cX2_turned 43 = .ok (.istore_n 3, 1) := by decide +kernel
theorem dX2_turned_44 : decode cX2_turned 44 = .ok (.iinc 4 1, 3) := by decide +kernel
theorem dX2_turned_47 : decode cX2_turned 47 = .ok (.goto (-32), 3) := by decide +kernel
theorem dX2_turned_50 : decode cX2_turned 50 = .ok (.iload_n 1, 1) := by decide +kernel
theorem dX2_turned_51 : decode cX2_turned 51 = .ok (.iload_n 3, 1) := by decide +kernel
theorem dX2_turned_52 : decode cX2_turned 52 = .ok (.iconst 1, 1) := by decide +kernel
theorem dX2_turned_53 : decode cX2_turned 53 = .ok (.iand, 1) := by decide +kernel
theorem dX2_turned_54 : decode cX2_turned 54 = .ok (.iload_n 2, 1) := by decide +kernel
theorem dX2_turned_55 : decode cX2_turned 55 = .ok (.ishl, 1) := by decide +kernel
theorem dX2_turned_56 : decode cX2_turned 56 = .ok (.ior, 1) := by decide +kernel
theorem dX2_turned_57 : decode cX2_turned 57 = .ok (.istore_n 1, 1) := by decide +kernel
theorem dX2_turned_58 : decode cX2_turned 58 = .ok (.iinc 2 1, 3) := by decide +kernel
theorem dX2_turned_61 : decode cX2_turned 61 = .ok (.goto (-57), 3) := by decide +kernel
theorem dX2_turned_64 : decode cX2_turned 64 = .ok (.iload_n 1, 1) := by decide +kernel
theorem dX2_turned_65 : decode cX2_turned 65 = .ok (.ireturn, 1) := by decide +kernel
set_option maxRecDepth 20000 in
theorem ggX2_degree_X2_turned : GoodIn wsX2_degree wsX2_turned := goodIn_r _ [4] (by decide +kernel) (by decide +kernel)
set_option maxRecDepth 20000 in
theorem gX2_degree_X2_turned : GoodIn wsX2_degree (va_wsS RX2 42 yX2_turned wsX2_turned) := goodIn_app (goodIn_of _ (by decide +kernel)) ggX2_degree_X2_turned
set_option maxRecDepth 20000 in
theorem ggX2_degree_X2_bits : GoodIn wsX2_degree wsX2_bits := goodIn_r _ [7] (by decide +kernel) (by decide +kernel)
set_option maxRecDepth 20000 in
theorem gX2_degree_X2_bits : GoodIn wsX2_degree (va_wsS RX2 45 yX2_bits wsX2_bits) := goodIn_app (goodIn_of _ (by decide +kernel)) ggX2_degree_X2_bits
theorem dX2_degree_0 : decode cX2_degree 0 = .ok (.iload_n 0, 1) := by decide +kernel
theorem dX2_degree_1 : decode cX2_degree 1 = .ok (.invokestatic 42, 3) := by decide +kernel
theorem dX2_degree_4 : decode cX2_degree 4 = .ok (.istore_n 1, 1) := by decide +kernel
theorem dX2_degree_5 : decode cX2_degree 5 = .ok (.iconst 0, 1) := by decide +kernel
theorem dX2_degree_6 : decode cX2_degree 6 = .ok (.istore_n 2, 1) := by decide +kernel
theorem dX2_degree_7 : decode cX2_degree 7 = .ok (.iconst 0, 1) := by decide +kernel
theorem dX2_degree_8 : decode cX2_degree 8 = .ok (.istore_n 3, 1) := by decide +kernel
theorem dX2_degree_9 : decode cX2_degree 9 = .ok (.iload_n 3, 1) := by decide +kernel
theorem dX2_degree_10 : decode cX2_degree 10 = .ok (.bipush 16, 2) := by decide +kernel
theorem dX2_degree_12 : decode cX2_degree 12 = .ok (.if_icmp .ge 35, 3) := by decide +kernel
theorem dX2_degree_15 : decode cX2_degree 15 = .ok (.iload_n 1, 1) := by decide +kernel
theorem dX2_degree_16 : decode cX2_degree 16 = .ok (.iload_n 3, 1) := by decide +kernel
theorem dX2_degree_17 : decode cX2_degree 17 = .ok (.ishr, 1) := by decide +kernel
theorem dX2_degree_18 : decode cX2_degree 18 = .ok (.iconst 1, 1) := by decide +kernel
theorem dX2_degree_19 : decode cX2_degree 19 = .ok (.iand, 1) := by decide +kernel
theorem dX2_degree_20 : decode cX2_degree 20 = .ok (.iconst 1, 1) := by decide +kernel
theorem dX2_degree_21 : decode cX2_degree 21 = .ok (.if_icmp .ne 18, 3) := by decide +kernel
theorem dX2_degree_24 : decode cX2_degree 24 = .ok (.iload_n 3, 1) := by decide +kernel
theorem dX2_degree_25 : decode cX2_degree 25 = .ok (.invokestatic 45, 3) := by decide +kernel
theorem dX2_degree_28 : decode cX2_degree 28 = .ok (.iload_n 2, 1) := by decide +kernel
theorem dX2_degree_29 : decode cX2_degree 29 = .ok (.if_icmp .le 10, 3) := by decide +kernel
theorem dX2_degree_32 : decode cX2_degree 32 = .ok (.iload_n 3, 1) := by decide +kernel
theorem dX2_degree_33 : decode cX2_degree 33 = .ok (.invokestatic 45, 3) := by decide +kernel
theorem dX2_degree_36 : decode cX2_degree 36 = .ok (.goto 4, 3) := by decide +kernel
theorem dX2_degree_39 : decode cX2_degree 39 = .ok (.iload_n 2, 1) := by decide +kernel
theorem dX2_degree_40 : decode cX2_degree 40 = .ok (.istore_n 2, 1) := by decide +kernel
theorem dX2_degree_41 : decode cX2_degree 41 = .ok (.iinc 3 1, 3) := by decide +kernel
theorem dX2_degree_44 : decode cX2_degree 44 = .ok (.goto (-35), 3) := by decide +kernel
theorem dX2_degree_47 : decode cX2_degree 47 = .ok (.iload_n 2, 1) := by decide +kernel
theorem dX2_degree_48 : decode cX2_degree 48 = .ok (.ireturn, 1) := by decide +kernel
set_option maxRecDepth 20000 in
theorem ggX2_allProducts_X2_turned : GoodIn wsX2_allProducts wsX2_turned := goodIn_r _ [5] (by decide +kernel) (by decide +kernel)
set_option maxRecDepth 20000 in
theorem gX2_allProducts_X2_turned : GoodIn wsX2_allProducts (va_wsS RX2 42 yX2_turned wsX2_turned) := goodIn_app (goodIn_of _ (by decide +kernel)) ggX2_allProducts_X2_turned
set_option maxRecDepth 20000 in
theorem ggX2_allProducts_X2_bits : GoodIn wsX2_allProducts wsX2_bits := goodIn_r _ [8] (by decide +kernel) (by decide +kernel)
set_option maxRecDepth 20000 in
theorem gX2_allProducts_X2_bits : GoodIn wsX2_allProducts (va_wsS RX2 45 yX2_bits wsX2_bits) := goodIn_app (goodIn_of _ (by decide +kernel)) ggX2_allProducts_X2_bits
theorem dX2_allProducts_0 : decode cX2_allProducts 0 = .ok (.iconst 0, 1) := by decide +kernel
theorem dX2_allProducts_1 : decode cX2_allProducts 1 = .ok (.istore_n 1, 1) := by decide +kernel
theorem dX2_allProducts_2 : decode cX2_allProducts 2 = .ok (.iconst 0, 1) := by decide +kernel
theorem dX2_allProducts_3 : decode cX2_allProducts 3 = .ok (.istore_n 2, 1) := by decide +kernel
theorem dX2_allProducts_4 : decode cX2_allProducts 4 = .ok (.iload_n 2, 1) := by decide +kernel
theorem dX2_allProducts_5 : decode cX2_allProducts 5 = .ok (.bipush 6, 2) := by decide +kernel
theorem dX2_allProducts_7 : decode cX2_allProducts 7 = .ok (.if_icmp .ge 24, 3) := by decide +kernel
theorem dX2_allProducts_10 : decode cX2_allProducts 10 = .ok (.iload_n 1, 1) := by decide +kernel
theorem dX2_allProducts_11 : decode cX2_allProducts 11 = .ok (.aload_n 0, 1) := by decide +kernel
theorem dX2_allProducts_12 : decode cX2_allProducts 12 = .ok (.getfield 7, 3) := by decide +kernel
theorem dX2_allProducts_15 : decode cX2_allProducts 15 = .ok (.iload_n 2, 1) := by decide +kernel
theorem dX2_allProducts_16 : decode cX2_allProducts 16 = .ok (.iaload, 1) := by decide +kernel
theorem dX2_allProducts_17 : decode cX2_allProducts 17 = .ok (.invokestatic 42, 3) := by decide +kernel
theorem dX2_allProducts_20 : decode cX2_allProducts 20 = .ok (.invokestatic 45, 3) := by decide +kernel
theorem dX2_allProducts_23 : decode cX2_allProducts 23 = .ok (.iadd, 1) := by decide +kernel
theorem dX2_allProducts_24 : decode cX2_allProducts 24 = .ok (.istore_n 1, 1) := by decide +kernel
theorem dX2_allProducts_25 : decode cX2_allProducts 25 = .ok (.iinc 2 1, 3) := by decide +kernel
theorem dX2_allProducts_28 : decode cX2_allProducts 28 = .ok (.goto (-24), 3) := by decide +kernel
theorem dX2_allProducts_31 : decode cX2_allProducts 31 = .ok (.iload_n 1, 1) := by decide +kernel
theorem dX2_allProducts_32 : decode cX2_allProducts 32 = .ok (.ireturn, 1) := by decide +kernel
set_option maxRecDepth 20000 in
theorem ggX2_sets_X2_records : GoodIn wsX2_sets wsX2_records := goodIn_r _ [6, 7, 8, 1, 9, 10, 5, 11, 12, 13, 14, 15, 16, 17, 18, 19, 20, 21] (by decide +kernel) (by decide +kernel)
set_option maxRecDepth 20000 in
theorem gX2_sets_X2_records : GoodIn wsX2_sets (wsV RX2 48 RX2 yX2_records wsX2_records) := goodIn_app (goodIn_of _ (by decide +kernel)) ggX2_sets_X2_records
theorem dX2_sets_0 : decode cX2_sets 0 = .ok (.aload_n 0, 1) := by decide +kernel
theorem dX2_sets_1 : decode cX2_sets 1 = .ok (.invokevirtual 48, 3) := by decide +kernel
theorem dX2_sets_4 : decode cX2_sets 4 = .ok (.aload_n 0, 1) := by decide +kernel
theorem dX2_sets_5 : decode cX2_sets 5 = .ok (.getfield 7, 3) := by decide +kernel
theorem dX2_sets_8 : decode cX2_sets 8 = .ok (.iload_n 1, 1) := by decide +kernel
theorem dX2_sets_9 : decode cX2_sets 9 = .ok (.iload_n 2, 1) := by decide +kernel
theorem dX2_sets_10 : decode cX2_sets 10 = .ok (.iastore, 1) := by decide +kernel
theorem dX2_sets_11 : decode cX2_sets 11 = .ok (.iload_n 2, 1) := by decide +kernel
theorem dX2_sets_12 : decode cX2_sets 12 = .ok (.ireturn, 1) := by decide +kernel
set_option maxRecDepth 20000 in
theorem ggX2_define_X2_isOne : GoodIn wsX2_define wsX2_isOne := goodIn_r _ [6, 7, 8, 5, 9] (by decide +kernel) (by decide +kernel)
set_option maxRecDepth 20000 in
theorem gX2_define_X2_isOne : GoodIn wsX2_define (va_wsS RX2 51 yX2_isOne wsX2_isOne) := goodIn_app (goodIn_of _ (by decide +kernel)) ggX2_define_X2_isOne
set_option maxRecDepth 20000 in
theorem ggX2_define_X2_fails : GoodIn wsX2_define wsX2_fails := goodIn_r _ [13, 1, 57, 58, 59, 60, 61, 62, 63, 64, 65, 66] (by decide +kernel) (by decide +kernel)
set_option maxRecDepth 20000 in
theorem gX2_define_X2_fails : GoodIn wsX2_define (wsV RX2 55 RX2 yX2_fails wsX2_fails) := goodIn_app (goodIn_of _ (by decide +kernel)) ggX2_define_X2_fails
set_option maxRecDepth 20000 in
theorem ggX2_define_X2_reads : GoodIn wsX2_define wsX2_reads := goodIn_r _ [17, 18, 2, 19, 20, 21, 22, 23, 24, 5, 25, 26, 27, 28, 29, 30, 31, 32, 7, 8, 9, 33, 34, 35, 36, 37, 38, 39, 57, 58, 59, 60, 61, 62, 63, 64, 65, 66] (by decide +kernel) (by decide +kernel)
set_option maxRecDepth 20000 in
theorem gX2_define_X2_reads : GoodIn wsX2_define (wsV RX2 58 RX2 yX2_reads wsX2_reads) := goodIn_app (goodIn_of _ (by decide +kernel)) ggX2_define_X2_reads
set_option maxRecDepth 20000 in
theorem ggX2_define_X2_turned : GoodIn wsX2_define wsX2_turned := goodIn_r _ [42] (by decide +kernel) (by decide +kernel)
set_option maxRecDepth 20000 in
theorem gX2_define_X2_turned : GoodIn wsX2_define (va_wsS RX2 42 yX2_turned wsX2_turned) := goodIn_app (goodIn_of _ (by decide +kernel)) ggX2_define_X2_turned
set_option maxRecDepth 20000 in
theorem ggX2_define_X2_sets : GoodIn wsX2_define wsX2_sets := goodIn_r _ [46, 47, 48, 49, 50, 5, 51, 52, 53, 54, 55, 56, 57, 58, 59, 60, 61, 62, 63, 64, 65, 66] (by decide +kernel) (by decide +kernel)
set_option maxRecDepth 20000 in
theorem gX2_define_X2_sets : GoodIn wsX2_define (wsV RX2 65 RX2 yX2_sets wsX2_sets) := goodIn_app (goodIn_of _ (by decide +kernel)) ggX2_define_X2_sets
set_option maxRecDepth 20000 in
theorem ggX2_define_X2_bits : GoodIn wsX2_define wsX2_bits := goodIn_r _ [39] (by decide +kernel) (by decide +kernel)
set_option maxRecDepth 20000 in
theorem gX2_define_X2_bits : GoodIn wsX2_define (va_wsS RX2 45 yX2_bits wsX2_bits) := goodIn_app (goodIn_of _ (by decide +kernel)) ggX2_define_X2_bits
theorem dX2_define_0 : decode cX2_define 0 = .ok (.aload_n 0, 1) := by decide +kernel
theorem dX2_define_1 : decode cX2_define 1 = .ok (.iconst 0, 1) := by decide +kernel
theorem dX2_define_2 : decode cX2_define 2 = .ok (.putfield 27, 3) := by decide +kernel
theorem dX2_define_5 : decode cX2_define 5 = .ok (.iload_n 1, 1) := by decide +kernel
theorem dX2_define_6 : decode cX2_define 6 = .ok (.invokestatic 51, 3) := by decide +kernel
theorem dX2_define_9 : decode cX2_define 9 = .ok (.ifCond .ne 9, 3) := by decide +kernel
theorem dX2_define_12 : decode cX2_define 12 = .ok (.aload_n 0, 1) := by decide +kernel
theorem dX2_define_13 : decode cX2_define 13 = .ok (.iconst 1, 1) := by decide +kernel
theorem dX2_define_14 : decode cX2_define 14 = .ok (.invokevirtual 55, 3) := by decide +kernel
theorem dX2_define_17 : decode cX2_define 17 = .ok (.ireturn, 1) := by decide +kernel
theorem dX2_define_18 : decode cX2_define 18 = .ok (.aload_n 0, 1) := by decide +kernel
theorem dX2_define_19 : decode cX2_define 19 = .ok (.invokevirtual 58, 3) := by decide +kernel
theorem dX2_define_22 : decode cX2_define 22 = .ok (.ifCond .ne 9, 3) := by decide +kernel
theorem dX2_define_25 : decode cX2_define 25 = .ok (.aload_n 0, 1) := by decide +kernel
theorem dX2_define_26 : decode cX2_define 26 = .ok (.iconst 2, 1) := by decide +kernel
theorem dX2_define_27 : decode cX2_define 27 = .ok (.invokevirtual 55, 3) := by decide +kernel
theorem dX2_define_30 : decode cX2_define 30 = .ok (.ireturn, 1) := by decide +kernel
theorem dX2_define_31 : decode cX2_define 31 = .ok (.aload_n 0, 1) := by decide +kernel
theorem dX2_define_32 : decode cX2_define 32 = .ok (.iload_n 1, 1) := by decide +kernel
theorem dX2_define_33 : decode cX2_define 33 = .ok (.aload_n 0, 1) := by decide +kernel
theorem dX2_define_34 : decode cX2_define 34 = .ok (.getfield 62, 3) := by decide +kernel
theorem dX2_define_37 : decode cX2_define 37 = .ok (.invokestatic 42, 3) := by decide +kernel
theorem dX2_define_40 : decode cX2_define 40 = .ok (.invokevirtual 65, 3) := by decide +kernel
theorem dX2_define_43 : decode cX2_define 43 = .ok (.pop, 1) := by decide +kernel
theorem dX2_define_44 : decode cX2_define 44 = .ok (.aload_n 0, 1) := by decide +kernel
theorem dX2_define_45 : decode cX2_define 45 = .ok (.getfield 62, 3) := by decide +kernel
theorem dX2_define_48 : decode cX2_define 48 = .ok (.invokestatic 45, 3) := by decide +kernel
theorem dX2_define_51 : decode cX2_define 51 = .ok (.ireturn, 1) := by decide +kernel
set_option maxRecDepth 20000 in
theorem ggX2_setTable_X2_isOne : GoodIn wsX2_setTable wsX2_isOne := goodIn_r _ [7, 8, 9, 6, 10] (by decide +kernel) (by decide +kernel)
set_option maxRecDepth 20000 in
theorem gX2_setTable_X2_isOne : GoodIn wsX2_setTable (va_wsS RX2 51 yX2_isOne wsX2_isOne) := goodIn_app (goodIn_of _ (by decide +kernel)) ggX2_setTable_X2_isOne
set_option maxRecDepth 20000 in
theorem ggX2_setTable_X2_fails : GoodIn wsX2_setTable wsX2_fails := goodIn_r _ [14, 1, 28, 29, 30, 31, 32, 33, 34, 35, 36, 37] (by decide +kernel) (by decide +kernel)
set_option maxRecDepth 20000 in
theorem gX2_setTable_X2_fails : GoodIn wsX2_setTable (wsV RX2 55 RX2 yX2_fails wsX2_fails) := goodIn_app (goodIn_of _ (by decide +kernel)) ggX2_setTable_X2_fails
set_option maxRecDepth 20000 in
theorem ggX2_setTable_X2_in : GoodIn wsX2_setTable wsX2_in := goodIn_r _ [10] (by decide +kernel) (by decide +kernel)
set_option maxRecDepth 20000 in
theorem gX2_setTable_X2_in : GoodIn wsX2_setTable (va_wsS RX2 31 yX2_in wsX2_in) := goodIn_app (goodIn_of _ (by decide +kernel)) ggX2_setTable_X2_in
set_option maxRecDepth 20000 in
theorem ggX2_setTable_X2_sets : GoodIn wsX2_setTable wsX2_sets := goodIn_r _ [18, 3, 19, 20, 21, 6, 22, 23, 24, 25, 26, 27, 28, 29, 30, 31, 32, 33, 34, 35, 36, 37] (by decide +kernel) (by decide +kernel)
set_option maxRecDepth 20000 in
theorem gX2_setTable_X2_sets : GoodIn wsX2_setTable (wsV RX2 65 RX2 yX2_sets wsX2_sets) := goodIn_app (goodIn_of _ (by decide +kernel)) ggX2_setTable_X2_sets
theorem dX2_setTable_0 : decode cX2_setTable 0 = .ok (.aload_n 0, 1) := by decide +kernel
theorem dX2_setTable_1 : decode cX2_setTable 1 = .ok (.iconst 0, 1) := by decide +kernel
theorem dX2_setTable_2 : decode cX2_setTable 2 = .ok (.putfield 27, 3) := by decide +kernel
theorem dX2_setTable_5 : decode cX2_setTable 5 = .ok (.iload_n 1, 1) := by decide +kernel
theorem dX2_setTable_6 : decode cX2_setTable 6 = .ok (.invokestatic 51, 3) := by decide +kernel
theorem dX2_setTable_9 : decode cX2_setTable 9 = .ok (.ifCond .ne 9, 3) := by decide +kernel
theorem dX2_setTable_12 : decode cX2_setTable 12 = .ok (.aload_n 0, 1) := by decide +kernel
theorem dX2_setTable_13 : decode cX2_setTable 13 = .ok (.iconst 1, 1) := by decide +kernel
theorem dX2_setTable_14 : decode cX2_setTable 14 = .ok (.invokevirtual 55, 3) := by decide +kernel
theorem dX2_setTable_17 : decode cX2_setTable 17 = .ok (.ireturn, 1) := by decide +kernel
theorem dX2_setTable_18 : decode cX2_setTable 18 = .ok (.iload_n 2, 1) := by decide +kernel
theorem dX2_setTable_19 : decode cX2_setTable 19 = .ok (.iconst 0, 1) := by decide +kernel
theorem dX2_setTable_20 : decode cX2_setTable 20 = .ok (.ldc 26, 2) := by decide +kernel
theorem dX2_setTable_22 : decode cX2_setTable 22 = .ok (.invokestatic 31, 3) := by decide +kernel
theorem dX2_setTable_25 : decode cX2_setTable 25 = .ok (.ifCond .ne 9, 3) := by decide +kernel
theorem dX2_setTable_28 : decode cX2_setTable 28 = .ok (.aload_n 0, 1) := by decide +kernel
theorem dX2_setTable_29 : decode cX2_setTable 29 = .ok (.iconst 2, 1) := by decide +kernel
theorem dX2_setTable_30 : decode cX2_setTable 30 = .ok (.invokevirtual 55, 3) := by decide +kernel
theorem dX2_setTable_33 : decode cX2_setTable 33 = .ok (.ireturn, 1) := by decide +kernel
theorem dX2_setTable_34 : decode cX2_setTable 34 = .ok (.aload_n 0, 1) := by decide +kernel
theorem dX2_setTable_35 : decode cX2_setTable 35 = .ok (.getfield 7, 3) := by decide +kernel
theorem dX2_setTable_38 : decode cX2_setTable 38 = .ok (.iload_n 1, 1) := by decide +kernel
theorem dX2_setTable_39 : decode cX2_setTable 39 = .ok (.iaload, 1) := by decide +kernel
theorem dX2_setTable_40 : decode cX2_setTable 40 = .ok (.istore_n 3, 1) := by decide +kernel
theorem dX2_setTable_41 : decode cX2_setTable 41 = .ok (.aload_n 0, 1) := by decide +kernel
theorem dX2_setTable_42 : decode cX2_setTable 42 = .ok (.iload_n 1, 1) := by decide +kernel
theorem dX2_setTable_43 : decode cX2_setTable 43 = .ok (.iload_n 2, 1) := by decide +kernel
theorem dX2_setTable_44 : decode cX2_setTable 44 = .ok (.invokevirtual 65, 3) := by decide +kernel
theorem dX2_setTable_47 : decode cX2_setTable 47 = .ok (.pop, 1) := by decide +kernel
theorem dX2_setTable_48 : decode cX2_setTable 48 = .ok (.iload_n 3, 1) := by decide +kernel
theorem dX2_setTable_49 : decode cX2_setTable 49 = .ok (.ireturn, 1) := by decide +kernel
set_option maxRecDepth 20000 in
theorem ggX2_join_X2_isOne : GoodIn wsX2_join wsX2_isOne := goodIn_r _ [7, 8, 9, 6, 10] (by decide +kernel) (by decide +kernel)
set_option maxRecDepth 20000 in
theorem gX2_join_X2_isOne : GoodIn wsX2_join (va_wsS RX2 51 yX2_isOne wsX2_isOne) := goodIn_app (goodIn_of _ (by decide +kernel)) ggX2_join_X2_isOne
set_option maxRecDepth 20000 in
theorem ggX2_join_X2_fails : GoodIn wsX2_join wsX2_fails := goodIn_r _ [14, 1, 28, 29, 30, 31, 32, 33, 34, 35, 36, 37] (by decide +kernel) (by decide +kernel)
set_option maxRecDepth 20000 in
theorem gX2_join_X2_fails : GoodIn wsX2_join (wsV RX2 55 RX2 yX2_fails wsX2_fails) := goodIn_app (goodIn_of _ (by decide +kernel)) ggX2_join_X2_fails
set_option maxRecDepth 20000 in
theorem ggX2_join_X2_in : GoodIn wsX2_join wsX2_in := goodIn_r _ [10] (by decide +kernel) (by decide +kernel)
set_option maxRecDepth 20000 in
theorem gX2_join_X2_in : GoodIn wsX2_join (va_wsS RX2 31 yX2_in wsX2_in) := goodIn_app (goodIn_of _ (by decide +kernel)) ggX2_join_X2_in
set_option maxRecDepth 20000 in
theorem ggX2_join_X2_sets : GoodIn wsX2_join wsX2_sets := goodIn_r _ [18, 2, 19, 20, 21, 6, 22, 23, 24, 25, 26, 27, 28, 29, 30, 31, 32, 33, 34, 35, 36, 37] (by decide +kernel) (by decide +kernel)
set_option maxRecDepth 20000 in
theorem gX2_join_X2_sets : GoodIn wsX2_join (wsV RX2 65 RX2 yX2_sets wsX2_sets) := goodIn_app (goodIn_of _ (by decide +kernel)) ggX2_join_X2_sets
theorem dX2_join_0 : decode cX2_join 0 = .ok (.aload_n 0, 1) := by decide +kernel
theorem dX2_join_1 : decode cX2_join 1 = .ok (.iconst 0, 1) := by decide +kernel
theorem dX2_join_2 : decode cX2_join 2 = .ok (.putfield 27, 3) := by decide +kernel
theorem dX2_join_5 : decode cX2_join 5 = .ok (.iload_n 1, 1) := by decide +kernel
theorem dX2_join_6 : decode cX2_join 6 = .ok (.invokestatic 51, 3) := by decide +kernel
theorem dX2_join_9 : decode cX2_join 9 = .ok (.ifCond .eq 17, 3) := by decide +kernel
theorem dX2_join_12 : decode cX2_join 12 = .ok (.iload_n 2, 1) := by decide +kernel
theorem dX2_join_13 : decode cX2_join 13 = .ok (.invokestatic 51, 3) := by decide +kernel
theorem dX2_join_16 : decode cX2_join 16 = .ok (.ifCond .eq 10, 3) := by decide +kernel
theorem dX2_join_19 : decode cX2_join 19 = .ok (.iload_n 3, 1) := by decide +kernel
theorem dX2_join_20 : decode cX2_join 20 = .ok (.invokestatic 51, 3) := by decide +kernel
theorem dX2_join_23 : decode cX2_join 23 = .ok (.ifCond .ne 9, 3) := by decide +kernel
theorem dX2_join_26 : decode cX2_join 26 = .ok (.aload_n 0, 1) := by decide +kernel
theorem dX2_join_27 : decode cX2_join 27 = .ok (.iconst 1, 1) := by decide +kernel
theorem dX2_join_28 : decode cX2_join 28 = .ok (.invokevirtual 55, 3) := by decide +kernel
theorem dX2_join_31 : decode cX2_join 31 = .ok (.ireturn, 1) := by decide +kernel
theorem dX2_join_32 : decode cX2_join 32 = .ok (.iload 4, 2) := by decide +kernel
theorem dX2_join_34 : decode cX2_join 34 = .ok (.iconst 0, 1) := by decide +kernel
theorem dX2_join_35 : decode cX2_join 35 = .ok (.iconst 3, 1) := by decide +kernel
theorem dX2_join_36 : decode cX2_join 36 = .ok (.invokestatic 31, 3) := by decide +kernel
theorem dX2_join_39 : decode cX2_join 39 = .ok (.ifCond .ne 9, 3) := by decide +kernel
theorem dX2_join_42 : decode cX2_join 42 = .ok (.aload_n 0, 1) := by decide +kernel
theorem dX2_join_43 : decode cX2_join 43 = .ok (.iconst 2, 1) := by decide +kernel
theorem dX2_join_44 : decode cX2_join 44 = .ok (.invokevirtual 55, 3) := by decide +kernel
theorem dX2_join_47 : decode cX2_join 47 = .ok (.ireturn, 1) := by decide +kernel
theorem dX2_join_48 : decode cX2_join 48 = .ok (.aload_n 0, 1) := by decide +kernel
theorem dX2_join_49 : decode cX2_join 49 = .ok (.getfield 7, 3) := by decide +kernel
theorem dX2_join_52 : decode cX2_join 52 = .ok (.iload_n 2, 1) := by decide +kernel
theorem dX2_join_53 : decode cX2_join 53 = .ok (.iaload, 1) := by decide +kernel
theorem dX2_join_54 : decode cX2_join 54 = .ok (.istore 5, 2) := by decide +kernel
theorem dX2_join_56 : decode cX2_join 56 = .ok (.aload_n 0, 1) := by decide +kernel
theorem dX2_join_57 : decode cX2_join 57 = .ok (.getfield 7, 3) := by decide +kernel
theorem dX2_join_60 : decode cX2_join 60 = .ok (.iload_n 3, 1) := by decide +kernel
theorem dX2_join_61 : decode cX2_join 61 = .ok (.iaload, 1) := by decide +kernel
theorem dX2_join_62 : decode cX2_join 62 = .ok (.istore 6, 2) := by decide +kernel
theorem dX2_join_64 : decode cX2_join 64 = .ok (.aload_n 0, 1) := by decide +kernel
theorem dX2_join_65 : decode cX2_join 65 = .ok (.iload_n 1, 1) := by decide +kernel
theorem dX2_join_66 : decode cX2_join 66 = .ok (.iload 4, 2) := by decide +kernel
theorem dX2_join_68 : decode cX2_join 68 = .ok (.ifCond .ne 11, 3) := by decide +kernel
theorem dX2_join_71 : decode cX2_join 71 = .ok (.iload 5, 2) := by decide +kernel
theorem dX2_join_73 : decode cX2_join 73 = .ok (.iload 6, 2) := by decide +kernel
theorem dX2_join_75 : decode cX2_join 75 = .ok (.ixor, 1) := by decide +kernel
theorem dX2_join_76 : decode cX2_join 76 = .ok (.goto 41, 3) := by decide +kernel
theorem dX2_join_79 : decode cX2_join 79 = .ok (.iload 4, 2) := by decide +kernel
theorem dX2_join_81 : decode cX2_join 81 = .ok (.iconst 1, 1) := by decide +kernel
theorem dX2_join_82 : decode cX2_join 82 = .ok (.if_icmp .ne 11, 3) := by decide +kernel
theorem dX2_join_85 : decode cX2_join 85 = .ok (.iload 5, 2) := by decide +kernel
theorem dX2_join_87 : decode cX2_join 87 = .ok (.iload 6, 2) := by decide +kernel
theorem dX2_join_89 : decode cX2_join 89 = .ok (.iand, 1) := by decide +kernel
theorem dX2_join_90 : decode cX2_join 90 = .ok (.goto 27, 3) := by decide +kernel
theorem dX2_join_93 : decode cX2_join 93 = .ok (.iload 4, 2) := by decide +kernel
theorem dX2_join_95 : decode cX2_join 95 = .ok (.iconst 2, 1) := by decide +kernel
theorem dX2_join_96 : decode cX2_join 96 = .ok (.if_icmp .ne 11, 3) := by decide +kernel
theorem dX2_join_99 : decode cX2_join 99 = .ok (.iload 5, 2) := by decide +kernel
theorem dX2_join_101 : decode cX2_join 101 = .ok (.iload 6, 2) := by decide +kernel
theorem dX2_join_103 : decode cX2_join 103 = .ok (.ior, 1) := by decide +kernel
theorem dX2_join_104 : decode cX2_join 104 = .ok (.goto 13, 3) := by decide +kernel
theorem dX2_join_107 : decode cX2_join 107 = .ok (.iload 5, 2) := by decide +kernel
theorem dX2_join_109 : decode cX2_join 109 = .ok (.iconst (-1), 1) := by decide +kernel
theorem dX2_join_110 : decode cX2_join 110 = .ok (.ixor, 1) := by decide +kernel
theorem dX2_join_111 : decode cX2_join 111 = .ok (.ldc 26, 2) := by decide +kernel
theorem dX2_join_113 : decode cX2_join 113 = .ok (.iand, 1) := by decide +kernel
theorem dX2_join_114 : decode cX2_join 114 = .ok (.iload 6, 2) := by decide +kernel
theorem dX2_join_116 : decode cX2_join 116 = .ok (.ior, 1) := by decide +kernel
theorem dX2_join_117 : decode cX2_join 117 = .ok (.invokevirtual 65, 3) := by decide +kernel
theorem dX2_join_120 : decode cX2_join 120 = .ok (.ireturn, 1) := by decide +kernel
theorem dX2_valueWith_0 : decode cX2_valueWith 0 = .ok (.iload 4, 2) := by decide +kernel
theorem dX2_valueWith_2 : decode cX2_valueWith 2 = .ok (.iconst 1, 1) := by decide +kernel
theorem dX2_valueWith_3 : decode cX2_valueWith 3 = .ok (.if_icmp .ne 11, 3) := by decide +kernel
theorem dX2_valueWith_6 : decode cX2_valueWith 6 = .ok (.iload_n 2, 1) := by decide +kernel
theorem dX2_valueWith_7 : decode cX2_valueWith 7 = .ok (.iconst 1, 1) := by decide +kernel
theorem dX2_valueWith_8 : decode cX2_valueWith 8 = .ok (.iload_n 3, 1) := by decide +kernel
theorem dX2_valueWith_9 : decode cX2_valueWith 9 = .ok (.ishl, 1) := by decide +kernel
theorem dX2_valueWith_10 : decode cX2_valueWith 10 = .ok (.ior, 1) := by decide +kernel
theorem dX2_valueWith_11 : decode cX2_valueWith 11 = .ok (.goto 10, 3) := by decide +kernel
theorem dX2_valueWith_14 : decode cX2_valueWith 14 = .ok (.iload_n 2, 1) := by decide +kernel
theorem dX2_valueWith_15 : decode cX2_valueWith 15 = .ok (.iconst 1, 1) := by decide +kernel
theorem dX2_valueWith_16 : decode cX2_valueWith 16 = .ok (.iload_n 3, 1) := by decide +kernel
theorem dX2_valueWith_17 : decode cX2_valueWith 17 = .ok (.ishl, 1) := by decide +kernel
theorem dX2_valueWith_18 : decode cX2_valueWith 18 = .ok (.iconst (-1), 1) := by decide +kernel
theorem dX2_valueWith_19 : decode cX2_valueWith 19 = .ok (.ixor, 1) := by decide +kernel
theorem dX2_valueWith_20 : decode cX2_valueWith 20 = .ok (.iand, 1) := by decide +kernel
theorem dX2_valueWith_21 : decode cX2_valueWith 21 = .ok (.istore 5, 2) := by decide +kernel
theorem dX2_valueWith_23 : decode cX2_valueWith 23 = .ok (.aload_n 0, 1) := by decide +kernel
theorem dX2_valueWith_24 : decode cX2_valueWith 24 = .ok (.getfield 7, 3) := by decide +kernel
theorem dX2_valueWith_27 : decode cX2_valueWith 27 = .ok (.iload_n 1, 1) := by decide +kernel
theorem dX2_valueWith_28 : decode cX2_valueWith 28 = .ok (.iaload, 1) := by decide +kernel
theorem dX2_valueWith_29 : decode cX2_valueWith 29 = .ok (.iload 5, 2) := by decide +kernel
theorem dX2_valueWith_31 : decode cX2_valueWith 31 = .ok (.ishr, 1) := by decide +kernel
theorem dX2_valueWith_32 : decode cX2_valueWith 32 = .ok (.iconst 1, 1) := by decide +kernel
theorem dX2_valueWith_33 : decode cX2_valueWith 33 = .ok (.iand, 1) := by decide +kernel
theorem dX2_valueWith_34 : decode cX2_valueWith 34 = .ok (.ireturn, 1) := by decide +kernel
set_option maxRecDepth 20000 in
theorem ggX2_fix_X2_isOne : GoodIn wsX2_fix wsX2_isOne := goodIn_r _ [5, 6, 7, 4, 8] (by decide +kernel) (by decide +kernel)
set_option maxRecDepth 20000 in
theorem gX2_fix_X2_isOne : GoodIn wsX2_fix (va_wsS RX2 51 yX2_isOne wsX2_isOne) := goodIn_app (goodIn_of _ (by decide +kernel)) ggX2_fix_X2_isOne
set_option maxRecDepth 20000 in
theorem ggX2_fix_X2_in : GoodIn wsX2_fix wsX2_in := goodIn_r _ [8] (by decide +kernel) (by decide +kernel)
set_option maxRecDepth 20000 in
theorem gX2_fix_X2_in : GoodIn wsX2_fix (va_wsS RX2 31 yX2_in wsX2_in) := goodIn_app (goodIn_of _ (by decide +kernel)) ggX2_fix_X2_in
set_option maxRecDepth 20000 in
theorem ggX2_fix_X2_fails : GoodIn wsX2_fix wsX2_fails := goodIn_r _ [12, 1, 31, 32, 33, 34, 35, 36, 37, 38, 39, 40] (by decide +kernel) (by decide +kernel)
set_option maxRecDepth 20000 in
theorem gX2_fix_X2_fails : GoodIn wsX2_fix (wsV RX2 55 RX2 yX2_fails wsX2_fails) := goodIn_app (goodIn_of _ (by decide +kernel)) ggX2_fix_X2_fails
set_option maxRecDepth 20000 in
theorem ggX2_fix_X2_valueWith : GoodIn wsX2_fix wsX2_valueWith := goodIn_r _ [16, 17, 31, 32, 33, 34, 35, 36, 37, 38, 39, 40] (by decide +kernel) (by decide +kernel)
set_option maxRecDepth 20000 in
theorem gX2_fix_X2_valueWith : GoodIn wsX2_fix (wsV RX2 69 RX2 yX2_valueWith wsX2_valueWith) := goodIn_app (goodIn_of _ (by decide +kernel)) ggX2_fix_X2_valueWith
set_option maxRecDepth 20000 in
theorem ggX2_fix_X2_sets : GoodIn wsX2_fix wsX2_sets := goodIn_r _ [21, 17, 22, 23, 24, 4, 25, 26, 27, 28, 29, 30, 31, 32, 33, 34, 35, 36, 37, 38, 39, 40] (by decide +kernel) (by decide +kernel)
set_option maxRecDepth 20000 in
theorem gX2_fix_X2_sets : GoodIn wsX2_fix (wsV RX2 65 RX2 yX2_sets wsX2_sets) := goodIn_app (goodIn_of _ (by decide +kernel)) ggX2_fix_X2_sets
theorem dX2_fix_0 : decode cX2_fix 0 = .ok (.aload_n 0, 1) := by decide +kernel
theorem dX2_fix_1 : decode cX2_fix 1 = .ok (.iconst 0, 1) := by decide +kernel
theorem dX2_fix_2 : decode cX2_fix 2 = .ok (.putfield 27, 3) := by decide +kernel
theorem dX2_fix_5 : decode cX2_fix 5 = .ok (.iload_n 1, 1) := by decide +kernel
theorem dX2_fix_6 : decode cX2_fix 6 = .ok (.invokestatic 51, 3) := by decide +kernel
theorem dX2_fix_9 : decode cX2_fix 9 = .ok (.ifCond .eq 12, 3) := by decide +kernel
theorem dX2_fix_12 : decode cX2_fix 12 = .ok (.iload_n 2, 1) := by decide +kernel
theorem dX2_fix_13 : decode cX2_fix 13 = .ok (.iconst 0, 1) := by decide +kernel
theorem dX2_fix_14 : decode cX2_fix 14 = .ok (.iconst 3, 1) := by decide +kernel
theorem dX2_fix_15 : decode cX2_fix 15 = .ok (.invokestatic 31, 3) := by decide +kernel
theorem dX2_fix_18 : decode cX2_fix 18 = .ok (.ifCond .ne 9, 3) := by decide +kernel
theorem dX2_fix_21 : decode cX2_fix 21 = .ok (.aload_n 0, 1) := by decide +kernel
theorem dX2_fix_22 : decode cX2_fix 22 = .ok (.iconst 1, 1) := by decide +kernel
theorem dX2_fix_23 : decode cX2_fix 23 = .ok (.invokevirtual 55, 3) := by decide +kernel
theorem dX2_fix_26 : decode cX2_fix 26 = .ok (.ireturn, 1) := by decide +kernel
theorem dX2_fix_27 : decode cX2_fix 27 = .ok (.iconst 0, 1) := by decide +kernel
theorem dX2_fix_28 : decode cX2_fix 28 = .ok (.istore 4, 2) := by decide +kernel
theorem dX2_fix_30 : decode cX2_fix 30 = .ok (.iconst 0, 1) := by decide +kernel
theorem dX2_fix_31 : decode cX2_fix 31 = .ok (.istore 5, 2) := by decide +kernel
theorem dX2_fix_33 : decode cX2_fix 33 = .ok (.iload 5, 2) := by decide +kernel
theorem dX2_fix_35 : decode cX2_fix 35 = .ok (.bipush 16, 2) := by decide +kernel
theorem dX2_fix_37 : decode cX2_fix 37 = .ok (.if_icmp .ge 34, 3) := by decide +kernel
theorem dX2_fix_40 : decode cX2_fix 40 = .ok (.iload 4, 2) := by decide +kernel
theorem dX2_fix_42 : decode cX2_fix 42 = .ok (.aload_n 0, 1) := by decide +kernel
theorem dX2_fix_43 : decode cX2_fix 43 = .ok (.iload_n 1, 1) := by decide +kernel
theorem dX2_fix_44 : decode cX2_fix 44 = .ok (.iload 5, 2) := by decide +kernel
theorem dX2_fix_46 : decode cX2_fix 46 = .ok (.iload_n 2, 1) := by decide +kernel
theorem dX2_fix_47 : decode cX2_fix 47 = .ok (.iload_n 3, 1) := by decide +kernel
theorem dX2_fix_48 : decode cX2_fix 48 = .ok (.ifCond .eq 7, 3) := by decide +kernel
theorem dX2_fix_51 : decode cX2_fix 51 = .ok (.iconst 1, 1) := by decide +kernel
theorem dX2_fix_52 : decode cX2_fix 52 = .ok (.goto 4, 3) := by decide +kernel
theorem dX2_fix_55 : decode cX2_fix 55 = .ok (.iconst 0, 1) := by decide +kernel
theorem dX2_fix_56 : decode cX2_fix 56 = .ok (.invokevirtual 69, 3) := by decide +kernel
theorem dX2_fix_59 : decode cX2_fix 59 = .ok (.iload 5, 2) := by decide +kernel
theorem dX2_fix_61 : decode cX2_fix 61 = .ok (.ishl, 1) := by decide +kernel
theorem dX2_fix_62 : decode cX2_fix 62 = .ok (.ior, 1) := by decide +kernel
theorem dX2_fix_63 : decode cX2_fix 63 = .ok (.istore 4, 2) := by decide +kernel
theorem dX2_fix_65 : decode cX2_fix 65 = .ok (.iinc 5 1, 3) := by decide +kernel
theorem dX2_fix_68 : decode cX2_fix 68 = .ok (.goto (-35), 3) := by decide +kernel
theorem dX2_fix_71 : decode cX2_fix 71 = .ok (.aload_n 0, 1) := by decide +kernel
theorem dX2_fix_72 : decode cX2_fix 72 = .ok (.iload_n 1, 1) := by decide +kernel
theorem dX2_fix_73 : decode cX2_fix 73 = .ok (.iload 4, 2) := by decide +kernel
theorem dX2_fix_75 : decode cX2_fix 75 = .ok (.invokevirtual 65, 3) := by decide +kernel
theorem dX2_fix_78 : decode cX2_fix 78 = .ok (.ireturn, 1) := by decide +kernel
set_option maxRecDepth 20000 in
theorem ggX2_substitute_X2_isOne : GoodIn wsX2_substitute wsX2_isOne := goodIn_r _ [6, 7, 8, 5, 9] (by decide +kernel) (by decide +kernel)
set_option maxRecDepth 20000 in
theorem gX2_substitute_X2_isOne : GoodIn wsX2_substitute (va_wsS RX2 51 yX2_isOne wsX2_isOne) := goodIn_app (goodIn_of _ (by decide +kernel)) ggX2_substitute_X2_isOne
set_option maxRecDepth 20000 in
theorem ggX2_substitute_X2_in : GoodIn wsX2_substitute wsX2_in := goodIn_r _ [9] (by decide +kernel) (by decide +kernel)
set_option maxRecDepth 20000 in
theorem gX2_substitute_X2_in : GoodIn wsX2_substitute (va_wsS RX2 31 yX2_in wsX2_in) := goodIn_app (goodIn_of _ (by decide +kernel)) ggX2_substitute_X2_in
set_option maxRecDepth 20000 in
theorem ggX2_substitute_X2_fails : GoodIn wsX2_substitute wsX2_fails := goodIn_r _ [13, 1, 31, 32, 33, 34, 35, 36, 37, 38, 39, 40] (by decide +kernel) (by decide +kernel)
set_option maxRecDepth 20000 in
theorem gX2_substitute_X2_fails : GoodIn wsX2_substitute (wsV RX2 55 RX2 yX2_fails wsX2_fails) := goodIn_app (goodIn_of _ (by decide +kernel)) ggX2_substitute_X2_fails
set_option maxRecDepth 20000 in
theorem ggX2_substitute_X2_valueWith : GoodIn wsX2_substitute wsX2_valueWith := goodIn_r _ [17, 2, 31, 32, 33, 34, 35, 36, 37, 38, 39, 40] (by decide +kernel) (by decide +kernel)
set_option maxRecDepth 20000 in
theorem gX2_substitute_X2_valueWith : GoodIn wsX2_substitute (wsV RX2 69 RX2 yX2_valueWith wsX2_valueWith) := goodIn_app (goodIn_of _ (by decide +kernel)) ggX2_substitute_X2_valueWith
set_option maxRecDepth 20000 in
theorem ggX2_substitute_X2_sets : GoodIn wsX2_substitute wsX2_sets := goodIn_r _ [21, 2, 22, 23, 24, 5, 25, 26, 27, 28, 29, 30, 31, 32, 33, 34, 35, 36, 37, 38, 39, 40] (by decide +kernel) (by decide +kernel)
set_option maxRecDepth 20000 in
theorem gX2_substitute_X2_sets : GoodIn wsX2_substitute (wsV RX2 65 RX2 yX2_sets wsX2_sets) := goodIn_app (goodIn_of _ (by decide +kernel)) ggX2_substitute_X2_sets
theorem dX2_substitute_0 : decode cX2_substitute 0 = .ok (.aload_n 0, 1) := by decide +kernel
theorem dX2_substitute_1 : decode cX2_substitute 1 = .ok (.iconst 0, 1) := by decide +kernel
theorem dX2_substitute_2 : decode cX2_substitute 2 = .ok (.putfield 27, 3) := by decide +kernel
theorem dX2_substitute_5 : decode cX2_substitute 5 = .ok (.iload_n 1, 1) := by decide +kernel
theorem dX2_substitute_6 : decode cX2_substitute 6 = .ok (.invokestatic 51, 3) := by decide +kernel
theorem dX2_substitute_9 : decode cX2_substitute 9 = .ok (.ifCond .eq 19, 3) := by decide +kernel
theorem dX2_substitute_12 : decode cX2_substitute 12 = .ok (.iload_n 2, 1) := by decide +kernel
theorem dX2_substitute_13 : decode cX2_substitute 13 = .ok (.iconst 0, 1) := by decide +kernel
theorem dX2_substitute_14 : decode cX2_substitute 14 = .ok (.iconst 3, 1) := by decide +kernel
theorem dX2_substitute_15 : decode cX2_substitute 15 = .ok (.invokestatic 31, 3) := by decide +kernel
theorem dX2_substitute_18 : decode cX2_substitute 18 = .ok (.ifCond .eq 10, 3) := by decide +kernel
theorem dX2_substitute_21 : decode cX2_substitute 21 = .ok (.iload_n 3, 1) := by decide +kernel
theorem dX2_substitute_22 : decode cX2_substitute 22 = .ok (.invokestatic 51, 3) := by decide +kernel
theorem dX2_substitute_25 : decode cX2_substitute 25 = .ok (.ifCond .ne 9, 3) := by decide +kernel
theorem dX2_substitute_28 : decode cX2_substitute 28 = .ok (.aload_n 0, 1) := by decide +kernel
theorem dX2_substitute_29 : decode cX2_substitute 29 = .ok (.iconst 1, 1) := by decide +kernel
theorem dX2_substitute_30 : decode cX2_substitute 30 = .ok (.invokevirtual 55, 3) := by decide +kernel
theorem dX2_substitute_33 : decode cX2_substitute 33 = .ok (.ireturn, 1) := by decide +kernel
theorem dX2_substitute_34 : decode cX2_substitute 34 = .ok (.iconst 0, 1) := by decide +kernel
theorem dX2_substitute_35 : decode cX2_substitute 35 = .ok (.istore 4, 2) := by decide +kernel
theorem dX2_substitute_37 : decode cX2_substitute 37 = .ok (.iconst 0, 1) := by decide +kernel
theorem dX2_substitute_38 : decode cX2_substitute 38 = .ok (.istore 5, 2) := by decide +kernel
theorem dX2_substitute_40 : decode cX2_substitute 40 = .ok (.iload 5, 2) := by decide +kernel
theorem dX2_substitute_42 : decode cX2_substitute 42 = .ok (.bipush 16, 2) := by decide +kernel
theorem dX2_substitute_44 : decode cX2_substitute 44 = .ok (.if_icmp .ge 36, 3) := by decide +kernel
theorem dX2_substitute_47 : decode cX2_substitute 47 = .ok (.iload 4, 2) := by decide +kernel
theorem dX2_substitute_49 : decode cX2_substitute 49 = .ok (.aload_n 0, 1) := by decide +kernel
theorem dX2_substitute_50 : decode cX2_substitute 50 = .ok (.iload_n 1, 1) := by decide +kernel
theorem dX2_substitute_51 : decode cX2_substitute 51 = .ok (.iload 5, 2) := by decide +kernel
theorem dX2_substitute_53 : decode cX2_substitute 53 = .ok (.iload_n 2, 1) := by decide +kernel
theorem dX2_substitute_54 : decode cX2_substitute 54 = .ok (.aload_n 0, 1) := by decide +kernel
theorem dX2_substitute_55 : decode cX2_substitute 55 = .ok (.getfield 7, 3) := by decide +kernel
theorem dX2_substitute_58 : decode cX2_substitute 58 = .ok (.iload_n 3, 1) := by decide +kernel
theorem dX2_substitute_59 : decode cX2_substitute 59 = .ok (.iaload, 1) := by decide +kernel
theorem dX2_substitute_60 : decode cX2_substitute 60 = .ok (.iload 5, 2) := by decide +kernel
theorem dX2_substitute_62 : decode cX2_substitute 62 = .ok (.ishr, 1) := by decide +kernel
theorem dX2_substitute_63 : decode cX2_substitute 63 = .ok (.iconst 1, 1) := by decide +kernel
theorem dX2_substitute_64 : decode cX2_substitute 64 = .ok (.iand, 1) := by decide +kernel
theorem dX2_substitute_65 : decode cX2_substitute 65 = .ok (.invokevirtual 69, 3) := by decide +kernel
theorem dX2_substitute_68 : decode cX2_substitute 68 = .ok (.iload 5, 2) := by decide +kernel
theorem dX2_substitute_70 : decode cX2_substitute 70 = .ok (.ishl, 1) := by decide +kernel
theorem dX2_substitute_71 : decode cX2_substitute 71 = .ok (.ior, 1) := by decide +kernel
theorem dX2_substitute_72 : decode cX2_substitute 72 = .ok (.istore 4, 2) := by decide +kernel
theorem dX2_substitute_74 : decode cX2_substitute 74 = .ok (.iinc 5 1, 3) := by decide +kernel
theorem dX2_substitute_77 : decode cX2_substitute 77 = .ok (.goto (-37), 3) := by decide +kernel
theorem dX2_substitute_80 : decode cX2_substitute 80 = .ok (.aload_n 0, 1) := by decide +kernel
theorem dX2_substitute_81 : decode cX2_substitute 81 = .ok (.iload_n 1, 1) := by decide +kernel
theorem dX2_substitute_82 : decode cX2_substitute 82 = .ok (.iload 4, 2) := by decide +kernel
theorem dX2_substitute_84 : decode cX2_substitute 84 = .ok (.invokevirtual 65, 3) := by decide +kernel
theorem dX2_substitute_87 : decode cX2_substitute 87 = .ok (.ireturn, 1) := by decide +kernel
set_option maxRecDepth 20000 in
theorem ggX2_type_X2_fails : GoodIn wsX2_type wsX2_fails := goodIn_r _ [8, 1, 9, 10, 11, 12, 13, 14, 15, 16, 17, 18] (by decide +kernel) (by decide +kernel)
set_option maxRecDepth 20000 in
theorem gX2_type_X2_fails : GoodIn wsX2_type (wsV RX2 55 RX2 yX2_fails wsX2_fails) := goodIn_app (goodIn_of _ (by decide +kernel)) ggX2_type_X2_fails
theorem dX2_type_0 : decode cX2_type 0 = .ok (.aload_n 0, 1) := by decide +kernel
theorem dX2_type_1 : decode cX2_type 1 = .ok (.iconst 0, 1) := by decide +kernel
theorem dX2_type_2 : decode cX2_type 2 = .ok (.putfield 27, 3) := by decide +kernel
theorem dX2_type_5 : decode cX2_type 5 = .ok (.aload_n 0, 1) := by decide +kernel
theorem dX2_type_6 : decode cX2_type 6 = .ok (.getfield 73, 3) := by decide +kernel
theorem dX2_type_9 : decode cX2_type 9 = .ok (.bipush 80, 2) := by decide +kernel
theorem dX2_type_11 : decode cX2_type 11 = .ok (.if_icmp .ne 9, 3) := by decide +kernel
theorem dX2_type_14 : decode cX2_type 14 = .ok (.aload_n 0, 1) := by decide +kernel
theorem dX2_type_15 : decode cX2_type 15 = .ok (.iconst 1, 1) := by decide +kernel
theorem dX2_type_16 : decode cX2_type 16 = .ok (.invokevirtual 55, 3) := by decide +kernel
theorem dX2_type_19 : decode cX2_type 19 = .ok (.ireturn, 1) := by decide +kernel
theorem dX2_type_20 : decode cX2_type 20 = .ok (.aload_n 0, 1) := by decide +kernel
theorem dX2_type_21 : decode cX2_type 21 = .ok (.getfield 19, 3) := by decide +kernel
theorem dX2_type_24 : decode cX2_type 24 = .ok (.aload_n 0, 1) := by decide +kernel
theorem dX2_type_25 : decode cX2_type 25 = .ok (.getfield 73, 3) := by decide +kernel
theorem dX2_type_28 : decode cX2_type 28 = .ok (.iload_n 1, 1) := by decide +kernel
theorem dX2_type_29 : decode cX2_type 29 = .ok (.iastore, 1) := by decide +kernel
theorem dX2_type_30 : decode cX2_type 30 = .ok (.aload_n 0, 1) := by decide +kernel
theorem dX2_type_31 : decode cX2_type 31 = .ok (.dup, 1) := by decide +kernel
theorem dX2_type_32 : decode cX2_type 32 = .ok (.getfield 73, 3) := by decide +kernel
theorem dX2_type_35 : decode cX2_type 35 = .ok (.iconst 1, 1) := by decide +kernel
theorem dX2_type_36 : decode cX2_type 36 = .ok (.iadd, 1) := by decide +kernel
theorem dX2_type_37 : decode cX2_type 37 = .ok (.putfield 73, 3) := by decide +kernel
theorem dX2_type_40 : decode cX2_type 40 = .ok (.aload_n 0, 1) := by decide +kernel
theorem dX2_type_41 : decode cX2_type 41 = .ok (.getfield 73, 3) := by decide +kernel
theorem dX2_type_44 : decode cX2_type 44 = .ok (.ireturn, 1) := by decide +kernel
theorem dX2_clearText_0 : decode cX2_clearText 0 = .ok (.aload_n 0, 1) := by decide +kernel
theorem dX2_clearText_1 : decode cX2_clearText 1 = .ok (.iconst 0, 1) := by decide +kernel
theorem dX2_clearText_2 : decode cX2_clearText 2 = .ok (.putfield 27, 3) := by decide +kernel
theorem dX2_clearText_5 : decode cX2_clearText 5 = .ok (.aload_n 0, 1) := by decide +kernel
theorem dX2_clearText_6 : decode cX2_clearText 6 = .ok (.getfield 73, 3) := by decide +kernel
theorem dX2_clearText_9 : decode cX2_clearText 9 = .ok (.istore_n 1, 1) := by decide +kernel
theorem dX2_clearText_10 : decode cX2_clearText 10 = .ok (.aload_n 0, 1) := by decide +kernel
theorem dX2_clearText_11 : decode cX2_clearText 11 = .ok (.iconst 0, 1) := by decide +kernel
theorem dX2_clearText_12 : decode cX2_clearText 12 = .ok (.putfield 73, 3) := by decide +kernel
theorem dX2_clearText_15 : decode cX2_clearText 15 = .ok (.iload_n 1, 1) := by decide +kernel
theorem dX2_clearText_16 : decode cX2_clearText 16 = .ok (.ireturn, 1) := by decide +kernel
theorem dX2_has_0 : decode cX2_has 0 = .ok (.aload_n 0, 1) := by decide +kernel
theorem dX2_has_1 : decode cX2_has 1 = .ok (.getfield 62, 3) := by decide +kernel
theorem dX2_has_4 : decode cX2_has 4 = .ok (.iload_n 1, 1) := by decide +kernel
theorem dX2_has_5 : decode cX2_has 5 = .ok (.ishr, 1) := by decide +kernel
theorem dX2_has_6 : decode cX2_has 6 = .ok (.iconst 1, 1) := by decide +kernel
theorem dX2_has_7 : decode cX2_has 7 = .ok (.iand, 1) := by decide +kernel
theorem dX2_has_8 : decode cX2_has 8 = .ok (.iconst 1, 1) := by decide +kernel
theorem dX2_has_9 : decode cX2_has 9 = .ok (.if_icmp .ne 7, 3) := by decide +kernel
theorem dX2_has_12 : decode cX2_has 12 = .ok (.iconst 1, 1) := by decide +kernel
theorem dX2_has_13 : decode cX2_has 13 = .ok (.goto 4, 3) := by decide +kernel
theorem dX2_has_16 : decode cX2_has 16 = .ok (.iconst 0, 1) := by decide +kernel
theorem dX2_has_17 : decode cX2_has 17 = .ok (.ireturn, 1) := by decide +kernel
set_option maxRecDepth 20000 in
theorem ggX2_canCome_X2_bits : GoodIn wsX2_canCome wsX2_bits := goodIn_r _ [4] (by decide +kernel) (by decide +kernel)
set_option maxRecDepth 20000 in
theorem gX2_canCome_X2_bits : GoodIn wsX2_canCome (va_wsS RX2 45 yX2_bits wsX2_bits) := goodIn_app (goodIn_of _ (by decide +kernel)) ggX2_canCome_X2_bits
set_option maxRecDepth 20000 in
theorem ggX2_canCome_X2_highest : GoodIn wsX2_canCome wsX2_highest := goodIn_r _ [7] (by decide +kernel) (by decide +kernel)
set_option maxRecDepth 20000 in
theorem gX2_canCome_X2_highest : GoodIn wsX2_canCome (va_wsS RX2 76 yX2_highest wsX2_highest) := goodIn_app (goodIn_of _ (by decide +kernel)) ggX2_canCome_X2_highest
set_option maxRecDepth 20000 in
theorem ggX2_canCome_X2_has : GoodIn wsX2_canCome wsX2_has := goodIn_r _ [11, 12, 13, 14, 15, 16, 17, 18, 19, 20, 21, 22] (by decide +kernel) (by decide +kernel)
set_option maxRecDepth 20000 in
theorem gX2_canCome_X2_has : GoodIn wsX2_canCome (wsV RX2 79 RX2 yX2_has wsX2_has) := goodIn_app (goodIn_of _ (by decide +kernel)) ggX2_canCome_X2_has
theorem dX2_canCome_0 : decode cX2_canCome 0 = .ok (.iconst 0, 1) := by decide +kernel
theorem dX2_canCome_1 : decode cX2_canCome 1 = .ok (.istore_n 2, 1) := by decide +kernel
theorem dX2_canCome_2 : decode cX2_canCome 2 = .ok (.iload_n 1, 1) := by decide +kernel
theorem dX2_canCome_3 : decode cX2_canCome 3 = .ok (.istore_n 3, 1) := by decide +kernel
theorem dX2_canCome_4 : decode cX2_canCome 4 = .ok (.iload_n 3, 1) := by decide +kernel
theorem dX2_canCome_5 : decode cX2_canCome 5 = .ok (.bipush 16, 2) := by decide +kernel
theorem dX2_canCome_7 : decode cX2_canCome 7 = .ok (.if_icmp .ge 84, 3) := by decide +kernel
theorem dX2_canCome_10 : decode cX2_canCome 10 = .ok (.iload_n 3, 1) := by decide +kernel
theorem dX2_canCome_11 : decode cX2_canCome 11 = .ok (.iload_n 1, 1) := by decide +kernel
theorem dX2_canCome_12 : decode cX2_canCome 12 = .ok (.iconst (-1), 1) := by decide +kernel
theorem dX2_canCome_13 : decode cX2_canCome 13 = .ok (.ixor, 1) := by decide +kernel
theorem dX2_canCome_14 : decode cX2_canCome 14 = .ok (.iand, 1) := by decide +kernel
theorem dX2_canCome_15 : decode cX2_canCome 15 = .ok (.istore 4, 2) := by decide +kernel
theorem dX2_canCome_17 : decode cX2_canCome 17 = .ok (.iload_n 1, 1) := by decide +kernel
theorem dX2_canCome_18 : decode cX2_canCome 18 = .ok (.invokestatic 45, 3) := by decide +kernel
theorem dX2_canCome_21 : decode cX2_canCome 21 = .ok (.ifCond .ne 7, 3) := by decide +kernel
theorem dX2_canCome_24 : decode cX2_canCome 24 = .ok (.iconst (-1), 1) := by decide +kernel
theorem dX2_canCome_25 : decode cX2_canCome 25 = .ok (.goto 7, 3) := by decide +kernel
theorem dX2_canCome_28 : decode cX2_canCome 28 = .ok (.iload_n 1, 1) := by decide +kernel
theorem dX2_canCome_29 : decode cX2_canCome 29 = .ok (.invokestatic 76, 3) := by decide +kernel
theorem dX2_canCome_32 : decode cX2_canCome 32 = .ok (.istore 5, 2) := by decide +kernel
theorem dX2_canCome_34 : decode cX2_canCome 34 = .ok (.iload_n 3, 1) := by decide +kernel
theorem dX2_canCome_35 : decode cX2_canCome 35 = .ok (.iload_n 1, 1) := by decide +kernel
theorem dX2_canCome_36 : decode cX2_canCome 36 = .ok (.iand, 1) := by decide +kernel
theorem dX2_canCome_37 : decode cX2_canCome 37 = .ok (.iload_n 1, 1) := by decide +kernel
theorem dX2_canCome_38 : decode cX2_canCome 38 = .ok (.if_icmp .ne 21, 3) := by decide +kernel
theorem dX2_canCome_41 : decode cX2_canCome 41 = .ok (.iload 4, 2) := by decide +kernel
theorem dX2_canCome_43 : decode cX2_canCome 43 = .ok (.iconst 1, 1) := by decide +kernel
theorem dX2_canCome_44 : decode cX2_canCome 44 = .ok (.iload 5, 2) := by decide +kernel
theorem dX2_canCome_46 : decode cX2_canCome 46 = .ok (.iconst 1, 1) := by decide +kernel
theorem dX2_canCome_47 : decode cX2_canCome 47 = .ok (.iadd, 1) := by decide +kernel
theorem dX2_canCome_48 : decode cX2_canCome 48 = .ok (.ishl, 1) := by decide +kernel
theorem dX2_canCome_49 : decode cX2_canCome 49 = .ok (.iconst 1, 1) := by decide +kernel
theorem dX2_canCome_50 : decode cX2_canCome 50 = .ok (.isub, 1) := by decide +kernel
theorem dX2_canCome_51 : decode cX2_canCome 51 = .ok (.iand, 1) := by decide +kernel
theorem dX2_canCome_52 : decode cX2_canCome 52 = .ok (.ifCond .ne 7, 3) := by decide +kernel
theorem dX2_canCome_55 : decode cX2_canCome 55 = .ok (.iconst 1, 1) := by decide +kernel
theorem dX2_canCome_56 : decode cX2_canCome 56 = .ok (.goto 4, 3) := by decide +kernel
theorem dX2_canCome_59 : decode cX2_canCome 59 = .ok (.iconst 0, 1) := by decide +kernel
theorem dX2_canCome_60 : decode cX2_canCome 60 = .ok (.istore 6, 2) := by decide +kernel
theorem dX2_canCome_62 : decode cX2_canCome 62 = .ok (.iload_n 2, 1) := by decide +kernel
theorem dX2_canCome_63 : decode cX2_canCome 63 = .ok (.ifCond .ne 16, 3) := by decide +kernel
theorem dX2_canCome_66 : decode cX2_canCome 66 = .ok (.iload 6, 2) := by decide +kernel
theorem dX2_canCome_68 : decode cX2_canCome 68 = .ok (.ifCond .eq 15, 3) := by decide +kernel
theorem dX2_canCome_71 : decode cX2_canCome 71 = .ok (.aload_n 0, 1) := by decide +kernel
theorem dX2_canCome_72 : decode cX2_canCome 72 = .ok (.iload_n 3, 1) := by decide +kernel
theorem dX2_canCome_73 : decode cX2_canCome 73 = .ok (.invokevirtual 79, 3) := by decide +kernel
theorem dX2_canCome_76 : decode cX2_canCome 76 = .ok (.ifCond .ne 7, 3) := by decide +kernel
theorem dX2_canCome_79 : decode cX2_canCome 79 = .ok (.iconst 1, 1) := by decide +kernel
theorem dX2_canCome_80 : decode cX2_canCome 80 = .ok (.goto 4, 3) := by decide +kernel
theorem dX2_canCome_83 : decode cX2_canCome 83 = .ok (.iconst 0, 1) := by decide +kernel
theorem dX2_canCome_84 : decode cX2_canCome 84 = .ok (.istore_n 2, 1) := by decide +kernel
theorem dX2_canCome_85 : decode cX2_canCome 85 = .ok (.iinc 3 1, 3) := by decide +kernel
theorem dX2_canCome_88 : decode cX2_canCome 88 = .ok (.goto (-84), 3) := by decide +kernel
theorem dX2_canCome_91 : decode cX2_canCome 91 = .ok (.iload_n 2, 1) := by decide +kernel
theorem dX2_canCome_92 : decode cX2_canCome 92 = .ok (.ireturn, 1) := by decide +kernel
theorem dX2_highest_0 : decode cX2_highest 0 = .ok (.iconst 3, 1) := by decide +kernel
theorem dX2_highest_1 : decode cX2_highest 1 = .ok (.istore_n 1, 1) := by decide +kernel
theorem dX2_highest_2 : decode cX2_highest 2 = .ok (.iload_n 0, 1) := by decide +kernel
theorem dX2_highest_3 : decode cX2_highest 3 = .ok (.iload_n 1, 1) := by decide +kernel
theorem dX2_highest_4 : decode cX2_highest 4 = .ok (.ishr, 1) := by decide +kernel
theorem dX2_highest_5 : decode cX2_highest 5 = .ok (.iconst 1, 1) := by decide +kernel
theorem dX2_highest_6 : decode cX2_highest 6 = .ok (.iand, 1) := by decide +kernel
theorem dX2_highest_7 : decode cX2_highest 7 = .ok (.ifCond .ne 9, 3) := by decide +kernel
theorem dX2_highest_10 : decode cX2_highest 10 = .ok (.iinc 1 (-1), 3) := by decide +kernel
theorem dX2_highest_13 : decode cX2_highest 13 = .ok (.goto (-11), 3) := by decide +kernel
theorem dX2_highest_16 : decode cX2_highest 16 = .ok (.iload_n 1, 1) := by decide +kernel
theorem dX2_highest_17 : decode cX2_highest 17 = .ok (.ireturn, 1) := by decide +kernel
set_option maxRecDepth 20000 in
theorem ggX2_product_X2_has : GoodIn wsX2_product wsX2_has := goodIn_r _ [8, 9, 23, 24, 25, 26, 27, 28, 29, 30, 31, 32] (by decide +kernel) (by decide +kernel)
set_option maxRecDepth 20000 in
theorem gX2_product_X2_has : GoodIn wsX2_product (wsV RX2 79 RX2 yX2_has wsX2_has) := goodIn_app (goodIn_of _ (by decide +kernel)) ggX2_product_X2_has
set_option maxRecDepth 20000 in
theorem ggX2_product_X2_highest : GoodIn wsX2_product wsX2_highest := goodIn_r _ [12] (by decide +kernel) (by decide +kernel)
set_option maxRecDepth 20000 in
theorem gX2_product_X2_highest : GoodIn wsX2_product (va_wsS RX2 76 yX2_highest wsX2_highest) := goodIn_app (goodIn_of _ (by decide +kernel)) ggX2_product_X2_highest
set_option maxRecDepth 20000 in
theorem ggX2_product_X2_in : GoodIn wsX2_product wsX2_in := goodIn_r _ [15] (by decide +kernel) (by decide +kernel)
set_option maxRecDepth 20000 in
theorem gX2_product_X2_in : GoodIn wsX2_product (va_wsS RX2 31 yX2_in wsX2_in) := goodIn_app (goodIn_of _ (by decide +kernel)) ggX2_product_X2_in
set_option maxRecDepth 20000 in
theorem ggX2_product_X2_canCome : GoodIn wsX2_product wsX2_canCome := goodIn_r _ [19, 20, 21, 7, 22, 10, 11, 12, 4, 5, 6, 8, 9, 23, 24, 25, 26, 27, 28, 29, 30, 31, 32] (by decide +kernel) (by decide +kernel)
set_option maxRecDepth 20000 in
theorem gX2_product_X2_canCome : GoodIn wsX2_product (wsV RX2 85 RX2 yX2_canCome wsX2_canCome) := goodIn_app (goodIn_of _ (by decide +kernel)) ggX2_product_X2_canCome
theorem dX2_product_0 : decode cX2_product 0 = .ok (.aload_n 0, 1) := by decide +kernel
theorem dX2_product_1 : decode cX2_product 1 = .ok (.getfield 82, 3) := by decide +kernel
theorem dX2_product_4 : decode cX2_product 4 = .ok (.aload_n 0, 1) := by decide +kernel
theorem dX2_product_5 : decode cX2_product 5 = .ok (.getfield 73, 3) := by decide +kernel
theorem dX2_product_8 : decode cX2_product 8 = .ok (.if_icmp .ge 37, 3) := by decide +kernel
theorem dX2_product_11 : decode cX2_product 11 = .ok (.aload_n 0, 1) := by decide +kernel
theorem dX2_product_12 : decode cX2_product 12 = .ok (.getfield 19, 3) := by decide +kernel
theorem dX2_product_15 : decode cX2_product 15 = .ok (.aload_n 0, 1) := by decide +kernel
theorem dX2_product_16 : decode cX2_product 16 = .ok (.getfield 82, 3) := by decide +kernel
theorem dX2_product_19 : decode cX2_product 19 = .ok (.iaload, 1) := by decide +kernel
theorem dX2_product_20 : decode cX2_product 20 = .ok (.bipush 49, 2) := by decide +kernel
theorem dX2_product_22 : decode cX2_product 22 = .ok (.if_icmp .ne 23, 3) := by decide +kernel
theorem dX2_product_25 : decode cX2_product 25 = .ok (.aload_n 0, 1) := by decide +kernel
theorem dX2_product_26 : decode cX2_product 26 = .ok (.iconst 0, 1) := by decide +kernel
theorem dX2_product_27 : decode cX2_product 27 = .ok (.invokevirtual 79, 3) := by decide +kernel
theorem dX2_product_30 : decode cX2_product 30 = .ok (.ifCond .ne 15, 3) := by decide +kernel
theorem dX2_product_33 : decode cX2_product 33 = .ok (.aload_n 0, 1) := by decide +kernel
theorem dX2_product_34 : decode cX2_product 34 = .ok (.dup, 1) := by decide +kernel
theorem dX2_product_35 : decode cX2_product 35 = .ok (.getfield 82, 3) := by decide +kernel
theorem dX2_product_38 : decode cX2_product 38 = .ok (.iconst 1, 1) := by decide +kernel
theorem dX2_product_39 : decode cX2_product 39 = .ok (.iadd, 1) := by decide +kernel
theorem dX2_product_40 : decode cX2_product 40 = .ok (.putfield 82, 3) := by decide +kernel
theorem dX2_product_43 : decode cX2_product 43 = .ok (.iconst 0, 1) := by decide +kernel
theorem dX2_product_44 : decode cX2_product 44 = .ok (.ireturn, 1) := by decide +kernel
theorem dX2_product_45 : decode cX2_product 45 = .ok (.iconst 0, 1) := by decide +kernel
theorem dX2_product_46 : decode cX2_product 46 = .ok (.istore_n 1, 1) := by decide +kernel
theorem dX2_product_47 : decode cX2_product 47 = .ok (.iconst 1, 1) := by decide +kernel
theorem dX2_product_48 : decode cX2_product 48 = .ok (.istore_n 2, 1) := by decide +kernel
theorem dX2_product_49 : decode cX2_product 49 = .ok (.iload_n 2, 1) := by decide +kernel
theorem dX2_product_50 : decode cX2_product 50 = .ok (.ifCond .eq 102, 3) := by decide +kernel
theorem dX2_product_53 : decode cX2_product 53 = .ok (.aload_n 0, 1) := by decide +kernel
theorem dX2_product_54 : decode cX2_product 54 = .ok (.getfield 82, 3) := by decide +kernel
theorem dX2_product_57 : decode cX2_product 57 = .ok (.aload_n 0, 1) := by decide +kernel
theorem dX2_product_58 : decode cX2_product 58 = .ok (.getfield 73, 3) := by decide +kernel
theorem dX2_product_61 : decode cX2_product 61 = .ok (.if_icmp .ge 91, 3) := by decide +kernel
theorem dX2_product_64 : decode cX2_product 64 = .ok (.aload_n 0, 1) := by decide +kernel
theorem dX2_product_65 : decode cX2_product 65 = .ok (.getfield 19, 3) := by decide +kernel
theorem dX2_product_68 : decode cX2_product 68 = .ok (.aload_n 0, 1) := by decide +kernel
theorem dX2_product_69 : decode cX2_product 69 = .ok (.getfield 82, 3) := by decide +kernel
theorem dX2_product_72 : decode cX2_product 72 = .ok (.iaload, 1) := by decide +kernel
theorem dX2_product_73 : decode cX2_product 73 = .ok (.bipush 97, 2) := by decide +kernel
theorem dX2_product_75 : decode cX2_product 75 = .ok (.isub, 1) := by decide +kernel
theorem dX2_product_76 : decode cX2_product 76 = .ok (.istore_n 3, 1) := by decide +kernel
theorem dX2_product_77 : decode cX2_product 77 = .ok (.iload_n 3, 1) := by decide +kernel
theorem dX2_product_78 : decode cX2_product 78 = .ok (.iload_n 1, 1) := by decide +kernel
theorem dX2_product_79 : decode cX2_product 79 = .ok (.ifCond .ne 7, 3) := by decide +kernel
theorem dX2_product_82 : decode cX2_product 82 = .ok (.iconst 0, 1) := by decide +kernel
theorem dX2_product_83 : decode cX2_product 83 = .ok (.goto 9, 3) := by decide +kernel
theorem dX2_product_86 : decode cX2_product 86 = .ok (.iload_n 1, 1) := by decide +kernel
theorem dX2_product_87 : decode cX2_product 87 = .ok (.invokestatic 76, 3) := by decide +kernel
theorem dX2_product_90 : decode cX2_product 90 = .ok (.iconst 1, 1) := by decide +kernel
theorem dX2_product_91 : decode cX2_product 91 = .ok (.iadd, 1) := by decide +kernel
theorem dX2_product_92 : decode cX2_product 92 = .ok (.iconst 3, 1) := by decide +kernel
theorem dX2_product_93 : decode cX2_product 93 = .ok (.invokestatic 31, 3) := by decide +kernel
theorem dX2_product_96 : decode cX2_product 96 = .ok (.ifCond .eq 19, 3) := by decide +kernel
theorem dX2_product_99 : decode cX2_product 99 = .ok (.aload_n 0, 1) := by decide +kernel
theorem dX2_product_100 : decode cX2_product 100 = .ok (.iload_n 1, 1) := by decide +kernel
theorem dX2_product_101 : decode cX2_product 101 = .ok (.iconst 1, 1) := by decide +kernel
theorem dX2_product_102 : decode cX2_product 102 = .ok (.iload_n 3, 1) := by decide +kernel
theorem dX2_product_103 : decode cX2_product 103 = .ok (.ishl, 1) := by decide +kernel
theorem dX2_product_104 : decode cX2_product 104 = .ok (.ior, 1) := by decide +kernel
theorem dX2_product_105 : decode cX2_product 105 = .ok (.invokevirtual 85, 3) := by decide +kernel
theorem dX2_product_108 : decode cX2_product 108 = .ok (.ifCond .eq 7, 3) := by decide +kernel
theorem dX2_product_111 : decode cX2_product 111 = .ok (.iconst 1, 1) := by decide +kernel
theorem dX2_product_112 : decode cX2_product 112 = .ok (.goto 4, 3) := by decide +kernel
theorem dX2_product_115 : decode cX2_product 115 = .ok (.iconst 0, 1) := by decide +kernel
theorem dX2_product_116 : decode cX2_product 116 = .ok (.istore_n 2, 1) := by decide +kernel
theorem dX2_product_117 : decode cX2_product 117 = .ok (.iload_n 1, 1) := by decide +kernel
theorem dX2_product_118 : decode cX2_product 118 = .ok (.iload_n 2, 1) := by decide +kernel
theorem dX2_product_119 : decode cX2_product 119 = .ok (.ifCond .eq 9, 3) := by decide +kernel
theorem dX2_product_122 : decode cX2_product 122 = .ok (.iconst 1, 1) := by decide +kernel
theorem dX2_product_123 : decode cX2_product 123 = .ok (.iload_n 3, 1) := by decide +kernel
theorem dX2_product_124 : decode cX2_product 124 = .ok (.ishl, 1) := by decide +kernel
theorem dX2_product_125 : decode cX2_product 125 = .ok (.goto 4, 3) := by decide +kernel
theorem dX2_product_128 : decode cX2_product 128 = .ok (.iconst 0, 1) := by decide +kernel
theorem dX2_product_129 : decode cX2_product 129 = .ok (.ior, 1) := by decide +kernel
theorem dX2_product_130 : decode cX2_product 130 = .ok (.istore_n 1, 1) := by decide +kernel
theorem dX2_product_131 : decode cX2_product 131 = .ok (.aload_n 0, 1) := by decide +kernel
theorem dX2_product_132 : decode cX2_product 132 = .ok (.dup, 1) := by decide +kernel
theorem dX2_product_133 : decode cX2_product 133 = .ok (.getfield 82, 3) := by decide +kernel
theorem dX2_product_136 : decode cX2_product 136 = .ok (.iload_n 2, 1) := by decide +kernel
theorem dX2_product_137 : decode cX2_product 137 = .ok (.ifCond .eq 7, 3) := by decide +kernel
theorem dX2_product_140 : decode cX2_product 140 = .ok (.iconst 1, 1) := by decide +kernel
theorem dX2_product_141 : decode cX2_product 141 = .ok (.goto 4, 3) := by decide +kernel
theorem dX2_product_144 : decode cX2_product 144 = .ok (.iconst 0, 1) := by decide +kernel
theorem dX2_product_145 : decode cX2_product 145 = .ok (.iadd, 1) := by decide +kernel
theorem dX2_product_146 : decode cX2_product 146 = .ok (.putfield 82, 3) := by decide +kernel
theorem dX2_product_149 : decode cX2_product 149 = .ok (.goto (-100), 3) := by decide +kernel
theorem dX2_product_152 : decode cX2_product 152 = .ok (.iload_n 1, 1) := by decide +kernel
theorem dX2_product_153 : decode cX2_product 153 = .ok (.ifCond .ne 7, 3) := by decide +kernel
theorem dX2_product_156 : decode cX2_product 156 = .ok (.iconst (-1), 1) := by decide +kernel
theorem dX2_product_157 : decode cX2_product 157 = .ok (.goto 4, 3) := by decide +kernel
theorem dX2_product_160 : decode cX2_product 160 = .ok (.iload_n 1, 1) := by decide +kernel
theorem dX2_product_161 : decode cX2_product 161 = .ok (.ireturn, 1) := by decide +kernel
set_option maxRecDepth 20000 in
theorem ggX2_reads_X2_product : GoodIn wsX2_reads wsX2_product := goodIn_r _ [10, 1, 3, 4, 11, 12, 13, 9, 14, 2, 15, 16, 17, 18, 19, 20, 21, 22, 23, 24, 25, 26, 27, 28, 29, 30, 31, 32, 33, 34, 35, 36, 37] (by decide +kernel) (by decide +kernel)
set_option maxRecDepth 20000 in
theorem gX2_reads_X2_product : GoodIn wsX2_reads (wsV RX2 88 RX2 yX2_product wsX2_product) := goodIn_app (goodIn_of _ (by decide +kernel)) ggX2_reads_X2_product
set_option maxRecDepth 20000 in
theorem ggX2_reads_X2_has : GoodIn wsX2_reads wsX2_has := goodIn_r _ [14, 2, 28, 29, 30, 31, 32, 33, 34, 35, 36, 37] (by decide +kernel) (by decide +kernel)
set_option maxRecDepth 20000 in
theorem gX2_reads_X2_has : GoodIn wsX2_reads (wsV RX2 79 RX2 yX2_has wsX2_has) := goodIn_app (goodIn_of _ (by decide +kernel)) ggX2_reads_X2_has
theorem dX2_reads_0 : decode cX2_reads 0 = .ok (.aload_n 0, 1) := by decide +kernel
theorem dX2_reads_1 : decode cX2_reads 1 = .ok (.iconst 0, 1) := by decide +kernel
theorem dX2_reads_2 : decode cX2_reads 2 = .ok (.putfield 82, 3) := by decide +kernel
theorem dX2_reads_5 : decode cX2_reads 5 = .ok (.aload_n 0, 1) := by decide +kernel
theorem dX2_reads_6 : decode cX2_reads 6 = .ok (.iconst 0, 1) := by decide +kernel
theorem dX2_reads_7 : decode cX2_reads 7 = .ok (.putfield 62, 3) := by decide +kernel
theorem dX2_reads_10 : decode cX2_reads 10 = .ok (.aload_n 0, 1) := by decide +kernel
theorem dX2_reads_11 : decode cX2_reads 11 = .ok (.getfield 73, 3) := by decide +kernel
theorem dX2_reads_14 : decode cX2_reads 14 = .ok (.ifCond .le 33, 3) := by decide +kernel
theorem dX2_reads_17 : decode cX2_reads 17 = .ok (.aload_n 0, 1) := by decide +kernel
theorem dX2_reads_18 : decode cX2_reads 18 = .ok (.getfield 19, 3) := by decide +kernel
theorem dX2_reads_21 : decode cX2_reads 21 = .ok (.iconst 0, 1) := by decide +kernel
theorem dX2_reads_22 : decode cX2_reads 22 = .ok (.iaload, 1) := by decide +kernel
theorem dX2_reads_23 : decode cX2_reads 23 = .ok (.bipush 48, 2) := by decide +kernel
theorem dX2_reads_25 : decode cX2_reads 25 = .ok (.if_icmp .ne 22, 3) := by decide +kernel
theorem dX2_reads_28 : decode cX2_reads 28 = .ok (.aload_n 0, 1) := by decide +kernel
theorem dX2_reads_29 : decode cX2_reads 29 = .ok (.iconst 1, 1) := by decide +kernel
theorem dX2_reads_30 : decode cX2_reads 30 = .ok (.putfield 82, 3) := by decide +kernel
theorem dX2_reads_33 : decode cX2_reads 33 = .ok (.aload_n 0, 1) := by decide +kernel
theorem dX2_reads_34 : decode cX2_reads 34 = .ok (.getfield 73, 3) := by decide +kernel
theorem dX2_reads_37 : decode cX2_reads 37 = .ok (.iconst 1, 1) := by decide +kernel
theorem dX2_reads_38 : decode cX2_reads 38 = .ok (.if_icmp .ne 7, 3) := by decide +kernel
theorem dX2_reads_41 : decode cX2_reads 41 = .ok (.iconst 1, 1) := by decide +kernel
theorem dX2_reads_42 : decode cX2_reads 42 = .ok (.goto 4, 3) := by decide +kernel
theorem dX2_reads_45 : decode cX2_reads 45 = .ok (.iconst 0, 1) := by decide +kernel
theorem dX2_reads_46 : decode cX2_reads 46 = .ok (.ireturn, 1) := by decide +kernel
theorem dX2_reads_47 : decode cX2_reads 47 = .ok (.iconst 1, 1) := by decide +kernel
theorem dX2_reads_48 : decode cX2_reads 48 = .ok (.istore_n 1, 1) := by decide +kernel
theorem dX2_reads_49 : decode cX2_reads 49 = .ok (.iload_n 1, 1) := by decide +kernel
theorem dX2_reads_50 : decode cX2_reads 50 = .ok (.ifCond .eq 95, 3) := by decide +kernel
theorem dX2_reads_53 : decode cX2_reads 53 = .ok (.aload_n 0, 1) := by decide +kernel
theorem dX2_reads_54 : decode cX2_reads 54 = .ok (.invokevirtual 88, 3) := by decide +kernel
theorem dX2_reads_57 : decode cX2_reads 57 = .ok (.istore_n 2, 1) := by decide +kernel
theorem dX2_reads_58 : decode cX2_reads 58 = .ok (.iload_n 2, 1) := by decide +kernel
theorem dX2_reads_59 : decode cX2_reads 59 = .ok (.ifCond .lt 11, 3) := by decide +kernel
theorem dX2_reads_62 : decode cX2_reads 62 = .ok (.aload_n 0, 1) := by decide +kernel
theorem dX2_reads_63 : decode cX2_reads 63 = .ok (.iload_n 2, 1) := by decide +kernel
theorem dX2_reads_64 : decode cX2_reads 64 = .ok (.invokevirtual 79, 3) := by decide +kernel
theorem dX2_reads_67 : decode cX2_reads 67 = .ok (.ifCond .eq 5, 3) := by decide +kernel
theorem dX2_reads_70 : decode cX2_reads 70 = .ok (.iconst 0, 1) := by decide +kernel
theorem dX2_reads_71 : decode cX2_reads 71 = .ok (.ireturn, 1) := by decide +kernel
theorem dX2_reads_72 : decode cX2_reads 72 = .ok (.aload_n 0, 1) := by decide +kernel
theorem dX2_reads_73 : decode cX2_reads 73 = .ok (.dup, 1) := by decide +kernel
theorem dX2_reads_74 : decode cX2_reads 74 = .ok (.getfield 62, 3) := by decide +kernel
theorem dX2_reads_77 : decode cX2_reads 77 = .ok (.iconst 1, 1) := by decide +kernel
theorem dX2_reads_78 : decode cX2_reads 78 = .ok (.iload_n 2, 1) := by decide +kernel
theorem dX2_reads_79 : decode cX2_reads 79 = .ok (.ishl, 1) := by decide +kernel
theorem dX2_reads_80 : decode cX2_reads 80 = .ok (.ior, 1) := by decide +kernel
theorem dX2_reads_81 : decode cX2_reads 81 = .ok (.putfield 62, 3) := by decide +kernel
theorem dX2_reads_84 : decode cX2_reads 84 = .ok (.aload_n 0, 1) := by decide +kernel
theorem dX2_reads_85 : decode cX2_reads 85 = .ok (.getfield 62, 3) := by decide +kernel
theorem dX2_reads_88 : decode cX2_reads 88 = .ok (.ldc 26, 2) := by decide +kernel
theorem dX2_reads_90 : decode cX2_reads 90 = .ok (.if_icmp .eq 32, 3) := by decide +kernel
theorem dX2_reads_93 : decode cX2_reads 93 = .ok (.aload_n 0, 1) := by decide +kernel
theorem dX2_reads_94 : decode cX2_reads 94 = .ok (.getfield 82, 3) := by decide +kernel
theorem dX2_reads_97 : decode cX2_reads 97 = .ok (.aload_n 0, 1) := by decide +kernel
theorem dX2_reads_98 : decode cX2_reads 98 = .ok (.getfield 73, 3) := by decide +kernel
theorem dX2_reads_101 : decode cX2_reads 101 = .ok (.if_icmp .ge 21, 3) := by decide +kernel
theorem dX2_reads_104 : decode cX2_reads 104 = .ok (.aload_n 0, 1) := by decide +kernel
theorem dX2_reads_105 : decode cX2_reads 105 = .ok (.getfield 19, 3) := by decide +kernel
theorem dX2_reads_108 : decode cX2_reads 108 = .ok (.aload_n 0, 1) := by decide +kernel
theorem dX2_reads_109 : decode cX2_reads 109 = .ok (.getfield 82, 3) := by decide +kernel
theorem dX2_reads_112 : decode cX2_reads 112 = .ok (.iaload, 1) := by decide +kernel
theorem dX2_reads_113 : decode cX2_reads 113 = .ok (.bipush 43, 2) := by decide +kernel
theorem dX2_reads_115 : decode cX2_reads 115 = .ok (.if_icmp .ne 7, 3) := by decide +kernel
theorem dX2_reads_118 : decode cX2_reads 118 = .ok (.iconst 1, 1) := by decide +kernel
theorem dX2_reads_119 : decode cX2_reads 119 = .ok (.goto 4, 3) := by decide +kernel
theorem dX2_reads_122 : decode cX2_reads 122 = .ok (.iconst 0, 1) := by decide +kernel
theorem dX2_reads_123 : decode cX2_reads 123 = .ok (.istore_n 1, 1) := by decide +kernel
theorem dX2_reads_124 : decode cX2_reads 124 = .ok (.aload_n 0, 1) := by decide +kernel
theorem dX2_reads_125 : decode cX2_reads 125 = .ok (.dup, 1) := by decide +kernel
theorem dX2_reads_126 : decode cX2_reads 126 = .ok (.getfield 82, 3) := by decide +kernel
theorem dX2_reads_129 : decode cX2_reads 129 = .ok (.iload_n 1, 1) := by decide +kernel
theorem dX2_reads_130 : decode cX2_reads 130 = .ok (.ifCond .eq 7, 3) := by decide +kernel
theorem dX2_reads_133 : decode cX2_reads 133 = .ok (.iconst 1, 1) := by decide +kernel
theorem dX2_reads_134 : decode cX2_reads 134 = .ok (.goto 4, 3) := by decide +kernel
theorem dX2_reads_137 : decode cX2_reads 137 = .ok (.iconst 0, 1) := by decide +kernel
theorem dX2_reads_138 : decode cX2_reads 138 = .ok (.iadd, 1) := by decide +kernel
theorem dX2_reads_139 : decode cX2_reads 139 = .ok (.putfield 82, 3) := by decide +kernel
theorem dX2_reads_142 : decode cX2_reads 142 = .ok (.goto (-93), 3) := by decide +kernel
theorem dX2_reads_145 : decode cX2_reads 145 = .ok (.aload_n 0, 1) := by decide +kernel
theorem dX2_reads_146 : decode cX2_reads 146 = .ok (.getfield 82, 3) := by decide +kernel
theorem dX2_reads_149 : decode cX2_reads 149 = .ok (.aload_n 0, 1) := by decide +kernel
theorem dX2_reads_150 : decode cX2_reads 150 = .ok (.getfield 73, 3) := by decide +kernel
theorem dX2_reads_153 : decode cX2_reads 153 = .ok (.if_icmp .ne 7, 3) := by decide +kernel
theorem dX2_reads_156 : decode cX2_reads 156 = .ok (.iconst 1, 1) := by decide +kernel
theorem dX2_reads_157 : decode cX2_reads 157 = .ok (.goto 4, 3) := by decide +kernel
theorem dX2_reads_160 : decode cX2_reads 160 = .ok (.iconst 0, 1) := by decide +kernel
theorem dX2_reads_161 : decode cX2_reads 161 = .ok (.ireturn, 1) := by decide +kernel
set_option maxRecDepth 20000 in
theorem ggX2_textError_X2_reads : GoodIn wsX2_textError wsX2_reads := goodIn_r _ [7, 2, 8, 9, 10, 11, 12, 13, 14, 6, 15, 16, 17, 18, 19, 20, 21, 22, 23, 24, 25, 26, 27, 28, 29, 30, 31, 32, 33, 34, 35, 36, 37, 38, 39, 40, 41, 42] (by decide +kernel) (by decide +kernel)
set_option maxRecDepth 20000 in
theorem gX2_textError_X2_reads : GoodIn wsX2_textError (wsV RX2 58 RX2 yX2_reads wsX2_reads) := goodIn_app (goodIn_of _ (by decide +kernel)) ggX2_textError_X2_reads
theorem dX2_textError_0 : decode cX2_textError 0 = .ok (.aload_n 0, 1) := by decide +kernel
theorem dX2_textError_1 : decode cX2_textError 1 = .ok (.iconst 0, 1) := by decide +kernel
theorem dX2_textError_2 : decode cX2_textError 2 = .ok (.putfield 27, 3) := by decide +kernel
theorem dX2_textError_5 : decode cX2_textError 5 = .ok (.aload_n 0, 1) := by decide +kernel
theorem dX2_textError_6 : decode cX2_textError 6 = .ok (.invokevirtual 58, 3) := by decide +kernel
theorem dX2_textError_9 : decode cX2_textError 9 = .ok (.ifCond .eq 7, 3) := by decide +kernel
theorem dX2_textError_12 : decode cX2_textError 12 = .ok (.iconst (-1), 1) := by decide +kernel
theorem dX2_textError_13 : decode cX2_textError 13 = .ok (.goto 7, 3) := by decide +kernel
theorem dX2_textError_16 : decode cX2_textError 16 = .ok (.aload_n 0, 1) := by decide +kernel
theorem dX2_textError_17 : decode cX2_textError 17 = .ok (.getfield 82, 3) := by decide +kernel
theorem dX2_textError_20 : decode cX2_textError 20 = .ok (.ireturn, 1) := by decide +kernel
set_option maxRecDepth 20000 in
theorem ggX2_textProducts_X2_reads : GoodIn wsX2_textProducts wsX2_reads := goodIn_r _ [7, 8, 2, 9, 10, 11, 12, 13, 14, 6, 15, 16, 17, 18, 19, 20, 21, 22, 23, 24, 25, 26, 27, 28, 29, 30, 31, 32, 37, 38, 39, 40, 41, 42, 43, 44, 45, 46] (by decide +kernel) (by decide +kernel)
set_option maxRecDepth 20000 in
theorem gX2_textProducts_X2_reads : GoodIn wsX2_textProducts (wsV RX2 58 RX2 yX2_reads wsX2_reads) := goodIn_app (goodIn_of _ (by decide +kernel)) ggX2_textProducts_X2_reads
set_option maxRecDepth 20000 in
theorem ggX2_textProducts_X2_fails : GoodIn wsX2_textProducts wsX2_fails := goodIn_r _ [36, 1, 37, 38, 39, 40, 41, 42, 43, 44, 45, 46] (by decide +kernel) (by decide +kernel)
set_option maxRecDepth 20000 in
theorem gX2_textProducts_X2_fails : GoodIn wsX2_textProducts (wsV RX2 55 RX2 yX2_fails wsX2_fails) := goodIn_app (goodIn_of _ (by decide +kernel)) ggX2_textProducts_X2_fails
theorem dX2_textProducts_0 : decode cX2_textProducts 0 = .ok (.aload_n 0, 1) := by decide +kernel
theorem dX2_textProducts_1 : decode cX2_textProducts 1 = .ok (.iconst 0, 1) := by decide +kernel
theorem dX2_textProducts_2 : decode cX2_textProducts 2 = .ok (.putfield 27, 3) := by decide +kernel
theorem dX2_textProducts_5 : decode cX2_textProducts 5 = .ok (.aload_n 0, 1) := by decide +kernel
theorem dX2_textProducts_6 : decode cX2_textProducts 6 = .ok (.invokevirtual 58, 3) := by decide +kernel
theorem dX2_textProducts_9 : decode cX2_textProducts 9 = .ok (.ifCond .eq 10, 3) := by decide +kernel
theorem dX2_textProducts_12 : decode cX2_textProducts 12 = .ok (.aload_n 0, 1) := by decide +kernel
theorem dX2_textProducts_13 : decode cX2_textProducts 13 = .ok (.getfield 62, 3) := by decide +kernel
theorem dX2_textProducts_16 : decode cX2_textProducts 16 = .ok (.goto 8, 3) := by decide +kernel
theorem dX2_textProducts_19 : decode cX2_textProducts 19 = .ok (.aload_n 0, 1) := by decide +kernel
theorem dX2_textProducts_20 : decode cX2_textProducts 20 = .ok (.iconst 1, 1) := by decide +kernel
theorem dX2_textProducts_21 : decode cX2_textProducts 21 = .ok (.invokevirtual 55, 3) := by decide +kernel
theorem dX2_textProducts_24 : decode cX2_textProducts 24 = .ok (.ireturn, 1) := by decide +kernel
set_option maxRecDepth 20000 in
theorem ggX2_undo_X2_fails : GoodIn wsX2_undo wsX2_fails := goodIn_r _ [9, 1, 13, 14, 15, 16, 17, 18, 19, 20, 21, 22] (by decide +kernel) (by decide +kernel)
set_option maxRecDepth 20000 in
theorem gX2_undo_X2_fails : GoodIn wsX2_undo (wsV RX2 55 RX2 yX2_fails wsX2_fails) := goodIn_app (goodIn_of _ (by decide +kernel)) ggX2_undo_X2_fails
set_option maxRecDepth 20000 in
theorem ggX2_undo_X2_copies : GoodIn wsX2_undo wsX2_copies := goodIn_r _ [12] (by decide +kernel) (by decide +kernel)
set_option maxRecDepth 20000 in
theorem gX2_undo_X2_copies : GoodIn wsX2_undo (va_wsS RX2 38 yX2_copies wsX2_copies) := goodIn_app (goodIn_of _ (by decide +kernel)) ggX2_undo_X2_copies
theorem dX2_undo_0 : decode cX2_undo 0 = .ok (.aload_n 0, 1) := by decide +kernel
theorem dX2_undo_1 : decode cX2_undo 1 = .ok (.iconst 0, 1) := by decide +kernel
theorem dX2_undo_2 : decode cX2_undo 2 = .ok (.putfield 27, 3) := by decide +kernel
theorem dX2_undo_5 : decode cX2_undo 5 = .ok (.aload_n 0, 1) := by decide +kernel
theorem dX2_undo_6 : decode cX2_undo 6 = .ok (.getfield 35, 3) := by decide +kernel
theorem dX2_undo_9 : decode cX2_undo 9 = .ok (.ifCond .ne 9, 3) := by decide +kernel
theorem dX2_undo_12 : decode cX2_undo 12 = .ok (.aload_n 0, 1) := by decide +kernel
theorem dX2_undo_13 : decode cX2_undo 13 = .ok (.iconst 1, 1) := by decide +kernel
theorem dX2_undo_14 : decode cX2_undo 14 = .ok (.invokevirtual 55, 3) := by decide +kernel
theorem dX2_undo_17 : decode cX2_undo 17 = .ok (.ireturn, 1) := by decide +kernel
theorem dX2_undo_18 : decode cX2_undo 18 = .ok (.aload_n 0, 1) := by decide +kernel
theorem dX2_undo_19 : decode cX2_undo 19 = .ok (.dup, 1) := by decide +kernel
theorem dX2_undo_20 : decode cX2_undo 20 = .ok (.getfield 35, 3) := by decide +kernel
theorem dX2_undo_23 : decode cX2_undo 23 = .ok (.iconst 1, 1) := by decide +kernel
theorem dX2_undo_24 : decode cX2_undo 24 = .ok (.isub, 1) := by decide +kernel
theorem dX2_undo_25 : decode cX2_undo 25 = .ok (.putfield 35, 3) := by decide +kernel
theorem dX2_undo_28 : decode cX2_undo 28 = .ok (.aload_n 0, 1) := by decide +kernel
theorem dX2_undo_29 : decode cX2_undo 29 = .ok (.getfield 13, 3) := by decide +kernel
theorem dX2_undo_32 : decode cX2_undo 32 = .ok (.bipush 6, 2) := by decide +kernel
theorem dX2_undo_34 : decode cX2_undo 34 = .ok (.aload_n 0, 1) := by decide +kernel
theorem dX2_undo_35 : decode cX2_undo 35 = .ok (.getfield 35, 3) := by decide +kernel
theorem dX2_undo_38 : decode cX2_undo 38 = .ok (.imul, 1) := by decide +kernel
theorem dX2_undo_39 : decode cX2_undo 39 = .ok (.aload_n 0, 1) := by decide +kernel
theorem dX2_undo_40 : decode cX2_undo 40 = .ok (.getfield 7, 3) := by decide +kernel
theorem dX2_undo_43 : decode cX2_undo 43 = .ok (.iconst 0, 1) := by decide +kernel
theorem dX2_undo_44 : decode cX2_undo 44 = .ok (.invokestatic 38, 3) := by decide +kernel
theorem dX2_undo_47 : decode cX2_undo 47 = .ok (.aload_n 0, 1) := by decide +kernel
theorem dX2_undo_48 : decode cX2_undo 48 = .ok (.getfield 35, 3) := by decide +kernel
theorem dX2_undo_51 : decode cX2_undo 51 = .ok (.ireturn, 1) := by decide +kernel
set_option maxRecDepth 20000 in
theorem ggX2_takeSnapshot_X2_copies : GoodIn wsX2_takeSnapshot wsX2_copies := goodIn_r _ [8] (by decide +kernel) (by decide +kernel)
set_option maxRecDepth 20000 in
theorem gX2_takeSnapshot_X2_copies : GoodIn wsX2_takeSnapshot (va_wsS RX2 38 yX2_copies wsX2_copies) := goodIn_app (goodIn_of _ (by decide +kernel)) ggX2_takeSnapshot_X2_copies
set_option maxRecDepth 20000 in
theorem ggX2_takeSnapshot_X2_allProducts : GoodIn wsX2_takeSnapshot wsX2_allProducts := goodIn_r _ [12, 2, 13, 14, 7, 15, 16, 17, 18, 19, 20, 21, 22, 23, 24, 25, 26, 27, 28] (by decide +kernel) (by decide +kernel)
set_option maxRecDepth 20000 in
theorem gX2_takeSnapshot_X2_allProducts : GoodIn wsX2_takeSnapshot (wsV RX2 96 RX2 yX2_allProducts wsX2_allProducts) := goodIn_app (goodIn_of _ (by decide +kernel)) ggX2_takeSnapshot_X2_allProducts
theorem dX2_takeSnapshot_0 : decode cX2_takeSnapshot 0 = .ok (.aload_n 0, 1) := by decide +kernel
theorem dX2_takeSnapshot_1 : decode cX2_takeSnapshot 1 = .ok (.iconst 0, 1) := by decide +kernel
theorem dX2_takeSnapshot_2 : decode cX2_takeSnapshot 2 = .ok (.putfield 27, 3) := by decide +kernel
theorem dX2_takeSnapshot_5 : decode cX2_takeSnapshot 5 = .ok (.aload_n 0, 1) := by decide +kernel
theorem dX2_takeSnapshot_6 : decode cX2_takeSnapshot 6 = .ok (.getfield 7, 3) := by decide +kernel
theorem dX2_takeSnapshot_9 : decode cX2_takeSnapshot 9 = .ok (.iconst 0, 1) := by decide +kernel
theorem dX2_takeSnapshot_10 : decode cX2_takeSnapshot 10 = .ok (.aload_n 0, 1) := by decide +kernel
theorem dX2_takeSnapshot_11 : decode cX2_takeSnapshot 11 = .ok (.getfield 16, 3) := by decide +kernel
theorem dX2_takeSnapshot_14 : decode cX2_takeSnapshot 14 = .ok (.iconst 0, 1) := by decide +kernel
theorem dX2_takeSnapshot_15 : decode cX2_takeSnapshot 15 = .ok (.invokestatic 38, 3) := by decide +kernel
theorem dX2_takeSnapshot_18 : decode cX2_takeSnapshot 18 = .ok (.aload_n 0, 1) := by decide +kernel
theorem dX2_takeSnapshot_19 : decode cX2_takeSnapshot 19 = .ok (.iconst 1, 1) := by decide +kernel
theorem dX2_takeSnapshot_20 : decode cX2_takeSnapshot 20 = .ok (.putfield 92, 3) := by decide +kernel
theorem dX2_takeSnapshot_23 : decode cX2_takeSnapshot 23 = .ok (.aload_n 0, 1) := by decide +kernel
theorem dX2_takeSnapshot_24 : decode cX2_takeSnapshot 24 = .ok (.invokevirtual 96, 3) := by decide +kernel
theorem dX2_takeSnapshot_27 : decode cX2_takeSnapshot 27 = .ok (.ireturn, 1) := by decide +kernel
set_option maxRecDepth 20000 in
theorem ggX2_restoreSnapshot_X2_fails : GoodIn wsX2_restoreSnapshot wsX2_fails := goodIn_r _ [9, 1, 29, 30, 31, 32, 33, 34, 35, 36, 37, 38] (by decide +kernel) (by decide +kernel)
set_option maxRecDepth 20000 in
theorem gX2_restoreSnapshot_X2_fails : GoodIn wsX2_restoreSnapshot (wsV RX2 55 RX2 yX2_fails wsX2_fails) := goodIn_app (goodIn_of _ (by decide +kernel)) ggX2_restoreSnapshot_X2_fails
set_option maxRecDepth 20000 in
theorem ggX2_restoreSnapshot_X2_records : GoodIn wsX2_restoreSnapshot wsX2_records := goodIn_r _ [13, 14, 15, 4, 16, 17, 8, 18, 29, 30, 31, 32, 33, 34, 35, 36, 37, 38] (by decide +kernel) (by decide +kernel)
set_option maxRecDepth 20000 in
theorem gX2_restoreSnapshot_X2_records : GoodIn wsX2_restoreSnapshot (wsV RX2 48 RX2 yX2_records wsX2_records) := goodIn_app (goodIn_of _ (by decide +kernel)) ggX2_restoreSnapshot_X2_records
set_option maxRecDepth 20000 in
theorem ggX2_restoreSnapshot_X2_copies : GoodIn wsX2_restoreSnapshot wsX2_copies := goodIn_r _ [18] (by decide +kernel) (by decide +kernel)
set_option maxRecDepth 20000 in
theorem gX2_restoreSnapshot_X2_copies : GoodIn wsX2_restoreSnapshot (va_wsS RX2 38 yX2_copies wsX2_copies) := goodIn_app (goodIn_of _ (by decide +kernel)) ggX2_restoreSnapshot_X2_copies
set_option maxRecDepth 20000 in
theorem ggX2_restoreSnapshot_X2_allProducts : GoodIn wsX2_restoreSnapshot wsX2_allProducts := goodIn_r _ [22, 4, 23, 24, 8, 25, 26, 27, 28, 29, 30, 31, 32, 33, 34, 35, 36, 37, 38] (by decide +kernel) (by decide +kernel)
set_option maxRecDepth 20000 in
theorem gX2_restoreSnapshot_X2_allProducts : GoodIn wsX2_restoreSnapshot (wsV RX2 96 RX2 yX2_allProducts wsX2_allProducts) := goodIn_app (goodIn_of _ (by decide +kernel)) ggX2_restoreSnapshot_X2_allProducts
theorem dX2_restoreSnapshot_0 : decode cX2_restoreSnapshot 0 = .ok (.aload_n 0, 1) := by decide +kernel
theorem dX2_restoreSnapshot_1 : decode cX2_restoreSnapshot 1 = .ok (.iconst 0, 1) := by decide +kernel
theorem dX2_restoreSnapshot_2 : decode cX2_restoreSnapshot 2 = .ok (.putfield 27, 3) := by decide +kernel
theorem dX2_restoreSnapshot_5 : decode cX2_restoreSnapshot 5 = .ok (.aload_n 0, 1) := by decide +kernel
theorem dX2_restoreSnapshot_6 : decode cX2_restoreSnapshot 6 = .ok (.getfield 92, 3) := by decide +kernel
theorem dX2_restoreSnapshot_9 : decode cX2_restoreSnapshot 9 = .ok (.ifCond .ne 9, 3) := by decide +kernel
theorem dX2_restoreSnapshot_12 : decode cX2_restoreSnapshot 12 = .ok (.aload_n 0, 1) := by decide +kernel
theorem dX2_restoreSnapshot_13 : decode cX2_restoreSnapshot 13 = .ok (.iconst 1, 1) := by decide +kernel
theorem dX2_restoreSnapshot_14 : decode cX2_restoreSnapshot 14 = .ok (.invokevirtual 55, 3) := by decide +kernel
theorem dX2_restoreSnapshot_17 : decode cX2_restoreSnapshot 17 = .ok (.ireturn, 1) := by decide +kernel
theorem dX2_restoreSnapshot_18 : decode cX2_restoreSnapshot 18 = .ok (.aload_n 0, 1) := by decide +kernel
theorem dX2_restoreSnapshot_19 : decode cX2_restoreSnapshot 19 = .ok (.invokevirtual 48, 3) := by decide +kernel
theorem dX2_restoreSnapshot_22 : decode cX2_restoreSnapshot 22 = .ok (.aload_n 0, 1) := by decide +kernel
theorem dX2_restoreSnapshot_23 : decode cX2_restoreSnapshot 23 = .ok (.getfield 16, 3) := by decide +kernel
theorem dX2_restoreSnapshot_26 : decode cX2_restoreSnapshot 26 = .ok (.iconst 0, 1) := by decide +kernel
theorem dX2_restoreSnapshot_27 : decode cX2_restoreSnapshot 27 = .ok (.aload_n 0, 1) := by decide +kernel
theorem dX2_restoreSnapshot_28 : decode cX2_restoreSnapshot 28 = .ok (.getfield 7, 3) := by decide +kernel
theorem dX2_restoreSnapshot_31 : decode cX2_restoreSnapshot 31 = .ok (.iconst 0, 1) := by decide +kernel
theorem dX2_restoreSnapshot_32 : decode cX2_restoreSnapshot 32 = .ok (.invokestatic 38, 3) := by decide +kernel
theorem dX2_restoreSnapshot_35 : decode cX2_restoreSnapshot 35 = .ok (.aload_n 0, 1) := by decide +kernel
theorem dX2_restoreSnapshot_36 : decode cX2_restoreSnapshot 36 = .ok (.invokevirtual 96, 3) := by decide +kernel
theorem dX2_restoreSnapshot_39 : decode cX2_restoreSnapshot 39 = .ok (.ireturn, 1) := by decide +kernel
set_option maxRecDepth 20000 in
theorem ggX2_is_X2_isOne : GoodIn wsX2_is wsX2_isOne := goodIn_r _ [5, 6, 7, 4, 8] (by decide +kernel) (by decide +kernel)
set_option maxRecDepth 20000 in
theorem gX2_is_X2_isOne : GoodIn wsX2_is (va_wsS RX2 51 yX2_isOne wsX2_isOne) := goodIn_app (goodIn_of _ (by decide +kernel)) ggX2_is_X2_isOne
theorem dX2_is_0 : decode cX2_is 0 = .ok (.aload_n 0, 1) := by decide +kernel
theorem dX2_is_1 : decode cX2_is 1 = .ok (.iload_n 1, 1) := by decide +kernel
theorem dX2_is_2 : decode cX2_is 2 = .ok (.invokestatic 51, 3) := by decide +kernel
theorem dX2_is_5 : decode cX2_is 5 = .ok (.ifCond .eq 7, 3) := by decide +kernel
theorem dX2_is_8 : decode cX2_is 8 = .ok (.iconst 0, 1) := by decide +kernel
theorem dX2_is_9 : decode cX2_is 9 = .ok (.goto 4, 3) := by decide +kernel
theorem dX2_is_12 : decode cX2_is 12 = .ok (.iconst 1, 1) := by decide +kernel
theorem dX2_is_13 : decode cX2_is 13 = .ok (.putfield 27, 3) := by decide +kernel
theorem dX2_is_16 : decode cX2_is 16 = .ok (.aload_n 0, 1) := by decide +kernel
theorem dX2_is_17 : decode cX2_is 17 = .ok (.getfield 27, 3) := by decide +kernel
theorem dX2_is_20 : decode cX2_is 20 = .ok (.ifCond .ne 7, 3) := by decide +kernel
theorem dX2_is_23 : decode cX2_is 23 = .ok (.iconst 1, 1) := by decide +kernel
theorem dX2_is_24 : decode cX2_is 24 = .ok (.goto 4, 3) := by decide +kernel
theorem dX2_is_27 : decode cX2_is 27 = .ok (.iconst 0, 1) := by decide +kernel
theorem dX2_is_28 : decode cX2_is 28 = .ok (.ireturn, 1) := by decide +kernel
set_option maxRecDepth 20000 in
theorem ggX2_tableOf_X2_is : GoodIn wsX2_tableOf wsX2_is := goodIn_r _ [6, 7, 8, 9, 5, 10, 11, 12, 13, 14, 15, 16, 17, 18, 19, 20, 21, 22, 23] (by decide +kernel) (by decide +kernel)
set_option maxRecDepth 20000 in
theorem gX2_tableOf_X2_is : GoodIn wsX2_tableOf (wsV RX2 99 RX2 yX2_is wsX2_is) := goodIn_app (goodIn_of _ (by decide +kernel)) ggX2_tableOf_X2_is
theorem dX2_tableOf_0 : decode cX2_tableOf 0 = .ok (.aload_n 0, 1) := by decide +kernel
theorem dX2_tableOf_1 : decode cX2_tableOf 1 = .ok (.iload_n 1, 1) := by decide +kernel
theorem dX2_tableOf_2 : decode cX2_tableOf 2 = .ok (.invokevirtual 99, 3) := by decide +kernel
theorem dX2_tableOf_5 : decode cX2_tableOf 5 = .ok (.ifCond .eq 12, 3) := by decide +kernel
theorem dX2_tableOf_8 : decode cX2_tableOf 8 = .ok (.aload_n 0, 1) := by decide +kernel
theorem dX2_tableOf_9 : decode cX2_tableOf 9 = .ok (.getfield 7, 3) := by decide +kernel
theorem dX2_tableOf_12 : decode cX2_tableOf 12 = .ok (.iload_n 1, 1) := by decide +kernel
theorem dX2_tableOf_13 : decode cX2_tableOf 13 = .ok (.iaload, 1) := by decide +kernel
theorem dX2_tableOf_14 : decode cX2_tableOf 14 = .ok (.goto 4, 3) := by decide +kernel
theorem dX2_tableOf_17 : decode cX2_tableOf 17 = .ok (.iconst 0, 1) := by decide +kernel
theorem dX2_tableOf_18 : decode cX2_tableOf 18 = .ok (.ireturn, 1) := by decide +kernel
set_option maxRecDepth 20000 in
theorem ggX2_valueAt_X2_isOne : GoodIn wsX2_valueAt wsX2_isOne := goodIn_r _ [6, 7, 8, 5, 9] (by decide +kernel) (by decide +kernel)
set_option maxRecDepth 20000 in
theorem gX2_valueAt_X2_isOne : GoodIn wsX2_valueAt (va_wsS RX2 51 yX2_isOne wsX2_isOne) := goodIn_app (goodIn_of _ (by decide +kernel)) ggX2_valueAt_X2_isOne
set_option maxRecDepth 20000 in
theorem ggX2_valueAt_X2_in : GoodIn wsX2_valueAt wsX2_in := goodIn_r _ [9] (by decide +kernel) (by decide +kernel)
set_option maxRecDepth 20000 in
theorem gX2_valueAt_X2_in : GoodIn wsX2_valueAt (va_wsS RX2 31 yX2_in wsX2_in) := goodIn_app (goodIn_of _ (by decide +kernel)) ggX2_valueAt_X2_in
theorem dX2_valueAt_0 : decode cX2_valueAt 0 = .ok (.aload_n 0, 1) := by decide +kernel
theorem dX2_valueAt_1 : decode cX2_valueAt 1 = .ok (.iload_n 1, 1) := by decide +kernel
theorem dX2_valueAt_2 : decode cX2_valueAt 2 = .ok (.invokestatic 51, 3) := by decide +kernel
theorem dX2_valueAt_5 : decode cX2_valueAt 5 = .ok (.ifCond .eq 17, 3) := by decide +kernel
theorem dX2_valueAt_8 : decode cX2_valueAt 8 = .ok (.iload_n 2, 1) := by decide +kernel
theorem dX2_valueAt_9 : decode cX2_valueAt 9 = .ok (.iconst 0, 1) := by decide +kernel
theorem dX2_valueAt_10 : decode cX2_valueAt 10 = .ok (.bipush 15, 2) := by decide +kernel
theorem dX2_valueAt_12 : decode cX2_valueAt 12 = .ok (.invokestatic 31, 3) := by decide +kernel
theorem dX2_valueAt_15 : decode cX2_valueAt 15 = .ok (.ifCond .eq 7, 3) := by decide +kernel
theorem dX2_valueAt_18 : decode cX2_valueAt 18 = .ok (.iconst 0, 1) := by decide +kernel
theorem dX2_valueAt_19 : decode cX2_valueAt 19 = .ok (.goto 4, 3) := by decide +kernel
theorem dX2_valueAt_22 : decode cX2_valueAt 22 = .ok (.iconst 1, 1) := by decide +kernel
theorem dX2_valueAt_23 : decode cX2_valueAt 23 = .ok (.putfield 27, 3) := by decide +kernel
theorem dX2_valueAt_26 : decode cX2_valueAt 26 = .ok (.aload_n 0, 1) := by decide +kernel
theorem dX2_valueAt_27 : decode cX2_valueAt 27 = .ok (.getfield 27, 3) := by decide +kernel
theorem dX2_valueAt_30 : decode cX2_valueAt 30 = .ok (.ifCond .ne 16, 3) := by decide +kernel
theorem dX2_valueAt_33 : decode cX2_valueAt 33 = .ok (.aload_n 0, 1) := by decide +kernel
theorem dX2_valueAt_34 : decode cX2_valueAt 34 = .ok (.getfield 7, 3) := by decide +kernel
theorem dX2_valueAt_37 : decode cX2_valueAt 37 = .ok (.iload_n 1, 1) := by decide +kernel
theorem dX2_valueAt_38 : decode cX2_valueAt 38 = .ok (.iaload, 1) := by decide +kernel
theorem dX2_valueAt_39 : decode cX2_valueAt 39 = .ok (.iload_n 2, 1) := by decide +kernel
theorem dX2_valueAt_40 : decode cX2_valueAt 40 = .ok (.ishr, 1) := by decide +kernel
theorem dX2_valueAt_41 : decode cX2_valueAt 41 = .ok (.iconst 1, 1) := by decide +kernel
theorem dX2_valueAt_42 : decode cX2_valueAt 42 = .ok (.iand, 1) := by decide +kernel
theorem dX2_valueAt_43 : decode cX2_valueAt 43 = .ok (.goto 4, 3) := by decide +kernel
theorem dX2_valueAt_46 : decode cX2_valueAt 46 = .ok (.iconst 0, 1) := by decide +kernel
theorem dX2_valueAt_47 : decode cX2_valueAt 47 = .ok (.ireturn, 1) := by decide +kernel
set_option maxRecDepth 20000 in
theorem ggX2_weightOf_X2_is : GoodIn wsX2_weightOf wsX2_is := goodIn_r _ [6, 7, 8, 9, 5, 10, 11, 12, 13, 17, 18, 19, 20, 21, 22, 23, 24, 25, 26] (by decide +kernel) (by decide +kernel)
set_option maxRecDepth 20000 in
theorem gX2_weightOf_X2_is : GoodIn wsX2_weightOf (wsV RX2 99 RX2 yX2_is wsX2_is) := goodIn_app (goodIn_of _ (by decide +kernel)) ggX2_weightOf_X2_is
set_option maxRecDepth 20000 in
theorem ggX2_weightOf_X2_bits : GoodIn wsX2_weightOf wsX2_bits := goodIn_r _ [16] (by decide +kernel) (by decide +kernel)
set_option maxRecDepth 20000 in
theorem gX2_weightOf_X2_bits : GoodIn wsX2_weightOf (va_wsS RX2 45 yX2_bits wsX2_bits) := goodIn_app (goodIn_of _ (by decide +kernel)) ggX2_weightOf_X2_bits
theorem dX2_weightOf_0 : decode cX2_weightOf 0 = .ok (.aload_n 0, 1) := by decide +kernel
theorem dX2_weightOf_1 : decode cX2_weightOf 1 = .ok (.iload_n 1, 1) := by decide +kernel
theorem dX2_weightOf_2 : decode cX2_weightOf 2 = .ok (.invokevirtual 99, 3) := by decide +kernel
theorem dX2_weightOf_5 : decode cX2_weightOf 5 = .ok (.ifCond .eq 15, 3) := by decide +kernel
theorem dX2_weightOf_8 : decode cX2_weightOf 8 = .ok (.aload_n 0, 1) := by decide +kernel
theorem dX2_weightOf_9 : decode cX2_weightOf 9 = .ok (.getfield 7, 3) := by decide +kernel
theorem dX2_weightOf_12 : decode cX2_weightOf 12 = .ok (.iload_n 1, 1) := by decide +kernel
theorem dX2_weightOf_13 : decode cX2_weightOf 13 = .ok (.iaload, 1) := by decide +kernel
theorem dX2_weightOf_14 : decode cX2_weightOf 14 = .ok (.invokestatic 45, 3) := by decide +kernel
theorem dX2_weightOf_17 : decode cX2_weightOf 17 = .ok (.goto 4, 3) := by decide +kernel
theorem dX2_weightOf_20 : decode cX2_weightOf 20 = .ok (.iconst 0, 1) := by decide +kernel
theorem dX2_weightOf_21 : decode cX2_weightOf 21 = .ok (.ireturn, 1) := by decide +kernel
set_option maxRecDepth 20000 in
theorem ggX2_dependsOn_X2_isOne : GoodIn wsX2_dependsOn wsX2_isOne := goodIn_r _ [5, 6, 7, 4, 8] (by decide +kernel) (by decide +kernel)
set_option maxRecDepth 20000 in
theorem gX2_dependsOn_X2_isOne : GoodIn wsX2_dependsOn (va_wsS RX2 51 yX2_isOne wsX2_isOne) := goodIn_app (goodIn_of _ (by decide +kernel)) ggX2_dependsOn_X2_isOne
set_option maxRecDepth 20000 in
theorem ggX2_dependsOn_X2_in : GoodIn wsX2_dependsOn wsX2_in := goodIn_r _ [8] (by decide +kernel) (by decide +kernel)
set_option maxRecDepth 20000 in
theorem gX2_dependsOn_X2_in : GoodIn wsX2_dependsOn (va_wsS RX2 31 yX2_in wsX2_in) := goodIn_app (goodIn_of _ (by decide +kernel)) ggX2_dependsOn_X2_in
set_option maxRecDepth 20000 in
theorem ggX2_dependsOn_X2_valueWith : GoodIn wsX2_dependsOn wsX2_valueWith := goodIn_r _ [12, 13, 14, 15, 16, 17, 18, 19, 20, 21, 22, 23] (by decide +kernel) (by decide +kernel)
set_option maxRecDepth 20000 in
theorem gX2_dependsOn_X2_valueWith : GoodIn wsX2_dependsOn (wsV RX2 69 RX2 yX2_valueWith wsX2_valueWith) := goodIn_app (goodIn_of _ (by decide +kernel)) ggX2_dependsOn_X2_valueWith
theorem dX2_dependsOn_0 : decode cX2_dependsOn 0 = .ok (.aload_n 0, 1) := by decide +kernel
theorem dX2_dependsOn_1 : decode cX2_dependsOn 1 = .ok (.iload_n 1, 1) := by decide +kernel
theorem dX2_dependsOn_2 : decode cX2_dependsOn 2 = .ok (.invokestatic 51, 3) := by decide +kernel
theorem dX2_dependsOn_5 : decode cX2_dependsOn 5 = .ok (.ifCond .eq 16, 3) := by decide +kernel
theorem dX2_dependsOn_8 : decode cX2_dependsOn 8 = .ok (.iload_n 2, 1) := by decide +kernel
theorem dX2_dependsOn_9 : decode cX2_dependsOn 9 = .ok (.iconst 0, 1) := by decide +kernel
theorem dX2_dependsOn_10 : decode cX2_dependsOn 10 = .ok (.iconst 3, 1) := by decide +kernel
theorem dX2_dependsOn_11 : decode cX2_dependsOn 11 = .ok (.invokestatic 31, 3) := by decide +kernel
theorem dX2_dependsOn_14 : decode cX2_dependsOn 14 = .ok (.ifCond .eq 7, 3) := by decide +kernel
theorem dX2_dependsOn_17 : decode cX2_dependsOn 17 = .ok (.iconst 0, 1) := by decide +kernel
theorem dX2_dependsOn_18 : decode cX2_dependsOn 18 = .ok (.goto 4, 3) := by decide +kernel
theorem dX2_dependsOn_21 : decode cX2_dependsOn 21 = .ok (.iconst 1, 1) := by decide +kernel
theorem dX2_dependsOn_22 : decode cX2_dependsOn 22 = .ok (.putfield 27, 3) := by decide +kernel
theorem dX2_dependsOn_25 : decode cX2_dependsOn 25 = .ok (.iconst 0, 1) := by decide +kernel
theorem dX2_dependsOn_26 : decode cX2_dependsOn 26 = .ok (.istore_n 3, 1) := by decide +kernel
theorem dX2_dependsOn_27 : decode cX2_dependsOn 27 = .ok (.iconst 0, 1) := by decide +kernel
theorem dX2_dependsOn_28 : decode cX2_dependsOn 28 = .ok (.istore 4, 2) := by decide +kernel
theorem dX2_dependsOn_30 : decode cX2_dependsOn 30 = .ok (.iload 4, 2) := by decide +kernel
theorem dX2_dependsOn_32 : decode cX2_dependsOn 32 = .ok (.bipush 16, 2) := by decide +kernel
theorem dX2_dependsOn_34 : decode cX2_dependsOn 34 = .ok (.if_icmp .ge 47, 3) := by decide +kernel
theorem dX2_dependsOn_37 : decode cX2_dependsOn 37 = .ok (.aload_n 0, 1) := by decide +kernel
theorem dX2_dependsOn_38 : decode cX2_dependsOn 38 = .ok (.getfield 27, 3) := by decide +kernel
theorem dX2_dependsOn_41 : decode cX2_dependsOn 41 = .ok (.ifCond .ne 40, 3) := by decide +kernel
theorem dX2_dependsOn_44 : decode cX2_dependsOn 44 = .ok (.iload_n 3, 1) := by decide +kernel
theorem dX2_dependsOn_45 : decode cX2_dependsOn 45 = .ok (.ifCond .ne 24, 3) := by decide +kernel
theorem dX2_dependsOn_48 : decode cX2_dependsOn 48 = .ok (.aload_n 0, 1) := by decide +kernel
theorem dX2_dependsOn_49 : decode cX2_dependsOn 49 = .ok (.iload_n 1, 1) := by decide +kernel
theorem dX2_dependsOn_50 : decode cX2_dependsOn 50 = .ok (.iload 4, 2) := by decide +kernel
theorem dX2_dependsOn_52 : decode cX2_dependsOn 52 = .ok (.iload_n 2, 1) := by decide +kernel
theorem dX2_dependsOn_53 : decode cX2_dependsOn 53 = .ok (.iconst 0, 1) := by decide +kernel
theorem dX2_dependsOn_54 : decode cX2_dependsOn 54 = .ok (.invokevirtual 69, 3) := by decide +kernel
theorem dX2_dependsOn_57 : decode cX2_dependsOn 57 = .ok (.aload_n 0, 1) := by decide +kernel
theorem dX2_dependsOn_58 : decode cX2_dependsOn 58 = .ok (.iload_n 1, 1) := by decide +kernel
theorem dX2_dependsOn_59 : decode cX2_dependsOn 59 = .ok (.iload 4, 2) := by decide +kernel
theorem dX2_dependsOn_61 : decode cX2_dependsOn 61 = .ok (.iload_n 2, 1) := by decide +kernel
theorem dX2_dependsOn_62 : decode cX2_dependsOn 62 = .ok (.iconst 1, 1) := by decide +kernel
theorem dX2_dependsOn_63 : decode cX2_dependsOn 63 = .ok (.invokevirtual 69, 3) := by decide +kernel
theorem dX2_dependsOn_66 : decode cX2_dependsOn 66 = .ok (.if_icmp .eq 7, 3) := by decide +kernel
theorem dX2_dependsOn_69 : decode cX2_dependsOn 69 = .ok (.iconst 1, 1) := by decide +kernel
theorem dX2_dependsOn_70 : decode cX2_dependsOn 70 = .ok (.goto 4, 3) := by decide +kernel
theorem dX2_dependsOn_73 : decode cX2_dependsOn 73 = .ok (.iconst 0, 1) := by decide +kernel
theorem dX2_dependsOn_74 : decode cX2_dependsOn 74 = .ok (.istore_n 3, 1) := by decide +kernel
theorem dX2_dependsOn_75 : decode cX2_dependsOn 75 = .ok (.iinc 4 1, 3) := by decide +kernel
theorem dX2_dependsOn_78 : decode cX2_dependsOn 78 = .ok (.goto (-48), 3) := by decide +kernel
theorem dX2_dependsOn_81 : decode cX2_dependsOn 81 = .ok (.iload_n 3, 1) := by decide +kernel
theorem dX2_dependsOn_82 : decode cX2_dependsOn 82 = .ok (.ireturn, 1) := by decide +kernel
set_option maxRecDepth 20000 in
theorem ggX2_productsByHalves_X2_is : GoodIn wsX2_productsByHalves wsX2_is := goodIn_r _ [6, 7, 8, 9, 5, 10, 11, 12, 13, 17, 18, 19, 20, 21, 22, 23, 24, 25, 26] (by decide +kernel) (by decide +kernel)
set_option maxRecDepth 20000 in
theorem gX2_productsByHalves_X2_is : GoodIn wsX2_productsByHalves (wsV RX2 99 RX2 yX2_is wsX2_is) := goodIn_app (goodIn_of _ (by decide +kernel)) ggX2_productsByHalves_X2_is
set_option maxRecDepth 20000 in
theorem ggX2_productsByHalves_X2_turned : GoodIn wsX2_productsByHalves wsX2_turned := goodIn_r _ [16] (by decide +kernel) (by decide +kernel)
set_option maxRecDepth 20000 in
theorem gX2_productsByHalves_X2_turned : GoodIn wsX2_productsByHalves (va_wsS RX2 42 yX2_turned wsX2_turned) := goodIn_app (goodIn_of _ (by decide +kernel)) ggX2_productsByHalves_X2_turned
theorem dX2_productsByHalves_0 : decode cX2_productsByHalves 0 = .ok (.aload_n 0, 1) := by decide +kernel
theorem dX2_productsByHalves_1 : decode cX2_productsByHalves 1 = .ok (.iload_n 1, 1) := by decide +kernel
theorem dX2_productsByHalves_2 : decode cX2_productsByHalves 2 = .ok (.invokevirtual 99, 3) := by decide +kernel
theorem dX2_productsByHalves_5 : decode cX2_productsByHalves 5 = .ok (.ifCond .eq 15, 3) := by decide +kernel
theorem dX2_productsByHalves_8 : decode cX2_productsByHalves 8 = .ok (.aload_n 0, 1) := by decide +kernel
theorem dX2_productsByHalves_9 : decode cX2_productsByHalves 9 = .ok (.getfield 7, 3) := by decide +kernel
theorem dX2_productsByHalves_12 : decode cX2_productsByHalves 12 = .ok (.iload_n 1, 1) := by decide +kernel
theorem dX2_productsByHalves_13 : decode cX2_productsByHalves 13 = .ok (.iaload, 1) := by decide +kernel
theorem dX2_productsByHalves_14 : decode cX2_productsByHalves 14 = .ok (.invokestatic 42, 3) := by decide +kernel
theorem dX2_productsByHalves_17 : decode cX2_productsByHalves 17 = .ok (.goto 4, 3) := by decide +kernel
theorem dX2_productsByHalves_20 : decode cX2_productsByHalves 20 = .ok (.iconst 0, 1) := by decide +kernel
theorem dX2_productsByHalves_21 : decode cX2_productsByHalves 21 = .ok (.ireturn, 1) := by decide +kernel
set_option maxRecDepth 20000 in
theorem ggX2_productsBySums_X2_is : GoodIn wsX2_productsBySums wsX2_is := goodIn_r _ [6, 7, 8, 9, 5, 10, 11, 12, 13, 17, 18, 19, 20, 21, 22, 23, 24, 25, 26] (by decide +kernel) (by decide +kernel)
set_option maxRecDepth 20000 in
theorem gX2_productsBySums_X2_is : GoodIn wsX2_productsBySums (wsV RX2 99 RX2 yX2_is wsX2_is) := goodIn_app (goodIn_of _ (by decide +kernel)) ggX2_productsBySums_X2_is
set_option maxRecDepth 20000 in
theorem ggX2_productsBySums_X2_turned : GoodIn wsX2_productsBySums wsX2_turned := goodIn_r _ [16] (by decide +kernel) (by decide +kernel)
set_option maxRecDepth 20000 in
theorem gX2_productsBySums_X2_turned : GoodIn wsX2_productsBySums (va_wsS RX2 42 yX2_turned wsX2_turned) := goodIn_app (goodIn_of _ (by decide +kernel)) ggX2_productsBySums_X2_turned
theorem dX2_productsBySums_0 : decode cX2_productsBySums 0 = .ok (.aload_n 0, 1) := by decide +kernel
theorem dX2_productsBySums_1 : decode cX2_productsBySums 1 = .ok (.iload_n 1, 1) := by decide +kernel
theorem dX2_productsBySums_2 : decode cX2_productsBySums 2 = .ok (.invokevirtual 99, 3) := by decide +kernel
theorem dX2_productsBySums_5 : decode cX2_productsBySums 5 = .ok (.ifCond .eq 15, 3) := by decide +kernel
theorem dX2_productsBySums_8 : decode cX2_productsBySums 8 = .ok (.aload_n 0, 1) := by decide +kernel
theorem dX2_productsBySums_9 : decode cX2_productsBySums 9 = .ok (.getfield 7, 3) := by decide +kernel
theorem dX2_productsBySums_12 : decode cX2_productsBySums 12 = .ok (.iload_n 1, 1) := by decide +kernel
theorem dX2_productsBySums_13 : decode cX2_productsBySums 13 = .ok (.iaload, 1) := by decide +kernel
theorem dX2_productsBySums_14 : decode cX2_productsBySums 14 = .ok (.invokestatic 42, 3) := by decide +kernel
theorem dX2_productsBySums_17 : decode cX2_productsBySums 17 = .ok (.goto 4, 3) := by decide +kernel
theorem dX2_productsBySums_20 : decode cX2_productsBySums 20 = .ok (.iconst 0, 1) := by decide +kernel
theorem dX2_productsBySums_21 : decode cX2_productsBySums 21 = .ok (.ireturn, 1) := by decide +kernel
set_option maxRecDepth 20000 in
theorem ggX2_degreeOf_X2_is : GoodIn wsX2_degreeOf wsX2_is := goodIn_r _ [6, 7, 8, 9, 5, 10, 11, 12, 13, 23, 24, 25, 26, 27, 28, 29, 30, 31, 32] (by decide +kernel) (by decide +kernel)
set_option maxRecDepth 20000 in
theorem gX2_degreeOf_X2_is : GoodIn wsX2_degreeOf (wsV RX2 99 RX2 yX2_is wsX2_is) := goodIn_app (goodIn_of _ (by decide +kernel)) ggX2_degreeOf_X2_is
set_option maxRecDepth 20000 in
theorem ggX2_degreeOf_X2_degree : GoodIn wsX2_degreeOf wsX2_degree := goodIn_r _ [16, 17, 18, 5, 19, 20, 21, 22] (by decide +kernel) (by decide +kernel)
set_option maxRecDepth 20000 in
theorem gX2_degreeOf_X2_degree : GoodIn wsX2_degreeOf (va_wsS RX2 102 yX2_degree wsX2_degree) := goodIn_app (goodIn_of _ (by decide +kernel)) ggX2_degreeOf_X2_degree
theorem dX2_degreeOf_0 : decode cX2_degreeOf 0 = .ok (.aload_n 0, 1) := by decide +kernel
theorem dX2_degreeOf_1 : decode cX2_degreeOf 1 = .ok (.iload_n 1, 1) := by decide +kernel
theorem dX2_degreeOf_2 : decode cX2_degreeOf 2 = .ok (.invokevirtual 99, 3) := by decide +kernel
theorem dX2_degreeOf_5 : decode cX2_degreeOf 5 = .ok (.ifCond .eq 15, 3) := by decide +kernel
theorem dX2_degreeOf_8 : decode cX2_degreeOf 8 = .ok (.aload_n 0, 1) := by decide +kernel
theorem dX2_degreeOf_9 : decode cX2_degreeOf 9 = .ok (.getfield 7, 3) := by decide +kernel
theorem dX2_degreeOf_12 : decode cX2_degreeOf 12 = .ok (.iload_n 1, 1) := by decide +kernel
theorem dX2_degreeOf_13 : decode cX2_degreeOf 13 = .ok (.iaload, 1) := by decide +kernel
theorem dX2_degreeOf_14 : decode cX2_degreeOf 14 = .ok (.invokestatic 102, 3) := by decide +kernel
theorem dX2_degreeOf_17 : decode cX2_degreeOf 17 = .ok (.goto 4, 3) := by decide +kernel
theorem dX2_degreeOf_20 : decode cX2_degreeOf 20 = .ok (.iconst 0, 1) := by decide +kernel
theorem dX2_degreeOf_21 : decode cX2_degreeOf 21 = .ok (.ireturn, 1) := by decide +kernel
set_option maxRecDepth 20000 in
theorem ggX2_letters_X2_bits : GoodIn wsX2_letters wsX2_bits := goodIn_r _ [4] (by decide +kernel) (by decide +kernel)
set_option maxRecDepth 20000 in
theorem gX2_letters_X2_bits : GoodIn wsX2_letters (va_wsS RX2 45 yX2_bits wsX2_bits) := goodIn_app (goodIn_of _ (by decide +kernel)) ggX2_letters_X2_bits
theorem dX2_letters_0 : decode cX2_letters 0 = .ok (.iload_n 0, 1) := by decide +kernel
theorem dX2_letters_1 : decode cX2_letters 1 = .ok (.ifCond .ne 7, 3) := by decide +kernel
theorem dX2_letters_4 : decode cX2_letters 4 = .ok (.iconst 1, 1) := by decide +kernel
theorem dX2_letters_5 : decode cX2_letters 5 = .ok (.goto 7, 3) := by decide +kernel
theorem dX2_letters_8 : decode cX2_letters 8 = .ok (.iload_n 0, 1) := by decide +kernel
theorem dX2_letters_9 : decode cX2_letters 9 = .ok (.invokestatic 45, 3) := by decide +kernel
theorem dX2_letters_12 : decode cX2_letters 12 = .ok (.ireturn, 1) := by decide +kernel
set_option maxRecDepth 20000 in
theorem ggX2_printed_X2_letters : GoodIn wsX2_printed wsX2_letters := goodIn_r _ [4, 5, 6, 3, 7] (by decide +kernel) (by decide +kernel)
set_option maxRecDepth 20000 in
theorem gX2_printed_X2_letters : GoodIn wsX2_printed (va_wsS RX2 105 yX2_letters wsX2_letters) := goodIn_app (goodIn_of _ (by decide +kernel)) ggX2_printed_X2_letters
theorem dX2_printed_0 : decode cX2_printed 0 = .ok (.iconst 0, 1) := by decide +kernel
theorem dX2_printed_1 : decode cX2_printed 1 = .ok (.istore_n 1, 1) := by decide +kernel
theorem dX2_printed_2 : decode cX2_printed 2 = .ok (.iconst 0, 1) := by decide +kernel
theorem dX2_printed_3 : decode cX2_printed 3 = .ok (.istore_n 2, 1) := by decide +kernel
theorem dX2_printed_4 : decode cX2_printed 4 = .ok (.iload_n 2, 1) := by decide +kernel
theorem dX2_printed_5 : decode cX2_printed 5 = .ok (.bipush 16, 2) := by decide +kernel
theorem dX2_printed_7 : decode cX2_printed 7 = .ok (.if_icmp .ge 31, 3) := by decide +kernel
theorem dX2_printed_10 : decode cX2_printed 10 = .ok (.iload_n 1, 1) := by decide +kernel
theorem dX2_printed_11 : decode cX2_printed 11 = .ok (.iload_n 0, 1) := by decide +kernel
theorem dX2_printed_12 : decode cX2_printed 12 = .ok (.iload_n 2, 1) := by decide +kernel
theorem dX2_printed_13 : decode cX2_printed 13 = .ok (.ishr, 1) := by decide +kernel
theorem dX2_printed_14 : decode cX2_printed 14 = .ok (.iconst 1, 1) := by decide +kernel
theorem dX2_printed_15 : decode cX2_printed 15 = .ok (.iand, 1) := by decide +kernel
theorem dX2_printed_16 : decode cX2_printed 16 = .ok (.iconst 1, 1) := by decide +kernel
theorem dX2_printed_17 : decode cX2_printed 17 = .ok (.if_icmp .ne 12, 3) := by decide +kernel
theorem dX2_printed_20 : decode cX2_printed 20 = .ok (.iload_n 2, 1) := by decide +kernel
theorem dX2_printed_21 : decode cX2_printed 21 = .ok (.invokestatic 105, 3) := by decide +kernel
theorem dX2_printed_24 : decode cX2_printed 24 = .ok (.iconst 1, 1) := by decide +kernel
theorem dX2_printed_25 : decode cX2_printed 25 = .ok (.iadd, 1) := by decide +kernel
theorem dX2_printed_26 : decode cX2_printed 26 = .ok (.goto 4, 3) := by decide +kernel
theorem dX2_printed_29 : decode cX2_printed 29 = .ok (.iconst 0, 1) := by decide +kernel
theorem dX2_printed_30 : decode cX2_printed 30 = .ok (.iadd, 1) := by decide +kernel
theorem dX2_printed_31 : decode cX2_printed 31 = .ok (.istore_n 1, 1) := by decide +kernel
theorem dX2_printed_32 : decode cX2_printed 32 = .ok (.iinc 2 1, 3) := by decide +kernel
theorem dX2_printed_35 : decode cX2_printed 35 = .ok (.goto (-31), 3) := by decide +kernel
theorem dX2_printed_38 : decode cX2_printed 38 = .ok (.iload_n 0, 1) := by decide +kernel
theorem dX2_printed_39 : decode cX2_printed 39 = .ok (.ifCond .ne 7, 3) := by decide +kernel
theorem dX2_printed_42 : decode cX2_printed 42 = .ok (.iconst 1, 1) := by decide +kernel
theorem dX2_printed_43 : decode cX2_printed 43 = .ok (.goto 6, 3) := by decide +kernel
theorem dX2_printed_46 : decode cX2_printed 46 = .ok (.iload_n 1, 1) := by decide +kernel
theorem dX2_printed_47 : decode cX2_printed 47 = .ok (.iconst 1, 1) := by decide +kernel
theorem dX2_printed_48 : decode cX2_printed 48 = .ok (.isub, 1) := by decide +kernel
theorem dX2_printed_49 : decode cX2_printed 49 = .ok (.ireturn, 1) := by decide +kernel
set_option maxRecDepth 20000 in
theorem ggX2_printedLength_X2_is : GoodIn wsX2_printedLength wsX2_is := goodIn_r _ [6, 7, 8, 9, 5, 10, 11, 12, 13, 26, 27, 28, 29, 30, 31, 32, 33, 34, 35] (by decide +kernel) (by decide +kernel)
set_option maxRecDepth 20000 in
theorem gX2_printedLength_X2_is : GoodIn wsX2_printedLength (wsV RX2 99 RX2 yX2_is wsX2_is) := goodIn_app (goodIn_of _ (by decide +kernel)) ggX2_printedLength_X2_is
set_option maxRecDepth 20000 in
theorem ggX2_printedLength_X2_turned : GoodIn wsX2_printedLength wsX2_turned := goodIn_r _ [16] (by decide +kernel) (by decide +kernel)
set_option maxRecDepth 20000 in
theorem gX2_printedLength_X2_turned : GoodIn wsX2_printedLength (va_wsS RX2 42 yX2_turned wsX2_turned) := goodIn_app (goodIn_of _ (by decide +kernel)) ggX2_printedLength_X2_turned
set_option maxRecDepth 20000 in
theorem ggX2_printedLength_X2_printed : GoodIn wsX2_printedLength wsX2_printed := goodIn_r _ [19, 20, 21, 5, 22, 23, 24, 25] (by decide +kernel) (by decide +kernel)
set_option maxRecDepth 20000 in
theorem gX2_printedLength_X2_printed : GoodIn wsX2_printedLength (va_wsS RX2 108 yX2_printed wsX2_printed) := goodIn_app (goodIn_of _ (by decide +kernel)) ggX2_printedLength_X2_printed
theorem dX2_printedLength_0 : decode cX2_printedLength 0 = .ok (.aload_n 0, 1) := by decide +kernel
theorem dX2_printedLength_1 : decode cX2_printedLength 1 = .ok (.iload_n 1, 1) := by decide +kernel
theorem dX2_printedLength_2 : decode cX2_printedLength 2 = .ok (.invokevirtual 99, 3) := by decide +kernel
theorem dX2_printedLength_5 : decode cX2_printedLength 5 = .ok (.ifCond .eq 18, 3) := by decide +kernel
theorem dX2_printedLength_8 : decode cX2_printedLength 8 = .ok (.aload_n 0, 1) := by decide +kernel
theorem dX2_printedLength_9 : decode cX2_printedLength 9 = .ok (.getfield 7, 3) := by decide +kernel
theorem dX2_printedLength_12 : decode cX2_printedLength 12 = .ok (.iload_n 1, 1) := by decide +kernel
theorem dX2_printedLength_13 : decode cX2_printedLength 13 = .ok (.iaload, 1) := by decide +kernel
theorem dX2_printedLength_14 : decode cX2_printedLength 14 = .ok (.invokestatic 42, 3) := by decide +kernel
theorem dX2_printedLength_17 : decode cX2_printedLength 17 = .ok (.invokestatic 108, 3) := by decide +kernel
theorem dX2_printedLength_20 : decode cX2_printedLength 20 = .ok (.goto 4, 3) := by decide +kernel
theorem dX2_printedLength_23 : decode cX2_printedLength 23 = .ok (.iconst 0, 1) := by decide +kernel
theorem dX2_printedLength_24 : decode cX2_printedLength 24 = .ok (.ireturn, 1) := by decide +kernel
theorem dX2_letter_0 : decode cX2_letter 0 = .ok (.iload_n 1, 1) := by decide +kernel
theorem dX2_letter_1 : decode cX2_letter 1 = .ok (.istore_n 2, 1) := by decide +kernel
theorem dX2_letter_2 : decode cX2_letter 2 = .ok (.iconst 0, 1) := by decide +kernel
theorem dX2_letter_3 : decode cX2_letter 3 = .ok (.istore_n 3, 1) := by decide +kernel
theorem dX2_letter_4 : decode cX2_letter 4 = .ok (.iload_n 3, 1) := by decide +kernel
theorem dX2_letter_5 : decode cX2_letter 5 = .ok (.iconst 4, 1) := by decide +kernel
theorem dX2_letter_6 : decode cX2_letter 6 = .ok (.if_icmp .ge 27, 3) := by decide +kernel
theorem dX2_letter_9 : decode cX2_letter 9 = .ok (.iload_n 2, 1) := by decide +kernel
theorem dX2_letter_10 : decode cX2_letter 10 = .ok (.iload_n 0, 1) := by decide +kernel
theorem dX2_letter_11 : decode cX2_letter 11 = .ok (.iload_n 3, 1) := by decide +kernel
theorem dX2_letter_12 : decode cX2_letter 12 = .ok (.ishr, 1) := by decide +kernel
theorem dX2_letter_13 : decode cX2_letter 13 = .ok (.iconst 1, 1) := by decide +kernel
theorem dX2_letter_14 : decode cX2_letter 14 = .ok (.iand, 1) := by decide +kernel
theorem dX2_letter_15 : decode cX2_letter 15 = .ok (.isub, 1) := by decide +kernel
theorem dX2_letter_16 : decode cX2_letter 16 = .ok (.istore_n 2, 1) := by decide +kernel
theorem dX2_letter_17 : decode cX2_letter 17 = .ok (.iload_n 2, 1) := by decide +kernel
theorem dX2_letter_18 : decode cX2_letter 18 = .ok (.ifCond .ge 9, 3) := by decide +kernel
theorem dX2_letter_21 : decode cX2_letter 21 = .ok (.bipush 97, 2) := by decide +kernel
theorem dX2_letter_23 : decode cX2_letter 23 = .ok (.iload_n 3, 1) := by decide +kernel
theorem dX2_letter_24 : decode cX2_letter 24 = .ok (.iadd, 1) := by decide +kernel
theorem dX2_letter_25 : decode cX2_letter 25 = .ok (.i2c, 1) := by decide +kernel
theorem dX2_letter_26 : decode cX2_letter 26 = .ok (.ireturn, 1) := by decide +kernel
theorem dX2_letter_27 : decode cX2_letter 27 = .ok (.iinc 3 1, 3) := by decide +kernel
theorem dX2_letter_30 : decode cX2_letter 30 = .ok (.goto (-26), 3) := by decide +kernel
theorem dX2_letter_33 : decode cX2_letter 33 = .ok (.bipush 49, 2) := by decide +kernel
theorem dX2_letter_35 : decode cX2_letter 35 = .ok (.ireturn, 1) := by decide +kernel
set_option maxRecDepth 20000 in
theorem ggX2_printedLetter_X2_is : GoodIn wsX2_printedLetter wsX2_is := goodIn_r _ [7, 2, 8, 9, 6, 10, 11, 12, 13, 29, 30, 31, 32, 33, 34, 35, 36, 37, 38] (by decide +kernel) (by decide +kernel)
set_option maxRecDepth 20000 in
theorem gX2_printedLetter_X2_is : GoodIn wsX2_printedLetter (wsV RX2 99 RX2 yX2_is wsX2_is) := goodIn_app (goodIn_of _ (by decide +kernel)) ggX2_printedLetter_X2_is
set_option maxRecDepth 20000 in
theorem ggX2_printedLetter_X2_turned : GoodIn wsX2_printedLetter wsX2_turned := goodIn_r _ [16] (by decide +kernel) (by decide +kernel)
set_option maxRecDepth 20000 in
theorem gX2_printedLetter_X2_turned : GoodIn wsX2_printedLetter (va_wsS RX2 42 yX2_turned wsX2_turned) := goodIn_app (goodIn_of _ (by decide +kernel)) ggX2_printedLetter_X2_turned
set_option maxRecDepth 20000 in
theorem ggX2_printedLetter_X2_printed : GoodIn wsX2_printedLetter wsX2_printed := goodIn_r _ [19, 20, 21, 6, 22, 23, 24, 25] (by decide +kernel) (by decide +kernel)
set_option maxRecDepth 20000 in
theorem gX2_printedLetter_X2_printed : GoodIn wsX2_printedLetter (va_wsS RX2 108 yX2_printed wsX2_printed) := goodIn_app (goodIn_of _ (by decide +kernel)) ggX2_printedLetter_X2_printed
set_option maxRecDepth 20000 in
theorem ggX2_printedLetter_X2_in : GoodIn wsX2_printedLetter wsX2_in := goodIn_r _ [13] (by decide +kernel) (by decide +kernel)
set_option maxRecDepth 20000 in
theorem gX2_printedLetter_X2_in : GoodIn wsX2_printedLetter (va_wsS RX2 31 yX2_in wsX2_in) := goodIn_app (goodIn_of _ (by decide +kernel)) ggX2_printedLetter_X2_in
set_option maxRecDepth 20000 in
theorem ggX2_printedLetter_X2_letters : GoodIn wsX2_printedLetter wsX2_letters := goodIn_r _ [22, 23, 24, 6, 25] (by decide +kernel) (by decide +kernel)
set_option maxRecDepth 20000 in
theorem gX2_printedLetter_X2_letters : GoodIn wsX2_printedLetter (va_wsS RX2 105 yX2_letters wsX2_letters) := goodIn_app (goodIn_of _ (by decide +kernel)) ggX2_printedLetter_X2_letters
set_option maxRecDepth 20000 in
theorem ggX2_printedLetter_X2_letter : GoodIn wsX2_printedLetter wsX2_letter := goodIn_r _ [28] (by decide +kernel) (by decide +kernel)
set_option maxRecDepth 20000 in
theorem gX2_printedLetter_X2_letter : GoodIn wsX2_printedLetter (va_wsS RX2 111 yX2_letter wsX2_letter) := goodIn_app (goodIn_of _ (by decide +kernel)) ggX2_printedLetter_X2_letter
theorem dX2_printedLetter_0 : decode cX2_printedLetter 0 = .ok (.aload_n 0, 1) := by decide +kernel
theorem dX2_printedLetter_1 : decode cX2_printedLetter 1 = .ok (.iload_n 1, 1) := by decide +kernel
theorem dX2_printedLetter_2 : decode cX2_printedLetter 2 = .ok (.invokevirtual 99, 3) := by decide +kernel
theorem dX2_printedLetter_5 : decode cX2_printedLetter 5 = .ok (.ifCond .eq 15, 3) := by decide +kernel
theorem dX2_printedLetter_8 : decode cX2_printedLetter 8 = .ok (.aload_n 0, 1) := by decide +kernel
theorem dX2_printedLetter_9 : decode cX2_printedLetter 9 = .ok (.getfield 7, 3) := by decide +kernel
theorem dX2_printedLetter_12 : decode cX2_printedLetter 12 = .ok (.iload_n 1, 1) := by decide +kernel
theorem dX2_printedLetter_13 : decode cX2_printedLetter 13 = .ok (.iaload, 1) := by decide +kernel
theorem dX2_printedLetter_14 : decode cX2_printedLetter 14 = .ok (.invokestatic 42, 3) := by decide +kernel
theorem dX2_printedLetter_17 : decode cX2_printedLetter 17 = .ok (.goto 4, 3) := by decide +kernel
theorem dX2_printedLetter_20 : decode cX2_printedLetter 20 = .ok (.iconst 0, 1) := by decide +kernel
theorem dX2_printedLetter_21 : decode cX2_printedLetter 21 = .ok (.istore_n 3, 1) := by decide +kernel
theorem dX2_printedLetter_22 : decode cX2_printedLetter 22 = .ok (.aload_n 0, 1) := by decide +kernel
theorem dX2_printedLetter_23 : decode cX2_printedLetter 23 = .ok (.getfield 27, 3) := by decide +kernel
theorem dX2_printedLetter_26 : decode cX2_printedLetter 26 = .ok (.ifCond .gt 17, 3) := by decide +kernel
theorem dX2_printedLetter_29 : decode cX2_printedLetter 29 = .ok (.iload_n 2, 1) := by decide +kernel
theorem dX2_printedLetter_30 : decode cX2_printedLetter 30 = .ok (.iconst 0, 1) := by decide +kernel
theorem dX2_printedLetter_31 : decode cX2_printedLetter 31 = .ok (.iload_n 3, 1) := by decide +kernel
theorem dX2_printedLetter_32 : decode cX2_printedLetter 32 = .ok (.invokestatic 108, 3) := by decide +kernel
theorem dX2_printedLetter_35 : decode cX2_printedLetter 35 = .ok (.iconst 1, 1) := by decide +kernel
theorem dX2_printedLetter_36 : decode cX2_printedLetter 36 = .ok (.isub, 1) := by decide +kernel
theorem dX2_printedLetter_37 : decode cX2_printedLetter 37 = .ok (.invokestatic 31, 3) := by decide +kernel
theorem dX2_printedLetter_40 : decode cX2_printedLetter 40 = .ok (.ifCond .ne 10, 3) := by decide +kernel
theorem dX2_printedLetter_43 : decode cX2_printedLetter 43 = .ok (.aload_n 0, 1) := by decide +kernel
theorem dX2_printedLetter_44 : decode cX2_printedLetter 44 = .ok (.iconst 1, 1) := by decide +kernel
theorem dX2_printedLetter_45 : decode cX2_printedLetter 45 = .ok (.putfield 27, 3) := by decide +kernel
theorem dX2_printedLetter_48 : decode cX2_printedLetter 48 = .ok (.iconst 0, 1) := by decide +kernel
theorem dX2_printedLetter_49 : decode cX2_printedLetter 49 = .ok (.ireturn, 1) := by decide +kernel
theorem dX2_printedLetter_50 : decode cX2_printedLetter 50 = .ok (.iload_n 2, 1) := by decide +kernel
theorem dX2_printedLetter_51 : decode cX2_printedLetter 51 = .ok (.istore 4, 2) := by decide +kernel
theorem dX2_printedLetter_53 : decode cX2_printedLetter 53 = .ok (.iconst 0, 1) := by decide +kernel
theorem dX2_printedLetter_54 : decode cX2_printedLetter 54 = .ok (.istore 5, 2) := by decide +kernel
theorem dX2_printedLetter_56 : decode cX2_printedLetter 56 = .ok (.iload 5, 2) := by decide +kernel
theorem dX2_printedLetter_58 : decode cX2_printedLetter 58 = .ok (.bipush 16, 2) := by decide +kernel
theorem dX2_printedLetter_60 : decode cX2_printedLetter 60 = .ok (.if_icmp .ge 85, 3) := by decide +kernel
theorem dX2_printedLetter_63 : decode cX2_printedLetter 63 = .ok (.iload_n 3, 1) := by decide +kernel
theorem dX2_printedLetter_64 : decode cX2_printedLetter 64 = .ok (.iload 5, 2) := by decide +kernel
theorem dX2_printedLetter_66 : decode cX2_printedLetter 66 = .ok (.ishr, 1) := by decide +kernel
theorem dX2_printedLetter_67 : decode cX2_printedLetter 67 = .ok (.iconst 1, 1) := by decide +kernel
theorem dX2_printedLetter_68 : decode cX2_printedLetter 68 = .ok (.iand, 1) := by decide +kernel
theorem dX2_printedLetter_69 : decode cX2_printedLetter 69 = .ok (.iconst 1, 1) := by decide +kernel
theorem dX2_printedLetter_70 : decode cX2_printedLetter 70 = .ok (.if_icmp .ne 7, 3) := by decide +kernel
theorem dX2_printedLetter_73 : decode cX2_printedLetter 73 = .ok (.iconst 1, 1) := by decide +kernel
theorem dX2_printedLetter_74 : decode cX2_printedLetter 74 = .ok (.goto 4, 3) := by decide +kernel
theorem dX2_printedLetter_77 : decode cX2_printedLetter 77 = .ok (.iconst 0, 1) := by decide +kernel
theorem dX2_printedLetter_78 : decode cX2_printedLetter 78 = .ok (.istore 6, 2) := by decide +kernel
theorem dX2_printedLetter_80 : decode cX2_printedLetter 80 = .ok (.iload 6, 2) := by decide +kernel
theorem dX2_printedLetter_82 : decode cX2_printedLetter 82 = .ok (.ifCond .eq 36, 3) := by decide +kernel
theorem dX2_printedLetter_85 : decode cX2_printedLetter 85 = .ok (.iload 4, 2) := by decide +kernel
theorem dX2_printedLetter_87 : decode cX2_printedLetter 87 = .ok (.iload 5, 2) := by decide +kernel
theorem dX2_printedLetter_89 : decode cX2_printedLetter 89 = .ok (.invokestatic 105, 3) := by decide +kernel
theorem dX2_printedLetter_92 : decode cX2_printedLetter 92 = .ok (.if_icmp .gt 26, 3) := by decide +kernel
theorem dX2_printedLetter_95 : decode cX2_printedLetter 95 = .ok (.iload 4, 2) := by decide +kernel
theorem dX2_printedLetter_97 : decode cX2_printedLetter 97 = .ok (.iload 5, 2) := by decide +kernel
theorem dX2_printedLetter_99 : decode cX2_printedLetter 99 = .ok (.invokestatic 105, 3) := by decide +kernel
theorem dX2_printedLetter_102 : decode cX2_printedLetter 102 = .ok (.if_icmp .ne 8, 3) := by decide +kernel
theorem dX2_printedLetter_105 : decode cX2_printedLetter 105 = .ok (.bipush 43, 2) := by decide +kernel
theorem dX2_printedLetter_107 : decode cX2_printedLetter 107 = .ok (.goto 10, 3) := by decide +kernel
theorem dX2_printedLetter_110 : decode cX2_printedLetter 110 = .ok (.iload 5, 2) := by decide +kernel
theorem dX2_printedLetter_112 : decode cX2_printedLetter 112 = .ok (.iload 4, 2) := by decide +kernel
theorem dX2_printedLetter_114 : decode cX2_printedLetter 114 = .ok (.invokestatic 111, 3) := by decide +kernel
theorem dX2_printedLetter_117 : decode cX2_printedLetter 117 = .ok (.ireturn, 1) := by decide +kernel
theorem dX2_printedLetter_118 : decode cX2_printedLetter 118 = .ok (.iload 4, 2) := by decide +kernel
theorem dX2_printedLetter_120 : decode cX2_printedLetter 120 = .ok (.iload 6, 2) := by decide +kernel
theorem dX2_printedLetter_122 : decode cX2_printedLetter 122 = .ok (.ifCond .eq 13, 3) := by decide +kernel
theorem dX2_printedLetter_125 : decode cX2_printedLetter 125 = .ok (.iload 5, 2) := by decide +kernel
theorem dX2_printedLetter_127 : decode cX2_printedLetter 127 = .ok (.invokestatic 105, 3) := by decide +kernel
theorem dX2_printedLetter_130 : decode cX2_printedLetter 130 = .ok (.iconst 1, 1) := by decide +kernel
theorem dX2_printedLetter_131 : decode cX2_printedLetter 131 = .ok (.iadd, 1) := by decide +kernel
theorem dX2_printedLetter_132 : decode cX2_printedLetter 132 = .ok (.goto 4, 3) := by decide +kernel
theorem dX2_printedLetter_135 : decode cX2_printedLetter 135 = .ok (.iconst 0, 1) := by decide +kernel
theorem dX2_printedLetter_136 : decode cX2_printedLetter 136 = .ok (.isub, 1) := by decide +kernel
theorem dX2_printedLetter_137 : decode cX2_printedLetter 137 = .ok (.istore 4, 2) := by decide +kernel
theorem dX2_printedLetter_139 : decode cX2_printedLetter 139 = .ok (.iinc 5 1, 3) := by decide +kernel
theorem dX2_printedLetter_142 : decode cX2_printedLetter 142 = .ok (.goto (-86), 3) := by decide +kernel
theorem dX2_printedLetter_145 : decode cX2_printedLetter 145 = .ok (.bipush 48, 2) := by decide +kernel
theorem dX2_printedLetter_147 : decode cX2_printedLetter 147 = .ok (.ireturn, 1) := by decide +kernel
set_option maxRecDepth 20000 in
theorem ggX2_distance_X2_variable : GoodIn wsX2_distance wsX2_variable := goodIn_r _ [5] (by decide +kernel) (by decide +kernel)
set_option maxRecDepth 20000 in
theorem gX2_distance_X2_variable : GoodIn wsX2_distance (va_wsS RX2 22 yX2_variable wsX2_variable) := goodIn_app (goodIn_of _ (by decide +kernel)) ggX2_distance_X2_variable
set_option maxRecDepth 20000 in
theorem ggX2_distance_X2_bits : GoodIn wsX2_distance wsX2_bits := goodIn_r _ [8] (by decide +kernel) (by decide +kernel)
set_option maxRecDepth 20000 in
theorem gX2_distance_X2_bits : GoodIn wsX2_distance (va_wsS RX2 45 yX2_bits wsX2_bits) := goodIn_app (goodIn_of _ (by decide +kernel)) ggX2_distance_X2_bits
theorem dX2_distance_0 : decode cX2_distance 0 = .ok (.bipush 16, 2) := by decide +kernel
theorem dX2_distance_2 : decode cX2_distance 2 = .ok (.istore_n 1, 1) := by decide +kernel
theorem dX2_distance_3 : decode cX2_distance 3 = .ok (.iconst 0, 1) := by decide +kernel
theorem dX2_distance_4 : decode cX2_distance 4 = .ok (.istore_n 2, 1) := by decide +kernel
theorem dX2_distance_5 : decode cX2_distance 5 = .ok (.iload_n 2, 1) := by decide +kernel
theorem dX2_distance_6 : decode cX2_distance 6 = .ok (.bipush 32, 2) := by decide +kernel
theorem dX2_distance_8 : decode cX2_distance 8 = .ok (.if_icmp .ge 80, 3) := by decide +kernel
theorem dX2_distance_11 : decode cX2_distance 11 = .ok (.iload_n 2, 1) := by decide +kernel
theorem dX2_distance_12 : decode cX2_distance 12 = .ok (.bipush 16, 2) := by decide +kernel
theorem dX2_distance_14 : decode cX2_distance 14 = .ok (.if_icmp .ge 7, 3) := by decide +kernel
theorem dX2_distance_17 : decode cX2_distance 17 = .ok (.iconst 0, 1) := by decide +kernel
theorem dX2_distance_18 : decode cX2_distance 18 = .ok (.goto 5, 3) := by decide +kernel
theorem dX2_distance_21 : decode cX2_distance 21 = .ok (.ldc 26, 2) := by decide +kernel
theorem dX2_distance_23 : decode cX2_distance 23 = .ok (.istore_n 3, 1) := by decide +kernel
theorem dX2_distance_24 : decode cX2_distance 24 = .ok (.iconst 0, 1) := by decide +kernel
theorem dX2_distance_25 : decode cX2_distance 25 = .ok (.istore 4, 2) := by decide +kernel
theorem dX2_distance_27 : decode cX2_distance 27 = .ok (.iload 4, 2) := by decide +kernel
theorem dX2_distance_29 : decode cX2_distance 29 = .ok (.iconst 4, 1) := by decide +kernel
theorem dX2_distance_30 : decode cX2_distance 30 = .ok (.if_icmp .ge 31, 3) := by decide +kernel
theorem dX2_distance_33 : decode cX2_distance 33 = .ok (.iload_n 3, 1) := by decide +kernel
theorem dX2_distance_34 : decode cX2_distance 34 = .ok (.iload_n 2, 1) := by decide +kernel
theorem dX2_distance_35 : decode cX2_distance 35 = .ok (.iload 4, 2) := by decide +kernel
theorem dX2_distance_37 : decode cX2_distance 37 = .ok (.ishr, 1) := by decide +kernel
theorem dX2_distance_38 : decode cX2_distance 38 = .ok (.iconst 1, 1) := by decide +kernel
theorem dX2_distance_39 : decode cX2_distance 39 = .ok (.iand, 1) := by decide +kernel
theorem dX2_distance_40 : decode cX2_distance 40 = .ok (.iconst 1, 1) := by decide +kernel
theorem dX2_distance_41 : decode cX2_distance 41 = .ok (.if_icmp .ne 11, 3) := by decide +kernel
theorem dX2_distance_44 : decode cX2_distance 44 = .ok (.iload 4, 2) := by decide +kernel
theorem dX2_distance_46 : decode cX2_distance 46 = .ok (.invokestatic 22, 3) := by decide +kernel
theorem dX2_distance_49 : decode cX2_distance 49 = .ok (.goto 4, 3) := by decide +kernel
theorem dX2_distance_52 : decode cX2_distance 52 = .ok (.iconst 0, 1) := by decide +kernel
theorem dX2_distance_53 : decode cX2_distance 53 = .ok (.ixor, 1) := by decide +kernel
theorem dX2_distance_54 : decode cX2_distance 54 = .ok (.istore_n 3, 1) := by decide +kernel
theorem dX2_distance_55 : decode cX2_distance 55 = .ok (.iinc 4 1, 3) := by decide +kernel
theorem dX2_distance_58 : decode cX2_distance 58 = .ok (.goto (-31), 3) := by decide +kernel
theorem dX2_distance_61 : decode cX2_distance 61 = .ok (.iload_n 0, 1) := by decide +kernel
theorem dX2_distance_62 : decode cX2_distance 62 = .ok (.iload_n 3, 1) := by decide +kernel
theorem dX2_distance_63 : decode cX2_distance 63 = .ok (.ixor, 1) := by decide +kernel
theorem dX2_distance_64 : decode cX2_distance 64 = .ok (.invokestatic 45, 3) := by decide +kernel
theorem dX2_distance_67 : decode cX2_distance 67 = .ok (.iload_n 1, 1) := by decide +kernel
theorem dX2_distance_68 : decode cX2_distance 68 = .ok (.if_icmp .ge 12, 3) := by decide +kernel
theorem dX2_distance_71 : decode cX2_distance 71 = .ok (.iload_n 0, 1) := by decide +kernel
theorem dX2_distance_72 : decode cX2_distance 72 = .ok (.iload_n 3, 1) := by decide +kernel
theorem dX2_distance_73 : decode cX2_distance 73 = .ok (.ixor, 1) := by decide +kernel
theorem dX2_distance_74 : decode cX2_distance 74 = .ok (.invokestatic 45, 3) := by decide +kernel
theorem dX2_distance_77 : decode cX2_distance 77 = .ok (.goto 4, 3) := by decide +kernel
theorem dX2_distance_80 : decode cX2_distance 80 = .ok (.iload_n 1, 1) := by decide +kernel
theorem dX2_distance_81 : decode cX2_distance 81 = .ok (.istore_n 1, 1) := by decide +kernel
theorem dX2_distance_82 : decode cX2_distance 82 = .ok (.iinc 2 1, 3) := by decide +kernel
theorem dX2_distance_85 : decode cX2_distance 85 = .ok (.goto (-80), 3) := by decide +kernel
theorem dX2_distance_88 : decode cX2_distance 88 = .ok (.iload_n 1, 1) := by decide +kernel
theorem dX2_distance_89 : decode cX2_distance 89 = .ok (.ireturn, 1) := by decide +kernel
set_option maxRecDepth 20000 in
theorem ggX2_distanceByTrying_X2_is : GoodIn wsX2_distanceByTrying wsX2_is := goodIn_r _ [6, 7, 8, 9, 5, 10, 11, 12, 13, 24, 25, 26, 27, 28, 29, 30, 31, 32, 33] (by decide +kernel) (by decide +kernel)
set_option maxRecDepth 20000 in
theorem gX2_distanceByTrying_X2_is : GoodIn wsX2_distanceByTrying (wsV RX2 99 RX2 yX2_is wsX2_is) := goodIn_app (goodIn_of _ (by decide +kernel)) ggX2_distanceByTrying_X2_is
set_option maxRecDepth 20000 in
theorem ggX2_distanceByTrying_X2_distance : GoodIn wsX2_distanceByTrying wsX2_distance := goodIn_r _ [16, 17, 18, 19, 5, 20, 21, 22, 23] (by decide +kernel) (by decide +kernel)
set_option maxRecDepth 20000 in
theorem gX2_distanceByTrying_X2_distance : GoodIn wsX2_distanceByTrying (va_wsS RX2 115 yX2_distance wsX2_distance) := goodIn_app (goodIn_of _ (by decide +kernel)) ggX2_distanceByTrying_X2_distance
theorem dX2_distanceByTrying_0 : decode cX2_distanceByTrying 0 = .ok (.aload_n 0, 1) := by decide +kernel
theorem dX2_distanceByTrying_1 : decode cX2_distanceByTrying 1 = .ok (.iload_n 1, 1) := by decide +kernel
theorem dX2_distanceByTrying_2 : decode cX2_distanceByTrying 2 = .ok (.invokevirtual 99, 3) := by decide +kernel
theorem dX2_distanceByTrying_5 : decode cX2_distanceByTrying 5 = .ok (.ifCond .eq 15, 3) := by decide +kernel
theorem dX2_distanceByTrying_8 : decode cX2_distanceByTrying 8 = .ok (.aload_n 0, 1) := by decide +kernel
theorem dX2_distanceByTrying_9 : decode cX2_distanceByTrying 9 = .ok (.getfield 7, 3) := by decide +kernel
theorem dX2_distanceByTrying_12 : decode cX2_distanceByTrying 12 = .ok (.iload_n 1, 1) := by decide +kernel
theorem dX2_distanceByTrying_13 : decode cX2_distanceByTrying 13 = .ok (.iaload, 1) := by decide +kernel
theorem dX2_distanceByTrying_14 : decode cX2_distanceByTrying 14 = .ok (.invokestatic 115, 3) := by decide +kernel
theorem dX2_distanceByTrying_17 : decode cX2_distanceByTrying 17 = .ok (.goto 4, 3) := by decide +kernel
theorem dX2_distanceByTrying_20 : decode cX2_distanceByTrying 20 = .ok (.iconst 0, 1) := by decide +kernel
theorem dX2_distanceByTrying_21 : decode cX2_distanceByTrying 21 = .ok (.ireturn, 1) := by decide +kernel
set_option maxRecDepth 20000 in
theorem ggX2_distanceBySums_X2_is : GoodIn wsX2_distanceBySums wsX2_is := goodIn_r _ [6, 7, 8, 9, 5, 10, 11, 12, 13, 24, 25, 26, 27, 28, 29, 30, 31, 32, 33] (by decide +kernel) (by decide +kernel)
set_option maxRecDepth 20000 in
theorem gX2_distanceBySums_X2_is : GoodIn wsX2_distanceBySums (wsV RX2 99 RX2 yX2_is wsX2_is) := goodIn_app (goodIn_of _ (by decide +kernel)) ggX2_distanceBySums_X2_is
set_option maxRecDepth 20000 in
theorem ggX2_distanceBySums_X2_distance : GoodIn wsX2_distanceBySums wsX2_distance := goodIn_r _ [16, 17, 18, 19, 5, 20, 21, 22, 23] (by decide +kernel) (by decide +kernel)
set_option maxRecDepth 20000 in
theorem gX2_distanceBySums_X2_distance : GoodIn wsX2_distanceBySums (va_wsS RX2 115 yX2_distance wsX2_distance) := goodIn_app (goodIn_of _ (by decide +kernel)) ggX2_distanceBySums_X2_distance
theorem dX2_distanceBySums_0 : decode cX2_distanceBySums 0 = .ok (.aload_n 0, 1) := by decide +kernel
theorem dX2_distanceBySums_1 : decode cX2_distanceBySums 1 = .ok (.iload_n 1, 1) := by decide +kernel
theorem dX2_distanceBySums_2 : decode cX2_distanceBySums 2 = .ok (.invokevirtual 99, 3) := by decide +kernel
theorem dX2_distanceBySums_5 : decode cX2_distanceBySums 5 = .ok (.ifCond .eq 15, 3) := by decide +kernel
theorem dX2_distanceBySums_8 : decode cX2_distanceBySums 8 = .ok (.aload_n 0, 1) := by decide +kernel
theorem dX2_distanceBySums_9 : decode cX2_distanceBySums 9 = .ok (.getfield 7, 3) := by decide +kernel
theorem dX2_distanceBySums_12 : decode cX2_distanceBySums 12 = .ok (.iload_n 1, 1) := by decide +kernel
theorem dX2_distanceBySums_13 : decode cX2_distanceBySums 13 = .ok (.iaload, 1) := by decide +kernel
theorem dX2_distanceBySums_14 : decode cX2_distanceBySums 14 = .ok (.invokestatic 115, 3) := by decide +kernel
theorem dX2_distanceBySums_17 : decode cX2_distanceBySums 17 = .ok (.goto 4, 3) := by decide +kernel
theorem dX2_distanceBySums_20 : decode cX2_distanceBySums 20 = .ok (.iconst 0, 1) := by decide +kernel
theorem dX2_distanceBySums_21 : decode cX2_distanceBySums 21 = .ok (.ireturn, 1) := by decide +kernel
theorem dX2_selfDual_0 : decode cX2_selfDual 0 = .ok (.iconst 1, 1) := by decide +kernel
theorem dX2_selfDual_1 : decode cX2_selfDual 1 = .ok (.istore_n 1, 1) := by decide +kernel
theorem dX2_selfDual_2 : decode cX2_selfDual 2 = .ok (.iconst 0, 1) := by decide +kernel
theorem dX2_selfDual_3 : decode cX2_selfDual 3 = .ok (.istore_n 2, 1) := by decide +kernel
theorem dX2_selfDual_4 : decode cX2_selfDual 4 = .ok (.iload_n 2, 1) := by decide +kernel
theorem dX2_selfDual_5 : decode cX2_selfDual 5 = .ok (.bipush 16, 2) := by decide +kernel
theorem dX2_selfDual_7 : decode cX2_selfDual 7 = .ok (.if_icmp .ge 35, 3) := by decide +kernel
theorem dX2_selfDual_10 : decode cX2_selfDual 10 = .ok (.iload_n 1, 1) := by decide +kernel
theorem dX2_selfDual_11 : decode cX2_selfDual 11 = .ok (.ifCond .eq 23, 3) := by decide +kernel
theorem dX2_selfDual_14 : decode cX2_selfDual 14 = .ok (.iload_n 0, 1) := by decide +kernel
theorem dX2_selfDual_15 : decode cX2_selfDual 15 = .ok (.iload_n 2, 1) := by decide +kernel
theorem dX2_selfDual_16 : decode cX2_selfDual 16 = .ok (.ishr, 1) := by decide +kernel
theorem dX2_selfDual_17 : decode cX2_selfDual 17 = .ok (.iconst 1, 1) := by decide +kernel
theorem dX2_selfDual_18 : decode cX2_selfDual 18 = .ok (.iand, 1) := by decide +kernel
theorem dX2_selfDual_19 : decode cX2_selfDual 19 = .ok (.iload_n 0, 1) := by decide +kernel
theorem dX2_selfDual_20 : decode cX2_selfDual 20 = .ok (.bipush 15, 2) := by decide +kernel
theorem dX2_selfDual_22 : decode cX2_selfDual 22 = .ok (.iload_n 2, 1) := by decide +kernel
theorem dX2_selfDual_23 : decode cX2_selfDual 23 = .ok (.isub, 1) := by decide +kernel
theorem dX2_selfDual_24 : decode cX2_selfDual 24 = .ok (.ishr, 1) := by decide +kernel
theorem dX2_selfDual_25 : decode cX2_selfDual 25 = .ok (.iconst 1, 1) := by decide +kernel
theorem dX2_selfDual_26 : decode cX2_selfDual 26 = .ok (.iand, 1) := by decide +kernel
theorem dX2_selfDual_27 : decode cX2_selfDual 27 = .ok (.if_icmp .eq 7, 3) := by decide +kernel
theorem dX2_selfDual_30 : decode cX2_selfDual 30 = .ok (.iconst 1, 1) := by decide +kernel
theorem dX2_selfDual_31 : decode cX2_selfDual 31 = .ok (.goto 4, 3) := by decide +kernel
theorem dX2_selfDual_34 : decode cX2_selfDual 34 = .ok (.iconst 0, 1) := by decide +kernel
theorem dX2_selfDual_35 : decode cX2_selfDual 35 = .ok (.istore_n 1, 1) := by decide +kernel
theorem dX2_selfDual_36 : decode cX2_selfDual 36 = .ok (.iinc 2 1, 3) := by decide +kernel
theorem dX2_selfDual_39 : decode cX2_selfDual 39 = .ok (.goto (-35), 3) := by decide +kernel
theorem dX2_selfDual_42 : decode cX2_selfDual 42 = .ok (.iload_n 1, 1) := by decide +kernel
theorem dX2_selfDual_43 : decode cX2_selfDual 43 = .ok (.ireturn, 1) := by decide +kernel
theorem dX2_monotone_0 : decode cX2_monotone 0 = .ok (.iconst 1, 1) := by decide +kernel
theorem dX2_monotone_1 : decode cX2_monotone 1 = .ok (.istore_n 1, 1) := by decide +kernel
theorem dX2_monotone_2 : decode cX2_monotone 2 = .ok (.iconst 0, 1) := by decide +kernel
theorem dX2_monotone_3 : decode cX2_monotone 3 = .ok (.istore_n 2, 1) := by decide +kernel
theorem dX2_monotone_4 : decode cX2_monotone 4 = .ok (.iload_n 2, 1) := by decide +kernel
theorem dX2_monotone_5 : decode cX2_monotone 5 = .ok (.sipush 256, 3) := by decide +kernel
theorem dX2_monotone_8 : decode cX2_monotone 8 = .ok (.if_icmp .ge 53, 3) := by decide +kernel
theorem dX2_monotone_11 : decode cX2_monotone 11 = .ok (.iload_n 2, 1) := by decide +kernel
theorem dX2_monotone_12 : decode cX2_monotone 12 = .ok (.bipush 16, 2) := by decide +kernel
theorem dX2_monotone_14 : decode cX2_monotone 14 = .ok (.idiv, 1) := by decide +kernel
theorem dX2_monotone_15 : decode cX2_monotone 15 = .ok (.istore_n 3, 1) := by decide +kernel
theorem dX2_monotone_16 : decode cX2_monotone 16 = .ok (.iload_n 2, 1) := by decide +kernel
theorem dX2_monotone_17 : decode cX2_monotone 17 = .ok (.bipush 16, 2) := by decide +kernel
theorem dX2_monotone_19 : decode cX2_monotone 19 = .ok (.irem, 1) := by decide +kernel
theorem dX2_monotone_20 : decode cX2_monotone 20 = .ok (.istore 4, 2) := by decide +kernel
theorem dX2_monotone_22 : decode cX2_monotone 22 = .ok (.iload_n 1, 1) := by decide +kernel
theorem dX2_monotone_23 : decode cX2_monotone 23 = .ok (.ifCond .eq 30, 3) := by decide +kernel
theorem dX2_monotone_26 : decode cX2_monotone 26 = .ok (.iload_n 3, 1) := by decide +kernel
theorem dX2_monotone_27 : decode cX2_monotone 27 = .ok (.iload 4, 2) := by decide +kernel
theorem dX2_monotone_29 : decode cX2_monotone 29 = .ok (.iconst (-1), 1) := by decide +kernel
theorem dX2_monotone_30 : decode cX2_monotone 30 = .ok (.ixor, 1) := by decide +kernel
theorem dX2_monotone_31 : decode cX2_monotone 31 = .ok (.iand, 1) := by decide +kernel
theorem dX2_monotone_32 : decode cX2_monotone 32 = .ok (.ifCond .ne 17, 3) := by decide +kernel
theorem dX2_monotone_35 : decode cX2_monotone 35 = .ok (.iload_n 0, 1) := by decide +kernel
theorem dX2_monotone_36 : decode cX2_monotone 36 = .ok (.iload_n 3, 1) := by decide +kernel
theorem dX2_monotone_37 : decode cX2_monotone 37 = .ok (.ishr, 1) := by decide +kernel
theorem dX2_monotone_38 : decode cX2_monotone 38 = .ok (.iconst 1, 1) := by decide +kernel
theorem dX2_monotone_39 : decode cX2_monotone 39 = .ok (.iand, 1) := by decide +kernel
theorem dX2_monotone_40 : decode cX2_monotone 40 = .ok (.iload_n 0, 1) := by decide +kernel
theorem dX2_monotone_41 : decode cX2_monotone 41 = .ok (.iload 4, 2) := by decide +kernel
theorem dX2_monotone_43 : decode cX2_monotone 43 = .ok (.ishr, 1) := by decide +kernel
theorem dX2_monotone_44 : decode cX2_monotone 44 = .ok (.iconst 1, 1) := by decide +kernel
theorem dX2_monotone_45 : decode cX2_monotone 45 = .ok (.iand, 1) := by decide +kernel
theorem dX2_monotone_46 : decode cX2_monotone 46 = .ok (.if_icmp .gt 7, 3) := by decide +kernel
theorem dX2_monotone_49 : decode cX2_monotone 49 = .ok (.iconst 1, 1) := by decide +kernel
theorem dX2_monotone_50 : decode cX2_monotone 50 = .ok (.goto 4, 3) := by decide +kernel
theorem dX2_monotone_53 : decode cX2_monotone 53 = .ok (.iconst 0, 1) := by decide +kernel
theorem dX2_monotone_54 : decode cX2_monotone 54 = .ok (.istore_n 1, 1) := by decide +kernel
theorem dX2_monotone_55 : decode cX2_monotone 55 = .ok (.iinc 2 1, 3) := by decide +kernel
theorem dX2_monotone_58 : decode cX2_monotone 58 = .ok (.goto (-54), 3) := by decide +kernel
theorem dX2_monotone_61 : decode cX2_monotone 61 = .ok (.iload_n 1, 1) := by decide +kernel
theorem dX2_monotone_62 : decode cX2_monotone 62 = .ok (.ireturn, 1) := by decide +kernel
set_option maxRecDepth 20000 in
theorem ggX2_isSelfDual_X2_is : GoodIn wsX2_isSelfDual wsX2_is := goodIn_r _ [6, 7, 8, 9, 5, 10, 11, 12, 13, 17, 18, 19, 20, 21, 22, 23, 24, 25, 26] (by decide +kernel) (by decide +kernel)
set_option maxRecDepth 20000 in
theorem gX2_isSelfDual_X2_is : GoodIn wsX2_isSelfDual (wsV RX2 99 RX2 yX2_is wsX2_is) := goodIn_app (goodIn_of _ (by decide +kernel)) ggX2_isSelfDual_X2_is
set_option maxRecDepth 20000 in
theorem ggX2_isSelfDual_X2_selfDual : GoodIn wsX2_isSelfDual wsX2_selfDual := goodIn_r _ [16] (by decide +kernel) (by decide +kernel)
set_option maxRecDepth 20000 in
theorem gX2_isSelfDual_X2_selfDual : GoodIn wsX2_isSelfDual (va_wsS RX2 118 yX2_selfDual wsX2_selfDual) := goodIn_app (goodIn_of _ (by decide +kernel)) ggX2_isSelfDual_X2_selfDual
theorem dX2_isSelfDual_0 : decode cX2_isSelfDual 0 = .ok (.aload_n 0, 1) := by decide +kernel
theorem dX2_isSelfDual_1 : decode cX2_isSelfDual 1 = .ok (.iload_n 1, 1) := by decide +kernel
theorem dX2_isSelfDual_2 : decode cX2_isSelfDual 2 = .ok (.invokevirtual 99, 3) := by decide +kernel
theorem dX2_isSelfDual_5 : decode cX2_isSelfDual 5 = .ok (.ifCond .eq 19, 3) := by decide +kernel
theorem dX2_isSelfDual_8 : decode cX2_isSelfDual 8 = .ok (.aload_n 0, 1) := by decide +kernel
theorem dX2_isSelfDual_9 : decode cX2_isSelfDual 9 = .ok (.getfield 7, 3) := by decide +kernel
theorem dX2_isSelfDual_12 : decode cX2_isSelfDual 12 = .ok (.iload_n 1, 1) := by decide +kernel
theorem dX2_isSelfDual_13 : decode cX2_isSelfDual 13 = .ok (.iaload, 1) := by decide +kernel
theorem dX2_isSelfDual_14 : decode cX2_isSelfDual 14 = .ok (.invokestatic 118, 3) := by decide +kernel
theorem dX2_isSelfDual_17 : decode cX2_isSelfDual 17 = .ok (.ifCond .eq 7, 3) := by decide +kernel
theorem dX2_isSelfDual_20 : decode cX2_isSelfDual 20 = .ok (.iconst 1, 1) := by decide +kernel
theorem dX2_isSelfDual_21 : decode cX2_isSelfDual 21 = .ok (.goto 4, 3) := by decide +kernel
theorem dX2_isSelfDual_24 : decode cX2_isSelfDual 24 = .ok (.iconst 0, 1) := by decide +kernel
theorem dX2_isSelfDual_25 : decode cX2_isSelfDual 25 = .ok (.ireturn, 1) := by decide +kernel
set_option maxRecDepth 20000 in
theorem ggX2_isMonotone_X2_is : GoodIn wsX2_isMonotone wsX2_is := goodIn_r _ [6, 7, 8, 9, 5, 10, 11, 12, 13, 17, 18, 19, 20, 21, 22, 23, 24, 25, 26] (by decide +kernel) (by decide +kernel)
set_option maxRecDepth 20000 in
theorem gX2_isMonotone_X2_is : GoodIn wsX2_isMonotone (wsV RX2 99 RX2 yX2_is wsX2_is) := goodIn_app (goodIn_of _ (by decide +kernel)) ggX2_isMonotone_X2_is
set_option maxRecDepth 20000 in
theorem ggX2_isMonotone_X2_monotone : GoodIn wsX2_isMonotone wsX2_monotone := goodIn_r _ [16] (by decide +kernel) (by decide +kernel)
set_option maxRecDepth 20000 in
theorem gX2_isMonotone_X2_monotone : GoodIn wsX2_isMonotone (va_wsS RX2 121 yX2_monotone wsX2_monotone) := goodIn_app (goodIn_of _ (by decide +kernel)) ggX2_isMonotone_X2_monotone
theorem dX2_isMonotone_0 : decode cX2_isMonotone 0 = .ok (.aload_n 0, 1) := by decide +kernel
theorem dX2_isMonotone_1 : decode cX2_isMonotone 1 = .ok (.iload_n 1, 1) := by decide +kernel
theorem dX2_isMonotone_2 : decode cX2_isMonotone 2 = .ok (.invokevirtual 99, 3) := by decide +kernel
theorem dX2_isMonotone_5 : decode cX2_isMonotone 5 = .ok (.ifCond .eq 19, 3) := by decide +kernel
theorem dX2_isMonotone_8 : decode cX2_isMonotone 8 = .ok (.aload_n 0, 1) := by decide +kernel
theorem dX2_isMonotone_9 : decode cX2_isMonotone 9 = .ok (.getfield 7, 3) := by decide +kernel
theorem dX2_isMonotone_12 : decode cX2_isMonotone 12 = .ok (.iload_n 1, 1) := by decide +kernel
theorem dX2_isMonotone_13 : decode cX2_isMonotone 13 = .ok (.iaload, 1) := by decide +kernel
theorem dX2_isMonotone_14 : decode cX2_isMonotone 14 = .ok (.invokestatic 121, 3) := by decide +kernel
theorem dX2_isMonotone_17 : decode cX2_isMonotone 17 = .ok (.ifCond .eq 7, 3) := by decide +kernel
theorem dX2_isMonotone_20 : decode cX2_isMonotone 20 = .ok (.iconst 1, 1) := by decide +kernel
theorem dX2_isMonotone_21 : decode cX2_isMonotone 21 = .ok (.goto 4, 3) := by decide +kernel
theorem dX2_isMonotone_24 : decode cX2_isMonotone 24 = .ok (.iconst 0, 1) := by decide +kernel
theorem dX2_isMonotone_25 : decode cX2_isMonotone 25 = .ok (.ireturn, 1) := by decide +kernel
set_option maxRecDepth 20000 in
theorem ggX2_enough_X2_selfDual : GoodIn wsX2_enough wsX2_selfDual := goodIn_r _ [5] (by decide +kernel) (by decide +kernel)
set_option maxRecDepth 20000 in
theorem gX2_enough_X2_selfDual : GoodIn wsX2_enough (va_wsS RX2 118 yX2_selfDual wsX2_selfDual) := goodIn_app (goodIn_of _ (by decide +kernel)) ggX2_enough_X2_selfDual
set_option maxRecDepth 20000 in
theorem ggX2_enough_X2_monotone : GoodIn wsX2_enough wsX2_monotone := goodIn_r _ [8] (by decide +kernel) (by decide +kernel)
set_option maxRecDepth 20000 in
theorem gX2_enough_X2_monotone : GoodIn wsX2_enough (va_wsS RX2 121 yX2_monotone wsX2_monotone) := goodIn_app (goodIn_of _ (by decide +kernel)) ggX2_enough_X2_monotone
set_option maxRecDepth 20000 in
theorem ggX2_enough_X2_degree : GoodIn wsX2_enough wsX2_degree := goodIn_r _ [11, 12, 13, 4, 14, 15, 16, 17] (by decide +kernel) (by decide +kernel)
set_option maxRecDepth 20000 in
theorem gX2_enough_X2_degree : GoodIn wsX2_enough (va_wsS RX2 102 yX2_degree wsX2_degree) := goodIn_app (goodIn_of _ (by decide +kernel)) ggX2_enough_X2_degree
theorem dX2_enough_0 : decode cX2_enough 0 = .ok (.iconst 0, 1) := by decide +kernel
theorem dX2_enough_1 : decode cX2_enough 1 = .ok (.istore_n 2, 1) := by decide +kernel
theorem dX2_enough_2 : decode cX2_enough 2 = .ok (.iconst 0, 1) := by decide +kernel
theorem dX2_enough_3 : decode cX2_enough 3 = .ok (.istore_n 3, 1) := by decide +kernel
theorem dX2_enough_4 : decode cX2_enough 4 = .ok (.iload_n 3, 1) := by decide +kernel
theorem dX2_enough_5 : decode cX2_enough 5 = .ok (.bipush 6, 2) := by decide +kernel
theorem dX2_enough_7 : decode cX2_enough 7 = .ok (.if_icmp .ge 111, 3) := by decide +kernel
theorem dX2_enough_10 : decode cX2_enough 10 = .ok (.iload_n 1, 1) := by decide +kernel
theorem dX2_enough_11 : decode cX2_enough 11 = .ok (.iload_n 3, 1) := by decide +kernel
theorem dX2_enough_12 : decode cX2_enough 12 = .ok (.ishr, 1) := by decide +kernel
theorem dX2_enough_13 : decode cX2_enough 13 = .ok (.iconst 1, 1) := by decide +kernel
theorem dX2_enough_14 : decode cX2_enough 14 = .ok (.iand, 1) := by decide +kernel
theorem dX2_enough_15 : decode cX2_enough 15 = .ok (.iconst 1, 1) := by decide +kernel
theorem dX2_enough_16 : decode cX2_enough 16 = .ok (.if_icmp .ne 96, 3) := by decide +kernel
theorem dX2_enough_19 : decode cX2_enough 19 = .ok (.aload_n 0, 1) := by decide +kernel
theorem dX2_enough_20 : decode cX2_enough 20 = .ok (.getfield 7, 3) := by decide +kernel
theorem dX2_enough_23 : decode cX2_enough 23 = .ok (.iload_n 3, 1) := by decide +kernel
theorem dX2_enough_24 : decode cX2_enough 24 = .ok (.iaload, 1) := by decide +kernel
theorem dX2_enough_25 : decode cX2_enough 25 = .ok (.istore 4, 2) := by decide +kernel
theorem dX2_enough_27 : decode cX2_enough 27 = .ok (.iload_n 2, 1) := by decide +kernel
theorem dX2_enough_28 : decode cX2_enough 28 = .ok (.iload 4, 2) := by decide +kernel
theorem dX2_enough_30 : decode cX2_enough 30 = .ok (.iconst 1, 1) := by decide +kernel
theorem dX2_enough_31 : decode cX2_enough 31 = .ok (.iand, 1) := by decide +kernel
theorem dX2_enough_32 : decode cX2_enough 32 = .ok (.iconst 1, 1) := by decide +kernel
theorem dX2_enough_33 : decode cX2_enough 33 = .ok (.if_icmp .ne 7, 3) := by decide +kernel
theorem dX2_enough_36 : decode cX2_enough 36 = .ok (.iconst 1, 1) := by decide +kernel
theorem dX2_enough_37 : decode cX2_enough 37 = .ok (.goto 4, 3) := by decide +kernel
theorem dX2_enough_40 : decode cX2_enough 40 = .ok (.iconst 0, 1) := by decide +kernel
theorem dX2_enough_41 : decode cX2_enough 41 = .ok (.ior, 1) := by decide +kernel
theorem dX2_enough_42 : decode cX2_enough 42 = .ok (.istore_n 2, 1) := by decide +kernel
theorem dX2_enough_43 : decode cX2_enough 43 = .ok (.iload_n 2, 1) := by decide +kernel
theorem dX2_enough_44 : decode cX2_enough 44 = .ok (.iload 4, 2) := by decide +kernel
theorem dX2_enough_46 : decode cX2_enough 46 = .ok (.bipush 15, 2) := by decide +kernel
theorem dX2_enough_48 : decode cX2_enough 48 = .ok (.ishr, 1) := by decide +kernel
theorem dX2_enough_49 : decode cX2_enough 49 = .ok (.iconst 1, 1) := by decide +kernel
theorem dX2_enough_50 : decode cX2_enough 50 = .ok (.iand, 1) := by decide +kernel
theorem dX2_enough_51 : decode cX2_enough 51 = .ok (.ifCond .ne 7, 3) := by decide +kernel
theorem dX2_enough_54 : decode cX2_enough 54 = .ok (.iconst 2, 1) := by decide +kernel
theorem dX2_enough_55 : decode cX2_enough 55 = .ok (.goto 4, 3) := by decide +kernel
theorem dX2_enough_58 : decode cX2_enough 58 = .ok (.iconst 0, 1) := by decide +kernel
theorem dX2_enough_59 : decode cX2_enough 59 = .ok (.ior, 1) := by decide +kernel
theorem dX2_enough_60 : decode cX2_enough 60 = .ok (.istore_n 2, 1) := by decide +kernel
theorem dX2_enough_61 : decode cX2_enough 61 = .ok (.iload_n 2, 1) := by decide +kernel
theorem dX2_enough_62 : decode cX2_enough 62 = .ok (.iload 4, 2) := by decide +kernel
theorem dX2_enough_64 : decode cX2_enough 64 = .ok (.invokestatic 118, 3) := by decide +kernel
theorem dX2_enough_67 : decode cX2_enough 67 = .ok (.ifCond .eq 7, 3) := by decide +kernel
theorem dX2_enough_70 : decode cX2_enough 70 = .ok (.iconst 0, 1) := by decide +kernel
theorem dX2_enough_71 : decode cX2_enough 71 = .ok (.goto 4, 3) := by decide +kernel
theorem dX2_enough_74 : decode cX2_enough 74 = .ok (.iconst 4, 1) := by decide +kernel
theorem dX2_enough_75 : decode cX2_enough 75 = .ok (.ior, 1) := by decide +kernel
theorem dX2_enough_76 : decode cX2_enough 76 = .ok (.istore_n 2, 1) := by decide +kernel
theorem dX2_enough_77 : decode cX2_enough 77 = .ok (.iload_n 2, 1) := by decide +kernel
theorem dX2_enough_78 : decode cX2_enough 78 = .ok (.iload 4, 2) := by decide +kernel
theorem dX2_enough_80 : decode cX2_enough 80 = .ok (.invokestatic 121, 3) := by decide +kernel
theorem dX2_enough_83 : decode cX2_enough 83 = .ok (.ifCond .eq 7, 3) := by decide +kernel
theorem dX2_enough_86 : decode cX2_enough 86 = .ok (.iconst 0, 1) := by decide +kernel
theorem dX2_enough_87 : decode cX2_enough 87 = .ok (.goto 5, 3) := by decide +kernel
theorem dX2_enough_90 : decode cX2_enough 90 = .ok (.bipush 8, 2) := by decide +kernel
theorem dX2_enough_92 : decode cX2_enough 92 = .ok (.ior, 1) := by decide +kernel
theorem dX2_enough_93 : decode cX2_enough 93 = .ok (.istore_n 2, 1) := by decide +kernel
theorem dX2_enough_94 : decode cX2_enough 94 = .ok (.iload_n 2, 1) := by decide +kernel
theorem dX2_enough_95 : decode cX2_enough 95 = .ok (.iload 4, 2) := by decide +kernel
theorem dX2_enough_97 : decode cX2_enough 97 = .ok (.invokestatic 102, 3) := by decide +kernel
theorem dX2_enough_100 : decode cX2_enough 100 = .ok (.iconst 1, 1) := by decide +kernel
theorem dX2_enough_101 : decode cX2_enough 101 = .ok (.if_icmp .le 8, 3) := by decide +kernel
theorem dX2_enough_104 : decode cX2_enough 104 = .ok (.bipush 16, 2) := by decide +kernel
theorem dX2_enough_106 : decode cX2_enough 106 = .ok (.goto 4, 3) := by decide +kernel
theorem dX2_enough_109 : decode cX2_enough 109 = .ok (.iconst 0, 1) := by decide +kernel
theorem dX2_enough_110 : decode cX2_enough 110 = .ok (.ior, 1) := by decide +kernel
theorem dX2_enough_111 : decode cX2_enough 111 = .ok (.istore_n 2, 1) := by decide +kernel
theorem dX2_enough_112 : decode cX2_enough 112 = .ok (.iinc 3 1, 3) := by decide +kernel
theorem dX2_enough_115 : decode cX2_enough 115 = .ok (.goto (-111), 3) := by decide +kernel
theorem dX2_enough_118 : decode cX2_enough 118 = .ok (.iload_n 2, 1) := by decide +kernel
theorem dX2_enough_119 : decode cX2_enough 119 = .ok (.bipush 31, 2) := by decide +kernel
theorem dX2_enough_121 : decode cX2_enough 121 = .ok (.if_icmp .ne 7, 3) := by decide +kernel
theorem dX2_enough_124 : decode cX2_enough 124 = .ok (.iconst 1, 1) := by decide +kernel
theorem dX2_enough_125 : decode cX2_enough 125 = .ok (.goto 4, 3) := by decide +kernel
theorem dX2_enough_128 : decode cX2_enough 128 = .ok (.iconst 0, 1) := by decide +kernel
theorem dX2_enough_129 : decode cX2_enough 129 = .ok (.ireturn, 1) := by decide +kernel
set_option maxRecDepth 20000 in
theorem ggX2_areEnough_X2_in : GoodIn wsX2_areEnough wsX2_in := goodIn_r _ [5] (by decide +kernel) (by decide +kernel)
set_option maxRecDepth 20000 in
theorem gX2_areEnough_X2_in : GoodIn wsX2_areEnough (va_wsS RX2 31 yX2_in wsX2_in) := goodIn_app (goodIn_of _ (by decide +kernel)) ggX2_areEnough_X2_in
set_option maxRecDepth 20000 in
theorem ggX2_areEnough_X2_enough : GoodIn wsX2_areEnough wsX2_enough := goodIn_r _ [9, 10, 11, 12, 4, 13, 14, 15, 16, 17, 18, 19, 20, 21, 22, 23, 24, 25, 26, 27, 28, 29, 30, 31, 32, 33, 34, 35] (by decide +kernel) (by decide +kernel)
set_option maxRecDepth 20000 in
theorem gX2_areEnough_X2_enough : GoodIn wsX2_areEnough (wsV RX2 124 RX2 yX2_enough wsX2_enough) := goodIn_app (goodIn_of _ (by decide +kernel)) ggX2_areEnough_X2_enough
theorem dX2_areEnough_0 : decode cX2_areEnough 0 = .ok (.aload_n 0, 1) := by decide +kernel
theorem dX2_areEnough_1 : decode cX2_areEnough 1 = .ok (.iload_n 1, 1) := by decide +kernel
theorem dX2_areEnough_2 : decode cX2_areEnough 2 = .ok (.iconst 1, 1) := by decide +kernel
theorem dX2_areEnough_3 : decode cX2_areEnough 3 = .ok (.bipush 63, 2) := by decide +kernel
theorem dX2_areEnough_5 : decode cX2_areEnough 5 = .ok (.invokestatic 31, 3) := by decide +kernel
theorem dX2_areEnough_8 : decode cX2_areEnough 8 = .ok (.ifCond .eq 7, 3) := by decide +kernel
theorem dX2_areEnough_11 : decode cX2_areEnough 11 = .ok (.iconst 0, 1) := by decide +kernel
theorem dX2_areEnough_12 : decode cX2_areEnough 12 = .ok (.goto 4, 3) := by decide +kernel
theorem dX2_areEnough_15 : decode cX2_areEnough 15 = .ok (.iconst 1, 1) := by decide +kernel
theorem dX2_areEnough_16 : decode cX2_areEnough 16 = .ok (.putfield 27, 3) := by decide +kernel
theorem dX2_areEnough_19 : decode cX2_areEnough 19 = .ok (.aload_n 0, 1) := by decide +kernel
theorem dX2_areEnough_20 : decode cX2_areEnough 20 = .ok (.getfield 27, 3) := by decide +kernel
theorem dX2_areEnough_23 : decode cX2_areEnough 23 = .ok (.ifCond .ne 15, 3) := by decide +kernel
theorem dX2_areEnough_26 : decode cX2_areEnough 26 = .ok (.aload_n 0, 1) := by decide +kernel
theorem dX2_areEnough_27 : decode cX2_areEnough 27 = .ok (.iload_n 1, 1) := by decide +kernel
theorem dX2_areEnough_28 : decode cX2_areEnough 28 = .ok (.invokevirtual 124, 3) := by decide +kernel
theorem dX2_areEnough_31 : decode cX2_areEnough 31 = .ok (.ifCond .eq 7, 3) := by decide +kernel
theorem dX2_areEnough_34 : decode cX2_areEnough 34 = .ok (.iconst 1, 1) := by decide +kernel
theorem dX2_areEnough_35 : decode cX2_areEnough 35 = .ok (.goto 4, 3) := by decide +kernel
theorem dX2_areEnough_38 : decode cX2_areEnough 38 = .ok (.iconst 0, 1) := by decide +kernel
theorem dX2_areEnough_39 : decode cX2_areEnough 39 = .ok (.ireturn, 1) := by decide +kernel
set_option maxRecDepth 20000 in
theorem ggX2_fewestEnough_X2_bits : GoodIn wsX2_fewestEnough wsX2_bits := goodIn_r _ [5] (by decide +kernel) (by decide +kernel)
set_option maxRecDepth 20000 in
theorem gX2_fewestEnough_X2_bits : GoodIn wsX2_fewestEnough (va_wsS RX2 45 yX2_bits wsX2_bits) := goodIn_app (goodIn_of _ (by decide +kernel)) ggX2_fewestEnough_X2_bits
set_option maxRecDepth 20000 in
theorem ggX2_fewestEnough_X2_enough : GoodIn wsX2_fewestEnough wsX2_enough := goodIn_r _ [9, 10, 11, 12, 4, 13, 14, 15, 16, 17, 18, 19, 20, 21, 22, 2, 3, 5, 23, 24, 25, 26, 27, 28, 29, 30, 31, 32] (by decide +kernel) (by decide +kernel)
set_option maxRecDepth 20000 in
theorem gX2_fewestEnough_X2_enough : GoodIn wsX2_fewestEnough (wsV RX2 124 RX2 yX2_enough wsX2_enough) := goodIn_app (goodIn_of _ (by decide +kernel)) ggX2_fewestEnough_X2_enough
theorem dX2_fewestEnough_0 : decode cX2_fewestEnough 0 = .ok (.aload_n 0, 1) := by decide +kernel
theorem dX2_fewestEnough_1 : decode cX2_fewestEnough 1 = .ok (.iconst 0, 1) := by decide +kernel
theorem dX2_fewestEnough_2 : decode cX2_fewestEnough 2 = .ok (.putfield 27, 3) := by decide +kernel
theorem dX2_fewestEnough_5 : decode cX2_fewestEnough 5 = .ok (.iconst (-1), 1) := by decide +kernel
theorem dX2_fewestEnough_6 : decode cX2_fewestEnough 6 = .ok (.istore_n 1, 1) := by decide +kernel
theorem dX2_fewestEnough_7 : decode cX2_fewestEnough 7 = .ok (.iconst 1, 1) := by decide +kernel
theorem dX2_fewestEnough_8 : decode cX2_fewestEnough 8 = .ok (.istore_n 2, 1) := by decide +kernel
theorem dX2_fewestEnough_9 : decode cX2_fewestEnough 9 = .ok (.iload_n 2, 1) := by decide +kernel
theorem dX2_fewestEnough_10 : decode cX2_fewestEnough 10 = .ok (.bipush 64, 2) := by decide +kernel
theorem dX2_fewestEnough_12 : decode cX2_fewestEnough 12 = .ok (.if_icmp .ge 49, 3) := by decide +kernel
theorem dX2_fewestEnough_15 : decode cX2_fewestEnough 15 = .ok (.iload_n 1, 1) := by decide +kernel
theorem dX2_fewestEnough_16 : decode cX2_fewestEnough 16 = .ok (.iconst (-1), 1) := by decide +kernel
theorem dX2_fewestEnough_17 : decode cX2_fewestEnough 17 = .ok (.if_icmp .eq 11, 3) := by decide +kernel
theorem dX2_fewestEnough_20 : decode cX2_fewestEnough 20 = .ok (.iload_n 2, 1) := by decide +kernel
theorem dX2_fewestEnough_21 : decode cX2_fewestEnough 21 = .ok (.invokestatic 45, 3) := by decide +kernel
theorem dX2_fewestEnough_24 : decode cX2_fewestEnough 24 = .ok (.iload_n 1, 1) := by decide +kernel
theorem dX2_fewestEnough_25 : decode cX2_fewestEnough 25 = .ok (.if_icmp .ge 7, 3) := by decide +kernel
theorem dX2_fewestEnough_28 : decode cX2_fewestEnough 28 = .ok (.iconst 1, 1) := by decide +kernel
theorem dX2_fewestEnough_29 : decode cX2_fewestEnough 29 = .ok (.goto 4, 3) := by decide +kernel
theorem dX2_fewestEnough_32 : decode cX2_fewestEnough 32 = .ok (.iconst 0, 1) := by decide +kernel
theorem dX2_fewestEnough_33 : decode cX2_fewestEnough 33 = .ok (.istore_n 3, 1) := by decide +kernel
theorem dX2_fewestEnough_34 : decode cX2_fewestEnough 34 = .ok (.iload_n 3, 1) := by decide +kernel
theorem dX2_fewestEnough_35 : decode cX2_fewestEnough 35 = .ok (.ifCond .eq 18, 3) := by decide +kernel
theorem dX2_fewestEnough_38 : decode cX2_fewestEnough 38 = .ok (.aload_n 0, 1) := by decide +kernel
theorem dX2_fewestEnough_39 : decode cX2_fewestEnough 39 = .ok (.iload_n 2, 1) := by decide +kernel
theorem dX2_fewestEnough_40 : decode cX2_fewestEnough 40 = .ok (.invokevirtual 124, 3) := by decide +kernel
theorem dX2_fewestEnough_43 : decode cX2_fewestEnough 43 = .ok (.ifCond .eq 10, 3) := by decide +kernel
theorem dX2_fewestEnough_46 : decode cX2_fewestEnough 46 = .ok (.iload_n 2, 1) := by decide +kernel
theorem dX2_fewestEnough_47 : decode cX2_fewestEnough 47 = .ok (.invokestatic 45, 3) := by decide +kernel
theorem dX2_fewestEnough_50 : decode cX2_fewestEnough 50 = .ok (.goto 4, 3) := by decide +kernel
theorem dX2_fewestEnough_53 : decode cX2_fewestEnough 53 = .ok (.iload_n 1, 1) := by decide +kernel
theorem dX2_fewestEnough_54 : decode cX2_fewestEnough 54 = .ok (.istore_n 1, 1) := by decide +kernel
theorem dX2_fewestEnough_55 : decode cX2_fewestEnough 55 = .ok (.iinc 2 1, 3) := by decide +kernel
theorem dX2_fewestEnough_58 : decode cX2_fewestEnough 58 = .ok (.goto (-49), 3) := by decide +kernel
theorem dX2_fewestEnough_61 : decode cX2_fewestEnough 61 = .ok (.iload_n 1, 1) := by decide +kernel
theorem dX2_fewestEnough_62 : decode cX2_fewestEnough 62 = .ok (.ireturn, 1) := by decide +kernel
theorem dX2_recordedStates_0 : decode cX2_recordedStates 0 = .ok (.aload_n 0, 1) := by decide +kernel
theorem dX2_recordedStates_1 : decode cX2_recordedStates 1 = .ok (.iconst 0, 1) := by decide +kernel
theorem dX2_recordedStates_2 : decode cX2_recordedStates 2 = .ok (.putfield 27, 3) := by decide +kernel
theorem dX2_recordedStates_5 : decode cX2_recordedStates 5 = .ok (.aload_n 0, 1) := by decide +kernel
theorem dX2_recordedStates_6 : decode cX2_recordedStates 6 = .ok (.getfield 35, 3) := by decide +kernel
theorem dX2_recordedStates_9 : decode cX2_recordedStates 9 = .ok (.ireturn, 1) := by decide +kernel
end
section
theorem dJ6_bitCount_0f7a4_0 : decode cJ6_bitCount_0f7a4 0 = .ok (.iload_n 0, 1) := by decide +kernel
theorem dJ6_bitCount_0f7a4_1 : decode cJ6_bitCount_0f7a4 1 = .ok (.iload_n 0, 1) := by decide +kernel
theorem dJ6_bitCount_0f7a4_2 : decode cJ6_bitCount_0f7a4 2 = .ok (.iconst 1, 1) := by decide +kernel
theorem dJ6_bitCount_0f7a4_3 : decode cJ6_bitCount_0f7a4 3 = .ok (.iushr, 1) := by decide +kernel
theorem dJ6_bitCount_0f7a4_4 : decode cJ6_bitCount_0f7a4 4 = .ok (.ldc_w 265, 3) := by decide +kernel
theorem dJ6_bitCount_0f7a4_7 : decode cJ6_bitCount_0f7a4 7 = .ok (.iand, 1) := by decide +kernel
theorem dJ6_bitCount_0f7a4_8 : decode cJ6_bitCount_0f7a4 8 = .ok (.isub, 1) := by decide +kernel
theorem dJ6_bitCount_0f7a4_9 : decode cJ6_bitCount_0f7a4 9 = .ok (.istore_n 0, 1) := by decide +kernel
theorem dJ6_bitCount_0f7a4_10 : decode cJ6_bitCount_0f7a4 10 = .ok (.iload_n 0, 1) := by decide +kernel
theorem dJ6_bitCount_0f7a4_11 : decode cJ6_bitCount_0f7a4 11 = .ok (.ldc_w 266, 3) := by decide +kernel
theorem dJ6_bitCount_0f7a4_14 : decode cJ6_bitCount_0f7a4 14 = .ok (.iand, 1) := by decide +kernel
theorem dJ6_bitCount_0f7a4_15 : decode cJ6_bitCount_0f7a4 15 = .ok (.iload_n 0, 1) := by decide +kernel
theorem dJ6_bitCount_0f7a4_16 : decode cJ6_bitCount_0f7a4 16 = .ok (.iconst 2, 1) := by decide +kernel
theorem dJ6_bitCount_0f7a4_17 : decode cJ6_bitCount_0f7a4 17 = .ok (.iushr, 1) := by decide +kernel
theorem dJ6_bitCount_0f7a4_18 : decode cJ6_bitCount_0f7a4 18 = .ok (.ldc_w 266, 3) := by decide +kernel
theorem dJ6_bitCount_0f7a4_21 : decode cJ6_bitCount_0f7a4 21 = .ok (.iand, 1) := by decide +kernel
theorem dJ6_bitCount_0f7a4_22 : decode cJ6_bitCount_0f7a4 22 = .ok (.iadd, 1) := by decide +kernel
theorem dJ6_bitCount_0f7a4_23 : decode cJ6_bitCount_0f7a4 23 = .ok (.istore_n 0, 1) := by decide +kernel
theorem dJ6_bitCount_0f7a4_24 : decode cJ6_bitCount_0f7a4 24 = .ok (.iload_n 0, 1) := by decide +kernel
theorem dJ6_bitCount_0f7a4_25 : decode cJ6_bitCount_0f7a4 25 = .ok (.iload_n 0, 1) := by decide +kernel
theorem dJ6_bitCount_0f7a4_26 : decode cJ6_bitCount_0f7a4 26 = .ok (.iconst 4, 1) := by decide +kernel
theorem dJ6_bitCount_0f7a4_27 : decode cJ6_bitCount_0f7a4 27 = .ok (.iushr, 1) := by decide +kernel
theorem dJ6_bitCount_0f7a4_28 : decode cJ6_bitCount_0f7a4 28 = .ok (.iadd, 1) := by decide +kernel
theorem dJ6_bitCount_0f7a4_29 : decode cJ6_bitCount_0f7a4 29 = .ok (.ldc_w 267, 3) := by decide +kernel
theorem dJ6_bitCount_0f7a4_32 : decode cJ6_bitCount_0f7a4 32 = .ok (.iand, 1) := by decide +kernel
theorem dJ6_bitCount_0f7a4_33 : decode cJ6_bitCount_0f7a4 33 = .ok (.istore_n 0, 1) := by decide +kernel
theorem dJ6_bitCount_0f7a4_34 : decode cJ6_bitCount_0f7a4 34 = .ok (.iload_n 0, 1) := by decide +kernel
theorem dJ6_bitCount_0f7a4_35 : decode cJ6_bitCount_0f7a4 35 = .ok (.iload_n 0, 1) := by decide +kernel
theorem dJ6_bitCount_0f7a4_36 : decode cJ6_bitCount_0f7a4 36 = .ok (.bipush 8, 2) := by decide +kernel
theorem dJ6_bitCount_0f7a4_38 : decode cJ6_bitCount_0f7a4 38 = .ok (.iushr, 1) := by decide +kernel
theorem dJ6_bitCount_0f7a4_39 : decode cJ6_bitCount_0f7a4 39 = .ok (.iadd, 1) := by decide +kernel
theorem dJ6_bitCount_0f7a4_40 : decode cJ6_bitCount_0f7a4 40 = .ok (.istore_n 0, 1) := by decide +kernel
theorem dJ6_bitCount_0f7a4_41 : decode cJ6_bitCount_0f7a4 41 = .ok (.iload_n 0, 1) := by decide +kernel
theorem dJ6_bitCount_0f7a4_42 : decode cJ6_bitCount_0f7a4 42 = .ok (.iload_n 0, 1) := by decide +kernel
theorem dJ6_bitCount_0f7a4_43 : decode cJ6_bitCount_0f7a4 43 = .ok (.bipush 16, 2) := by decide +kernel
theorem dJ6_bitCount_0f7a4_45 : decode cJ6_bitCount_0f7a4 45 = .ok (.iushr, 1) := by decide +kernel
theorem dJ6_bitCount_0f7a4_46 : decode cJ6_bitCount_0f7a4 46 = .ok (.iadd, 1) := by decide +kernel
theorem dJ6_bitCount_0f7a4_47 : decode cJ6_bitCount_0f7a4 47 = .ok (.istore_n 0, 1) := by decide +kernel
theorem dJ6_bitCount_0f7a4_48 : decode cJ6_bitCount_0f7a4 48 = .ok (.iload_n 0, 1) := by decide +kernel
theorem dJ6_bitCount_0f7a4_49 : decode cJ6_bitCount_0f7a4 49 = .ok (.bipush 63, 2) := by decide +kernel
theorem dJ6_bitCount_0f7a4_51 : decode cJ6_bitCount_0f7a4 51 = .ok (.iand, 1) := by decide +kernel
theorem dJ6_bitCount_0f7a4_52 : decode cJ6_bitCount_0f7a4 52 = .ok (.ireturn, 1) := by decide +kernel
theorem dJ9_abs_0f7a4_0 : decode cJ9_abs_0f7a4 0 = .ok (.iload_n 0, 1) := by decide +kernel
theorem dJ9_abs_0f7a4_1 : decode cJ9_abs_0f7a4 1 = .ok (.ifCond .ge 8, 3) := by decide +kernel
theorem dJ9_abs_0f7a4_4 : decode cJ9_abs_0f7a4 4 = .ok (.iload_n 0, 1) := by decide +kernel
theorem dJ9_abs_0f7a4_5 : decode cJ9_abs_0f7a4 5 = .ok (.ineg, 1) := by decide +kernel
theorem dJ9_abs_0f7a4_6 : decode cJ9_abs_0f7a4 6 = .ok (.goto 4, 3) := by decide +kernel
theorem dJ9_abs_0f7a4_9 : decode cJ9_abs_0f7a4 9 = .ok (.iload_n 0, 1) := by decide +kernel
theorem dJ9_abs_0f7a4_10 : decode cJ9_abs_0f7a4 10 = .ok (.ireturn, 1) := by decide +kernel
theorem dJ9_max_7cf53_0 : decode cJ9_max_7cf53 0 = .ok (.iload_n 0, 1) := by decide +kernel
theorem dJ9_max_7cf53_1 : decode cJ9_max_7cf53 1 = .ok (.iload_n 1, 1) := by decide +kernel
theorem dJ9_max_7cf53_2 : decode cJ9_max_7cf53 2 = .ok (.if_icmp .lt 7, 3) := by decide +kernel
theorem dJ9_max_7cf53_5 : decode cJ9_max_7cf53 5 = .ok (.iload_n 0, 1) := by decide +kernel
theorem dJ9_max_7cf53_6 : decode cJ9_max_7cf53 6 = .ok (.goto 4, 3) := by decide +kernel
theorem dJ9_max_7cf53_9 : decode cJ9_max_7cf53 9 = .ok (.iload_n 1, 1) := by decide +kernel
theorem dJ9_max_7cf53_10 : decode cJ9_max_7cf53 10 = .ok (.ireturn, 1) := by decide +kernel
theorem dJ9_min_7cf53_0 : decode cJ9_min_7cf53 0 = .ok (.iload_n 0, 1) := by decide +kernel
theorem dJ9_min_7cf53_1 : decode cJ9_min_7cf53 1 = .ok (.iload_n 1, 1) := by decide +kernel
theorem dJ9_min_7cf53_2 : decode cJ9_min_7cf53 2 = .ok (.if_icmp .gt 7, 3) := by decide +kernel
theorem dJ9_min_7cf53_5 : decode cJ9_min_7cf53 5 = .ok (.iload_n 0, 1) := by decide +kernel
theorem dJ9_min_7cf53_6 : decode cJ9_min_7cf53 6 = .ok (.goto 4, 3) := by decide +kernel
theorem dJ9_min_7cf53_9 : decode cJ9_min_7cf53 9 = .ok (.iload_n 1, 1) := by decide +kernel
theorem dJ9_min_7cf53_10 : decode cJ9_min_7cf53 10 = .ok (.ireturn, 1) := by decide +kernel
set_option maxRecDepth 20000 in
theorem ggL_define_X1_define : GoodIn wsL_define wsX1_define := goodIn_ca (goodIn_ca (goodIn_r _ [7, 8, 9, 10, 6, 11, 12, 13, 14, 15, 16, 17, 18, 19, 20, 21, 22, 23, 24, 25, 26, 27, 28, 29, 30, 31, 32, 33, 34, 35, 36, 37, 38, 39, 40, 41, 42, 43, 44, 45, 46, 47, 48, 49, 50, 51, 52, 53, 54, 55, 56, 57, 58, 59, 60, 61, 62, 63, 64, 65, 66, 67, 68, 69, 70, 71, 72, 73, 74, 75, 76, 77, 78, 79, 80, 81, 82, 83, 84, 85, 86, 87, 88, 89, 90, 91, 92, 93, 94, 95, 96, 97, 98, 99, 100, 101, 102, 103, 104, 105, 106, 107, 108] (by decide +kernel) (by decide +kernel)) (goodIn_sub (fun _ h => List.mem_cons_of_mem _ (List.mem_append_left _ (List.mem_append_right _ h))) (by decide +kernel))) (goodIn_sub (fun _ h => List.mem_cons_of_mem _ (List.mem_append_right _ h)) (by decide +kernel))
set_option maxRecDepth 20000 in
theorem gL_define_X1_define : GoodIn wsL_define (wsV RL 7 RX1 yX1_define wsX1_define) := goodIn_app (goodIn_of _ (by decide +kernel)) ggL_define_X1_define
theorem dL_define_0 : decode cL_define 0 = .ok (.aload_n 2, 1) := by decide +kernel
theorem dL_define_1 : decode cL_define 1 = .ok (.iconst 0, 1) := by decide +kernel
theorem dL_define_2 : decode cL_define 2 = .ok (.aload_n 0, 1) := by decide +kernel
theorem dL_define_3 : decode cL_define 3 = .ok (.iload_n 1, 1) := by decide +kernel
theorem dL_define_4 : decode cL_define 4 = .ok (.invokevirtual 7, 3) := by decide +kernel
theorem dL_define_7 : decode cL_define 7 = .ok (.i2l, 1) := by decide +kernel
theorem dL_define_8 : decode cL_define 8 = .ok (.lastore, 1) := by decide +kernel
theorem dL_define_9 : decode cL_define 9 = .ok (.goto 9, 3) := by decide +kernel
theorem dL_define_12 : decode cL_define 12 = .ok (.astore_n 3, 1) := by decide +kernel
theorem dL_define_13 : decode cL_define 13 = .ok (.iconst 1, 1) := by decide +kernel
theorem dL_define_14 : decode cL_define 14 = .ok (.ireturn, 1) := by decide +kernel
theorem dL_define_15 : decode cL_define 15 = .ok (.astore_n 3, 1) := by decide +kernel
theorem dL_define_16 : decode cL_define 16 = .ok (.iconst 2, 1) := by decide +kernel
theorem dL_define_17 : decode cL_define 17 = .ok (.ireturn, 1) := by decide +kernel
theorem dL_define_18 : decode cL_define 18 = .ok (.iconst 0, 1) := by decide +kernel
theorem dL_define_19 : decode cL_define 19 = .ok (.ireturn, 1) := by decide +kernel
set_option maxRecDepth 20000 in
theorem ggL_setTable_X1_setTable : GoodIn wsL_setTable wsX1_setTable := goodIn_ca (goodIn_ca (goodIn_r _ [7, 8, 9, 10, 11, 12, 13, 6, 14, 15, 16, 17, 18, 19, 20, 21, 22, 23, 24, 25, 26, 27, 28, 29, 30, 31, 32, 33, 34, 35, 36, 37] (by decide +kernel) (by decide +kernel)) (goodIn_sub (fun _ h => List.mem_cons_of_mem _ (List.mem_append_left _ (List.mem_append_right _ h))) (by decide +kernel))) (goodIn_sub (fun _ h => List.mem_cons_of_mem _ (List.mem_append_right _ h)) (by decide +kernel))
set_option maxRecDepth 20000 in
theorem gL_setTable_X1_setTable : GoodIn wsL_setTable (wsV RL 17 RX1 yX1_setTable wsX1_setTable) := goodIn_app (goodIn_of _ (by decide +kernel)) ggL_setTable_X1_setTable
theorem dL_setTable_0 : decode cL_setTable 0 = .ok (.aload_n 3, 1) := by decide +kernel
theorem dL_setTable_1 : decode cL_setTable 1 = .ok (.iconst 0, 1) := by decide +kernel
theorem dL_setTable_2 : decode cL_setTable 2 = .ok (.aload_n 0, 1) := by decide +kernel
theorem dL_setTable_3 : decode cL_setTable 3 = .ok (.iload_n 1, 1) := by decide +kernel
theorem dL_setTable_4 : decode cL_setTable 4 = .ok (.iload_n 2, 1) := by decide +kernel
theorem dL_setTable_5 : decode cL_setTable 5 = .ok (.invokevirtual 17, 3) := by decide +kernel
theorem dL_setTable_8 : decode cL_setTable 8 = .ok (.i2l, 1) := by decide +kernel
theorem dL_setTable_9 : decode cL_setTable 9 = .ok (.lastore, 1) := by decide +kernel
theorem dL_setTable_10 : decode cL_setTable 10 = .ok (.goto 11, 3) := by decide +kernel
theorem dL_setTable_13 : decode cL_setTable 13 = .ok (.astore 4, 2) := by decide +kernel
theorem dL_setTable_15 : decode cL_setTable 15 = .ok (.iconst 1, 1) := by decide +kernel
theorem dL_setTable_16 : decode cL_setTable 16 = .ok (.ireturn, 1) := by decide +kernel
theorem dL_setTable_17 : decode cL_setTable 17 = .ok (.astore 4, 2) := by decide +kernel
theorem dL_setTable_19 : decode cL_setTable 19 = .ok (.iconst 2, 1) := by decide +kernel
theorem dL_setTable_20 : decode cL_setTable 20 = .ok (.ireturn, 1) := by decide +kernel
theorem dL_setTable_21 : decode cL_setTable 21 = .ok (.iconst 0, 1) := by decide +kernel
theorem dL_setTable_22 : decode cL_setTable 22 = .ok (.ireturn, 1) := by decide +kernel
set_option maxRecDepth 20000 in
theorem ggL_join_X1_join : GoodIn wsL_join wsX1_join := goodIn_ca (goodIn_ca (goodIn_r _ [7, 8, 9, 10, 11, 12, 6, 13, 14, 15, 16, 17, 18, 19, 20, 21, 22, 23, 24, 25, 26, 27, 28, 29, 30, 31, 32, 33, 34, 35, 36, 37, 38, 39, 40] (by decide +kernel) (by decide +kernel)) (goodIn_sub (fun _ h => List.mem_cons_of_mem _ (List.mem_append_left _ (List.mem_append_right _ h))) (by decide +kernel))) (goodIn_sub (fun _ h => List.mem_cons_of_mem _ (List.mem_append_right _ h)) (by decide +kernel))
set_option maxRecDepth 20000 in
theorem gL_join_X1_join : GoodIn wsL_join (wsV RL 23 RX1 yX1_join wsX1_join) := goodIn_app (goodIn_of _ (by decide +kernel)) ggL_join_X1_join
theorem dL_join_0 : decode cL_join 0 = .ok (.aload 5, 2) := by decide +kernel
theorem dL_join_2 : decode cL_join 2 = .ok (.iconst 0, 1) := by decide +kernel
theorem dL_join_3 : decode cL_join 3 = .ok (.aload_n 0, 1) := by decide +kernel
theorem dL_join_4 : decode cL_join 4 = .ok (.iload_n 1, 1) := by decide +kernel
theorem dL_join_5 : decode cL_join 5 = .ok (.iload_n 2, 1) := by decide +kernel
theorem dL_join_6 : decode cL_join 6 = .ok (.iload_n 3, 1) := by decide +kernel
theorem dL_join_7 : decode cL_join 7 = .ok (.iload 4, 2) := by decide +kernel
theorem dL_join_9 : decode cL_join 9 = .ok (.invokevirtual 23, 3) := by decide +kernel
theorem dL_join_12 : decode cL_join 12 = .ok (.i2l, 1) := by decide +kernel
theorem dL_join_13 : decode cL_join 13 = .ok (.lastore, 1) := by decide +kernel
theorem dL_join_14 : decode cL_join 14 = .ok (.goto 11, 3) := by decide +kernel
theorem dL_join_17 : decode cL_join 17 = .ok (.astore 6, 2) := by decide +kernel
theorem dL_join_19 : decode cL_join 19 = .ok (.iconst 1, 1) := by decide +kernel
theorem dL_join_20 : decode cL_join 20 = .ok (.ireturn, 1) := by decide +kernel
theorem dL_join_21 : decode cL_join 21 = .ok (.astore 6, 2) := by decide +kernel
theorem dL_join_23 : decode cL_join 23 = .ok (.iconst 2, 1) := by decide +kernel
theorem dL_join_24 : decode cL_join 24 = .ok (.ireturn, 1) := by decide +kernel
theorem dL_join_25 : decode cL_join 25 = .ok (.iconst 0, 1) := by decide +kernel
theorem dL_join_26 : decode cL_join 26 = .ok (.ireturn, 1) := by decide +kernel
set_option maxRecDepth 20000 in
theorem ggL_fix_X1_fix : GoodIn wsL_fix wsX1_fix := goodIn_ca (goodIn_r _ [6, 7, 8, 9, 5, 10, 11, 12, 13, 14, 15, 16, 17, 18, 19, 20, 21, 22, 23, 24, 25, 26, 27, 28, 29, 30, 31, 32, 33, 34, 35, 36, 37, 38, 39, 40] (by decide +kernel) (by decide +kernel)) (goodIn_sub (fun _ h => List.mem_cons_of_mem _ (List.mem_append_right _ h)) (by decide +kernel))
set_option maxRecDepth 20000 in
theorem gL_fix_X1_fix : GoodIn wsL_fix (wsV RL 27 RX1 yX1_fix wsX1_fix) := goodIn_app (goodIn_of _ (by decide +kernel)) ggL_fix_X1_fix
theorem dL_fix_0 : decode cL_fix 0 = .ok (.aload 4, 2) := by decide +kernel
theorem dL_fix_2 : decode cL_fix 2 = .ok (.iconst 0, 1) := by decide +kernel
theorem dL_fix_3 : decode cL_fix 3 = .ok (.aload_n 0, 1) := by decide +kernel
theorem dL_fix_4 : decode cL_fix 4 = .ok (.iload_n 1, 1) := by decide +kernel
theorem dL_fix_5 : decode cL_fix 5 = .ok (.iload_n 2, 1) := by decide +kernel
theorem dL_fix_6 : decode cL_fix 6 = .ok (.iload_n 3, 1) := by decide +kernel
theorem dL_fix_7 : decode cL_fix 7 = .ok (.invokevirtual 27, 3) := by decide +kernel
theorem dL_fix_10 : decode cL_fix 10 = .ok (.i2l, 1) := by decide +kernel
theorem dL_fix_11 : decode cL_fix 11 = .ok (.lastore, 1) := by decide +kernel
theorem dL_fix_12 : decode cL_fix 12 = .ok (.goto 7, 3) := by decide +kernel
theorem dL_fix_15 : decode cL_fix 15 = .ok (.astore 5, 2) := by decide +kernel
theorem dL_fix_17 : decode cL_fix 17 = .ok (.iconst 1, 1) := by decide +kernel
theorem dL_fix_18 : decode cL_fix 18 = .ok (.ireturn, 1) := by decide +kernel
theorem dL_fix_19 : decode cL_fix 19 = .ok (.iconst 0, 1) := by decide +kernel
theorem dL_fix_20 : decode cL_fix 20 = .ok (.ireturn, 1) := by decide +kernel
set_option maxRecDepth 20000 in
theorem ggL_substitute_X1_substitute : GoodIn wsL_substitute wsX1_substitute := goodIn_ca (goodIn_r _ [6, 7, 8, 9, 5, 10, 11, 12, 13, 14, 15, 16, 17, 18, 19, 20, 21, 22, 23, 24, 25, 26, 27, 28, 29, 30, 31, 32, 33, 34, 35, 36, 37, 38, 39, 40] (by decide +kernel) (by decide +kernel)) (goodIn_sub (fun _ h => List.mem_cons_of_mem _ (List.mem_append_right _ h)) (by decide +kernel))
set_option maxRecDepth 20000 in
theorem gL_substitute_X1_substitute : GoodIn wsL_substitute (wsV RL 31 RX1 yX1_substitute wsX1_substitute) := goodIn_app (goodIn_of _ (by decide +kernel)) ggL_substitute_X1_substitute
theorem dL_substitute_0 : decode cL_substitute 0 = .ok (.aload 4, 2) := by decide +kernel
theorem dL_substitute_2 : decode cL_substitute 2 = .ok (.iconst 0, 1) := by decide +kernel
theorem dL_substitute_3 : decode cL_substitute 3 = .ok (.aload_n 0, 1) := by decide +kernel
theorem dL_substitute_4 : decode cL_substitute 4 = .ok (.iload_n 1, 1) := by decide +kernel
theorem dL_substitute_5 : decode cL_substitute 5 = .ok (.iload_n 2, 1) := by decide +kernel
theorem dL_substitute_6 : decode cL_substitute 6 = .ok (.iload_n 3, 1) := by decide +kernel
theorem dL_substitute_7 : decode cL_substitute 7 = .ok (.invokevirtual 31, 3) := by decide +kernel
theorem dL_substitute_10 : decode cL_substitute 10 = .ok (.i2l, 1) := by decide +kernel
theorem dL_substitute_11 : decode cL_substitute 11 = .ok (.lastore, 1) := by decide +kernel
theorem dL_substitute_12 : decode cL_substitute 12 = .ok (.goto 7, 3) := by decide +kernel
theorem dL_substitute_15 : decode cL_substitute 15 = .ok (.astore 5, 2) := by decide +kernel
theorem dL_substitute_17 : decode cL_substitute 17 = .ok (.iconst 1, 1) := by decide +kernel
theorem dL_substitute_18 : decode cL_substitute 18 = .ok (.ireturn, 1) := by decide +kernel
theorem dL_substitute_19 : decode cL_substitute 19 = .ok (.iconst 0, 1) := by decide +kernel
theorem dL_substitute_20 : decode cL_substitute 20 = .ok (.ireturn, 1) := by decide +kernel
set_option maxRecDepth 20000 in
theorem ggL_type_X1_type : GoodIn wsL_type wsX1_type := goodIn_ca (goodIn_r _ [6, 7, 8, 9, 10, 11, 12, 13, 14, 15, 16, 17, 18, 19, 20, 21] (by decide +kernel) (by decide +kernel)) (goodIn_sub (fun _ h => List.mem_cons_of_mem _ (List.mem_append_right _ h)) (by decide +kernel))
set_option maxRecDepth 20000 in
theorem gL_type_X1_type : GoodIn wsL_type (wsV RL 35 RX1 yX1_type wsX1_type) := goodIn_app (goodIn_of _ (by decide +kernel)) ggL_type_X1_type
theorem dL_type_0 : decode cL_type 0 = .ok (.aload_n 2, 1) := by decide +kernel
theorem dL_type_1 : decode cL_type 1 = .ok (.iconst 0, 1) := by decide +kernel
theorem dL_type_2 : decode cL_type 2 = .ok (.aload_n 0, 1) := by decide +kernel
theorem dL_type_3 : decode cL_type 3 = .ok (.iload_n 1, 1) := by decide +kernel
theorem dL_type_4 : decode cL_type 4 = .ok (.invokevirtual 35, 3) := by decide +kernel
theorem dL_type_7 : decode cL_type 7 = .ok (.i2l, 1) := by decide +kernel
theorem dL_type_8 : decode cL_type 8 = .ok (.lastore, 1) := by decide +kernel
theorem dL_type_9 : decode cL_type 9 = .ok (.goto 6, 3) := by decide +kernel
theorem dL_type_12 : decode cL_type 12 = .ok (.astore_n 3, 1) := by decide +kernel
theorem dL_type_13 : decode cL_type 13 = .ok (.iconst 1, 1) := by decide +kernel
theorem dL_type_14 : decode cL_type 14 = .ok (.ireturn, 1) := by decide +kernel
theorem dL_type_15 : decode cL_type 15 = .ok (.iconst 0, 1) := by decide +kernel
theorem dL_type_16 : decode cL_type 16 = .ok (.ireturn, 1) := by decide +kernel
set_option maxRecDepth 20000 in
theorem ggL_textProducts_X1_textProducts : GoodIn wsL_textProducts wsX1_textProducts := goodIn_ca (goodIn_r _ [6, 7, 8, 9, 5, 10, 11, 12, 13, 14, 15, 16, 17, 18, 19, 20, 21, 22, 23, 24, 25, 26, 27, 28, 29, 30, 31, 32, 33, 34, 35, 36, 37, 38, 39, 40, 41, 42, 43, 44, 45, 46, 47, 48, 49, 50, 51, 52, 53, 54, 55, 56, 57, 58, 59, 60, 61, 62, 63, 64, 65, 66, 67, 68, 69, 70, 71, 72, 73, 74, 75, 76, 77, 78, 79, 80] (by decide +kernel) (by decide +kernel)) (goodIn_sub (fun _ h => List.mem_cons_of_mem _ (List.mem_append_right _ h)) (by decide +kernel))
set_option maxRecDepth 20000 in
theorem gL_textProducts_X1_textProducts : GoodIn wsL_textProducts (wsV RL 39 RX1 yX1_textProducts wsX1_textProducts) := goodIn_app (goodIn_of _ (by decide +kernel)) ggL_textProducts_X1_textProducts
theorem dL_textProducts_0 : decode cL_textProducts 0 = .ok (.aload_n 1, 1) := by decide +kernel
theorem dL_textProducts_1 : decode cL_textProducts 1 = .ok (.iconst 0, 1) := by decide +kernel
theorem dL_textProducts_2 : decode cL_textProducts 2 = .ok (.aload_n 0, 1) := by decide +kernel
theorem dL_textProducts_3 : decode cL_textProducts 3 = .ok (.invokevirtual 39, 3) := by decide +kernel
theorem dL_textProducts_6 : decode cL_textProducts 6 = .ok (.i2l, 1) := by decide +kernel
theorem dL_textProducts_7 : decode cL_textProducts 7 = .ok (.lastore, 1) := by decide +kernel
theorem dL_textProducts_8 : decode cL_textProducts 8 = .ok (.goto 6, 3) := by decide +kernel
theorem dL_textProducts_11 : decode cL_textProducts 11 = .ok (.astore_n 2, 1) := by decide +kernel
theorem dL_textProducts_12 : decode cL_textProducts 12 = .ok (.iconst 1, 1) := by decide +kernel
theorem dL_textProducts_13 : decode cL_textProducts 13 = .ok (.ireturn, 1) := by decide +kernel
theorem dL_textProducts_14 : decode cL_textProducts 14 = .ok (.iconst 0, 1) := by decide +kernel
theorem dL_textProducts_15 : decode cL_textProducts 15 = .ok (.ireturn, 1) := by decide +kernel
set_option maxRecDepth 20000 in
theorem ggL_undo_X1_undo : GoodIn wsL_undo wsX1_undo := goodIn_ca (goodIn_r _ [6, 7, 8, 9, 10, 11, 12, 13, 14, 15, 16, 17, 18, 19, 20, 21, 22, 23, 24, 25, 26] (by decide +kernel) (by decide +kernel)) (goodIn_sub (fun _ h => List.mem_cons_of_mem _ (List.mem_append_right _ h)) (by decide +kernel))
set_option maxRecDepth 20000 in
theorem gL_undo_X1_undo : GoodIn wsL_undo (wsV RL 43 RX1 yX1_undo wsX1_undo) := goodIn_app (goodIn_of _ (by decide +kernel)) ggL_undo_X1_undo
theorem dL_undo_0 : decode cL_undo 0 = .ok (.aload_n 1, 1) := by decide +kernel
theorem dL_undo_1 : decode cL_undo 1 = .ok (.iconst 0, 1) := by decide +kernel
theorem dL_undo_2 : decode cL_undo 2 = .ok (.aload_n 0, 1) := by decide +kernel
theorem dL_undo_3 : decode cL_undo 3 = .ok (.invokevirtual 43, 3) := by decide +kernel
theorem dL_undo_6 : decode cL_undo 6 = .ok (.i2l, 1) := by decide +kernel
theorem dL_undo_7 : decode cL_undo 7 = .ok (.lastore, 1) := by decide +kernel
theorem dL_undo_8 : decode cL_undo 8 = .ok (.goto 6, 3) := by decide +kernel
theorem dL_undo_11 : decode cL_undo 11 = .ok (.astore_n 2, 1) := by decide +kernel
theorem dL_undo_12 : decode cL_undo 12 = .ok (.iconst 1, 1) := by decide +kernel
theorem dL_undo_13 : decode cL_undo 13 = .ok (.ireturn, 1) := by decide +kernel
theorem dL_undo_14 : decode cL_undo 14 = .ok (.iconst 0, 1) := by decide +kernel
theorem dL_undo_15 : decode cL_undo 15 = .ok (.ireturn, 1) := by decide +kernel
set_option maxRecDepth 20000 in
theorem ggL_restoreSnapshot_X1_restoreSnapshot : GoodIn wsL_restoreSnapshot wsX1_restoreSnapshot := goodIn_ca (goodIn_r _ [6, 7, 8, 9, 10, 11, 12, 13, 14, 15, 16, 17, 18, 5, 19, 20, 21, 22, 23, 24, 25, 26, 27, 28, 29, 30, 31, 32, 33, 34, 35, 36, 37, 38, 39, 40, 41, 42, 43, 44, 45, 46, 47] (by decide +kernel) (by decide +kernel)) (goodIn_sub (fun _ h => List.mem_cons_of_mem _ (List.mem_append_right _ h)) (by decide +kernel))
set_option maxRecDepth 20000 in
theorem gL_restoreSnapshot_X1_restoreSnapshot : GoodIn wsL_restoreSnapshot (wsV RL 46 RX1 yX1_restoreSnapshot wsX1_restoreSnapshot) := goodIn_app (goodIn_of _ (by decide +kernel)) ggL_restoreSnapshot_X1_restoreSnapshot
theorem dL_restoreSnapshot_0 : decode cL_restoreSnapshot 0 = .ok (.aload_n 1, 1) := by decide +kernel
theorem dL_restoreSnapshot_1 : decode cL_restoreSnapshot 1 = .ok (.iconst 0, 1) := by decide +kernel
theorem dL_restoreSnapshot_2 : decode cL_restoreSnapshot 2 = .ok (.aload_n 0, 1) := by decide +kernel
theorem dL_restoreSnapshot_3 : decode cL_restoreSnapshot 3 = .ok (.invokevirtual 46, 3) := by decide +kernel
theorem dL_restoreSnapshot_6 : decode cL_restoreSnapshot 6 = .ok (.i2l, 1) := by decide +kernel
theorem dL_restoreSnapshot_7 : decode cL_restoreSnapshot 7 = .ok (.lastore, 1) := by decide +kernel
theorem dL_restoreSnapshot_8 : decode cL_restoreSnapshot 8 = .ok (.goto 6, 3) := by decide +kernel
theorem dL_restoreSnapshot_11 : decode cL_restoreSnapshot 11 = .ok (.astore_n 2, 1) := by decide +kernel
theorem dL_restoreSnapshot_12 : decode cL_restoreSnapshot 12 = .ok (.iconst 1, 1) := by decide +kernel
theorem dL_restoreSnapshot_13 : decode cL_restoreSnapshot 13 = .ok (.ireturn, 1) := by decide +kernel
theorem dL_restoreSnapshot_14 : decode cL_restoreSnapshot 14 = .ok (.iconst 0, 1) := by decide +kernel
theorem dL_restoreSnapshot_15 : decode cL_restoreSnapshot 15 = .ok (.ireturn, 1) := by decide +kernel
set_option maxRecDepth 20000 in
theorem ggL_tableOf_X1_tableOf : GoodIn wsL_tableOf wsX1_tableOf := goodIn_ca (goodIn_r _ [6, 7, 8, 9, 5, 10, 11, 12, 13, 14, 15, 16, 17, 18, 19, 20, 21, 22, 23] (by decide +kernel) (by decide +kernel)) (goodIn_sub (fun _ h => List.mem_cons_of_mem _ (List.mem_append_right _ h)) (by decide +kernel))
set_option maxRecDepth 20000 in
theorem gL_tableOf_X1_tableOf : GoodIn wsL_tableOf (wsV RL 49 RX1 yX1_tableOf wsX1_tableOf) := goodIn_app (goodIn_of _ (by decide +kernel)) ggL_tableOf_X1_tableOf
theorem dL_tableOf_0 : decode cL_tableOf 0 = .ok (.aload_n 2, 1) := by decide +kernel
theorem dL_tableOf_1 : decode cL_tableOf 1 = .ok (.iconst 0, 1) := by decide +kernel
theorem dL_tableOf_2 : decode cL_tableOf 2 = .ok (.aload_n 0, 1) := by decide +kernel
theorem dL_tableOf_3 : decode cL_tableOf 3 = .ok (.iload_n 1, 1) := by decide +kernel
theorem dL_tableOf_4 : decode cL_tableOf 4 = .ok (.invokevirtual 49, 3) := by decide +kernel
theorem dL_tableOf_7 : decode cL_tableOf 7 = .ok (.i2l, 1) := by decide +kernel
theorem dL_tableOf_8 : decode cL_tableOf 8 = .ok (.lastore, 1) := by decide +kernel
theorem dL_tableOf_9 : decode cL_tableOf 9 = .ok (.goto 6, 3) := by decide +kernel
theorem dL_tableOf_12 : decode cL_tableOf 12 = .ok (.astore_n 3, 1) := by decide +kernel
theorem dL_tableOf_13 : decode cL_tableOf 13 = .ok (.iconst 1, 1) := by decide +kernel
theorem dL_tableOf_14 : decode cL_tableOf 14 = .ok (.ireturn, 1) := by decide +kernel
theorem dL_tableOf_15 : decode cL_tableOf 15 = .ok (.iconst 0, 1) := by decide +kernel
theorem dL_tableOf_16 : decode cL_tableOf 16 = .ok (.ireturn, 1) := by decide +kernel
set_option maxRecDepth 20000 in
theorem ggL_valueAt_X1_valueAt : GoodIn wsL_valueAt wsX1_valueAt := goodIn_ca (goodIn_r _ [6, 7, 8, 9, 10, 11, 5, 12, 13, 14, 15, 16, 17, 18, 19, 20, 21, 22, 23, 24, 25, 26] (by decide +kernel) (by decide +kernel)) (goodIn_sub (fun _ h => List.mem_cons_of_mem _ (List.mem_append_right _ h)) (by decide +kernel))
set_option maxRecDepth 20000 in
theorem gL_valueAt_X1_valueAt : GoodIn wsL_valueAt (wsV RL 52 RX1 yX1_valueAt wsX1_valueAt) := goodIn_app (goodIn_of _ (by decide +kernel)) ggL_valueAt_X1_valueAt
theorem dL_valueAt_0 : decode cL_valueAt 0 = .ok (.aload_n 3, 1) := by decide +kernel
theorem dL_valueAt_1 : decode cL_valueAt 1 = .ok (.iconst 0, 1) := by decide +kernel
theorem dL_valueAt_2 : decode cL_valueAt 2 = .ok (.aload_n 0, 1) := by decide +kernel
theorem dL_valueAt_3 : decode cL_valueAt 3 = .ok (.iload_n 1, 1) := by decide +kernel
theorem dL_valueAt_4 : decode cL_valueAt 4 = .ok (.iload_n 2, 1) := by decide +kernel
theorem dL_valueAt_5 : decode cL_valueAt 5 = .ok (.invokevirtual 52, 3) := by decide +kernel
theorem dL_valueAt_8 : decode cL_valueAt 8 = .ok (.i2l, 1) := by decide +kernel
theorem dL_valueAt_9 : decode cL_valueAt 9 = .ok (.lastore, 1) := by decide +kernel
theorem dL_valueAt_10 : decode cL_valueAt 10 = .ok (.goto 7, 3) := by decide +kernel
theorem dL_valueAt_13 : decode cL_valueAt 13 = .ok (.astore 4, 2) := by decide +kernel
theorem dL_valueAt_15 : decode cL_valueAt 15 = .ok (.iconst 1, 1) := by decide +kernel
theorem dL_valueAt_16 : decode cL_valueAt 16 = .ok (.ireturn, 1) := by decide +kernel
theorem dL_valueAt_17 : decode cL_valueAt 17 = .ok (.iconst 0, 1) := by decide +kernel
theorem dL_valueAt_18 : decode cL_valueAt 18 = .ok (.ireturn, 1) := by decide +kernel
set_option maxRecDepth 20000 in
theorem ggL_weightOf_X1_weightOf : GoodIn wsL_weightOf wsX1_weightOf := goodIn_ca (goodIn_r _ [6, 7, 8, 9, 5, 10, 11, 12, 13, 14, 15, 16, 17, 18, 19, 20, 21, 22, 23, 24, 25, 26, 27, 28, 29, 30] (by decide +kernel) (by decide +kernel)) (goodIn_sub (fun _ h => List.mem_cons_of_mem _ (List.mem_append_right _ h)) (by decide +kernel))
set_option maxRecDepth 20000 in
theorem gL_weightOf_X1_weightOf : GoodIn wsL_weightOf (wsV RL 55 RX1 yX1_weightOf wsX1_weightOf) := goodIn_app (goodIn_of _ (by decide +kernel)) ggL_weightOf_X1_weightOf
theorem dL_weightOf_0 : decode cL_weightOf 0 = .ok (.aload_n 2, 1) := by decide +kernel
theorem dL_weightOf_1 : decode cL_weightOf 1 = .ok (.iconst 0, 1) := by decide +kernel
theorem dL_weightOf_2 : decode cL_weightOf 2 = .ok (.aload_n 0, 1) := by decide +kernel
theorem dL_weightOf_3 : decode cL_weightOf 3 = .ok (.iload_n 1, 1) := by decide +kernel
theorem dL_weightOf_4 : decode cL_weightOf 4 = .ok (.invokevirtual 55, 3) := by decide +kernel
theorem dL_weightOf_7 : decode cL_weightOf 7 = .ok (.i2l, 1) := by decide +kernel
theorem dL_weightOf_8 : decode cL_weightOf 8 = .ok (.lastore, 1) := by decide +kernel
theorem dL_weightOf_9 : decode cL_weightOf 9 = .ok (.goto 6, 3) := by decide +kernel
theorem dL_weightOf_12 : decode cL_weightOf 12 = .ok (.astore_n 3, 1) := by decide +kernel
theorem dL_weightOf_13 : decode cL_weightOf 13 = .ok (.iconst 1, 1) := by decide +kernel
theorem dL_weightOf_14 : decode cL_weightOf 14 = .ok (.ireturn, 1) := by decide +kernel
theorem dL_weightOf_15 : decode cL_weightOf 15 = .ok (.iconst 0, 1) := by decide +kernel
theorem dL_weightOf_16 : decode cL_weightOf 16 = .ok (.ireturn, 1) := by decide +kernel
set_option maxRecDepth 20000 in
theorem ggL_dependsOn_X1_dependsOn : GoodIn wsL_dependsOn wsX1_dependsOn := goodIn_ca (goodIn_r _ [6, 7, 8, 9, 5, 10, 11, 12, 13, 14, 15, 16, 17, 18, 19, 20, 21, 22, 23, 24, 25, 26, 27, 28, 29, 30] (by decide +kernel) (by decide +kernel)) (goodIn_sub (fun _ h => List.mem_cons_of_mem _ (List.mem_append_right _ h)) (by decide +kernel))
set_option maxRecDepth 20000 in
theorem gL_dependsOn_X1_dependsOn : GoodIn wsL_dependsOn (wsV RL 58 RX1 yX1_dependsOn wsX1_dependsOn) := goodIn_app (goodIn_of _ (by decide +kernel)) ggL_dependsOn_X1_dependsOn
theorem dL_dependsOn_0 : decode cL_dependsOn 0 = .ok (.aload_n 3, 1) := by decide +kernel
theorem dL_dependsOn_1 : decode cL_dependsOn 1 = .ok (.iconst 0, 1) := by decide +kernel
theorem dL_dependsOn_2 : decode cL_dependsOn 2 = .ok (.aload_n 0, 1) := by decide +kernel
theorem dL_dependsOn_3 : decode cL_dependsOn 3 = .ok (.iload_n 1, 1) := by decide +kernel
theorem dL_dependsOn_4 : decode cL_dependsOn 4 = .ok (.iload_n 2, 1) := by decide +kernel
theorem dL_dependsOn_5 : decode cL_dependsOn 5 = .ok (.invokevirtual 58, 3) := by decide +kernel
theorem dL_dependsOn_8 : decode cL_dependsOn 8 = .ok (.ifCond .eq 7, 3) := by decide +kernel
theorem dL_dependsOn_11 : decode cL_dependsOn 11 = .ok (.lconst 1, 1) := by decide +kernel
theorem dL_dependsOn_12 : decode cL_dependsOn 12 = .ok (.goto 4, 3) := by decide +kernel
theorem dL_dependsOn_15 : decode cL_dependsOn 15 = .ok (.lconst 0, 1) := by decide +kernel
theorem dL_dependsOn_16 : decode cL_dependsOn 16 = .ok (.lastore, 1) := by decide +kernel
theorem dL_dependsOn_17 : decode cL_dependsOn 17 = .ok (.goto 7, 3) := by decide +kernel
theorem dL_dependsOn_20 : decode cL_dependsOn 20 = .ok (.astore 4, 2) := by decide +kernel
theorem dL_dependsOn_22 : decode cL_dependsOn 22 = .ok (.iconst 1, 1) := by decide +kernel
theorem dL_dependsOn_23 : decode cL_dependsOn 23 = .ok (.ireturn, 1) := by decide +kernel
theorem dL_dependsOn_24 : decode cL_dependsOn 24 = .ok (.iconst 0, 1) := by decide +kernel
theorem dL_dependsOn_25 : decode cL_dependsOn 25 = .ok (.ireturn, 1) := by decide +kernel
set_option maxRecDepth 20000 in
theorem ggL_productsByHalves_X1_productsByHalves : GoodIn wsL_productsByHalves wsX1_productsByHalves := goodIn_ca (goodIn_r _ [6, 7, 8, 9, 5, 10, 11, 12, 13, 14, 15, 16, 17, 18, 19, 20, 21, 22, 23, 24, 25, 26, 27] (by decide +kernel) (by decide +kernel)) (goodIn_sub (fun _ h => List.mem_cons_of_mem _ (List.mem_append_right _ h)) (by decide +kernel))
set_option maxRecDepth 20000 in
theorem gL_productsByHalves_X1_productsByHalves : GoodIn wsL_productsByHalves (wsV RL 62 RX1 yX1_productsByHalves wsX1_productsByHalves) := goodIn_app (goodIn_of _ (by decide +kernel)) ggL_productsByHalves_X1_productsByHalves
theorem dL_productsByHalves_0 : decode cL_productsByHalves 0 = .ok (.aload_n 2, 1) := by decide +kernel
theorem dL_productsByHalves_1 : decode cL_productsByHalves 1 = .ok (.iconst 0, 1) := by decide +kernel
theorem dL_productsByHalves_2 : decode cL_productsByHalves 2 = .ok (.aload_n 0, 1) := by decide +kernel
theorem dL_productsByHalves_3 : decode cL_productsByHalves 3 = .ok (.iload_n 1, 1) := by decide +kernel
theorem dL_productsByHalves_4 : decode cL_productsByHalves 4 = .ok (.invokevirtual 62, 3) := by decide +kernel
theorem dL_productsByHalves_7 : decode cL_productsByHalves 7 = .ok (.i2l, 1) := by decide +kernel
theorem dL_productsByHalves_8 : decode cL_productsByHalves 8 = .ok (.lastore, 1) := by decide +kernel
theorem dL_productsByHalves_9 : decode cL_productsByHalves 9 = .ok (.goto 6, 3) := by decide +kernel
theorem dL_productsByHalves_12 : decode cL_productsByHalves 12 = .ok (.astore_n 3, 1) := by decide +kernel
theorem dL_productsByHalves_13 : decode cL_productsByHalves 13 = .ok (.iconst 1, 1) := by decide +kernel
theorem dL_productsByHalves_14 : decode cL_productsByHalves 14 = .ok (.ireturn, 1) := by decide +kernel
theorem dL_productsByHalves_15 : decode cL_productsByHalves 15 = .ok (.iconst 0, 1) := by decide +kernel
theorem dL_productsByHalves_16 : decode cL_productsByHalves 16 = .ok (.ireturn, 1) := by decide +kernel
set_option maxRecDepth 20000 in
theorem ggL_productsBySums_X1_productsBySums : GoodIn wsL_productsBySums wsX1_productsBySums := goodIn_ca (goodIn_r _ [6, 7, 8, 9, 5, 10, 11, 12, 13, 14, 15, 16, 17, 18, 19, 20, 21, 22, 23, 24, 25, 26, 27, 28, 29] (by decide +kernel) (by decide +kernel)) (goodIn_sub (fun _ h => List.mem_cons_of_mem _ (List.mem_append_right _ h)) (by decide +kernel))
set_option maxRecDepth 20000 in
theorem gL_productsBySums_X1_productsBySums : GoodIn wsL_productsBySums (wsV RL 65 RX1 yX1_productsBySums wsX1_productsBySums) := goodIn_app (goodIn_of _ (by decide +kernel)) ggL_productsBySums_X1_productsBySums
theorem dL_productsBySums_0 : decode cL_productsBySums 0 = .ok (.aload_n 2, 1) := by decide +kernel
theorem dL_productsBySums_1 : decode cL_productsBySums 1 = .ok (.iconst 0, 1) := by decide +kernel
theorem dL_productsBySums_2 : decode cL_productsBySums 2 = .ok (.aload_n 0, 1) := by decide +kernel
theorem dL_productsBySums_3 : decode cL_productsBySums 3 = .ok (.iload_n 1, 1) := by decide +kernel
theorem dL_productsBySums_4 : decode cL_productsBySums 4 = .ok (.invokevirtual 65, 3) := by decide +kernel
theorem dL_productsBySums_7 : decode cL_productsBySums 7 = .ok (.i2l, 1) := by decide +kernel
theorem dL_productsBySums_8 : decode cL_productsBySums 8 = .ok (.lastore, 1) := by decide +kernel
theorem dL_productsBySums_9 : decode cL_productsBySums 9 = .ok (.goto 6, 3) := by decide +kernel
theorem dL_productsBySums_12 : decode cL_productsBySums 12 = .ok (.astore_n 3, 1) := by decide +kernel
theorem dL_productsBySums_13 : decode cL_productsBySums 13 = .ok (.iconst 1, 1) := by decide +kernel
theorem dL_productsBySums_14 : decode cL_productsBySums 14 = .ok (.ireturn, 1) := by decide +kernel
theorem dL_productsBySums_15 : decode cL_productsBySums 15 = .ok (.iconst 0, 1) := by decide +kernel
theorem dL_productsBySums_16 : decode cL_productsBySums 16 = .ok (.ireturn, 1) := by decide +kernel
set_option maxRecDepth 20000 in
theorem ggL_degreeOf_X1_degreeOf : GoodIn wsL_degreeOf wsX1_degreeOf := goodIn_ca (goodIn_r _ [6, 7, 8, 9, 5, 10, 11, 12, 13, 14, 15, 16, 17, 18, 19, 20, 21, 22, 23, 24, 25, 26, 27, 28, 29, 30, 31, 32, 33, 34, 35, 36, 37, 38, 39, 40, 41, 42, 43, 44] (by decide +kernel) (by decide +kernel)) (goodIn_sub (fun _ h => List.mem_cons_of_mem _ (List.mem_append_right _ h)) (by decide +kernel))
set_option maxRecDepth 20000 in
theorem gL_degreeOf_X1_degreeOf : GoodIn wsL_degreeOf (wsV RL 68 RX1 yX1_degreeOf wsX1_degreeOf) := goodIn_app (goodIn_of _ (by decide +kernel)) ggL_degreeOf_X1_degreeOf
theorem dL_degreeOf_0 : decode cL_degreeOf 0 = .ok (.aload_n 2, 1) := by decide +kernel
theorem dL_degreeOf_1 : decode cL_degreeOf 1 = .ok (.iconst 0, 1) := by decide +kernel
theorem dL_degreeOf_2 : decode cL_degreeOf 2 = .ok (.aload_n 0, 1) := by decide +kernel
theorem dL_degreeOf_3 : decode cL_degreeOf 3 = .ok (.iload_n 1, 1) := by decide +kernel
theorem dL_degreeOf_4 : decode cL_degreeOf 4 = .ok (.invokevirtual 68, 3) := by decide +kernel
theorem dL_degreeOf_7 : decode cL_degreeOf 7 = .ok (.i2l, 1) := by decide +kernel
theorem dL_degreeOf_8 : decode cL_degreeOf 8 = .ok (.lastore, 1) := by decide +kernel
theorem dL_degreeOf_9 : decode cL_degreeOf 9 = .ok (.goto 6, 3) := by decide +kernel
theorem dL_degreeOf_12 : decode cL_degreeOf 12 = .ok (.astore_n 3, 1) := by decide +kernel
theorem dL_degreeOf_13 : decode cL_degreeOf 13 = .ok (.iconst 1, 1) := by decide +kernel
theorem dL_degreeOf_14 : decode cL_degreeOf 14 = .ok (.ireturn, 1) := by decide +kernel
theorem dL_degreeOf_15 : decode cL_degreeOf 15 = .ok (.iconst 0, 1) := by decide +kernel
theorem dL_degreeOf_16 : decode cL_degreeOf 16 = .ok (.ireturn, 1) := by decide +kernel
set_option maxRecDepth 20000 in
theorem ggL_printedLength_X1_printedLength : GoodIn wsL_printedLength wsX1_printedLength := goodIn_ca (goodIn_r _ [6, 7, 8, 9, 10, 5, 11, 12, 13, 14, 15, 16, 17, 18, 19, 20, 21, 22, 23, 24, 25, 26, 27, 28, 29, 30, 31, 32, 33, 34, 35, 36, 37, 38, 39, 40, 41, 42, 43, 44] (by decide +kernel) (by decide +kernel)) (goodIn_sub (fun _ h => List.mem_cons_of_mem _ (List.mem_append_right _ h)) (by decide +kernel))
set_option maxRecDepth 20000 in
theorem gL_printedLength_X1_printedLength : GoodIn wsL_printedLength (wsV RL 71 RX1 yX1_printedLength wsX1_printedLength) := goodIn_app (goodIn_of _ (by decide +kernel)) ggL_printedLength_X1_printedLength
theorem dL_printedLength_0 : decode cL_printedLength 0 = .ok (.aload_n 2, 1) := by decide +kernel
theorem dL_printedLength_1 : decode cL_printedLength 1 = .ok (.iconst 0, 1) := by decide +kernel
theorem dL_printedLength_2 : decode cL_printedLength 2 = .ok (.aload_n 0, 1) := by decide +kernel
theorem dL_printedLength_3 : decode cL_printedLength 3 = .ok (.iload_n 1, 1) := by decide +kernel
theorem dL_printedLength_4 : decode cL_printedLength 4 = .ok (.invokevirtual 71, 3) := by decide +kernel
theorem dL_printedLength_7 : decode cL_printedLength 7 = .ok (.i2l, 1) := by decide +kernel
theorem dL_printedLength_8 : decode cL_printedLength 8 = .ok (.lastore, 1) := by decide +kernel
theorem dL_printedLength_9 : decode cL_printedLength 9 = .ok (.goto 6, 3) := by decide +kernel
theorem dL_printedLength_12 : decode cL_printedLength 12 = .ok (.astore_n 3, 1) := by decide +kernel
theorem dL_printedLength_13 : decode cL_printedLength 13 = .ok (.iconst 1, 1) := by decide +kernel
theorem dL_printedLength_14 : decode cL_printedLength 14 = .ok (.ireturn, 1) := by decide +kernel
theorem dL_printedLength_15 : decode cL_printedLength 15 = .ok (.iconst 0, 1) := by decide +kernel
theorem dL_printedLength_16 : decode cL_printedLength 16 = .ok (.ireturn, 1) := by decide +kernel
set_option maxRecDepth 20000 in
theorem ggL_printedLetter_X1_printedLetter : GoodIn wsL_printedLetter wsX1_printedLetter := goodIn_ca (goodIn_r _ [6, 7, 8, 9, 10, 11, 12, 13, 5, 14, 15, 16, 17, 18, 19, 20, 21, 22, 23, 24, 25, 26, 27, 28, 29, 30, 31, 32, 33, 34, 35, 36, 37, 38, 39, 40, 41, 42, 43, 44] (by decide +kernel) (by decide +kernel)) (goodIn_sub (fun _ h => List.mem_cons_of_mem _ (List.mem_append_right _ h)) (by decide +kernel))
set_option maxRecDepth 20000 in
theorem gL_printedLetter_X1_printedLetter : GoodIn wsL_printedLetter (wsV RL 74 RX1 yX1_printedLetter wsX1_printedLetter) := goodIn_app (goodIn_of _ (by decide +kernel)) ggL_printedLetter_X1_printedLetter
theorem dL_printedLetter_0 : decode cL_printedLetter 0 = .ok (.aload_n 3, 1) := by decide +kernel
theorem dL_printedLetter_1 : decode cL_printedLetter 1 = .ok (.iconst 0, 1) := by decide +kernel
theorem dL_printedLetter_2 : decode cL_printedLetter 2 = .ok (.aload_n 0, 1) := by decide +kernel
theorem dL_printedLetter_3 : decode cL_printedLetter 3 = .ok (.iload_n 1, 1) := by decide +kernel
theorem dL_printedLetter_4 : decode cL_printedLetter 4 = .ok (.iload_n 2, 1) := by decide +kernel
theorem dL_printedLetter_5 : decode cL_printedLetter 5 = .ok (.invokevirtual 74, 3) := by decide +kernel
theorem dL_printedLetter_8 : decode cL_printedLetter 8 = .ok (.i2l, 1) := by decide +kernel
theorem dL_printedLetter_9 : decode cL_printedLetter 9 = .ok (.lastore, 1) := by decide +kernel
theorem dL_printedLetter_10 : decode cL_printedLetter 10 = .ok (.goto 7, 3) := by decide +kernel
theorem dL_printedLetter_13 : decode cL_printedLetter 13 = .ok (.astore 4, 2) := by decide +kernel
theorem dL_printedLetter_15 : decode cL_printedLetter 15 = .ok (.iconst 1, 1) := by decide +kernel
theorem dL_printedLetter_16 : decode cL_printedLetter 16 = .ok (.ireturn, 1) := by decide +kernel
theorem dL_printedLetter_17 : decode cL_printedLetter 17 = .ok (.iconst 0, 1) := by decide +kernel
theorem dL_printedLetter_18 : decode cL_printedLetter 18 = .ok (.ireturn, 1) := by decide +kernel
set_option maxRecDepth 20000 in
theorem ggL_distanceByTrying_X1_distanceByTrying : GoodIn wsL_distanceByTrying wsX1_distanceByTrying := goodIn_ca (goodIn_r _ [6, 7, 8, 9, 10, 11, 12, 13, 5, 14, 15, 16, 17, 18, 19, 20, 21, 22, 23, 24, 25, 26, 27, 28, 29, 30, 31, 32, 33, 34, 35, 36, 37, 38, 39, 40, 41, 42] (by decide +kernel) (by decide +kernel)) (goodIn_sub (fun _ h => List.mem_cons_of_mem _ (List.mem_append_right _ h)) (by decide +kernel))
set_option maxRecDepth 20000 in
theorem gL_distanceByTrying_X1_distanceByTrying : GoodIn wsL_distanceByTrying (wsV RL 78 RX1 yX1_distanceByTrying wsX1_distanceByTrying) := goodIn_app (goodIn_of _ (by decide +kernel)) ggL_distanceByTrying_X1_distanceByTrying
theorem dL_distanceByTrying_0 : decode cL_distanceByTrying 0 = .ok (.aload_n 2, 1) := by decide +kernel
theorem dL_distanceByTrying_1 : decode cL_distanceByTrying 1 = .ok (.iconst 0, 1) := by decide +kernel
theorem dL_distanceByTrying_2 : decode cL_distanceByTrying 2 = .ok (.aload_n 0, 1) := by decide +kernel
theorem dL_distanceByTrying_3 : decode cL_distanceByTrying 3 = .ok (.iload_n 1, 1) := by decide +kernel
theorem dL_distanceByTrying_4 : decode cL_distanceByTrying 4 = .ok (.invokevirtual 78, 3) := by decide +kernel
theorem dL_distanceByTrying_7 : decode cL_distanceByTrying 7 = .ok (.i2l, 1) := by decide +kernel
theorem dL_distanceByTrying_8 : decode cL_distanceByTrying 8 = .ok (.lastore, 1) := by decide +kernel
theorem dL_distanceByTrying_9 : decode cL_distanceByTrying 9 = .ok (.goto 6, 3) := by decide +kernel
theorem dL_distanceByTrying_12 : decode cL_distanceByTrying 12 = .ok (.astore_n 3, 1) := by decide +kernel
theorem dL_distanceByTrying_13 : decode cL_distanceByTrying 13 = .ok (.iconst 1, 1) := by decide +kernel
theorem dL_distanceByTrying_14 : decode cL_distanceByTrying 14 = .ok (.ireturn, 1) := by decide +kernel
theorem dL_distanceByTrying_15 : decode cL_distanceByTrying 15 = .ok (.iconst 0, 1) := by decide +kernel
theorem dL_distanceByTrying_16 : decode cL_distanceByTrying 16 = .ok (.ireturn, 1) := by decide +kernel
set_option maxRecDepth 20000 in
theorem ggL_distanceBySums_X1_distanceBySums : GoodIn wsL_distanceBySums wsX1_distanceBySums := goodIn_ca (goodIn_r _ [6, 7, 8, 9, 10, 11, 12, 13, 14, 15, 16, 17, 5, 18, 19, 20, 21, 22, 23, 24, 25, 26, 27, 28, 29, 30, 31, 32, 33, 34, 35, 36, 37, 38] (by decide +kernel) (by decide +kernel)) (goodIn_sub (fun _ h => List.mem_cons_of_mem _ (List.mem_append_right _ h)) (by decide +kernel))
set_option maxRecDepth 20000 in
theorem gL_distanceBySums_X1_distanceBySums : GoodIn wsL_distanceBySums (wsV RL 81 RX1 yX1_distanceBySums wsX1_distanceBySums) := goodIn_app (goodIn_of _ (by decide +kernel)) ggL_distanceBySums_X1_distanceBySums
theorem dL_distanceBySums_0 : decode cL_distanceBySums 0 = .ok (.aload_n 2, 1) := by decide +kernel
theorem dL_distanceBySums_1 : decode cL_distanceBySums 1 = .ok (.iconst 0, 1) := by decide +kernel
theorem dL_distanceBySums_2 : decode cL_distanceBySums 2 = .ok (.aload_n 0, 1) := by decide +kernel
theorem dL_distanceBySums_3 : decode cL_distanceBySums 3 = .ok (.iload_n 1, 1) := by decide +kernel
theorem dL_distanceBySums_4 : decode cL_distanceBySums 4 = .ok (.invokevirtual 81, 3) := by decide +kernel
theorem dL_distanceBySums_7 : decode cL_distanceBySums 7 = .ok (.i2l, 1) := by decide +kernel
theorem dL_distanceBySums_8 : decode cL_distanceBySums 8 = .ok (.lastore, 1) := by decide +kernel
theorem dL_distanceBySums_9 : decode cL_distanceBySums 9 = .ok (.goto 6, 3) := by decide +kernel
theorem dL_distanceBySums_12 : decode cL_distanceBySums 12 = .ok (.astore_n 3, 1) := by decide +kernel
theorem dL_distanceBySums_13 : decode cL_distanceBySums 13 = .ok (.iconst 1, 1) := by decide +kernel
theorem dL_distanceBySums_14 : decode cL_distanceBySums 14 = .ok (.ireturn, 1) := by decide +kernel
theorem dL_distanceBySums_15 : decode cL_distanceBySums 15 = .ok (.iconst 0, 1) := by decide +kernel
theorem dL_distanceBySums_16 : decode cL_distanceBySums 16 = .ok (.ireturn, 1) := by decide +kernel
set_option maxRecDepth 20000 in
theorem ggL_isSelfDual_X1_isSelfDual : GoodIn wsL_isSelfDual wsX1_isSelfDual := goodIn_ca (goodIn_r _ [6, 7, 8, 9, 5, 10, 11, 12, 13, 14, 15, 16, 17, 18, 19, 20, 21, 22, 23, 24, 25, 26, 27, 28, 29] (by decide +kernel) (by decide +kernel)) (goodIn_sub (fun _ h => List.mem_cons_of_mem _ (List.mem_append_right _ h)) (by decide +kernel))
set_option maxRecDepth 20000 in
theorem gL_isSelfDual_X1_isSelfDual : GoodIn wsL_isSelfDual (wsV RL 84 RX1 yX1_isSelfDual wsX1_isSelfDual) := goodIn_app (goodIn_of _ (by decide +kernel)) ggL_isSelfDual_X1_isSelfDual
theorem dL_isSelfDual_0 : decode cL_isSelfDual 0 = .ok (.aload_n 2, 1) := by decide +kernel
theorem dL_isSelfDual_1 : decode cL_isSelfDual 1 = .ok (.iconst 0, 1) := by decide +kernel
theorem dL_isSelfDual_2 : decode cL_isSelfDual 2 = .ok (.aload_n 0, 1) := by decide +kernel
theorem dL_isSelfDual_3 : decode cL_isSelfDual 3 = .ok (.iload_n 1, 1) := by decide +kernel
theorem dL_isSelfDual_4 : decode cL_isSelfDual 4 = .ok (.invokevirtual 84, 3) := by decide +kernel
theorem dL_isSelfDual_7 : decode cL_isSelfDual 7 = .ok (.ifCond .eq 7, 3) := by decide +kernel
theorem dL_isSelfDual_10 : decode cL_isSelfDual 10 = .ok (.lconst 1, 1) := by decide +kernel
theorem dL_isSelfDual_11 : decode cL_isSelfDual 11 = .ok (.goto 4, 3) := by decide +kernel
theorem dL_isSelfDual_14 : decode cL_isSelfDual 14 = .ok (.lconst 0, 1) := by decide +kernel
theorem dL_isSelfDual_15 : decode cL_isSelfDual 15 = .ok (.lastore, 1) := by decide +kernel
theorem dL_isSelfDual_16 : decode cL_isSelfDual 16 = .ok (.goto 6, 3) := by decide +kernel
theorem dL_isSelfDual_19 : decode cL_isSelfDual 19 = .ok (.astore_n 3, 1) := by decide +kernel
theorem dL_isSelfDual_20 : decode cL_isSelfDual 20 = .ok (.iconst 1, 1) := by decide +kernel
theorem dL_isSelfDual_21 : decode cL_isSelfDual 21 = .ok (.ireturn, 1) := by decide +kernel
theorem dL_isSelfDual_22 : decode cL_isSelfDual 22 = .ok (.iconst 0, 1) := by decide +kernel
theorem dL_isSelfDual_23 : decode cL_isSelfDual 23 = .ok (.ireturn, 1) := by decide +kernel
set_option maxRecDepth 20000 in
theorem ggL_isMonotone_X1_isMonotone : GoodIn wsL_isMonotone wsX1_isMonotone := goodIn_ca (goodIn_r _ [6, 7, 8, 9, 5, 10, 11, 12, 13, 14, 15, 16, 17, 18, 19, 20, 21, 22, 23, 24, 25, 26, 27, 28, 29, 30] (by decide +kernel) (by decide +kernel)) (goodIn_sub (fun _ h => List.mem_cons_of_mem _ (List.mem_append_right _ h)) (by decide +kernel))
set_option maxRecDepth 20000 in
theorem gL_isMonotone_X1_isMonotone : GoodIn wsL_isMonotone (wsV RL 88 RX1 yX1_isMonotone wsX1_isMonotone) := goodIn_app (goodIn_of _ (by decide +kernel)) ggL_isMonotone_X1_isMonotone
theorem dL_isMonotone_0 : decode cL_isMonotone 0 = .ok (.aload_n 2, 1) := by decide +kernel
theorem dL_isMonotone_1 : decode cL_isMonotone 1 = .ok (.iconst 0, 1) := by decide +kernel
theorem dL_isMonotone_2 : decode cL_isMonotone 2 = .ok (.aload_n 0, 1) := by decide +kernel
theorem dL_isMonotone_3 : decode cL_isMonotone 3 = .ok (.iload_n 1, 1) := by decide +kernel
theorem dL_isMonotone_4 : decode cL_isMonotone 4 = .ok (.invokevirtual 88, 3) := by decide +kernel
theorem dL_isMonotone_7 : decode cL_isMonotone 7 = .ok (.ifCond .eq 7, 3) := by decide +kernel
theorem dL_isMonotone_10 : decode cL_isMonotone 10 = .ok (.lconst 1, 1) := by decide +kernel
theorem dL_isMonotone_11 : decode cL_isMonotone 11 = .ok (.goto 4, 3) := by decide +kernel
theorem dL_isMonotone_14 : decode cL_isMonotone 14 = .ok (.lconst 0, 1) := by decide +kernel
theorem dL_isMonotone_15 : decode cL_isMonotone 15 = .ok (.lastore, 1) := by decide +kernel
theorem dL_isMonotone_16 : decode cL_isMonotone 16 = .ok (.goto 6, 3) := by decide +kernel
theorem dL_isMonotone_19 : decode cL_isMonotone 19 = .ok (.astore_n 3, 1) := by decide +kernel
theorem dL_isMonotone_20 : decode cL_isMonotone 20 = .ok (.iconst 1, 1) := by decide +kernel
theorem dL_isMonotone_21 : decode cL_isMonotone 21 = .ok (.ireturn, 1) := by decide +kernel
theorem dL_isMonotone_22 : decode cL_isMonotone 22 = .ok (.iconst 0, 1) := by decide +kernel
theorem dL_isMonotone_23 : decode cL_isMonotone 23 = .ok (.ireturn, 1) := by decide +kernel
set_option maxRecDepth 20000 in
theorem ggL_areEnough_X1_areEnough : GoodIn wsL_areEnough wsX1_areEnough := goodIn_ca (goodIn_r _ [6, 7, 8, 9, 10, 11, 5, 12, 13, 14, 15, 16, 17, 18, 19, 20, 21, 22, 23, 24, 25, 26, 27, 28, 29, 30, 31, 32, 33, 34, 35, 36, 37, 38, 39, 40, 41, 42, 43, 44, 45, 46, 47, 48, 49, 50, 51, 52, 53, 54, 55, 56, 57] (by decide +kernel) (by decide +kernel)) (goodIn_sub (fun _ h => List.mem_cons_of_mem _ (List.mem_append_right _ h)) (by decide +kernel))
set_option maxRecDepth 20000 in
theorem gL_areEnough_X1_areEnough : GoodIn wsL_areEnough (wsV RL 91 RX1 yX1_areEnough wsX1_areEnough) := goodIn_app (goodIn_of _ (by decide +kernel)) ggL_areEnough_X1_areEnough
theorem dL_areEnough_0 : decode cL_areEnough 0 = .ok (.aload_n 2, 1) := by decide +kernel
theorem dL_areEnough_1 : decode cL_areEnough 1 = .ok (.iconst 0, 1) := by decide +kernel
theorem dL_areEnough_2 : decode cL_areEnough 2 = .ok (.aload_n 0, 1) := by decide +kernel
theorem dL_areEnough_3 : decode cL_areEnough 3 = .ok (.iload_n 1, 1) := by decide +kernel
theorem dL_areEnough_4 : decode cL_areEnough 4 = .ok (.invokevirtual 91, 3) := by decide +kernel
theorem dL_areEnough_7 : decode cL_areEnough 7 = .ok (.ifCond .eq 7, 3) := by decide +kernel
theorem dL_areEnough_10 : decode cL_areEnough 10 = .ok (.lconst 1, 1) := by decide +kernel
theorem dL_areEnough_11 : decode cL_areEnough 11 = .ok (.goto 4, 3) := by decide +kernel
theorem dL_areEnough_14 : decode cL_areEnough 14 = .ok (.lconst 0, 1) := by decide +kernel
theorem dL_areEnough_15 : decode cL_areEnough 15 = .ok (.lastore, 1) := by decide +kernel
theorem dL_areEnough_16 : decode cL_areEnough 16 = .ok (.goto 6, 3) := by decide +kernel
theorem dL_areEnough_19 : decode cL_areEnough 19 = .ok (.astore_n 3, 1) := by decide +kernel
theorem dL_areEnough_20 : decode cL_areEnough 20 = .ok (.iconst 1, 1) := by decide +kernel
theorem dL_areEnough_21 : decode cL_areEnough 21 = .ok (.ireturn, 1) := by decide +kernel
theorem dL_areEnough_22 : decode cL_areEnough 22 = .ok (.iconst 0, 1) := by decide +kernel
theorem dL_areEnough_23 : decode cL_areEnough 23 = .ok (.ireturn, 1) := by decide +kernel
set_option maxRecDepth 20000 in
theorem ggL_law_X1_init : GoodIn wsL_law wsX1_init := goodIn_r _ [9, 10, 11, 12, 13, 14, 15, 16, 17, 18, 19, 20, 21, 22, 23, 24, 25, 26, 27, 28, 29, 30, 31, 32, 33, 34, 35, 36, 37, 578, 579, 580, 581, 582, 583, 584, 585, 586, 587, 588, 599, 600, 601, 602] (by decide +kernel) (by decide +kernel)
set_option maxRecDepth 20000 in
theorem gL_law_X1_init : GoodIn wsL_law (wsX1_init) := ggL_law_X1_init
set_option maxRecDepth 20000 in
theorem ggL_law_X2_init : GoodIn wsL_law wsX2_init := goodIn_r _ [40, 41, 11, 12, 13, 42, 43, 44, 45, 46, 47, 48, 5, 49, 589, 590, 591, 592, 593, 594, 595, 596, 597, 598] (by decide +kernel) (by decide +kernel)
set_option maxRecDepth 20000 in
theorem gL_law_X2_init : GoodIn wsL_law (wsX2_init) := ggL_law_X2_init
set_option maxRecDepth 20000 in
theorem ggL_law_L_define : GoodIn wsL_law wsL_define := goodIn_ca (goodIn_ca (goodIn_r _ [53, 54, 55, 56, 57, 58, 2, 59, 14, 60, 61, 62, 63, 64, 65, 66, 67, 68, 69, 70, 25, 20, 21, 71, 24, 72, 73, 34, 35, 74, 75, 76, 77, 36, 37, 78, 79, 80, 81, 82, 83, 84, 85, 86, 87, 88, 89, 90, 91, 92, 93, 94, 95, 96, 97, 98, 99, 100, 101, 102, 103, 104, 105, 106, 107, 108, 109, 110, 111, 112, 113, 114, 115, 116, 117, 118, 119, 16, 15, 120, 121, 122, 123, 124, 125, 126, 29, 127, 128, 129, 130, 131, 132, 133, 578, 579, 580, 581, 582, 583, 584, 585, 586, 587, 588, 599, 600, 601, 602] (by decide +kernel) (by decide +kernel)) (goodIn_sub (fun _ h => List.mem_append_left _ (List.mem_append_left _ (List.mem_append_right _ h))) (by decide +kernel))) (goodIn_sub (fun _ h => List.mem_append_left _ (List.mem_append_right _ h)) (by decide +kernel))
set_option maxRecDepth 20000 in
theorem gL_law_L_define : GoodIn wsL_law (va_wsS RL 98 yL_define wsL_define) := goodIn_app (goodIn_of _ (by decide +kernel)) ggL_law_L_define
set_option maxRecDepth 20000 in
theorem ggL_law_X2_define : GoodIn wsL_law wsX2_define := goodIn_r _ [137, 138, 139, 140, 141, 5, 142, 143, 144, 145, 146, 147, 148, 149, 150, 151, 152, 153, 154, 155, 45, 46, 156, 157, 158, 159, 160, 161, 162, 163, 164, 165, 166, 167, 168, 169, 170, 171, 172, 173, 174, 175, 176, 177, 178, 179, 180, 42, 181, 182, 183, 184, 185, 43, 186, 187, 188, 589, 590, 591, 592, 593, 594, 595, 596, 597, 598] (by decide +kernel) (by decide +kernel)
set_option maxRecDepth 20000 in
theorem gL_law_X2_define : GoodIn wsL_law (wsV RL 103 RX2 yX2_define wsX2_define) := goodIn_app (goodIn_of _ (by decide +kernel)) ggL_law_X2_define
set_option maxRecDepth 20000 in
theorem ggL_law_X2_thrown : GoodIn wsL_law wsX2_thrown := goodIn_r _ [192, 138, 589, 590, 591, 592, 593, 594, 595, 596, 597, 598] (by decide +kernel) (by decide +kernel)
set_option maxRecDepth 20000 in
theorem gL_law_X2_thrown : GoodIn wsL_law (wsV RL 104 RX2 yX2_thrown wsX2_thrown) := goodIn_app (goodIn_of _ (by decide +kernel)) ggL_law_X2_thrown
set_option maxRecDepth 20000 in
theorem ggL_law_L_setTable : GoodIn wsL_law wsL_setTable := goodIn_ca (goodIn_ca (goodIn_r _ [195, 54, 196, 197, 198, 199, 2, 200, 201, 202, 30, 14, 60, 61, 62, 63, 64, 116, 117, 118, 119, 16, 15, 120, 121, 122, 123, 578, 579, 580, 581, 582, 583, 584, 585, 586, 587, 588] (by decide +kernel) (by decide +kernel)) (goodIn_sub (fun _ h => List.mem_append_right _ h) (by decide +kernel))) (goodIn_sub (fun _ h => List.mem_append_left _ (List.mem_append_left _ (List.mem_append_right _ h))) (by decide +kernel))
set_option maxRecDepth 20000 in
theorem gL_law_L_setTable : GoodIn wsL_law (va_wsS RL 107 yL_setTable wsL_setTable) := goodIn_app (goodIn_of _ (by decide +kernel)) ggL_law_L_setTable
set_option maxRecDepth 20000 in
theorem ggL_law_X2_setTable : GoodIn wsL_law wsX2_setTable := goodIn_r _ [206, 138, 46, 42, 140, 141, 5, 142, 143, 144, 145, 146, 147, 148, 149, 177, 178, 179, 180, 181, 182, 183, 184, 185, 43, 186, 187, 188, 589, 590, 591, 592, 593, 594, 595, 596, 597, 598] (by decide +kernel) (by decide +kernel)
set_option maxRecDepth 20000 in
theorem gL_law_X2_setTable : GoodIn wsL_law (wsV RL 110 RX2 yX2_setTable wsX2_setTable) := goodIn_app (goodIn_of _ (by decide +kernel)) ggL_law_X2_setTable
set_option maxRecDepth 20000 in
theorem ggL_law_L_join : GoodIn wsL_law wsL_join := goodIn_ca (goodIn_ca (goodIn_r _ [209, 54, 196, 210, 211, 212, 2, 213, 201, 202, 14, 60, 61, 62, 63, 64, 214, 215, 216, 30, 116, 117, 118, 119, 16, 15, 120, 121, 122, 123, 578, 579, 580, 581, 582, 583, 584, 585, 586, 587, 588] (by decide +kernel) (by decide +kernel)) (goodIn_sub (fun _ h => List.mem_append_right _ h) (by decide +kernel))) (goodIn_sub (fun _ h => List.mem_append_left _ (List.mem_append_left _ (List.mem_append_right _ h))) (by decide +kernel))
set_option maxRecDepth 20000 in
theorem gL_law_L_join : GoodIn wsL_law (va_wsS RL 111 yL_join wsL_join) := goodIn_app (goodIn_of _ (by decide +kernel)) ggL_law_L_join
set_option maxRecDepth 20000 in
theorem ggL_law_X2_join : GoodIn wsL_law wsX2_join := goodIn_r _ [220, 138, 42, 46, 140, 141, 5, 142, 143, 144, 145, 146, 147, 148, 149, 177, 178, 179, 180, 181, 182, 183, 184, 185, 43, 186, 187, 188, 589, 590, 591, 592, 593, 594, 595, 596, 597, 598] (by decide +kernel) (by decide +kernel)
set_option maxRecDepth 20000 in
theorem gL_law_X2_join : GoodIn wsL_law (wsV RL 114 RX2 yX2_join wsX2_join) := goodIn_app (goodIn_of _ (by decide +kernel)) ggL_law_X2_join
set_option maxRecDepth 20000 in
theorem ggL_law_L_fix : GoodIn wsL_law wsL_fix := goodIn_ca (goodIn_r _ [223, 54, 224, 225, 226, 2, 227, 14, 60, 61, 62, 63, 64, 228, 229, 230, 116, 117, 118, 119, 16, 15, 120, 121, 122, 123, 231, 232, 233, 29, 578, 579, 580, 581, 582, 583, 584, 585, 586, 587, 588] (by decide +kernel) (by decide +kernel)) (goodIn_sub (fun _ h => List.mem_append_left _ (List.mem_append_left _ (List.mem_append_right _ h))) (by decide +kernel))
set_option maxRecDepth 20000 in
theorem gL_law_L_fix : GoodIn wsL_law (va_wsS RL 115 yL_fix wsL_fix) := goodIn_app (goodIn_of _ (by decide +kernel)) ggL_law_L_fix
set_option maxRecDepth 20000 in
theorem ggL_law_X2_fix : GoodIn wsL_law wsX2_fix := goodIn_r _ [237, 138, 140, 141, 5, 142, 143, 144, 145, 146, 147, 148, 149, 238, 239, 240, 241, 42, 177, 178, 179, 180, 181, 182, 183, 184, 185, 43, 186, 187, 188, 589, 590, 591, 592, 593, 594, 595, 596, 597, 598] (by decide +kernel) (by decide +kernel)
set_option maxRecDepth 20000 in
theorem gL_law_X2_fix : GoodIn wsL_law (wsV RL 118 RX2 yX2_fix wsX2_fix) := goodIn_app (goodIn_of _ (by decide +kernel)) ggL_law_X2_fix
set_option maxRecDepth 20000 in
theorem ggL_law_L_substitute : GoodIn wsL_law wsL_substitute := goodIn_ca (goodIn_r _ [244, 54, 245, 246, 247, 2, 248, 14, 60, 61, 62, 63, 64, 228, 229, 230, 231, 232, 233, 29, 116, 117, 118, 119, 16, 15, 120, 121, 122, 123, 578, 579, 580, 581, 582, 583, 584, 585, 586, 587, 588] (by decide +kernel) (by decide +kernel)) (goodIn_sub (fun _ h => List.mem_append_left _ (List.mem_append_left _ (List.mem_append_right _ h))) (by decide +kernel))
set_option maxRecDepth 20000 in
theorem gL_law_L_substitute : GoodIn wsL_law (va_wsS RL 119 yL_substitute wsL_substitute) := goodIn_app (goodIn_of _ (by decide +kernel)) ggL_law_L_substitute
set_option maxRecDepth 20000 in
theorem ggL_law_X2_substitute : GoodIn wsL_law wsX2_substitute := goodIn_r _ [252, 138, 42, 140, 141, 5, 142, 143, 144, 145, 146, 147, 148, 149, 238, 239, 240, 241, 177, 178, 179, 180, 181, 182, 183, 184, 185, 43, 186, 187, 188, 589, 590, 591, 592, 593, 594, 595, 596, 597, 598] (by decide +kernel) (by decide +kernel)
set_option maxRecDepth 20000 in
theorem gL_law_X2_substitute : GoodIn wsL_law (wsV RL 122 RX2 yX2_substitute wsX2_substitute) := goodIn_app (goodIn_of _ (by decide +kernel)) ggL_law_X2_substitute
set_option maxRecDepth 20000 in
theorem ggL_law_L_type : GoodIn wsL_law wsL_type := goodIn_ca (goodIn_r _ [255, 55, 256, 257, 258, 2, 259, 69, 70, 21, 20, 578, 579, 580, 581, 582, 583, 584, 585, 586, 587, 588] (by decide +kernel) (by decide +kernel)) (goodIn_sub (fun _ h => List.mem_append_left _ (List.mem_append_right _ h)) (by decide +kernel))
set_option maxRecDepth 20000 in
theorem gL_law_L_type : GoodIn wsL_law (va_wsS RL 123 yL_type wsL_type) := goodIn_app (goodIn_of _ (by decide +kernel)) ggL_law_L_type
set_option maxRecDepth 20000 in
theorem ggL_law_X2_type : GoodIn wsL_law wsX2_type := goodIn_r _ [263, 138, 155, 45, 146, 147, 148, 5, 149, 589, 590, 591, 592, 593, 594, 595, 596, 597, 598] (by decide +kernel) (by decide +kernel)
set_option maxRecDepth 20000 in
theorem gL_law_X2_type : GoodIn wsL_law (wsV RL 126 RX2 yX2_type wsX2_type) := goodIn_app (goodIn_of _ (by decide +kernel)) ggL_law_X2_type
set_option maxRecDepth 20000 in
theorem ggL_law_X1_clearText : GoodIn wsL_law wsX1_clearText := goodIn_r _ [267, 21, 578, 579, 580, 581, 582, 583, 584, 585, 586, 587, 588] (by decide +kernel) (by decide +kernel)
set_option maxRecDepth 20000 in
theorem gL_law_X1_clearText : GoodIn wsL_law (wsV RL 127 RX1 yX1_clearText wsX1_clearText) := goodIn_app (goodIn_of _ (by decide +kernel)) ggL_law_X1_clearText
set_option maxRecDepth 20000 in
theorem ggL_law_X2_clearText : GoodIn wsL_law wsX2_clearText := goodIn_r _ [271, 138, 155, 589, 590, 591, 592, 593, 594, 595, 596, 597, 598] (by decide +kernel) (by decide +kernel)
set_option maxRecDepth 20000 in
theorem gL_law_X2_clearText : GoodIn wsL_law (wsV RL 130 RX2 yX2_clearText wsX2_clearText) := goodIn_app (goodIn_of _ (by decide +kernel)) ggL_law_X2_clearText
set_option maxRecDepth 20000 in
theorem ggL_law_X1_textError : GoodIn wsL_law wsX1_textError := goodIn_r _ [275, 25, 20, 21, 71, 24, 72, 73, 34, 35, 74, 75, 76, 77, 36, 37, 78, 79, 80, 81, 82, 83, 84, 85, 86, 87, 88, 89, 90, 91, 92, 93, 94, 2, 95, 96, 97, 98, 99, 100, 101, 102, 103, 104, 105, 106, 107, 108, 109, 110, 111, 112, 578, 579, 580, 581, 582, 583, 584, 585, 586, 587, 588, 599, 600, 601, 602] (by decide +kernel) (by decide +kernel)
set_option maxRecDepth 20000 in
theorem gL_law_X1_textError : GoodIn wsL_law (wsV RL 131 RX1 yX1_textError wsX1_textError) := goodIn_app (goodIn_of _ (by decide +kernel)) ggL_law_X1_textError
set_option maxRecDepth 20000 in
theorem ggL_law_X2_textError : GoodIn wsL_law wsX2_textError := goodIn_r _ [279, 138, 154, 150, 151, 152, 5, 153, 139, 155, 45, 46, 156, 157, 158, 159, 160, 161, 162, 163, 164, 165, 166, 143, 144, 145, 167, 168, 169, 170, 171, 172, 173, 589, 590, 591, 592, 593, 594, 595, 596, 597, 598] (by decide +kernel) (by decide +kernel)
set_option maxRecDepth 20000 in
theorem gL_law_X2_textError : GoodIn wsL_law (wsV RL 134 RX2 yX2_textError wsX2_textError) := goodIn_app (goodIn_of _ (by decide +kernel)) ggL_law_X2_textError
set_option maxRecDepth 20000 in
theorem ggL_law_L_textProducts : GoodIn wsL_law wsL_textProducts := goodIn_ca (goodIn_r _ [282, 55, 283, 284, 285, 2, 286, 65, 66, 67, 68, 69, 70, 25, 20, 21, 71, 24, 72, 73, 34, 35, 74, 75, 76, 77, 36, 37, 78, 79, 80, 81, 82, 83, 84, 85, 86, 87, 88, 89, 90, 91, 92, 93, 94, 95, 96, 97, 98, 99, 100, 101, 102, 103, 104, 105, 106, 107, 108, 109, 110, 111, 112, 113, 114, 115, 578, 579, 580, 581, 582, 583, 584, 585, 586, 587, 588, 599, 600, 601, 602] (by decide +kernel) (by decide +kernel)) (goodIn_sub (fun _ h => List.mem_append_left _ (List.mem_append_right _ h)) (by decide +kernel))
set_option maxRecDepth 20000 in
theorem gL_law_L_textProducts : GoodIn wsL_law (va_wsS RL 135 yL_textProducts wsL_textProducts) := goodIn_app (goodIn_of _ (by decide +kernel)) ggL_law_L_textProducts
set_option maxRecDepth 20000 in
theorem ggL_law_X2_textProducts : GoodIn wsL_law wsX2_textProducts := goodIn_r _ [290, 138, 139, 150, 151, 152, 5, 153, 154, 155, 45, 46, 156, 157, 158, 159, 160, 161, 162, 163, 164, 165, 166, 143, 144, 145, 167, 168, 169, 170, 171, 172, 173, 146, 147, 148, 149, 589, 590, 591, 592, 593, 594, 595, 596, 597, 598] (by decide +kernel) (by decide +kernel)
set_option maxRecDepth 20000 in
theorem gL_law_X2_textProducts : GoodIn wsL_law (wsV RL 138 RX2 yX2_textProducts wsX2_textProducts) := goodIn_app (goodIn_of _ (by decide +kernel)) ggL_law_X2_textProducts
set_option maxRecDepth 20000 in
theorem ggL_law_L_undo : GoodIn wsL_law wsL_undo := goodIn_ca (goodIn_r _ [293, 55, 294, 295, 296, 2, 297, 69, 70, 16, 15, 14, 120, 121, 122, 123, 578, 579, 580, 581, 582, 583, 584, 585, 586, 587, 588] (by decide +kernel) (by decide +kernel)) (goodIn_sub (fun _ h => List.mem_append_left _ (List.mem_append_right _ h)) (by decide +kernel))
set_option maxRecDepth 20000 in
theorem gL_law_L_undo : GoodIn wsL_law (va_wsS RL 139 yL_undo wsL_undo) := goodIn_app (goodIn_of _ (by decide +kernel)) ggL_law_L_undo
set_option maxRecDepth 20000 in
theorem ggL_law_X2_undo : GoodIn wsL_law wsX2_undo := goodIn_r _ [301, 138, 185, 43, 42, 146, 147, 148, 5, 149, 186, 187, 188, 589, 590, 591, 592, 593, 594, 595, 596, 597, 598] (by decide +kernel) (by decide +kernel)
set_option maxRecDepth 20000 in
theorem gL_law_X2_undo : GoodIn wsL_law (wsV RL 141 RX2 yX2_undo wsX2_undo) := goodIn_app (goodIn_of _ (by decide +kernel)) ggL_law_X2_undo
set_option maxRecDepth 20000 in
theorem ggL_law_X1_takeSnapshot : GoodIn wsL_law wsX1_takeSnapshot := goodIn_r _ [305, 14, 17, 120, 121, 122, 123, 18, 306, 307, 308, 2, 309, 124, 125, 126, 29, 127, 128, 129, 130, 131, 132, 133, 578, 579, 580, 581, 582, 583, 584, 585, 586, 587, 588] (by decide +kernel) (by decide +kernel)
set_option maxRecDepth 20000 in
theorem gL_law_X1_takeSnapshot : GoodIn wsL_law (wsV RL 142 RX1 yX1_takeSnapshot wsX1_takeSnapshot) := goodIn_app (goodIn_of _ (by decide +kernel)) ggL_law_X1_takeSnapshot
set_option maxRecDepth 20000 in
theorem ggL_law_X2_takeSnapshot : GoodIn wsL_law wsX2_takeSnapshot := goodIn_r _ [313, 138, 42, 44, 314, 186, 187, 5, 188, 315, 316, 317, 318, 174, 175, 176, 171, 172, 173, 589, 590, 591, 592, 593, 594, 595, 596, 597, 598] (by decide +kernel) (by decide +kernel)
set_option maxRecDepth 20000 in
theorem gL_law_X2_takeSnapshot : GoodIn wsL_law (wsV RL 145 RX2 yX2_takeSnapshot wsX2_takeSnapshot) := goodIn_app (goodIn_of _ (by decide +kernel)) ggL_law_X2_takeSnapshot
set_option maxRecDepth 20000 in
theorem ggL_law_L_restoreSnapshot : GoodIn wsL_law wsL_restoreSnapshot := goodIn_ca (goodIn_r _ [321, 55, 322, 323, 324, 2, 325, 69, 70, 18, 17, 14, 120, 121, 122, 123, 116, 117, 118, 119, 16, 15, 306, 307, 308, 309, 124, 125, 126, 29, 127, 128, 129, 130, 131, 132, 133, 578, 579, 580, 581, 582, 583, 584, 585, 586, 587, 588] (by decide +kernel) (by decide +kernel)) (goodIn_sub (fun _ h => List.mem_append_left _ (List.mem_append_right _ h)) (by decide +kernel))
set_option maxRecDepth 20000 in
theorem gL_law_L_restoreSnapshot : GoodIn wsL_law (va_wsS RL 146 yL_restoreSnapshot wsL_restoreSnapshot) := goodIn_app (goodIn_of _ (by decide +kernel)) ggL_law_L_restoreSnapshot
set_option maxRecDepth 20000 in
theorem ggL_law_X2_restoreSnapshot : GoodIn wsL_law wsX2_restoreSnapshot := goodIn_r _ [329, 138, 314, 44, 42, 146, 147, 148, 5, 149, 181, 182, 183, 184, 185, 43, 186, 187, 188, 315, 316, 317, 318, 174, 175, 176, 171, 172, 173, 589, 590, 591, 592, 593, 594, 595, 596, 597, 598] (by decide +kernel) (by decide +kernel)
set_option maxRecDepth 20000 in
theorem gL_law_X2_restoreSnapshot : GoodIn wsL_law (wsV RL 148 RX2 yX2_restoreSnapshot wsX2_restoreSnapshot) := goodIn_app (goodIn_of _ (by decide +kernel)) ggL_law_X2_restoreSnapshot
set_option maxRecDepth 20000 in
theorem ggL_law_L_tableOf : GoodIn wsL_law wsL_tableOf := goodIn_ca (goodIn_r _ [332, 54, 333, 334, 335, 2, 336, 14, 60, 61, 62, 63, 64, 578, 579, 580, 581, 582, 583, 584, 585, 586, 587, 588] (by decide +kernel) (by decide +kernel)) (goodIn_sub (fun _ h => List.mem_append_left _ (List.mem_append_left _ (List.mem_append_right _ h))) (by decide +kernel))
set_option maxRecDepth 20000 in
theorem gL_law_L_tableOf : GoodIn wsL_law (va_wsS RL 149 yL_tableOf wsL_tableOf) := goodIn_app (goodIn_of _ (by decide +kernel)) ggL_law_L_tableOf
set_option maxRecDepth 20000 in
theorem ggL_law_X2_tableOf : GoodIn wsL_law wsX2_tableOf := goodIn_r _ [340, 42, 341, 342, 343, 5, 344, 138, 140, 141, 142, 143, 144, 145, 589, 590, 591, 592, 593, 594, 595, 596, 597, 598] (by decide +kernel) (by decide +kernel)
set_option maxRecDepth 20000 in
theorem gL_law_X2_tableOf : GoodIn wsL_law (wsV RL 151 RX2 yX2_tableOf wsX2_tableOf) := goodIn_app (goodIn_of _ (by decide +kernel)) ggL_law_X2_tableOf
set_option maxRecDepth 20000 in
theorem ggL_law_L_valueAt : GoodIn wsL_law wsL_valueAt := goodIn_ca (goodIn_r _ [347, 54, 348, 349, 350, 2, 351, 63, 64, 14, 60, 61, 62, 352, 94, 95, 578, 579, 580, 581, 582, 583, 584, 585, 586, 587, 588] (by decide +kernel) (by decide +kernel)) (goodIn_sub (fun _ h => List.mem_append_left _ (List.mem_append_left _ (List.mem_append_right _ h))) (by decide +kernel))
set_option maxRecDepth 20000 in
theorem gL_law_L_valueAt : GoodIn wsL_law (va_wsS RL 152 yL_valueAt wsL_valueAt) := goodIn_app (goodIn_of _ (by decide +kernel)) ggL_law_L_valueAt
set_option maxRecDepth 20000 in
theorem ggL_law_X2_valueAt : GoodIn wsL_law wsX2_valueAt := goodIn_r _ [356, 138, 42, 140, 141, 5, 142, 143, 144, 145, 589, 590, 591, 592, 593, 594, 595, 596, 597, 598] (by decide +kernel) (by decide +kernel)
set_option maxRecDepth 20000 in
theorem gL_law_X2_valueAt : GoodIn wsL_law (wsV RL 154 RX2 yX2_valueAt wsX2_valueAt) := goodIn_app (goodIn_of _ (by decide +kernel)) ggL_law_X2_valueAt
set_option maxRecDepth 20000 in
theorem ggL_law_L_weightOf : GoodIn wsL_law wsL_weightOf := goodIn_ca (goodIn_r _ [359, 54, 360, 361, 362, 2, 363, 14, 60, 61, 62, 63, 64, 127, 128, 129, 130, 131, 132, 133, 578, 579, 580, 581, 582, 583, 584, 585, 586, 587, 588] (by decide +kernel) (by decide +kernel)) (goodIn_sub (fun _ h => List.mem_append_left _ (List.mem_append_left _ (List.mem_append_right _ h))) (by decide +kernel))
set_option maxRecDepth 20000 in
theorem gL_law_L_weightOf : GoodIn wsL_law (va_wsS RL 155 yL_weightOf wsL_weightOf) := goodIn_app (goodIn_of _ (by decide +kernel)) ggL_law_L_weightOf
set_option maxRecDepth 20000 in
theorem ggL_law_X2_weightOf : GoodIn wsL_law wsX2_weightOf := goodIn_r _ [367, 42, 341, 342, 343, 5, 344, 138, 140, 141, 142, 143, 144, 145, 171, 172, 173, 589, 590, 591, 592, 593, 594, 595, 596, 597, 598] (by decide +kernel) (by decide +kernel)
set_option maxRecDepth 20000 in
theorem gL_law_X2_weightOf : GoodIn wsL_law (wsV RL 157 RX2 yX2_weightOf wsX2_weightOf) := goodIn_app (goodIn_of _ (by decide +kernel)) ggL_law_X2_weightOf
set_option maxRecDepth 20000 in
theorem ggL_law_L_dependsOn : GoodIn wsL_law wsL_dependsOn := goodIn_ca (goodIn_r _ [370, 54, 371, 372, 373, 2, 374, 14, 60, 61, 62, 63, 64, 228, 229, 230, 231, 232, 233, 29, 578, 579, 580, 581, 582, 583, 584, 585, 586, 587, 588] (by decide +kernel) (by decide +kernel)) (goodIn_sub (fun _ h => List.mem_append_left _ (List.mem_append_left _ (List.mem_append_right _ h))) (by decide +kernel))
set_option maxRecDepth 20000 in
theorem gL_law_L_dependsOn : GoodIn wsL_law (va_wsS RL 158 yL_dependsOn wsL_dependsOn) := goodIn_app (goodIn_of _ (by decide +kernel)) ggL_law_L_dependsOn
set_option maxRecDepth 20000 in
theorem ggL_law_X2_dependsOn : GoodIn wsL_law wsX2_dependsOn := goodIn_r _ [378, 138, 140, 141, 5, 142, 143, 144, 145, 238, 239, 240, 241, 42, 589, 590, 591, 592, 593, 594, 595, 596, 597, 598] (by decide +kernel) (by decide +kernel)
set_option maxRecDepth 20000 in
theorem gL_law_X2_dependsOn : GoodIn wsL_law (wsV RL 160 RX2 yX2_dependsOn wsX2_dependsOn) := goodIn_app (goodIn_of _ (by decide +kernel)) ggL_law_X2_dependsOn
set_option maxRecDepth 20000 in
theorem ggL_law_L_productsByHalves : GoodIn wsL_law wsL_productsByHalves := goodIn_ca (goodIn_r _ [381, 54, 382, 383, 384, 2, 385, 14, 60, 61, 62, 63, 64, 124, 125, 126, 29, 578, 579, 580, 581, 582, 583, 584, 585, 586, 587, 588] (by decide +kernel) (by decide +kernel)) (goodIn_sub (fun _ h => List.mem_append_left _ (List.mem_append_left _ (List.mem_append_right _ h))) (by decide +kernel))
set_option maxRecDepth 20000 in
theorem gL_law_L_productsByHalves : GoodIn wsL_law (va_wsS RL 161 yL_productsByHalves wsL_productsByHalves) := goodIn_app (goodIn_of _ (by decide +kernel)) ggL_law_L_productsByHalves
set_option maxRecDepth 20000 in
theorem ggL_law_X2_productsByHalves : GoodIn wsL_law wsX2_productsByHalves := goodIn_r _ [389, 42, 341, 342, 343, 5, 344, 138, 140, 141, 142, 143, 144, 145, 174, 175, 176, 589, 590, 591, 592, 593, 594, 595, 596, 597, 598] (by decide +kernel) (by decide +kernel)
set_option maxRecDepth 20000 in
theorem gL_law_X2_productsByHalves : GoodIn wsL_law (wsV RL 163 RX2 yX2_productsByHalves wsX2_productsByHalves) := goodIn_app (goodIn_of _ (by decide +kernel)) ggL_law_X2_productsByHalves
set_option maxRecDepth 20000 in
theorem ggL_law_L_productsBySums : GoodIn wsL_law wsL_productsBySums := goodIn_ca (goodIn_r _ [392, 54, 393, 394, 395, 2, 396, 14, 60, 61, 62, 63, 64, 397, 398, 399, 352, 94, 95, 578, 579, 580, 581, 582, 583, 584, 585, 586, 587, 588] (by decide +kernel) (by decide +kernel)) (goodIn_sub (fun _ h => List.mem_append_left _ (List.mem_append_left _ (List.mem_append_right _ h))) (by decide +kernel))
set_option maxRecDepth 20000 in
theorem gL_law_L_productsBySums : GoodIn wsL_law (va_wsS RL 164 yL_productsBySums wsL_productsBySums) := goodIn_app (goodIn_of _ (by decide +kernel)) ggL_law_L_productsBySums
set_option maxRecDepth 20000 in
theorem ggL_law_X2_productsBySums : GoodIn wsL_law wsX2_productsBySums := goodIn_r _ [403, 42, 341, 342, 343, 5, 344, 138, 140, 141, 142, 143, 144, 145, 174, 175, 176, 589, 590, 591, 592, 593, 594, 595, 596, 597, 598] (by decide +kernel) (by decide +kernel)
set_option maxRecDepth 20000 in
theorem gL_law_X2_productsBySums : GoodIn wsL_law (wsV RL 166 RX2 yX2_productsBySums wsX2_productsBySums) := goodIn_app (goodIn_of _ (by decide +kernel)) ggL_law_X2_productsBySums
set_option maxRecDepth 20000 in
theorem ggL_law_L_degreeOf : GoodIn wsL_law wsL_degreeOf := goodIn_ca (goodIn_r _ [406, 54, 407, 408, 409, 2, 410, 14, 60, 61, 62, 63, 64, 411, 412, 413, 414, 415, 416, 417, 124, 125, 126, 29, 352, 94, 95, 127, 128, 129, 130, 131, 132, 133, 578, 579, 580, 581, 582, 583, 584, 585, 586, 587, 588] (by decide +kernel) (by decide +kernel)) (goodIn_sub (fun _ h => List.mem_append_left _ (List.mem_append_left _ (List.mem_append_right _ h))) (by decide +kernel))
set_option maxRecDepth 20000 in
theorem gL_law_L_degreeOf : GoodIn wsL_law (va_wsS RL 167 yL_degreeOf wsL_degreeOf) := goodIn_app (goodIn_of _ (by decide +kernel)) ggL_law_L_degreeOf
set_option maxRecDepth 20000 in
theorem ggL_law_X2_degreeOf : GoodIn wsL_law wsX2_degreeOf := goodIn_r _ [421, 42, 341, 342, 343, 5, 344, 138, 140, 141, 142, 143, 144, 145, 422, 423, 424, 174, 175, 176, 171, 172, 173, 589, 590, 591, 592, 593, 594, 595, 596, 597, 598] (by decide +kernel) (by decide +kernel)
set_option maxRecDepth 20000 in
theorem gL_law_X2_degreeOf : GoodIn wsL_law (wsV RL 169 RX2 yX2_degreeOf wsX2_degreeOf) := goodIn_app (goodIn_of _ (by decide +kernel)) ggL_law_X2_degreeOf
set_option maxRecDepth 20000 in
theorem ggL_law_L_printedLength : GoodIn wsL_law wsL_printedLength := goodIn_ca (goodIn_r _ [427, 54, 428, 429, 430, 2, 431, 14, 28, 60, 61, 62, 63, 64, 124, 125, 126, 29, 432, 433, 434, 435, 436, 437, 438, 439, 27, 352, 94, 95, 440, 441, 442, 443, 578, 579, 580, 581, 582, 583, 584, 585, 586, 587, 588] (by decide +kernel) (by decide +kernel)) (goodIn_sub (fun _ h => List.mem_append_left _ (List.mem_append_left _ (List.mem_append_right _ h))) (by decide +kernel))
set_option maxRecDepth 20000 in
theorem gL_law_L_printedLength : GoodIn wsL_law (va_wsS RL 170 yL_printedLength wsL_printedLength) := goodIn_app (goodIn_of _ (by decide +kernel)) ggL_law_L_printedLength
set_option maxRecDepth 20000 in
theorem ggL_law_X2_printedLength : GoodIn wsL_law wsX2_printedLength := goodIn_r _ [447, 42, 341, 342, 343, 5, 344, 138, 140, 141, 142, 143, 144, 145, 174, 175, 176, 448, 449, 450, 451, 452, 453, 171, 172, 173, 589, 590, 591, 592, 593, 594, 595, 596, 597, 598] (by decide +kernel) (by decide +kernel)
set_option maxRecDepth 20000 in
theorem gL_law_X2_printedLength : GoodIn wsL_law (wsV RL 172 RX2 yX2_printedLength wsX2_printedLength) := goodIn_app (goodIn_of _ (by decide +kernel)) ggL_law_X2_printedLength
set_option maxRecDepth 20000 in
theorem ggL_law_L_printedLetter : GoodIn wsL_law wsL_printedLetter := goodIn_ca (goodIn_r _ [456, 54, 457, 458, 459, 2, 460, 63, 64, 14, 28, 27, 60, 61, 62, 124, 125, 126, 29, 432, 433, 434, 435, 436, 437, 438, 439, 352, 94, 95, 440, 441, 442, 443, 578, 579, 580, 581, 582, 583, 584, 585, 586, 587, 588] (by decide +kernel) (by decide +kernel)) (goodIn_sub (fun _ h => List.mem_append_left _ (List.mem_append_left _ (List.mem_append_right _ h))) (by decide +kernel))
set_option maxRecDepth 20000 in
theorem gL_law_L_printedLetter : GoodIn wsL_law (va_wsS RL 173 yL_printedLetter wsL_printedLetter) := goodIn_app (goodIn_of _ (by decide +kernel)) ggL_law_L_printedLetter
set_option maxRecDepth 20000 in
theorem ggL_law_X2_printedLetter : GoodIn wsL_law wsX2_printedLetter := goodIn_r _ [464, 42, 138, 341, 342, 343, 5, 344, 140, 141, 142, 143, 144, 145, 174, 175, 176, 448, 449, 450, 451, 452, 453, 171, 172, 173, 465, 466, 467, 589, 590, 591, 592, 593, 594, 595, 596, 597, 598] (by decide +kernel) (by decide +kernel)
set_option maxRecDepth 20000 in
theorem gL_law_X2_printedLetter : GoodIn wsL_law (wsV RL 175 RX2 yX2_printedLetter wsX2_printedLetter) := goodIn_app (goodIn_of _ (by decide +kernel)) ggL_law_X2_printedLetter
set_option maxRecDepth 20000 in
theorem ggL_law_L_distanceByTrying : GoodIn wsL_law wsL_distanceByTrying := goodIn_ca (goodIn_r _ [470, 54, 471, 472, 473, 2, 474, 14, 475, 476, 416, 477, 60, 61, 62, 63, 64, 478, 479, 480, 30, 29, 352, 94, 95, 127, 128, 129, 130, 131, 132, 133, 578, 579, 580, 581, 582, 583, 584, 585, 586, 587, 588] (by decide +kernel) (by decide +kernel)) (goodIn_sub (fun _ h => List.mem_append_left _ (List.mem_append_left _ (List.mem_append_right _ h))) (by decide +kernel))
set_option maxRecDepth 20000 in
theorem gL_law_L_distanceByTrying : GoodIn wsL_law (va_wsS RL 176 yL_distanceByTrying wsL_distanceByTrying) := goodIn_app (goodIn_of _ (by decide +kernel)) ggL_law_L_distanceByTrying
set_option maxRecDepth 20000 in
theorem ggL_law_X2_distanceByTrying : GoodIn wsL_law wsX2_distanceByTrying := goodIn_r _ [484, 42, 341, 342, 343, 5, 344, 138, 140, 141, 142, 143, 144, 145, 485, 486, 487, 46, 47, 48, 49, 171, 172, 173, 589, 590, 591, 592, 593, 594, 595, 596, 597, 598] (by decide +kernel) (by decide +kernel)
set_option maxRecDepth 20000 in
theorem gL_law_X2_distanceByTrying : GoodIn wsL_law (wsV RL 178 RX2 yX2_distanceByTrying wsX2_distanceByTrying) := goodIn_app (goodIn_of _ (by decide +kernel)) ggL_law_X2_distanceByTrying
set_option maxRecDepth 20000 in
theorem ggL_law_L_distanceBySums : GoodIn wsL_law wsL_distanceBySums := goodIn_ca (goodIn_r _ [490, 54, 491, 492, 493, 2, 494, 26, 14, 495, 496, 416, 497, 414, 415, 417, 60, 61, 62, 63, 64, 352, 94, 95, 498, 499, 500, 501, 578, 579, 580, 581, 582, 583, 584, 585, 586, 587, 588] (by decide +kernel) (by decide +kernel)) (goodIn_sub (fun _ h => List.mem_append_left _ (List.mem_append_left _ (List.mem_append_right _ h))) (by decide +kernel))
set_option maxRecDepth 20000 in
theorem gL_law_L_distanceBySums : GoodIn wsL_law (va_wsS RL 179 yL_distanceBySums wsL_distanceBySums) := goodIn_app (goodIn_of _ (by decide +kernel)) ggL_law_L_distanceBySums
set_option maxRecDepth 20000 in
theorem ggL_law_X2_distanceBySums : GoodIn wsL_law wsX2_distanceBySums := goodIn_r _ [505, 42, 341, 342, 343, 5, 344, 138, 140, 141, 142, 143, 144, 145, 485, 486, 487, 46, 47, 48, 49, 171, 172, 173, 589, 590, 591, 592, 593, 594, 595, 596, 597, 598] (by decide +kernel) (by decide +kernel)
set_option maxRecDepth 20000 in
theorem gL_law_X2_distanceBySums : GoodIn wsL_law (wsV RL 181 RX2 yX2_distanceBySums wsX2_distanceBySums) := goodIn_app (goodIn_of _ (by decide +kernel)) ggL_law_X2_distanceBySums
set_option maxRecDepth 20000 in
theorem ggL_law_L_isSelfDual : GoodIn wsL_law wsL_isSelfDual := goodIn_ca (goodIn_r _ [508, 54, 509, 510, 511, 2, 512, 14, 60, 61, 62, 63, 64, 513, 514, 515, 352, 94, 95, 578, 579, 580, 581, 582, 583, 584, 585, 586, 587, 588] (by decide +kernel) (by decide +kernel)) (goodIn_sub (fun _ h => List.mem_append_left _ (List.mem_append_left _ (List.mem_append_right _ h))) (by decide +kernel))
set_option maxRecDepth 20000 in
theorem gL_law_L_isSelfDual : GoodIn wsL_law (va_wsS RL 182 yL_isSelfDual wsL_isSelfDual) := goodIn_app (goodIn_of _ (by decide +kernel)) ggL_law_L_isSelfDual
set_option maxRecDepth 20000 in
theorem ggL_law_X2_isSelfDual : GoodIn wsL_law wsX2_isSelfDual := goodIn_r _ [519, 42, 341, 342, 343, 5, 344, 138, 140, 141, 142, 143, 144, 145, 520, 521, 522, 589, 590, 591, 592, 593, 594, 595, 596, 597, 598] (by decide +kernel) (by decide +kernel)
set_option maxRecDepth 20000 in
theorem gL_law_X2_isSelfDual : GoodIn wsL_law (wsV RL 184 RX2 yX2_isSelfDual wsX2_isSelfDual) := goodIn_app (goodIn_of _ (by decide +kernel)) ggL_law_X2_isSelfDual
set_option maxRecDepth 20000 in
theorem ggL_law_L_isMonotone : GoodIn wsL_law wsL_isMonotone := goodIn_ca (goodIn_r _ [525, 54, 526, 527, 528, 2, 529, 14, 60, 61, 62, 63, 64, 530, 531, 532, 231, 232, 233, 29, 578, 579, 580, 581, 582, 583, 584, 585, 586, 587, 588] (by decide +kernel) (by decide +kernel)) (goodIn_sub (fun _ h => List.mem_append_left _ (List.mem_append_left _ (List.mem_append_right _ h))) (by decide +kernel))
set_option maxRecDepth 20000 in
theorem gL_law_L_isMonotone : GoodIn wsL_law (va_wsS RL 185 yL_isMonotone wsL_isMonotone) := goodIn_app (goodIn_of _ (by decide +kernel)) ggL_law_L_isMonotone
set_option maxRecDepth 20000 in
theorem ggL_law_X2_isMonotone : GoodIn wsL_law wsX2_isMonotone := goodIn_r _ [536, 42, 341, 342, 343, 5, 344, 138, 140, 141, 142, 143, 144, 145, 537, 538, 539, 589, 590, 591, 592, 593, 594, 595, 596, 597, 598] (by decide +kernel) (by decide +kernel)
set_option maxRecDepth 20000 in
theorem gL_law_X2_isMonotone : GoodIn wsL_law (wsV RL 187 RX2 yX2_isMonotone wsX2_isMonotone) := goodIn_app (goodIn_of _ (by decide +kernel)) ggL_law_X2_isMonotone
set_option maxRecDepth 20000 in
theorem ggL_law_L_areEnough : GoodIn wsL_law wsL_areEnough := goodIn_ca (goodIn_r _ [542, 196, 543, 544, 545, 2, 546, 201, 202, 547, 548, 549, 550, 14, 352, 94, 95, 551, 552, 553, 513, 514, 515, 530, 531, 532, 231, 232, 233, 29, 411, 412, 413, 414, 415, 416, 417, 124, 125, 126, 127, 128, 129, 130, 131, 132, 133, 578, 579, 580, 581, 582, 583, 584, 585, 586, 587, 588] (by decide +kernel) (by decide +kernel)) (goodIn_sub (fun _ h => List.mem_append_right _ h) (by decide +kernel))
set_option maxRecDepth 20000 in
theorem gL_law_L_areEnough : GoodIn wsL_law (va_wsS RL 188 yL_areEnough wsL_areEnough) := goodIn_app (goodIn_of _ (by decide +kernel)) ggL_law_L_areEnough
set_option maxRecDepth 20000 in
theorem ggL_law_X2_areEnough : GoodIn wsL_law wsX2_areEnough := goodIn_r _ [557, 138, 143, 144, 5, 145, 558, 559, 560, 561, 42, 520, 521, 522, 537, 538, 539, 422, 423, 424, 174, 175, 176, 171, 172, 173, 589, 590, 591, 592, 593, 594, 595, 596, 597, 598] (by decide +kernel) (by decide +kernel)
set_option maxRecDepth 20000 in
theorem gL_law_X2_areEnough : GoodIn wsL_law (wsV RL 190 RX2 yX2_areEnough wsX2_areEnough) := goodIn_app (goodIn_of _ (by decide +kernel)) ggL_law_X2_areEnough
set_option maxRecDepth 20000 in
theorem ggL_law_X1_fewestEnough : GoodIn wsL_law wsX1_fewestEnough := goodIn_r _ [565, 127, 128, 129, 130, 131, 132, 133, 547, 548, 549, 2, 550, 14, 352, 94, 95, 551, 552, 553, 513, 514, 515, 530, 531, 532, 231, 232, 233, 29, 411, 412, 413, 414, 415, 416, 417, 124, 125, 126, 578, 579, 580, 581, 582, 583, 584, 585, 586, 587, 588] (by decide +kernel) (by decide +kernel)
set_option maxRecDepth 20000 in
theorem gL_law_X1_fewestEnough : GoodIn wsL_law (wsV RL 191 RX1 yX1_fewestEnough wsX1_fewestEnough) := goodIn_app (goodIn_of _ (by decide +kernel)) ggL_law_X1_fewestEnough
set_option maxRecDepth 20000 in
theorem ggL_law_X2_fewestEnough : GoodIn wsL_law wsX2_fewestEnough := goodIn_r _ [569, 138, 171, 172, 5, 173, 558, 559, 560, 561, 42, 520, 521, 522, 537, 538, 539, 422, 423, 424, 174, 175, 176, 589, 590, 591, 592, 593, 594, 595, 596, 597, 598] (by decide +kernel) (by decide +kernel)
set_option maxRecDepth 20000 in
theorem gL_law_X2_fewestEnough : GoodIn wsL_law (wsV RL 194 RX2 yX2_fewestEnough wsX2_fewestEnough) := goodIn_app (goodIn_of _ (by decide +kernel)) ggL_law_X2_fewestEnough
set_option maxRecDepth 20000 in
theorem ggL_law_X1_recordedStates : GoodIn wsL_law wsX1_recordedStates := goodIn_r _ [573, 16, 578, 579, 580, 581, 582, 583, 584, 585, 586, 587, 588] (by decide +kernel) (by decide +kernel)
set_option maxRecDepth 20000 in
theorem gL_law_X1_recordedStates : GoodIn wsL_law (wsV RL 195 RX1 yX1_recordedStates wsX1_recordedStates) := goodIn_app (goodIn_of _ (by decide +kernel)) ggL_law_X1_recordedStates
set_option maxRecDepth 20000 in
theorem ggL_law_X2_recordedStates : GoodIn wsL_law wsX2_recordedStates := goodIn_r _ [577, 138, 185, 589, 590, 591, 592, 593, 594, 595, 596, 597, 598] (by decide +kernel) (by decide +kernel)
set_option maxRecDepth 20000 in
theorem gL_law_X2_recordedStates : GoodIn wsL_law (wsV RL 198 RX2 yX2_recordedStates wsX2_recordedStates) := goodIn_app (goodIn_of _ (by decide +kernel)) ggL_law_X2_recordedStates
theorem dL_law_0 : decode cL_law 0 = .ok (.new 8, 3) := by decide +kernel
theorem dL_law_3 : decode cL_law 3 = .ok (.dup, 1) := by decide +kernel
theorem dL_law_4 : decode cL_law 4 = .ok (.invokespecial 94, 3) := by decide +kernel
theorem dL_law_7 : decode cL_law 7 = .ok (.astore_n 1, 1) := by decide +kernel
theorem dL_law_8 : decode cL_law 8 = .ok (.new 95, 3) := by decide +kernel
theorem dL_law_11 : decode cL_law 11 = .ok (.dup, 1) := by decide +kernel
theorem dL_law_12 : decode cL_law 12 = .ok (.invokespecial 97, 3) := by decide +kernel
theorem dL_law_15 : decode cL_law 15 = .ok (.astore_n 2, 1) := by decide +kernel
theorem dL_law_16 : decode cL_law 16 = .ok (.iconst 1, 1) := by decide +kernel
theorem dL_law_17 : decode cL_law 17 = .ok (.newarray .long, 2) := by decide +kernel
theorem dL_law_19 : decode cL_law 19 = .ok (.astore_n 3, 1) := by decide +kernel
theorem dL_law_20 : decode cL_law 20 = .ok (.iconst 0, 1) := by decide +kernel
theorem dL_law_21 : decode cL_law 21 = .ok (.istore 4, 2) := by decide +kernel
theorem dL_law_23 : decode cL_law 23 = .ok (.iload 4, 2) := by decide +kernel
theorem dL_law_25 : decode cL_law 25 = .ok (.aload_n 0, 1) := by decide +kernel
theorem dL_law_26 : decode cL_law 26 = .ok (.arraylength, 1) := by decide +kernel
theorem dL_law_27 : decode cL_law 27 = .ok (.iconst 5, 1) := by decide +kernel
theorem dL_law_28 : decode cL_law 28 = .ok (.isub, 1) := by decide +kernel
theorem dL_law_29 : decode cL_law 29 = .ok (.if_icmp .gt 1636, 3) := by decide +kernel
theorem dL_law_32 : decode cL_law 32 = .ok (.aload_n 0, 1) := by decide +kernel
theorem dL_law_33 : decode cL_law 33 = .ok (.iload 4, 2) := by decide +kernel
theorem dL_law_35 : decode cL_law 35 = .ok (.iaload, 1) := by decide +kernel
theorem dL_law_36 : decode cL_law 36 = .ok (.bipush 31, 2) := by decide +kernel
theorem dL_law_38 : decode cL_law 38 = .ok (.iand, 1) := by decide +kernel
theorem dL_law_39 : decode cL_law 39 = .ok (.tableswitch 1620 0 27 #[125, 181, 249, 341, 437, 517, 575, 588, 601, 645, 689, 702, 746, 802, 870, 926, 1001, 1057, 1113, 1169, 1225, 1293, 1349, 1405, 1468, 1531, 1594, 1607], 125) := by decide +kernel
theorem dL_law_164 : decode cL_law 164 = .ok (.aload_n 1, 1) := by decide +kernel
theorem dL_law_165 : decode cL_law 165 = .ok (.aload_n 0, 1) := by decide +kernel
theorem dL_law_166 : decode cL_law 166 = .ok (.iload 4, 2) := by decide +kernel
theorem dL_law_168 : decode cL_law 168 = .ok (.iconst 1, 1) := by decide +kernel
theorem dL_law_169 : decode cL_law 169 = .ok (.iadd, 1) := by decide +kernel
theorem dL_law_170 : decode cL_law 170 = .ok (.iaload, 1) := by decide +kernel
theorem dL_law_171 : decode cL_law 171 = .ok (.aload_n 3, 1) := by decide +kernel
theorem dL_law_172 : decode cL_law 172 = .ok (.invokestatic 98, 3) := by decide +kernel
theorem dL_law_175 : decode cL_law 175 = .ok (.istore 5, 2) := by decide +kernel
theorem dL_law_177 : decode cL_law 177 = .ok (.aload_n 2, 1) := by decide +kernel
theorem dL_law_178 : decode cL_law 178 = .ok (.aload_n 0, 1) := by decide +kernel
theorem dL_law_179 : decode cL_law 179 = .ok (.iload 4, 2) := by decide +kernel
theorem dL_law_181 : decode cL_law 181 = .ok (.iconst 1, 1) := by decide +kernel
theorem dL_law_182 : decode cL_law 182 = .ok (.iadd, 1) := by decide +kernel
theorem dL_law_183 : decode cL_law 183 = .ok (.iaload, 1) := by decide +kernel
theorem dL_law_184 : decode cL_law 184 = .ok (.invokevirtual 103, 3) := by decide +kernel
theorem dL_law_187 : decode cL_law 187 = .ok (.istore 6, 2) := by decide +kernel
theorem dL_law_189 : decode cL_law 189 = .ok (.aload_n 2, 1) := by decide +kernel
theorem dL_law_190 : decode cL_law 190 = .ok (.invokevirtual 104, 3) := by decide +kernel
theorem dL_law_193 : decode cL_law 193 = .ok (.iload 5, 2) := by decide +kernel
theorem dL_law_195 : decode cL_law 195 = .ok (.if_icmp .eq 5, 3) := by decide +kernel
theorem dL_law_198 : decode cL_law 198 = .ok (.iconst 0, 1) := by decide +kernel
theorem dL_law_199 : decode cL_law 199 = .ok (.ireturn, 1) := by decide +kernel
theorem dL_law_200 : decode cL_law 200 = .ok (.iload 5, 2) := by decide +kernel
theorem dL_law_202 : decode cL_law 202 = .ok (.ifCond .ne 15, 3) := by decide +kernel
theorem dL_law_205 : decode cL_law 205 = .ok (.aload_n 3, 1) := by decide +kernel
theorem dL_law_206 : decode cL_law 206 = .ok (.iconst 0, 1) := by decide +kernel
theorem dL_law_207 : decode cL_law 207 = .ok (.laload, 1) := by decide +kernel
theorem dL_law_208 : decode cL_law 208 = .ok (.iload 6, 2) := by decide +kernel
theorem dL_law_210 : decode cL_law 210 = .ok (.i2l, 1) := by decide +kernel
theorem dL_law_211 : decode cL_law 211 = .ok (.lcmp, 1) := by decide +kernel
theorem dL_law_212 : decode cL_law 212 = .ok (.ifCond .eq 5, 3) := by decide +kernel
theorem dL_law_215 : decode cL_law 215 = .ok (.iconst 0, 1) := by decide +kernel
theorem dL_law_216 : decode cL_law 216 = .ok (.ireturn, 1) := by decide +kernel
theorem dL_law_217 : decode cL_law 217 = .ok (.goto 1442, 3) := by decide +kernel
theorem dL_law_220 : decode cL_law 220 = .ok (.aload_n 1, 1) := by decide +kernel
theorem dL_law_221 : decode cL_law 221 = .ok (.aload_n 0, 1) := by decide +kernel
theorem dL_law_222 : decode cL_law 222 = .ok (.iload 4, 2) := by decide +kernel
theorem dL_law_224 : decode cL_law 224 = .ok (.iconst 1, 1) := by decide +kernel
theorem dL_law_225 : decode cL_law 225 = .ok (.iadd, 1) := by decide +kernel
theorem dL_law_226 : decode cL_law 226 = .ok (.iaload, 1) := by decide +kernel
theorem dL_law_227 : decode cL_law 227 = .ok (.aload_n 0, 1) := by decide +kernel
theorem dL_law_228 : decode cL_law 228 = .ok (.iload 4, 2) := by decide +kernel
theorem dL_law_230 : decode cL_law 230 = .ok (.iconst 2, 1) := by decide +kernel
theorem dL_law_231 : decode cL_law 231 = .ok (.iadd, 1) := by decide +kernel
theorem dL_law_232 : decode cL_law 232 = .ok (.iaload, 1) := by decide +kernel
theorem dL_law_233 : decode cL_law 233 = .ok (.aload_n 3, 1) := by decide +kernel
theorem dL_law_234 : decode cL_law 234 = .ok (.invokestatic 107, 3) := by decide +kernel
theorem dL_law_237 : decode cL_law 237 = .ok (.istore 5, 2) := by decide +kernel
theorem dL_law_239 : decode cL_law 239 = .ok (.aload_n 2, 1) := by decide +kernel
theorem dL_law_240 : decode cL_law 240 = .ok (.aload_n 0, 1) := by decide +kernel
theorem dL_law_241 : decode cL_law 241 = .ok (.iload 4, 2) := by decide +kernel
theorem dL_law_243 : decode cL_law 243 = .ok (.iconst 1, 1) := by decide +kernel
theorem dL_law_244 : decode cL_law 244 = .ok (.iadd, 1) := by decide +kernel
theorem dL_law_245 : decode cL_law 245 = .ok (.iaload, 1) := by decide +kernel
theorem dL_law_246 : decode cL_law 246 = .ok (.aload_n 0, 1) := by decide +kernel
theorem dL_law_247 : decode cL_law 247 = .ok (.iload 4, 2) := by decide +kernel
theorem dL_law_249 : decode cL_law 249 = .ok (.iconst 2, 1) := by decide +kernel
theorem dL_law_250 : decode cL_law 250 = .ok (.iadd, 1) := by decide +kernel
theorem dL_law_251 : decode cL_law 251 = .ok (.iaload, 1) := by decide +kernel
theorem dL_law_252 : decode cL_law 252 = .ok (.invokevirtual 110, 3) := by decide +kernel
theorem dL_law_255 : decode cL_law 255 = .ok (.istore 6, 2) := by decide +kernel
theorem dL_law_257 : decode cL_law 257 = .ok (.aload_n 2, 1) := by decide +kernel
theorem dL_law_258 : decode cL_law 258 = .ok (.invokevirtual 104, 3) := by decide +kernel
theorem dL_law_261 : decode cL_law 261 = .ok (.iload 5, 2) := by decide +kernel
theorem dL_law_263 : decode cL_law 263 = .ok (.if_icmp .eq 5, 3) := by decide +kernel
theorem dL_law_266 : decode cL_law 266 = .ok (.iconst 0, 1) := by decide +kernel
theorem dL_law_267 : decode cL_law 267 = .ok (.ireturn, 1) := by decide +kernel
theorem dL_law_268 : decode cL_law 268 = .ok (.iload 5, 2) := by decide +kernel
theorem dL_law_270 : decode cL_law 270 = .ok (.ifCond .ne 15, 3) := by decide +kernel
theorem dL_law_273 : decode cL_law 273 = .ok (.aload_n 3, 1) := by decide +kernel
theorem dL_law_274 : decode cL_law 274 = .ok (.iconst 0, 1) := by decide +kernel
theorem dL_law_275 : decode cL_law 275 = .ok (.laload, 1) := by decide +kernel
theorem dL_law_276 : decode cL_law 276 = .ok (.iload 6, 2) := by decide +kernel
theorem dL_law_278 : decode cL_law 278 = .ok (.i2l, 1) := by decide +kernel
theorem dL_law_279 : decode cL_law 279 = .ok (.lcmp, 1) := by decide +kernel
theorem dL_law_280 : decode cL_law 280 = .ok (.ifCond .eq 5, 3) := by decide +kernel
theorem dL_law_283 : decode cL_law 283 = .ok (.iconst 0, 1) := by decide +kernel
theorem dL_law_284 : decode cL_law 284 = .ok (.ireturn, 1) := by decide +kernel
theorem dL_law_285 : decode cL_law 285 = .ok (.goto 1374, 3) := by decide +kernel
theorem dL_law_288 : decode cL_law 288 = .ok (.aload_n 1, 1) := by decide +kernel
theorem dL_law_289 : decode cL_law 289 = .ok (.aload_n 0, 1) := by decide +kernel
theorem dL_law_290 : decode cL_law 290 = .ok (.iload 4, 2) := by decide +kernel
theorem dL_law_292 : decode cL_law 292 = .ok (.iconst 1, 1) := by decide +kernel
theorem dL_law_293 : decode cL_law 293 = .ok (.iadd, 1) := by decide +kernel
theorem dL_law_294 : decode cL_law 294 = .ok (.iaload, 1) := by decide +kernel
theorem dL_law_295 : decode cL_law 295 = .ok (.aload_n 0, 1) := by decide +kernel
theorem dL_law_296 : decode cL_law 296 = .ok (.iload 4, 2) := by decide +kernel
theorem dL_law_298 : decode cL_law 298 = .ok (.iconst 2, 1) := by decide +kernel
theorem dL_law_299 : decode cL_law 299 = .ok (.iadd, 1) := by decide +kernel
theorem dL_law_300 : decode cL_law 300 = .ok (.iaload, 1) := by decide +kernel
theorem dL_law_301 : decode cL_law 301 = .ok (.aload_n 0, 1) := by decide +kernel
theorem dL_law_302 : decode cL_law 302 = .ok (.iload 4, 2) := by decide +kernel
theorem dL_law_304 : decode cL_law 304 = .ok (.iconst 3, 1) := by decide +kernel
theorem dL_law_305 : decode cL_law 305 = .ok (.iadd, 1) := by decide +kernel
theorem dL_law_306 : decode cL_law 306 = .ok (.iaload, 1) := by decide +kernel
theorem dL_law_307 : decode cL_law 307 = .ok (.aload_n 0, 1) := by decide +kernel
theorem dL_law_308 : decode cL_law 308 = .ok (.iload 4, 2) := by decide +kernel
theorem dL_law_310 : decode cL_law 310 = .ok (.iconst 4, 1) := by decide +kernel
theorem dL_law_311 : decode cL_law 311 = .ok (.iadd, 1) := by decide +kernel
theorem dL_law_312 : decode cL_law 312 = .ok (.iaload, 1) := by decide +kernel
theorem dL_law_313 : decode cL_law 313 = .ok (.aload_n 3, 1) := by decide +kernel
theorem dL_law_314 : decode cL_law 314 = .ok (.invokestatic 111, 3) := by decide +kernel
theorem dL_law_317 : decode cL_law 317 = .ok (.istore 5, 2) := by decide +kernel
theorem dL_law_319 : decode cL_law 319 = .ok (.aload_n 2, 1) := by decide +kernel
theorem dL_law_320 : decode cL_law 320 = .ok (.aload_n 0, 1) := by decide +kernel
theorem dL_law_321 : decode cL_law 321 = .ok (.iload 4, 2) := by decide +kernel
theorem dL_law_323 : decode cL_law 323 = .ok (.iconst 1, 1) := by decide +kernel
theorem dL_law_324 : decode cL_law 324 = .ok (.iadd, 1) := by decide +kernel
theorem dL_law_325 : decode cL_law 325 = .ok (.iaload, 1) := by decide +kernel
theorem dL_law_326 : decode cL_law 326 = .ok (.aload_n 0, 1) := by decide +kernel
theorem dL_law_327 : decode cL_law 327 = .ok (.iload 4, 2) := by decide +kernel
theorem dL_law_329 : decode cL_law 329 = .ok (.iconst 2, 1) := by decide +kernel
theorem dL_law_330 : decode cL_law 330 = .ok (.iadd, 1) := by decide +kernel
theorem dL_law_331 : decode cL_law 331 = .ok (.iaload, 1) := by decide +kernel
theorem dL_law_332 : decode cL_law 332 = .ok (.aload_n 0, 1) := by decide +kernel
theorem dL_law_333 : decode cL_law 333 = .ok (.iload 4, 2) := by decide +kernel
theorem dL_law_335 : decode cL_law 335 = .ok (.iconst 3, 1) := by decide +kernel
theorem dL_law_336 : decode cL_law 336 = .ok (.iadd, 1) := by decide +kernel
theorem dL_law_337 : decode cL_law 337 = .ok (.iaload, 1) := by decide +kernel
theorem dL_law_338 : decode cL_law 338 = .ok (.aload_n 0, 1) := by decide +kernel
theorem dL_law_339 : decode cL_law 339 = .ok (.iload 4, 2) := by decide +kernel
theorem dL_law_341 : decode cL_law 341 = .ok (.iconst 4, 1) := by decide +kernel
theorem dL_law_342 : decode cL_law 342 = .ok (.iadd, 1) := by decide +kernel
theorem dL_law_343 : decode cL_law 343 = .ok (.iaload, 1) := by decide +kernel
theorem dL_law_344 : decode cL_law 344 = .ok (.invokevirtual 114, 3) := by decide +kernel
theorem dL_law_347 : decode cL_law 347 = .ok (.istore 6, 2) := by decide +kernel
theorem dL_law_349 : decode cL_law 349 = .ok (.aload_n 2, 1) := by decide +kernel
theorem dL_law_350 : decode cL_law 350 = .ok (.invokevirtual 104, 3) := by decide +kernel
theorem dL_law_353 : decode cL_law 353 = .ok (.iload 5, 2) := by decide +kernel
theorem dL_law_355 : decode cL_law 355 = .ok (.if_icmp .eq 5, 3) := by decide +kernel
theorem dL_law_358 : decode cL_law 358 = .ok (.iconst 0, 1) := by decide +kernel
theorem dL_law_359 : decode cL_law 359 = .ok (.ireturn, 1) := by decide +kernel
theorem dL_law_360 : decode cL_law 360 = .ok (.iload 5, 2) := by decide +kernel
theorem dL_law_362 : decode cL_law 362 = .ok (.ifCond .ne 15, 3) := by decide +kernel
theorem dL_law_365 : decode cL_law 365 = .ok (.aload_n 3, 1) := by decide +kernel
theorem dL_law_366 : decode cL_law 366 = .ok (.iconst 0, 1) := by decide +kernel
theorem dL_law_367 : decode cL_law 367 = .ok (.laload, 1) := by decide +kernel
theorem dL_law_368 : decode cL_law 368 = .ok (.iload 6, 2) := by decide +kernel
theorem dL_law_370 : decode cL_law 370 = .ok (.i2l, 1) := by decide +kernel
theorem dL_law_371 : decode cL_law 371 = .ok (.lcmp, 1) := by decide +kernel
theorem dL_law_372 : decode cL_law 372 = .ok (.ifCond .eq 5, 3) := by decide +kernel
theorem dL_law_375 : decode cL_law 375 = .ok (.iconst 0, 1) := by decide +kernel
theorem dL_law_376 : decode cL_law 376 = .ok (.ireturn, 1) := by decide +kernel
theorem dL_law_377 : decode cL_law 377 = .ok (.goto 1282, 3) := by decide +kernel
theorem dL_law_380 : decode cL_law 380 = .ok (.aload_n 1, 1) := by decide +kernel
theorem dL_law_381 : decode cL_law 381 = .ok (.aload_n 0, 1) := by decide +kernel
theorem dL_law_382 : decode cL_law 382 = .ok (.iload 4, 2) := by decide +kernel
theorem dL_law_384 : decode cL_law 384 = .ok (.iconst 1, 1) := by decide +kernel
theorem dL_law_385 : decode cL_law 385 = .ok (.iadd, 1) := by decide +kernel
theorem dL_law_386 : decode cL_law 386 = .ok (.iaload, 1) := by decide +kernel
theorem dL_law_387 : decode cL_law 387 = .ok (.aload_n 0, 1) := by decide +kernel
theorem dL_law_388 : decode cL_law 388 = .ok (.iload 4, 2) := by decide +kernel
theorem dL_law_390 : decode cL_law 390 = .ok (.iconst 2, 1) := by decide +kernel
theorem dL_law_391 : decode cL_law 391 = .ok (.iadd, 1) := by decide +kernel
theorem dL_law_392 : decode cL_law 392 = .ok (.iaload, 1) := by decide +kernel
theorem dL_law_393 : decode cL_law 393 = .ok (.aload_n 0, 1) := by decide +kernel
theorem dL_law_394 : decode cL_law 394 = .ok (.iload 4, 2) := by decide +kernel
theorem dL_law_396 : decode cL_law 396 = .ok (.iconst 3, 1) := by decide +kernel
theorem dL_law_397 : decode cL_law 397 = .ok (.iadd, 1) := by decide +kernel
theorem dL_law_398 : decode cL_law 398 = .ok (.iaload, 1) := by decide +kernel
theorem dL_law_399 : decode cL_law 399 = .ok (.ifCond .eq 7, 3) := by decide +kernel
theorem dL_law_402 : decode cL_law 402 = .ok (.iconst 1, 1) := by decide +kernel
theorem dL_law_403 : decode cL_law 403 = .ok (.goto 4, 3) := by decide +kernel
theorem dL_law_406 : decode cL_law 406 = .ok (.iconst 0, 1) := by decide +kernel
theorem dL_law_407 : decode cL_law 407 = .ok (.aload_n 3, 1) := by decide +kernel
theorem dL_law_408 : decode cL_law 408 = .ok (.invokestatic 115, 3) := by decide +kernel
theorem dL_law_411 : decode cL_law 411 = .ok (.istore 5, 2) := by decide +kernel
theorem dL_law_413 : decode cL_law 413 = .ok (.aload_n 2, 1) := by decide +kernel
theorem dL_law_414 : decode cL_law 414 = .ok (.aload_n 0, 1) := by decide +kernel
theorem dL_law_415 : decode cL_law 415 = .ok (.iload 4, 2) := by decide +kernel
theorem dL_law_417 : decode cL_law 417 = .ok (.iconst 1, 1) := by decide +kernel
theorem dL_law_418 : decode cL_law 418 = .ok (.iadd, 1) := by decide +kernel
theorem dL_law_419 : decode cL_law 419 = .ok (.iaload, 1) := by decide +kernel
theorem dL_law_420 : decode cL_law 420 = .ok (.aload_n 0, 1) := by decide +kernel
theorem dL_law_421 : decode cL_law 421 = .ok (.iload 4, 2) := by decide +kernel
theorem dL_law_423 : decode cL_law 423 = .ok (.iconst 2, 1) := by decide +kernel
theorem dL_law_424 : decode cL_law 424 = .ok (.iadd, 1) := by decide +kernel
theorem dL_law_425 : decode cL_law 425 = .ok (.iaload, 1) := by decide +kernel
theorem dL_law_426 : decode cL_law 426 = .ok (.aload_n 0, 1) := by decide +kernel
theorem dL_law_427 : decode cL_law 427 = .ok (.iload 4, 2) := by decide +kernel
theorem dL_law_429 : decode cL_law 429 = .ok (.iconst 3, 1) := by decide +kernel
theorem dL_law_430 : decode cL_law 430 = .ok (.iadd, 1) := by decide +kernel
theorem dL_law_431 : decode cL_law 431 = .ok (.iaload, 1) := by decide +kernel
theorem dL_law_432 : decode cL_law 432 = .ok (.ifCond .eq 7, 3) := by decide +kernel
theorem dL_law_435 : decode cL_law 435 = .ok (.iconst 1, 1) := by decide +kernel
theorem dL_law_436 : decode cL_law 436 = .ok (.goto 4, 3) := by decide +kernel
theorem dL_law_439 : decode cL_law 439 = .ok (.iconst 0, 1) := by decide +kernel
theorem dL_law_440 : decode cL_law 440 = .ok (.invokevirtual 118, 3) := by decide +kernel
theorem dL_law_443 : decode cL_law 443 = .ok (.istore 6, 2) := by decide +kernel
theorem dL_law_445 : decode cL_law 445 = .ok (.aload_n 2, 1) := by decide +kernel
theorem dL_law_446 : decode cL_law 446 = .ok (.invokevirtual 104, 3) := by decide +kernel
theorem dL_law_449 : decode cL_law 449 = .ok (.iload 5, 2) := by decide +kernel
theorem dL_law_451 : decode cL_law 451 = .ok (.if_icmp .eq 5, 3) := by decide +kernel
theorem dL_law_454 : decode cL_law 454 = .ok (.iconst 0, 1) := by decide +kernel
theorem dL_law_455 : decode cL_law 455 = .ok (.ireturn, 1) := by decide +kernel
theorem dL_law_456 : decode cL_law 456 = .ok (.iload 5, 2) := by decide +kernel
theorem dL_law_458 : decode cL_law 458 = .ok (.ifCond .ne 15, 3) := by decide +kernel
theorem dL_law_461 : decode cL_law 461 = .ok (.aload_n 3, 1) := by decide +kernel
theorem dL_law_462 : decode cL_law 462 = .ok (.iconst 0, 1) := by decide +kernel
theorem dL_law_463 : decode cL_law 463 = .ok (.laload, 1) := by decide +kernel
theorem dL_law_464 : decode cL_law 464 = .ok (.iload 6, 2) := by decide +kernel
theorem dL_law_466 : decode cL_law 466 = .ok (.i2l, 1) := by decide +kernel
theorem dL_law_467 : decode cL_law 467 = .ok (.lcmp, 1) := by decide +kernel
theorem dL_law_468 : decode cL_law 468 = .ok (.ifCond .eq 5, 3) := by decide +kernel
theorem dL_law_471 : decode cL_law 471 = .ok (.iconst 0, 1) := by decide +kernel
theorem dL_law_472 : decode cL_law 472 = .ok (.ireturn, 1) := by decide +kernel
theorem dL_law_473 : decode cL_law 473 = .ok (.goto 1186, 3) := by decide +kernel
theorem dL_law_476 : decode cL_law 476 = .ok (.aload_n 1, 1) := by decide +kernel
theorem dL_law_477 : decode cL_law 477 = .ok (.aload_n 0, 1) := by decide +kernel
theorem dL_law_478 : decode cL_law 478 = .ok (.iload 4, 2) := by decide +kernel
theorem dL_law_480 : decode cL_law 480 = .ok (.iconst 1, 1) := by decide +kernel
theorem dL_law_481 : decode cL_law 481 = .ok (.iadd, 1) := by decide +kernel
theorem dL_law_482 : decode cL_law 482 = .ok (.iaload, 1) := by decide +kernel
theorem dL_law_483 : decode cL_law 483 = .ok (.aload_n 0, 1) := by decide +kernel
theorem dL_law_484 : decode cL_law 484 = .ok (.iload 4, 2) := by decide +kernel
theorem dL_law_486 : decode cL_law 486 = .ok (.iconst 2, 1) := by decide +kernel
theorem dL_law_487 : decode cL_law 487 = .ok (.iadd, 1) := by decide +kernel
theorem dL_law_488 : decode cL_law 488 = .ok (.iaload, 1) := by decide +kernel
theorem dL_law_489 : decode cL_law 489 = .ok (.aload_n 0, 1) := by decide +kernel
theorem dL_law_490 : decode cL_law 490 = .ok (.iload 4, 2) := by decide +kernel
theorem dL_law_492 : decode cL_law 492 = .ok (.iconst 3, 1) := by decide +kernel
theorem dL_law_493 : decode cL_law 493 = .ok (.iadd, 1) := by decide +kernel
theorem dL_law_494 : decode cL_law 494 = .ok (.iaload, 1) := by decide +kernel
theorem dL_law_495 : decode cL_law 495 = .ok (.aload_n 3, 1) := by decide +kernel
theorem dL_law_496 : decode cL_law 496 = .ok (.invokestatic 119, 3) := by decide +kernel
theorem dL_law_499 : decode cL_law 499 = .ok (.istore 5, 2) := by decide +kernel
theorem dL_law_501 : decode cL_law 501 = .ok (.aload_n 2, 1) := by decide +kernel
theorem dL_law_502 : decode cL_law 502 = .ok (.aload_n 0, 1) := by decide +kernel
theorem dL_law_503 : decode cL_law 503 = .ok (.iload 4, 2) := by decide +kernel
theorem dL_law_505 : decode cL_law 505 = .ok (.iconst 1, 1) := by decide +kernel
theorem dL_law_506 : decode cL_law 506 = .ok (.iadd, 1) := by decide +kernel
theorem dL_law_507 : decode cL_law 507 = .ok (.iaload, 1) := by decide +kernel
theorem dL_law_508 : decode cL_law 508 = .ok (.aload_n 0, 1) := by decide +kernel
theorem dL_law_509 : decode cL_law 509 = .ok (.iload 4, 2) := by decide +kernel
theorem dL_law_511 : decode cL_law 511 = .ok (.iconst 2, 1) := by decide +kernel
theorem dL_law_512 : decode cL_law 512 = .ok (.iadd, 1) := by decide +kernel
theorem dL_law_513 : decode cL_law 513 = .ok (.iaload, 1) := by decide +kernel
theorem dL_law_514 : decode cL_law 514 = .ok (.aload_n 0, 1) := by decide +kernel
theorem dL_law_515 : decode cL_law 515 = .ok (.iload 4, 2) := by decide +kernel
theorem dL_law_517 : decode cL_law 517 = .ok (.iconst 3, 1) := by decide +kernel
theorem dL_law_518 : decode cL_law 518 = .ok (.iadd, 1) := by decide +kernel
theorem dL_law_519 : decode cL_law 519 = .ok (.iaload, 1) := by decide +kernel
theorem dL_law_520 : decode cL_law 520 = .ok (.invokevirtual 122, 3) := by decide +kernel
theorem dL_law_523 : decode cL_law 523 = .ok (.istore 6, 2) := by decide +kernel
theorem dL_law_525 : decode cL_law 525 = .ok (.aload_n 2, 1) := by decide +kernel
theorem dL_law_526 : decode cL_law 526 = .ok (.invokevirtual 104, 3) := by decide +kernel
theorem dL_law_529 : decode cL_law 529 = .ok (.iload 5, 2) := by decide +kernel
theorem dL_law_531 : decode cL_law 531 = .ok (.if_icmp .eq 5, 3) := by decide +kernel
theorem dL_law_534 : decode cL_law 534 = .ok (.iconst 0, 1) := by decide +kernel
theorem dL_law_535 : decode cL_law 535 = .ok (.ireturn, 1) := by decide +kernel
theorem dL_law_536 : decode cL_law 536 = .ok (.iload 5, 2) := by decide +kernel
theorem dL_law_538 : decode cL_law 538 = .ok (.ifCond .ne 15, 3) := by decide +kernel
theorem dL_law_541 : decode cL_law 541 = .ok (.aload_n 3, 1) := by decide +kernel
theorem dL_law_542 : decode cL_law 542 = .ok (.iconst 0, 1) := by decide +kernel
theorem dL_law_543 : decode cL_law 543 = .ok (.laload, 1) := by decide +kernel
theorem dL_law_544 : decode cL_law 544 = .ok (.iload 6, 2) := by decide +kernel
theorem dL_law_546 : decode cL_law 546 = .ok (.i2l, 1) := by decide +kernel
theorem dL_law_547 : decode cL_law 547 = .ok (.lcmp, 1) := by decide +kernel
theorem dL_law_548 : decode cL_law 548 = .ok (.ifCond .eq 5, 3) := by decide +kernel
theorem dL_law_551 : decode cL_law 551 = .ok (.iconst 0, 1) := by decide +kernel
theorem dL_law_552 : decode cL_law 552 = .ok (.ireturn, 1) := by decide +kernel
theorem dL_law_553 : decode cL_law 553 = .ok (.goto 1106, 3) := by decide +kernel
theorem dL_law_556 : decode cL_law 556 = .ok (.aload_n 1, 1) := by decide +kernel
theorem dL_law_557 : decode cL_law 557 = .ok (.aload_n 0, 1) := by decide +kernel
theorem dL_law_558 : decode cL_law 558 = .ok (.iload 4, 2) := by decide +kernel
theorem dL_law_560 : decode cL_law 560 = .ok (.iconst 1, 1) := by decide +kernel
theorem dL_law_561 : decode cL_law 561 = .ok (.iadd, 1) := by decide +kernel
theorem dL_law_562 : decode cL_law 562 = .ok (.iaload, 1) := by decide +kernel
theorem dL_law_563 : decode cL_law 563 = .ok (.i2c, 1) := by decide +kernel
theorem dL_law_564 : decode cL_law 564 = .ok (.aload_n 3, 1) := by decide +kernel
theorem dL_law_565 : decode cL_law 565 = .ok (.invokestatic 123, 3) := by decide +kernel
theorem dL_law_568 : decode cL_law 568 = .ok (.istore 5, 2) := by decide +kernel
theorem dL_law_570 : decode cL_law 570 = .ok (.aload_n 2, 1) := by decide +kernel
theorem dL_law_571 : decode cL_law 571 = .ok (.aload_n 0, 1) := by decide +kernel
theorem dL_law_572 : decode cL_law 572 = .ok (.iload 4, 2) := by decide +kernel
theorem dL_law_574 : decode cL_law 574 = .ok (.iconst 1, 1) := by decide +kernel
theorem dL_law_575 : decode cL_law 575 = .ok (.iadd, 1) := by decide +kernel
theorem dL_law_576 : decode cL_law 576 = .ok (.iaload, 1) := by decide +kernel
theorem dL_law_577 : decode cL_law 577 = .ok (.i2c, 1) := by decide +kernel
theorem dL_law_578 : decode cL_law 578 = .ok (.invokevirtual 126, 3) := by decide +kernel
theorem dL_law_581 : decode cL_law 581 = .ok (.istore 6, 2) := by decide +kernel
theorem dL_law_583 : decode cL_law 583 = .ok (.aload_n 2, 1) := by decide +kernel
theorem dL_law_584 : decode cL_law 584 = .ok (.invokevirtual 104, 3) := by decide +kernel
theorem dL_law_587 : decode cL_law 587 = .ok (.iload 5, 2) := by decide +kernel
theorem dL_law_589 : decode cL_law 589 = .ok (.if_icmp .eq 5, 3) := by decide +kernel
theorem dL_law_592 : decode cL_law 592 = .ok (.iconst 0, 1) := by decide +kernel
theorem dL_law_593 : decode cL_law 593 = .ok (.ireturn, 1) := by decide +kernel
theorem dL_law_594 : decode cL_law 594 = .ok (.iload 5, 2) := by decide +kernel
theorem dL_law_596 : decode cL_law 596 = .ok (.ifCond .ne 15, 3) := by decide +kernel
theorem dL_law_599 : decode cL_law 599 = .ok (.aload_n 3, 1) := by decide +kernel
theorem dL_law_600 : decode cL_law 600 = .ok (.iconst 0, 1) := by decide +kernel
theorem dL_law_601 : decode cL_law 601 = .ok (.laload, 1) := by decide +kernel
theorem dL_law_602 : decode cL_law 602 = .ok (.iload 6, 2) := by decide +kernel
theorem dL_law_604 : decode cL_law 604 = .ok (.i2l, 1) := by decide +kernel
theorem dL_law_605 : decode cL_law 605 = .ok (.lcmp, 1) := by decide +kernel
theorem dL_law_606 : decode cL_law 606 = .ok (.ifCond .eq 5, 3) := by decide +kernel
theorem dL_law_609 : decode cL_law 609 = .ok (.iconst 0, 1) := by decide +kernel
theorem dL_law_610 : decode cL_law 610 = .ok (.ireturn, 1) := by decide +kernel
theorem dL_law_611 : decode cL_law 611 = .ok (.goto 1048, 3) := by decide +kernel
theorem dL_law_614 : decode cL_law 614 = .ok (.aload_n 1, 1) := by decide +kernel
theorem dL_law_615 : decode cL_law 615 = .ok (.invokevirtual 127, 3) := by decide +kernel
theorem dL_law_618 : decode cL_law 618 = .ok (.aload_n 2, 1) := by decide +kernel
theorem dL_law_619 : decode cL_law 619 = .ok (.invokevirtual 130, 3) := by decide +kernel
theorem dL_law_622 : decode cL_law 622 = .ok (.if_icmp .eq 1037, 3) := by decide +kernel
theorem dL_law_625 : decode cL_law 625 = .ok (.iconst 0, 1) := by decide +kernel
theorem dL_law_626 : decode cL_law 626 = .ok (.ireturn, 1) := by decide +kernel
theorem dL_law_627 : decode cL_law 627 = .ok (.aload_n 1, 1) := by decide +kernel
theorem dL_law_628 : decode cL_law 628 = .ok (.invokevirtual 131, 3) := by decide +kernel
theorem dL_law_631 : decode cL_law 631 = .ok (.aload_n 2, 1) := by decide +kernel
theorem dL_law_632 : decode cL_law 632 = .ok (.invokevirtual 134, 3) := by decide +kernel
theorem dL_law_635 : decode cL_law 635 = .ok (.if_icmp .eq 1024, 3) := by decide +kernel
theorem dL_law_638 : decode cL_law 638 = .ok (.iconst 0, 1) := by decide +kernel
theorem dL_law_639 : decode cL_law 639 = .ok (.ireturn, 1) := by decide +kernel
theorem dL_law_640 : decode cL_law 640 = .ok (.aload_n 1, 1) := by decide +kernel
theorem dL_law_641 : decode cL_law 641 = .ok (.aload_n 3, 1) := by decide +kernel
theorem dL_law_642 : decode cL_law 642 = .ok (.invokestatic 135, 3) := by decide +kernel
theorem dL_law_645 : decode cL_law 645 = .ok (.istore 5, 2) := by decide +kernel
theorem dL_law_647 : decode cL_law 647 = .ok (.aload_n 2, 1) := by decide +kernel
theorem dL_law_648 : decode cL_law 648 = .ok (.invokevirtual 138, 3) := by decide +kernel
theorem dL_law_651 : decode cL_law 651 = .ok (.istore 6, 2) := by decide +kernel
theorem dL_law_653 : decode cL_law 653 = .ok (.aload_n 2, 1) := by decide +kernel
theorem dL_law_654 : decode cL_law 654 = .ok (.invokevirtual 104, 3) := by decide +kernel
theorem dL_law_657 : decode cL_law 657 = .ok (.iload 5, 2) := by decide +kernel
theorem dL_law_659 : decode cL_law 659 = .ok (.if_icmp .eq 5, 3) := by decide +kernel
theorem dL_law_662 : decode cL_law 662 = .ok (.iconst 0, 1) := by decide +kernel
theorem dL_law_663 : decode cL_law 663 = .ok (.ireturn, 1) := by decide +kernel
theorem dL_law_664 : decode cL_law 664 = .ok (.iload 5, 2) := by decide +kernel
theorem dL_law_666 : decode cL_law 666 = .ok (.ifCond .ne 15, 3) := by decide +kernel
theorem dL_law_669 : decode cL_law 669 = .ok (.aload_n 3, 1) := by decide +kernel
theorem dL_law_670 : decode cL_law 670 = .ok (.iconst 0, 1) := by decide +kernel
theorem dL_law_671 : decode cL_law 671 = .ok (.laload, 1) := by decide +kernel
theorem dL_law_672 : decode cL_law 672 = .ok (.iload 6, 2) := by decide +kernel
theorem dL_law_674 : decode cL_law 674 = .ok (.i2l, 1) := by decide +kernel
theorem dL_law_675 : decode cL_law 675 = .ok (.lcmp, 1) := by decide +kernel
theorem dL_law_676 : decode cL_law 676 = .ok (.ifCond .eq 5, 3) := by decide +kernel
theorem dL_law_679 : decode cL_law 679 = .ok (.iconst 0, 1) := by decide +kernel
theorem dL_law_680 : decode cL_law 680 = .ok (.ireturn, 1) := by decide +kernel
theorem dL_law_681 : decode cL_law 681 = .ok (.goto 978, 3) := by decide +kernel
theorem dL_law_684 : decode cL_law 684 = .ok (.aload_n 1, 1) := by decide +kernel
theorem dL_law_685 : decode cL_law 685 = .ok (.aload_n 3, 1) := by decide +kernel
theorem dL_law_686 : decode cL_law 686 = .ok (.invokestatic 139, 3) := by decide +kernel
theorem dL_law_689 : decode cL_law 689 = .ok (.istore 5, 2) := by decide +kernel
theorem dL_law_691 : decode cL_law 691 = .ok (.aload_n 2, 1) := by decide +kernel
theorem dL_law_692 : decode cL_law 692 = .ok (.invokevirtual 141, 3) := by decide +kernel
theorem dL_law_695 : decode cL_law 695 = .ok (.istore 6, 2) := by decide +kernel
theorem dL_law_697 : decode cL_law 697 = .ok (.aload_n 2, 1) := by decide +kernel
theorem dL_law_698 : decode cL_law 698 = .ok (.invokevirtual 104, 3) := by decide +kernel
theorem dL_law_701 : decode cL_law 701 = .ok (.iload 5, 2) := by decide +kernel
theorem dL_law_703 : decode cL_law 703 = .ok (.if_icmp .eq 5, 3) := by decide +kernel
theorem dL_law_706 : decode cL_law 706 = .ok (.iconst 0, 1) := by decide +kernel
theorem dL_law_707 : decode cL_law 707 = .ok (.ireturn, 1) := by decide +kernel
theorem dL_law_708 : decode cL_law 708 = .ok (.iload 5, 2) := by decide +kernel
theorem dL_law_710 : decode cL_law 710 = .ok (.ifCond .ne 15, 3) := by decide +kernel
theorem dL_law_713 : decode cL_law 713 = .ok (.aload_n 3, 1) := by decide +kernel
theorem dL_law_714 : decode cL_law 714 = .ok (.iconst 0, 1) := by decide +kernel
theorem dL_law_715 : decode cL_law 715 = .ok (.laload, 1) := by decide +kernel
theorem dL_law_716 : decode cL_law 716 = .ok (.iload 6, 2) := by decide +kernel
theorem dL_law_718 : decode cL_law 718 = .ok (.i2l, 1) := by decide +kernel
theorem dL_law_719 : decode cL_law 719 = .ok (.lcmp, 1) := by decide +kernel
theorem dL_law_720 : decode cL_law 720 = .ok (.ifCond .eq 5, 3) := by decide +kernel
theorem dL_law_723 : decode cL_law 723 = .ok (.iconst 0, 1) := by decide +kernel
theorem dL_law_724 : decode cL_law 724 = .ok (.ireturn, 1) := by decide +kernel
theorem dL_law_725 : decode cL_law 725 = .ok (.goto 934, 3) := by decide +kernel
theorem dL_law_728 : decode cL_law 728 = .ok (.aload_n 1, 1) := by decide +kernel
theorem dL_law_729 : decode cL_law 729 = .ok (.invokevirtual 142, 3) := by decide +kernel
theorem dL_law_732 : decode cL_law 732 = .ok (.aload_n 2, 1) := by decide +kernel
theorem dL_law_733 : decode cL_law 733 = .ok (.invokevirtual 145, 3) := by decide +kernel
theorem dL_law_736 : decode cL_law 736 = .ok (.if_icmp .eq 923, 3) := by decide +kernel
theorem dL_law_739 : decode cL_law 739 = .ok (.iconst 0, 1) := by decide +kernel
theorem dL_law_740 : decode cL_law 740 = .ok (.ireturn, 1) := by decide +kernel
theorem dL_law_741 : decode cL_law 741 = .ok (.aload_n 1, 1) := by decide +kernel
theorem dL_law_742 : decode cL_law 742 = .ok (.aload_n 3, 1) := by decide +kernel
theorem dL_law_743 : decode cL_law 743 = .ok (.invokestatic 146, 3) := by decide +kernel
theorem dL_law_746 : decode cL_law 746 = .ok (.istore 5, 2) := by decide +kernel
theorem dL_law_748 : decode cL_law 748 = .ok (.aload_n 2, 1) := by decide +kernel
theorem dL_law_749 : decode cL_law 749 = .ok (.invokevirtual 148, 3) := by decide +kernel
theorem dL_law_752 : decode cL_law 752 = .ok (.istore 6, 2) := by decide +kernel
theorem dL_law_754 : decode cL_law 754 = .ok (.aload_n 2, 1) := by decide +kernel
theorem dL_law_755 : decode cL_law 755 = .ok (.invokevirtual 104, 3) := by decide +kernel
theorem dL_law_758 : decode cL_law 758 = .ok (.iload 5, 2) := by decide +kernel
theorem dL_law_760 : decode cL_law 760 = .ok (.if_icmp .eq 5, 3) := by decide +kernel
theorem dL_law_763 : decode cL_law 763 = .ok (.iconst 0, 1) := by decide +kernel
theorem dL_law_764 : decode cL_law 764 = .ok (.ireturn, 1) := by decide +kernel
theorem dL_law_765 : decode cL_law 765 = .ok (.iload 5, 2) := by decide +kernel
theorem dL_law_767 : decode cL_law 767 = .ok (.ifCond .ne 15, 3) := by decide +kernel
theorem dL_law_770 : decode cL_law 770 = .ok (.aload_n 3, 1) := by decide +kernel
theorem dL_law_771 : decode cL_law 771 = .ok (.iconst 0, 1) := by decide +kernel
theorem dL_law_772 : decode cL_law 772 = .ok (.laload, 1) := by decide +kernel
theorem dL_law_773 : decode cL_law 773 = .ok (.iload 6, 2) := by decide +kernel
theorem dL_law_775 : decode cL_law 775 = .ok (.i2l, 1) := by decide +kernel
theorem dL_law_776 : decode cL_law 776 = .ok (.lcmp, 1) := by decide +kernel
theorem dL_law_777 : decode cL_law 777 = .ok (.ifCond .eq 5, 3) := by decide +kernel
theorem dL_law_780 : decode cL_law 780 = .ok (.iconst 0, 1) := by decide +kernel
theorem dL_law_781 : decode cL_law 781 = .ok (.ireturn, 1) := by decide +kernel
theorem dL_law_782 : decode cL_law 782 = .ok (.goto 877, 3) := by decide +kernel
theorem dL_law_785 : decode cL_law 785 = .ok (.aload_n 1, 1) := by decide +kernel
theorem dL_law_786 : decode cL_law 786 = .ok (.aload_n 0, 1) := by decide +kernel
theorem dL_law_787 : decode cL_law 787 = .ok (.iload 4, 2) := by decide +kernel
theorem dL_law_789 : decode cL_law 789 = .ok (.iconst 1, 1) := by decide +kernel
theorem dL_law_790 : decode cL_law 790 = .ok (.iadd, 1) := by decide +kernel
theorem dL_law_791 : decode cL_law 791 = .ok (.iaload, 1) := by decide +kernel
theorem dL_law_792 : decode cL_law 792 = .ok (.aload_n 3, 1) := by decide +kernel
theorem dL_law_793 : decode cL_law 793 = .ok (.invokestatic 149, 3) := by decide +kernel
theorem dL_law_796 : decode cL_law 796 = .ok (.istore 5, 2) := by decide +kernel
theorem dL_law_798 : decode cL_law 798 = .ok (.aload_n 2, 1) := by decide +kernel
theorem dL_law_799 : decode cL_law 799 = .ok (.aload_n 0, 1) := by decide +kernel
theorem dL_law_800 : decode cL_law 800 = .ok (.iload 4, 2) := by decide +kernel
theorem dL_law_802 : decode cL_law 802 = .ok (.iconst 1, 1) := by decide +kernel
theorem dL_law_803 : decode cL_law 803 = .ok (.iadd, 1) := by decide +kernel
theorem dL_law_804 : decode cL_law 804 = .ok (.iaload, 1) := by decide +kernel
theorem dL_law_805 : decode cL_law 805 = .ok (.invokevirtual 151, 3) := by decide +kernel
theorem dL_law_808 : decode cL_law 808 = .ok (.istore 6, 2) := by decide +kernel
theorem dL_law_810 : decode cL_law 810 = .ok (.aload_n 2, 1) := by decide +kernel
theorem dL_law_811 : decode cL_law 811 = .ok (.invokevirtual 104, 3) := by decide +kernel
theorem dL_law_814 : decode cL_law 814 = .ok (.iload 5, 2) := by decide +kernel
theorem dL_law_816 : decode cL_law 816 = .ok (.if_icmp .eq 5, 3) := by decide +kernel
theorem dL_law_819 : decode cL_law 819 = .ok (.iconst 0, 1) := by decide +kernel
theorem dL_law_820 : decode cL_law 820 = .ok (.ireturn, 1) := by decide +kernel
theorem dL_law_821 : decode cL_law 821 = .ok (.iload 5, 2) := by decide +kernel
theorem dL_law_823 : decode cL_law 823 = .ok (.ifCond .ne 15, 3) := by decide +kernel
theorem dL_law_826 : decode cL_law 826 = .ok (.aload_n 3, 1) := by decide +kernel
theorem dL_law_827 : decode cL_law 827 = .ok (.iconst 0, 1) := by decide +kernel
theorem dL_law_828 : decode cL_law 828 = .ok (.laload, 1) := by decide +kernel
theorem dL_law_829 : decode cL_law 829 = .ok (.iload 6, 2) := by decide +kernel
theorem dL_law_831 : decode cL_law 831 = .ok (.i2l, 1) := by decide +kernel
theorem dL_law_832 : decode cL_law 832 = .ok (.lcmp, 1) := by decide +kernel
theorem dL_law_833 : decode cL_law 833 = .ok (.ifCond .eq 5, 3) := by decide +kernel
theorem dL_law_836 : decode cL_law 836 = .ok (.iconst 0, 1) := by decide +kernel
theorem dL_law_837 : decode cL_law 837 = .ok (.ireturn, 1) := by decide +kernel
theorem dL_law_838 : decode cL_law 838 = .ok (.goto 821, 3) := by decide +kernel
theorem dL_law_841 : decode cL_law 841 = .ok (.aload_n 1, 1) := by decide +kernel
theorem dL_law_842 : decode cL_law 842 = .ok (.aload_n 0, 1) := by decide +kernel
theorem dL_law_843 : decode cL_law 843 = .ok (.iload 4, 2) := by decide +kernel
theorem dL_law_845 : decode cL_law 845 = .ok (.iconst 1, 1) := by decide +kernel
theorem dL_law_846 : decode cL_law 846 = .ok (.iadd, 1) := by decide +kernel
theorem dL_law_847 : decode cL_law 847 = .ok (.iaload, 1) := by decide +kernel
theorem dL_law_848 : decode cL_law 848 = .ok (.aload_n 0, 1) := by decide +kernel
theorem dL_law_849 : decode cL_law 849 = .ok (.iload 4, 2) := by decide +kernel
theorem dL_law_851 : decode cL_law 851 = .ok (.iconst 2, 1) := by decide +kernel
theorem dL_law_852 : decode cL_law 852 = .ok (.iadd, 1) := by decide +kernel
theorem dL_law_853 : decode cL_law 853 = .ok (.iaload, 1) := by decide +kernel
theorem dL_law_854 : decode cL_law 854 = .ok (.aload_n 3, 1) := by decide +kernel
theorem dL_law_855 : decode cL_law 855 = .ok (.invokestatic 152, 3) := by decide +kernel
theorem dL_law_858 : decode cL_law 858 = .ok (.istore 5, 2) := by decide +kernel
theorem dL_law_860 : decode cL_law 860 = .ok (.aload_n 2, 1) := by decide +kernel
theorem dL_law_861 : decode cL_law 861 = .ok (.aload_n 0, 1) := by decide +kernel
theorem dL_law_862 : decode cL_law 862 = .ok (.iload 4, 2) := by decide +kernel
theorem dL_law_864 : decode cL_law 864 = .ok (.iconst 1, 1) := by decide +kernel
theorem dL_law_865 : decode cL_law 865 = .ok (.iadd, 1) := by decide +kernel
theorem dL_law_866 : decode cL_law 866 = .ok (.iaload, 1) := by decide +kernel
theorem dL_law_867 : decode cL_law 867 = .ok (.aload_n 0, 1) := by decide +kernel
theorem dL_law_868 : decode cL_law 868 = .ok (.iload 4, 2) := by decide +kernel
theorem dL_law_870 : decode cL_law 870 = .ok (.iconst 2, 1) := by decide +kernel
theorem dL_law_871 : decode cL_law 871 = .ok (.iadd, 1) := by decide +kernel
theorem dL_law_872 : decode cL_law 872 = .ok (.iaload, 1) := by decide +kernel
theorem dL_law_873 : decode cL_law 873 = .ok (.invokevirtual 154, 3) := by decide +kernel
theorem dL_law_876 : decode cL_law 876 = .ok (.istore 6, 2) := by decide +kernel
theorem dL_law_878 : decode cL_law 878 = .ok (.aload_n 2, 1) := by decide +kernel
theorem dL_law_879 : decode cL_law 879 = .ok (.invokevirtual 104, 3) := by decide +kernel
theorem dL_law_882 : decode cL_law 882 = .ok (.iload 5, 2) := by decide +kernel
theorem dL_law_884 : decode cL_law 884 = .ok (.if_icmp .eq 5, 3) := by decide +kernel
theorem dL_law_887 : decode cL_law 887 = .ok (.iconst 0, 1) := by decide +kernel
theorem dL_law_888 : decode cL_law 888 = .ok (.ireturn, 1) := by decide +kernel
theorem dL_law_889 : decode cL_law 889 = .ok (.iload 5, 2) := by decide +kernel
theorem dL_law_891 : decode cL_law 891 = .ok (.ifCond .ne 15, 3) := by decide +kernel
theorem dL_law_894 : decode cL_law 894 = .ok (.aload_n 3, 1) := by decide +kernel
theorem dL_law_895 : decode cL_law 895 = .ok (.iconst 0, 1) := by decide +kernel
theorem dL_law_896 : decode cL_law 896 = .ok (.laload, 1) := by decide +kernel
theorem dL_law_897 : decode cL_law 897 = .ok (.iload 6, 2) := by decide +kernel
theorem dL_law_899 : decode cL_law 899 = .ok (.i2l, 1) := by decide +kernel
theorem dL_law_900 : decode cL_law 900 = .ok (.lcmp, 1) := by decide +kernel
theorem dL_law_901 : decode cL_law 901 = .ok (.ifCond .eq 5, 3) := by decide +kernel
theorem dL_law_904 : decode cL_law 904 = .ok (.iconst 0, 1) := by decide +kernel
theorem dL_law_905 : decode cL_law 905 = .ok (.ireturn, 1) := by decide +kernel
theorem dL_law_906 : decode cL_law 906 = .ok (.goto 753, 3) := by decide +kernel
theorem dL_law_909 : decode cL_law 909 = .ok (.aload_n 1, 1) := by decide +kernel
theorem dL_law_910 : decode cL_law 910 = .ok (.aload_n 0, 1) := by decide +kernel
theorem dL_law_911 : decode cL_law 911 = .ok (.iload 4, 2) := by decide +kernel
theorem dL_law_913 : decode cL_law 913 = .ok (.iconst 1, 1) := by decide +kernel
theorem dL_law_914 : decode cL_law 914 = .ok (.iadd, 1) := by decide +kernel
theorem dL_law_915 : decode cL_law 915 = .ok (.iaload, 1) := by decide +kernel
theorem dL_law_916 : decode cL_law 916 = .ok (.aload_n 3, 1) := by decide +kernel
theorem dL_law_917 : decode cL_law 917 = .ok (.invokestatic 155, 3) := by decide +kernel
theorem dL_law_920 : decode cL_law 920 = .ok (.istore 5, 2) := by decide +kernel
theorem dL_law_922 : decode cL_law 922 = .ok (.aload_n 2, 1) := by decide +kernel
theorem dL_law_923 : decode cL_law 923 = .ok (.aload_n 0, 1) := by decide +kernel
theorem dL_law_924 : decode cL_law 924 = .ok (.iload 4, 2) := by decide +kernel
theorem dL_law_926 : decode cL_law 926 = .ok (.iconst 1, 1) := by decide +kernel
theorem dL_law_927 : decode cL_law 927 = .ok (.iadd, 1) := by decide +kernel
theorem dL_law_928 : decode cL_law 928 = .ok (.iaload, 1) := by decide +kernel
theorem dL_law_929 : decode cL_law 929 = .ok (.invokevirtual 157, 3) := by decide +kernel
theorem dL_law_932 : decode cL_law 932 = .ok (.istore 6, 2) := by decide +kernel
theorem dL_law_934 : decode cL_law 934 = .ok (.aload_n 2, 1) := by decide +kernel
theorem dL_law_935 : decode cL_law 935 = .ok (.invokevirtual 104, 3) := by decide +kernel
theorem dL_law_938 : decode cL_law 938 = .ok (.iload 5, 2) := by decide +kernel
theorem dL_law_940 : decode cL_law 940 = .ok (.if_icmp .eq 5, 3) := by decide +kernel
theorem dL_law_943 : decode cL_law 943 = .ok (.iconst 0, 1) := by decide +kernel
theorem dL_law_944 : decode cL_law 944 = .ok (.ireturn, 1) := by decide +kernel
theorem dL_law_945 : decode cL_law 945 = .ok (.iload 5, 2) := by decide +kernel
theorem dL_law_947 : decode cL_law 947 = .ok (.ifCond .ne 15, 3) := by decide +kernel
theorem dL_law_950 : decode cL_law 950 = .ok (.aload_n 3, 1) := by decide +kernel
theorem dL_law_951 : decode cL_law 951 = .ok (.iconst 0, 1) := by decide +kernel
theorem dL_law_952 : decode cL_law 952 = .ok (.laload, 1) := by decide +kernel
theorem dL_law_953 : decode cL_law 953 = .ok (.iload 6, 2) := by decide +kernel
theorem dL_law_955 : decode cL_law 955 = .ok (.i2l, 1) := by decide +kernel
theorem dL_law_956 : decode cL_law 956 = .ok (.lcmp, 1) := by decide +kernel
theorem dL_law_957 : decode cL_law 957 = .ok (.ifCond .eq 5, 3) := by decide +kernel
theorem dL_law_960 : decode cL_law 960 = .ok (.iconst 0, 1) := by decide +kernel
theorem dL_law_961 : decode cL_law 961 = .ok (.ireturn, 1) := by decide +kernel
theorem dL_law_962 : decode cL_law 962 = .ok (.goto 697, 3) := by decide +kernel
theorem dL_law_965 : decode cL_law 965 = .ok (.aload_n 1, 1) := by decide +kernel
theorem dL_law_966 : decode cL_law 966 = .ok (.aload_n 0, 1) := by decide +kernel
theorem dL_law_967 : decode cL_law 967 = .ok (.iload 4, 2) := by decide +kernel
theorem dL_law_969 : decode cL_law 969 = .ok (.iconst 1, 1) := by decide +kernel
theorem dL_law_970 : decode cL_law 970 = .ok (.iadd, 1) := by decide +kernel
theorem dL_law_971 : decode cL_law 971 = .ok (.iaload, 1) := by decide +kernel
theorem dL_law_972 : decode cL_law 972 = .ok (.aload_n 0, 1) := by decide +kernel
theorem dL_law_973 : decode cL_law 973 = .ok (.iload 4, 2) := by decide +kernel
theorem dL_law_975 : decode cL_law 975 = .ok (.iconst 2, 1) := by decide +kernel
theorem dL_law_976 : decode cL_law 976 = .ok (.iadd, 1) := by decide +kernel
theorem dL_law_977 : decode cL_law 977 = .ok (.iaload, 1) := by decide +kernel
theorem dL_law_978 : decode cL_law 978 = .ok (.aload_n 3, 1) := by decide +kernel
theorem dL_law_979 : decode cL_law 979 = .ok (.invokestatic 158, 3) := by decide +kernel
theorem dL_law_982 : decode cL_law 982 = .ok (.istore 5, 2) := by decide +kernel
theorem dL_law_984 : decode cL_law 984 = .ok (.aload_n 2, 1) := by decide +kernel
theorem dL_law_985 : decode cL_law 985 = .ok (.aload_n 0, 1) := by decide +kernel
theorem dL_law_986 : decode cL_law 986 = .ok (.iload 4, 2) := by decide +kernel
theorem dL_law_988 : decode cL_law 988 = .ok (.iconst 1, 1) := by decide +kernel
theorem dL_law_989 : decode cL_law 989 = .ok (.iadd, 1) := by decide +kernel
theorem dL_law_990 : decode cL_law 990 = .ok (.iaload, 1) := by decide +kernel
theorem dL_law_991 : decode cL_law 991 = .ok (.aload_n 0, 1) := by decide +kernel
theorem dL_law_992 : decode cL_law 992 = .ok (.iload 4, 2) := by decide +kernel
theorem dL_law_994 : decode cL_law 994 = .ok (.iconst 2, 1) := by decide +kernel
theorem dL_law_995 : decode cL_law 995 = .ok (.iadd, 1) := by decide +kernel
theorem dL_law_996 : decode cL_law 996 = .ok (.iaload, 1) := by decide +kernel
theorem dL_law_997 : decode cL_law 997 = .ok (.invokevirtual 160, 3) := by decide +kernel
theorem dL_law_1000 : decode cL_law 1000 = .ok (.istore 6, 2) := by decide +kernel
theorem dL_law_1002 : decode cL_law 1002 = .ok (.aload_n 2, 1) := by decide +kernel
theorem dL_law_1003 : decode cL_law 1003 = .ok (.invokevirtual 104, 3) := by decide +kernel
theorem dL_law_1006 : decode cL_law 1006 = .ok (.iload 5, 2) := by decide +kernel
theorem dL_law_1008 : decode cL_law 1008 = .ok (.if_icmp .eq 5, 3) := by decide +kernel
theorem dL_law_1011 : decode cL_law 1011 = .ok (.iconst 0, 1) := by decide +kernel
theorem dL_law_1012 : decode cL_law 1012 = .ok (.ireturn, 1) := by decide +kernel
theorem dL_law_1013 : decode cL_law 1013 = .ok (.iload 5, 2) := by decide +kernel
theorem dL_law_1015 : decode cL_law 1015 = .ok (.ifCond .ne 22, 3) := by decide +kernel
theorem dL_law_1018 : decode cL_law 1018 = .ok (.aload_n 3, 1) := by decide +kernel
theorem dL_law_1019 : decode cL_law 1019 = .ok (.iconst 0, 1) := by decide +kernel
theorem dL_law_1020 : decode cL_law 1020 = .ok (.laload, 1) := by decide +kernel
theorem dL_law_1021 : decode cL_law 1021 = .ok (.iload 6, 2) := by decide +kernel
theorem dL_law_1023 : decode cL_law 1023 = .ok (.ifCond .eq 7, 3) := by decide +kernel
theorem dL_law_1026 : decode cL_law 1026 = .ok (.lconst 1, 1) := by decide +kernel
theorem dL_law_1027 : decode cL_law 1027 = .ok (.goto 4, 3) := by decide +kernel
theorem dL_law_1030 : decode cL_law 1030 = .ok (.lconst 0, 1) := by decide +kernel
theorem dL_law_1031 : decode cL_law 1031 = .ok (.lcmp, 1) := by decide +kernel
theorem dL_law_1032 : decode cL_law 1032 = .ok (.ifCond .eq 5, 3) := by decide +kernel
theorem dL_law_1035 : decode cL_law 1035 = .ok (.iconst 0, 1) := by decide +kernel
theorem dL_law_1036 : decode cL_law 1036 = .ok (.ireturn, 1) := by decide +kernel
theorem dL_law_1037 : decode cL_law 1037 = .ok (.goto 622, 3) := by decide +kernel
theorem dL_law_1040 : decode cL_law 1040 = .ok (.aload_n 1, 1) := by decide +kernel
theorem dL_law_1041 : decode cL_law 1041 = .ok (.aload_n 0, 1) := by decide +kernel
theorem dL_law_1042 : decode cL_law 1042 = .ok (.iload 4, 2) := by decide +kernel
theorem dL_law_1044 : decode cL_law 1044 = .ok (.iconst 1, 1) := by decide +kernel
theorem dL_law_1045 : decode cL_law 1045 = .ok (.iadd, 1) := by decide +kernel
theorem dL_law_1046 : decode cL_law 1046 = .ok (.iaload, 1) := by decide +kernel
theorem dL_law_1047 : decode cL_law 1047 = .ok (.aload_n 3, 1) := by decide +kernel
theorem dL_law_1048 : decode cL_law 1048 = .ok (.invokestatic 161, 3) := by decide +kernel
theorem dL_law_1051 : decode cL_law 1051 = .ok (.istore 5, 2) := by decide +kernel
theorem dL_law_1053 : decode cL_law 1053 = .ok (.aload_n 2, 1) := by decide +kernel
theorem dL_law_1054 : decode cL_law 1054 = .ok (.aload_n 0, 1) := by decide +kernel
theorem dL_law_1055 : decode cL_law 1055 = .ok (.iload 4, 2) := by decide +kernel
theorem dL_law_1057 : decode cL_law 1057 = .ok (.iconst 1, 1) := by decide +kernel
theorem dL_law_1058 : decode cL_law 1058 = .ok (.iadd, 1) := by decide +kernel
theorem dL_law_1059 : decode cL_law 1059 = .ok (.iaload, 1) := by decide +kernel
theorem dL_law_1060 : decode cL_law 1060 = .ok (.invokevirtual 163, 3) := by decide +kernel
theorem dL_law_1063 : decode cL_law 1063 = .ok (.istore 6, 2) := by decide +kernel
theorem dL_law_1065 : decode cL_law 1065 = .ok (.aload_n 2, 1) := by decide +kernel
theorem dL_law_1066 : decode cL_law 1066 = .ok (.invokevirtual 104, 3) := by decide +kernel
theorem dL_law_1069 : decode cL_law 1069 = .ok (.iload 5, 2) := by decide +kernel
theorem dL_law_1071 : decode cL_law 1071 = .ok (.if_icmp .eq 5, 3) := by decide +kernel
theorem dL_law_1074 : decode cL_law 1074 = .ok (.iconst 0, 1) := by decide +kernel
theorem dL_law_1075 : decode cL_law 1075 = .ok (.ireturn, 1) := by decide +kernel
theorem dL_law_1076 : decode cL_law 1076 = .ok (.iload 5, 2) := by decide +kernel
theorem dL_law_1078 : decode cL_law 1078 = .ok (.ifCond .ne 15, 3) := by decide +kernel
theorem dL_law_1081 : decode cL_law 1081 = .ok (.aload_n 3, 1) := by decide +kernel
theorem dL_law_1082 : decode cL_law 1082 = .ok (.iconst 0, 1) := by decide +kernel
theorem dL_law_1083 : decode cL_law 1083 = .ok (.laload, 1) := by decide +kernel
theorem dL_law_1084 : decode cL_law 1084 = .ok (.iload 6, 2) := by decide +kernel
theorem dL_law_1086 : decode cL_law 1086 = .ok (.i2l, 1) := by decide +kernel
theorem dL_law_1087 : decode cL_law 1087 = .ok (.lcmp, 1) := by decide +kernel
theorem dL_law_1088 : decode cL_law 1088 = .ok (.ifCond .eq 5, 3) := by decide +kernel
theorem dL_law_1091 : decode cL_law 1091 = .ok (.iconst 0, 1) := by decide +kernel
theorem dL_law_1092 : decode cL_law 1092 = .ok (.ireturn, 1) := by decide +kernel
theorem dL_law_1093 : decode cL_law 1093 = .ok (.goto 566, 3) := by decide +kernel
theorem dL_law_1096 : decode cL_law 1096 = .ok (.aload_n 1, 1) := by decide +kernel
theorem dL_law_1097 : decode cL_law 1097 = .ok (.aload_n 0, 1) := by decide +kernel
theorem dL_law_1098 : decode cL_law 1098 = .ok (.iload 4, 2) := by decide +kernel
theorem dL_law_1100 : decode cL_law 1100 = .ok (.iconst 1, 1) := by decide +kernel
theorem dL_law_1101 : decode cL_law 1101 = .ok (.iadd, 1) := by decide +kernel
theorem dL_law_1102 : decode cL_law 1102 = .ok (.iaload, 1) := by decide +kernel
theorem dL_law_1103 : decode cL_law 1103 = .ok (.aload_n 3, 1) := by decide +kernel
theorem dL_law_1104 : decode cL_law 1104 = .ok (.invokestatic 164, 3) := by decide +kernel
theorem dL_law_1107 : decode cL_law 1107 = .ok (.istore 5, 2) := by decide +kernel
theorem dL_law_1109 : decode cL_law 1109 = .ok (.aload_n 2, 1) := by decide +kernel
theorem dL_law_1110 : decode cL_law 1110 = .ok (.aload_n 0, 1) := by decide +kernel
theorem dL_law_1111 : decode cL_law 1111 = .ok (.iload 4, 2) := by decide +kernel
theorem dL_law_1113 : decode cL_law 1113 = .ok (.iconst 1, 1) := by decide +kernel
theorem dL_law_1114 : decode cL_law 1114 = .ok (.iadd, 1) := by decide +kernel
theorem dL_law_1115 : decode cL_law 1115 = .ok (.iaload, 1) := by decide +kernel
theorem dL_law_1116 : decode cL_law 1116 = .ok (.invokevirtual 166, 3) := by decide +kernel
theorem dL_law_1119 : decode cL_law 1119 = .ok (.istore 6, 2) := by decide +kernel
theorem dL_law_1121 : decode cL_law 1121 = .ok (.aload_n 2, 1) := by decide +kernel
theorem dL_law_1122 : decode cL_law 1122 = .ok (.invokevirtual 104, 3) := by decide +kernel
theorem dL_law_1125 : decode cL_law 1125 = .ok (.iload 5, 2) := by decide +kernel
theorem dL_law_1127 : decode cL_law 1127 = .ok (.if_icmp .eq 5, 3) := by decide +kernel
theorem dL_law_1130 : decode cL_law 1130 = .ok (.iconst 0, 1) := by decide +kernel
theorem dL_law_1131 : decode cL_law 1131 = .ok (.ireturn, 1) := by decide +kernel
theorem dL_law_1132 : decode cL_law 1132 = .ok (.iload 5, 2) := by decide +kernel
theorem dL_law_1134 : decode cL_law 1134 = .ok (.ifCond .ne 15, 3) := by decide +kernel
theorem dL_law_1137 : decode cL_law 1137 = .ok (.aload_n 3, 1) := by decide +kernel
theorem dL_law_1138 : decode cL_law 1138 = .ok (.iconst 0, 1) := by decide +kernel
theorem dL_law_1139 : decode cL_law 1139 = .ok (.laload, 1) := by decide +kernel
theorem dL_law_1140 : decode cL_law 1140 = .ok (.iload 6, 2) := by decide +kernel
theorem dL_law_1142 : decode cL_law 1142 = .ok (.i2l, 1) := by decide +kernel
theorem dL_law_1143 : decode cL_law 1143 = .ok (.lcmp, 1) := by decide +kernel
theorem dL_law_1144 : decode cL_law 1144 = .ok (.ifCond .eq 5, 3) := by decide +kernel
theorem dL_law_1147 : decode cL_law 1147 = .ok (.iconst 0, 1) := by decide +kernel
theorem dL_law_1148 : decode cL_law 1148 = .ok (.ireturn, 1) := by decide +kernel
theorem dL_law_1149 : decode cL_law 1149 = .ok (.goto 510, 3) := by decide +kernel
theorem dL_law_1152 : decode cL_law 1152 = .ok (.aload_n 1, 1) := by decide +kernel
theorem dL_law_1153 : decode cL_law 1153 = .ok (.aload_n 0, 1) := by decide +kernel
theorem dL_law_1154 : decode cL_law 1154 = .ok (.iload 4, 2) := by decide +kernel
theorem dL_law_1156 : decode cL_law 1156 = .ok (.iconst 1, 1) := by decide +kernel
theorem dL_law_1157 : decode cL_law 1157 = .ok (.iadd, 1) := by decide +kernel
theorem dL_law_1158 : decode cL_law 1158 = .ok (.iaload, 1) := by decide +kernel
theorem dL_law_1159 : decode cL_law 1159 = .ok (.aload_n 3, 1) := by decide +kernel
theorem dL_law_1160 : decode cL_law 1160 = .ok (.invokestatic 167, 3) := by decide +kernel
theorem dL_law_1163 : decode cL_law 1163 = .ok (.istore 5, 2) := by decide +kernel
theorem dL_law_1165 : decode cL_law 1165 = .ok (.aload_n 2, 1) := by decide +kernel
theorem dL_law_1166 : decode cL_law 1166 = .ok (.aload_n 0, 1) := by decide +kernel
theorem dL_law_1167 : decode cL_law 1167 = .ok (.iload 4, 2) := by decide +kernel
theorem dL_law_1169 : decode cL_law 1169 = .ok (.iconst 1, 1) := by decide +kernel
theorem dL_law_1170 : decode cL_law 1170 = .ok (.iadd, 1) := by decide +kernel
theorem dL_law_1171 : decode cL_law 1171 = .ok (.iaload, 1) := by decide +kernel
theorem dL_law_1172 : decode cL_law 1172 = .ok (.invokevirtual 169, 3) := by decide +kernel
theorem dL_law_1175 : decode cL_law 1175 = .ok (.istore 6, 2) := by decide +kernel
theorem dL_law_1177 : decode cL_law 1177 = .ok (.aload_n 2, 1) := by decide +kernel
theorem dL_law_1178 : decode cL_law 1178 = .ok (.invokevirtual 104, 3) := by decide +kernel
theorem dL_law_1181 : decode cL_law 1181 = .ok (.iload 5, 2) := by decide +kernel
theorem dL_law_1183 : decode cL_law 1183 = .ok (.if_icmp .eq 5, 3) := by decide +kernel
theorem dL_law_1186 : decode cL_law 1186 = .ok (.iconst 0, 1) := by decide +kernel
theorem dL_law_1187 : decode cL_law 1187 = .ok (.ireturn, 1) := by decide +kernel
theorem dL_law_1188 : decode cL_law 1188 = .ok (.iload 5, 2) := by decide +kernel
theorem dL_law_1190 : decode cL_law 1190 = .ok (.ifCond .ne 15, 3) := by decide +kernel
theorem dL_law_1193 : decode cL_law 1193 = .ok (.aload_n 3, 1) := by decide +kernel
theorem dL_law_1194 : decode cL_law 1194 = .ok (.iconst 0, 1) := by decide +kernel
theorem dL_law_1195 : decode cL_law 1195 = .ok (.laload, 1) := by decide +kernel
theorem dL_law_1196 : decode cL_law 1196 = .ok (.iload 6, 2) := by decide +kernel
theorem dL_law_1198 : decode cL_law 1198 = .ok (.i2l, 1) := by decide +kernel
theorem dL_law_1199 : decode cL_law 1199 = .ok (.lcmp, 1) := by decide +kernel
theorem dL_law_1200 : decode cL_law 1200 = .ok (.ifCond .eq 5, 3) := by decide +kernel
theorem dL_law_1203 : decode cL_law 1203 = .ok (.iconst 0, 1) := by decide +kernel
theorem dL_law_1204 : decode cL_law 1204 = .ok (.ireturn, 1) := by decide +kernel
theorem dL_law_1205 : decode cL_law 1205 = .ok (.goto 454, 3) := by decide +kernel
theorem dL_law_1208 : decode cL_law 1208 = .ok (.aload_n 1, 1) := by decide +kernel
theorem dL_law_1209 : decode cL_law 1209 = .ok (.aload_n 0, 1) := by decide +kernel
theorem dL_law_1210 : decode cL_law 1210 = .ok (.iload 4, 2) := by decide +kernel
theorem dL_law_1212 : decode cL_law 1212 = .ok (.iconst 1, 1) := by decide +kernel
theorem dL_law_1213 : decode cL_law 1213 = .ok (.iadd, 1) := by decide +kernel
theorem dL_law_1214 : decode cL_law 1214 = .ok (.iaload, 1) := by decide +kernel
theorem dL_law_1215 : decode cL_law 1215 = .ok (.aload_n 3, 1) := by decide +kernel
theorem dL_law_1216 : decode cL_law 1216 = .ok (.invokestatic 170, 3) := by decide +kernel
theorem dL_law_1219 : decode cL_law 1219 = .ok (.istore 5, 2) := by decide +kernel
theorem dL_law_1221 : decode cL_law 1221 = .ok (.aload_n 2, 1) := by decide +kernel
theorem dL_law_1222 : decode cL_law 1222 = .ok (.aload_n 0, 1) := by decide +kernel
theorem dL_law_1223 : decode cL_law 1223 = .ok (.iload 4, 2) := by decide +kernel
theorem dL_law_1225 : decode cL_law 1225 = .ok (.iconst 1, 1) := by decide +kernel
theorem dL_law_1226 : decode cL_law 1226 = .ok (.iadd, 1) := by decide +kernel
theorem dL_law_1227 : decode cL_law 1227 = .ok (.iaload, 1) := by decide +kernel
theorem dL_law_1228 : decode cL_law 1228 = .ok (.invokevirtual 172, 3) := by decide +kernel
theorem dL_law_1231 : decode cL_law 1231 = .ok (.istore 6, 2) := by decide +kernel
theorem dL_law_1233 : decode cL_law 1233 = .ok (.aload_n 2, 1) := by decide +kernel
theorem dL_law_1234 : decode cL_law 1234 = .ok (.invokevirtual 104, 3) := by decide +kernel
theorem dL_law_1237 : decode cL_law 1237 = .ok (.iload 5, 2) := by decide +kernel
theorem dL_law_1239 : decode cL_law 1239 = .ok (.if_icmp .eq 5, 3) := by decide +kernel
theorem dL_law_1242 : decode cL_law 1242 = .ok (.iconst 0, 1) := by decide +kernel
theorem dL_law_1243 : decode cL_law 1243 = .ok (.ireturn, 1) := by decide +kernel
theorem dL_law_1244 : decode cL_law 1244 = .ok (.iload 5, 2) := by decide +kernel
theorem dL_law_1246 : decode cL_law 1246 = .ok (.ifCond .ne 15, 3) := by decide +kernel
theorem dL_law_1249 : decode cL_law 1249 = .ok (.aload_n 3, 1) := by decide +kernel
theorem dL_law_1250 : decode cL_law 1250 = .ok (.iconst 0, 1) := by decide +kernel
theorem dL_law_1251 : decode cL_law 1251 = .ok (.laload, 1) := by decide +kernel
theorem dL_law_1252 : decode cL_law 1252 = .ok (.iload 6, 2) := by decide +kernel
theorem dL_law_1254 : decode cL_law 1254 = .ok (.i2l, 1) := by decide +kernel
theorem dL_law_1255 : decode cL_law 1255 = .ok (.lcmp, 1) := by decide +kernel
theorem dL_law_1256 : decode cL_law 1256 = .ok (.ifCond .eq 5, 3) := by decide +kernel
theorem dL_law_1259 : decode cL_law 1259 = .ok (.iconst 0, 1) := by decide +kernel
theorem dL_law_1260 : decode cL_law 1260 = .ok (.ireturn, 1) := by decide +kernel
theorem dL_law_1261 : decode cL_law 1261 = .ok (.goto 398, 3) := by decide +kernel
theorem dL_law_1264 : decode cL_law 1264 = .ok (.aload_n 1, 1) := by decide +kernel
theorem dL_law_1265 : decode cL_law 1265 = .ok (.aload_n 0, 1) := by decide +kernel
theorem dL_law_1266 : decode cL_law 1266 = .ok (.iload 4, 2) := by decide +kernel
theorem dL_law_1268 : decode cL_law 1268 = .ok (.iconst 1, 1) := by decide +kernel
theorem dL_law_1269 : decode cL_law 1269 = .ok (.iadd, 1) := by decide +kernel
theorem dL_law_1270 : decode cL_law 1270 = .ok (.iaload, 1) := by decide +kernel
theorem dL_law_1271 : decode cL_law 1271 = .ok (.aload_n 0, 1) := by decide +kernel
theorem dL_law_1272 : decode cL_law 1272 = .ok (.iload 4, 2) := by decide +kernel
theorem dL_law_1274 : decode cL_law 1274 = .ok (.iconst 2, 1) := by decide +kernel
theorem dL_law_1275 : decode cL_law 1275 = .ok (.iadd, 1) := by decide +kernel
theorem dL_law_1276 : decode cL_law 1276 = .ok (.iaload, 1) := by decide +kernel
theorem dL_law_1277 : decode cL_law 1277 = .ok (.aload_n 3, 1) := by decide +kernel
theorem dL_law_1278 : decode cL_law 1278 = .ok (.invokestatic 173, 3) := by decide +kernel
theorem dL_law_1281 : decode cL_law 1281 = .ok (.istore 5, 2) := by decide +kernel
theorem dL_law_1283 : decode cL_law 1283 = .ok (.aload_n 2, 1) := by decide +kernel
theorem dL_law_1284 : decode cL_law 1284 = .ok (.aload_n 0, 1) := by decide +kernel
theorem dL_law_1285 : decode cL_law 1285 = .ok (.iload 4, 2) := by decide +kernel
theorem dL_law_1287 : decode cL_law 1287 = .ok (.iconst 1, 1) := by decide +kernel
theorem dL_law_1288 : decode cL_law 1288 = .ok (.iadd, 1) := by decide +kernel
theorem dL_law_1289 : decode cL_law 1289 = .ok (.iaload, 1) := by decide +kernel
theorem dL_law_1290 : decode cL_law 1290 = .ok (.aload_n 0, 1) := by decide +kernel
theorem dL_law_1291 : decode cL_law 1291 = .ok (.iload 4, 2) := by decide +kernel
theorem dL_law_1293 : decode cL_law 1293 = .ok (.iconst 2, 1) := by decide +kernel
theorem dL_law_1294 : decode cL_law 1294 = .ok (.iadd, 1) := by decide +kernel
theorem dL_law_1295 : decode cL_law 1295 = .ok (.iaload, 1) := by decide +kernel
theorem dL_law_1296 : decode cL_law 1296 = .ok (.invokevirtual 175, 3) := by decide +kernel
theorem dL_law_1299 : decode cL_law 1299 = .ok (.istore 6, 2) := by decide +kernel
theorem dL_law_1301 : decode cL_law 1301 = .ok (.aload_n 2, 1) := by decide +kernel
theorem dL_law_1302 : decode cL_law 1302 = .ok (.invokevirtual 104, 3) := by decide +kernel
theorem dL_law_1305 : decode cL_law 1305 = .ok (.iload 5, 2) := by decide +kernel
theorem dL_law_1307 : decode cL_law 1307 = .ok (.if_icmp .eq 5, 3) := by decide +kernel
theorem dL_law_1310 : decode cL_law 1310 = .ok (.iconst 0, 1) := by decide +kernel
theorem dL_law_1311 : decode cL_law 1311 = .ok (.ireturn, 1) := by decide +kernel
theorem dL_law_1312 : decode cL_law 1312 = .ok (.iload 5, 2) := by decide +kernel
theorem dL_law_1314 : decode cL_law 1314 = .ok (.ifCond .ne 15, 3) := by decide +kernel
theorem dL_law_1317 : decode cL_law 1317 = .ok (.aload_n 3, 1) := by decide +kernel
theorem dL_law_1318 : decode cL_law 1318 = .ok (.iconst 0, 1) := by decide +kernel
theorem dL_law_1319 : decode cL_law 1319 = .ok (.laload, 1) := by decide +kernel
theorem dL_law_1320 : decode cL_law 1320 = .ok (.iload 6, 2) := by decide +kernel
theorem dL_law_1322 : decode cL_law 1322 = .ok (.i2l, 1) := by decide +kernel
theorem dL_law_1323 : decode cL_law 1323 = .ok (.lcmp, 1) := by decide +kernel
theorem dL_law_1324 : decode cL_law 1324 = .ok (.ifCond .eq 5, 3) := by decide +kernel
theorem dL_law_1327 : decode cL_law 1327 = .ok (.iconst 0, 1) := by decide +kernel
theorem dL_law_1328 : decode cL_law 1328 = .ok (.ireturn, 1) := by decide +kernel
theorem dL_law_1329 : decode cL_law 1329 = .ok (.goto 330, 3) := by decide +kernel
theorem dL_law_1332 : decode cL_law 1332 = .ok (.aload_n 1, 1) := by decide +kernel
theorem dL_law_1333 : decode cL_law 1333 = .ok (.aload_n 0, 1) := by decide +kernel
theorem dL_law_1334 : decode cL_law 1334 = .ok (.iload 4, 2) := by decide +kernel
theorem dL_law_1336 : decode cL_law 1336 = .ok (.iconst 1, 1) := by decide +kernel
theorem dL_law_1337 : decode cL_law 1337 = .ok (.iadd, 1) := by decide +kernel
theorem dL_law_1338 : decode cL_law 1338 = .ok (.iaload, 1) := by decide +kernel
theorem dL_law_1339 : decode cL_law 1339 = .ok (.aload_n 3, 1) := by decide +kernel
theorem dL_law_1340 : decode cL_law 1340 = .ok (.invokestatic 176, 3) := by decide +kernel
theorem dL_law_1343 : decode cL_law 1343 = .ok (.istore 5, 2) := by decide +kernel
theorem dL_law_1345 : decode cL_law 1345 = .ok (.aload_n 2, 1) := by decide +kernel
theorem dL_law_1346 : decode cL_law 1346 = .ok (.aload_n 0, 1) := by decide +kernel
theorem dL_law_1347 : decode cL_law 1347 = .ok (.iload 4, 2) := by decide +kernel
theorem dL_law_1349 : decode cL_law 1349 = .ok (.iconst 1, 1) := by decide +kernel
theorem dL_law_1350 : decode cL_law 1350 = .ok (.iadd, 1) := by decide +kernel
theorem dL_law_1351 : decode cL_law 1351 = .ok (.iaload, 1) := by decide +kernel
theorem dL_law_1352 : decode cL_law 1352 = .ok (.invokevirtual 178, 3) := by decide +kernel
theorem dL_law_1355 : decode cL_law 1355 = .ok (.istore 6, 2) := by decide +kernel
theorem dL_law_1357 : decode cL_law 1357 = .ok (.aload_n 2, 1) := by decide +kernel
theorem dL_law_1358 : decode cL_law 1358 = .ok (.invokevirtual 104, 3) := by decide +kernel
theorem dL_law_1361 : decode cL_law 1361 = .ok (.iload 5, 2) := by decide +kernel
theorem dL_law_1363 : decode cL_law 1363 = .ok (.if_icmp .eq 5, 3) := by decide +kernel
theorem dL_law_1366 : decode cL_law 1366 = .ok (.iconst 0, 1) := by decide +kernel
theorem dL_law_1367 : decode cL_law 1367 = .ok (.ireturn, 1) := by decide +kernel
theorem dL_law_1368 : decode cL_law 1368 = .ok (.iload 5, 2) := by decide +kernel
theorem dL_law_1370 : decode cL_law 1370 = .ok (.ifCond .ne 15, 3) := by decide +kernel
theorem dL_law_1373 : decode cL_law 1373 = .ok (.aload_n 3, 1) := by decide +kernel
theorem dL_law_1374 : decode cL_law 1374 = .ok (.iconst 0, 1) := by decide +kernel
theorem dL_law_1375 : decode cL_law 1375 = .ok (.laload, 1) := by decide +kernel
theorem dL_law_1376 : decode cL_law 1376 = .ok (.iload 6, 2) := by decide +kernel
theorem dL_law_1378 : decode cL_law 1378 = .ok (.i2l, 1) := by decide +kernel
theorem dL_law_1379 : decode cL_law 1379 = .ok (.lcmp, 1) := by decide +kernel
theorem dL_law_1380 : decode cL_law 1380 = .ok (.ifCond .eq 5, 3) := by decide +kernel
theorem dL_law_1383 : decode cL_law 1383 = .ok (.iconst 0, 1) := by decide +kernel
theorem dL_law_1384 : decode cL_law 1384 = .ok (.ireturn, 1) := by decide +kernel
theorem dL_law_1385 : decode cL_law 1385 = .ok (.goto 274, 3) := by decide +kernel
theorem dL_law_1388 : decode cL_law 1388 = .ok (.aload_n 1, 1) := by decide +kernel
theorem dL_law_1389 : decode cL_law 1389 = .ok (.aload_n 0, 1) := by decide +kernel
theorem dL_law_1390 : decode cL_law 1390 = .ok (.iload 4, 2) := by decide +kernel
theorem dL_law_1392 : decode cL_law 1392 = .ok (.iconst 1, 1) := by decide +kernel
theorem dL_law_1393 : decode cL_law 1393 = .ok (.iadd, 1) := by decide +kernel
theorem dL_law_1394 : decode cL_law 1394 = .ok (.iaload, 1) := by decide +kernel
theorem dL_law_1395 : decode cL_law 1395 = .ok (.aload_n 3, 1) := by decide +kernel
theorem dL_law_1396 : decode cL_law 1396 = .ok (.invokestatic 179, 3) := by decide +kernel
theorem dL_law_1399 : decode cL_law 1399 = .ok (.istore 5, 2) := by decide +kernel
theorem dL_law_1401 : decode cL_law 1401 = .ok (.aload_n 2, 1) := by decide +kernel
theorem dL_law_1402 : decode cL_law 1402 = .ok (.aload_n 0, 1) := by decide +kernel
theorem dL_law_1403 : decode cL_law 1403 = .ok (.iload 4, 2) := by decide +kernel
theorem dL_law_1405 : decode cL_law 1405 = .ok (.iconst 1, 1) := by decide +kernel
theorem dL_law_1406 : decode cL_law 1406 = .ok (.iadd, 1) := by decide +kernel
theorem dL_law_1407 : decode cL_law 1407 = .ok (.iaload, 1) := by decide +kernel
theorem dL_law_1408 : decode cL_law 1408 = .ok (.invokevirtual 181, 3) := by decide +kernel
theorem dL_law_1411 : decode cL_law 1411 = .ok (.istore 6, 2) := by decide +kernel
theorem dL_law_1413 : decode cL_law 1413 = .ok (.aload_n 2, 1) := by decide +kernel
theorem dL_law_1414 : decode cL_law 1414 = .ok (.invokevirtual 104, 3) := by decide +kernel
theorem dL_law_1417 : decode cL_law 1417 = .ok (.iload 5, 2) := by decide +kernel
theorem dL_law_1419 : decode cL_law 1419 = .ok (.if_icmp .eq 5, 3) := by decide +kernel
theorem dL_law_1422 : decode cL_law 1422 = .ok (.iconst 0, 1) := by decide +kernel
theorem dL_law_1423 : decode cL_law 1423 = .ok (.ireturn, 1) := by decide +kernel
theorem dL_law_1424 : decode cL_law 1424 = .ok (.iload 5, 2) := by decide +kernel
theorem dL_law_1426 : decode cL_law 1426 = .ok (.ifCond .ne 15, 3) := by decide +kernel
theorem dL_law_1429 : decode cL_law 1429 = .ok (.aload_n 3, 1) := by decide +kernel
theorem dL_law_1430 : decode cL_law 1430 = .ok (.iconst 0, 1) := by decide +kernel
theorem dL_law_1431 : decode cL_law 1431 = .ok (.laload, 1) := by decide +kernel
theorem dL_law_1432 : decode cL_law 1432 = .ok (.iload 6, 2) := by decide +kernel
theorem dL_law_1434 : decode cL_law 1434 = .ok (.i2l, 1) := by decide +kernel
theorem dL_law_1435 : decode cL_law 1435 = .ok (.lcmp, 1) := by decide +kernel
theorem dL_law_1436 : decode cL_law 1436 = .ok (.ifCond .eq 5, 3) := by decide +kernel
theorem dL_law_1439 : decode cL_law 1439 = .ok (.iconst 0, 1) := by decide +kernel
theorem dL_law_1440 : decode cL_law 1440 = .ok (.ireturn, 1) := by decide +kernel
theorem dL_law_1441 : decode cL_law 1441 = .ok (.goto 218, 3) := by decide +kernel
theorem dL_law_1444 : decode cL_law 1444 = .ok (.aload_n 1, 1) := by decide +kernel
theorem dL_law_1445 : decode cL_law 1445 = .ok (.aload_n 0, 1) := by decide +kernel
theorem dL_law_1446 : decode cL_law 1446 = .ok (.iload 4, 2) := by decide +kernel
theorem dL_law_1448 : decode cL_law 1448 = .ok (.iconst 1, 1) := by decide +kernel
theorem dL_law_1449 : decode cL_law 1449 = .ok (.iadd, 1) := by decide +kernel
theorem dL_law_1450 : decode cL_law 1450 = .ok (.iaload, 1) := by decide +kernel
theorem dL_law_1451 : decode cL_law 1451 = .ok (.aload_n 3, 1) := by decide +kernel
theorem dL_law_1452 : decode cL_law 1452 = .ok (.invokestatic 182, 3) := by decide +kernel
theorem dL_law_1455 : decode cL_law 1455 = .ok (.istore 5, 2) := by decide +kernel
theorem dL_law_1457 : decode cL_law 1457 = .ok (.aload_n 2, 1) := by decide +kernel
theorem dL_law_1458 : decode cL_law 1458 = .ok (.aload_n 0, 1) := by decide +kernel
theorem dL_law_1459 : decode cL_law 1459 = .ok (.iload 4, 2) := by decide +kernel
theorem dL_law_1461 : decode cL_law 1461 = .ok (.iconst 1, 1) := by decide +kernel
theorem dL_law_1462 : decode cL_law 1462 = .ok (.iadd, 1) := by decide +kernel
theorem dL_law_1463 : decode cL_law 1463 = .ok (.iaload, 1) := by decide +kernel
theorem dL_law_1464 : decode cL_law 1464 = .ok (.invokevirtual 184, 3) := by decide +kernel
theorem dL_law_1467 : decode cL_law 1467 = .ok (.istore 6, 2) := by decide +kernel
theorem dL_law_1469 : decode cL_law 1469 = .ok (.aload_n 2, 1) := by decide +kernel
theorem dL_law_1470 : decode cL_law 1470 = .ok (.invokevirtual 104, 3) := by decide +kernel
theorem dL_law_1473 : decode cL_law 1473 = .ok (.iload 5, 2) := by decide +kernel
theorem dL_law_1475 : decode cL_law 1475 = .ok (.if_icmp .eq 5, 3) := by decide +kernel
theorem dL_law_1478 : decode cL_law 1478 = .ok (.iconst 0, 1) := by decide +kernel
theorem dL_law_1479 : decode cL_law 1479 = .ok (.ireturn, 1) := by decide +kernel
theorem dL_law_1480 : decode cL_law 1480 = .ok (.iload 5, 2) := by decide +kernel
theorem dL_law_1482 : decode cL_law 1482 = .ok (.ifCond .ne 22, 3) := by decide +kernel
theorem dL_law_1485 : decode cL_law 1485 = .ok (.aload_n 3, 1) := by decide +kernel
theorem dL_law_1486 : decode cL_law 1486 = .ok (.iconst 0, 1) := by decide +kernel
theorem dL_law_1487 : decode cL_law 1487 = .ok (.laload, 1) := by decide +kernel
theorem dL_law_1488 : decode cL_law 1488 = .ok (.iload 6, 2) := by decide +kernel
theorem dL_law_1490 : decode cL_law 1490 = .ok (.ifCond .eq 7, 3) := by decide +kernel
theorem dL_law_1493 : decode cL_law 1493 = .ok (.lconst 1, 1) := by decide +kernel
theorem dL_law_1494 : decode cL_law 1494 = .ok (.goto 4, 3) := by decide +kernel
theorem dL_law_1497 : decode cL_law 1497 = .ok (.lconst 0, 1) := by decide +kernel
theorem dL_law_1498 : decode cL_law 1498 = .ok (.lcmp, 1) := by decide +kernel
theorem dL_law_1499 : decode cL_law 1499 = .ok (.ifCond .eq 5, 3) := by decide +kernel
theorem dL_law_1502 : decode cL_law 1502 = .ok (.iconst 0, 1) := by decide +kernel
theorem dL_law_1503 : decode cL_law 1503 = .ok (.ireturn, 1) := by decide +kernel
theorem dL_law_1504 : decode cL_law 1504 = .ok (.goto 155, 3) := by decide +kernel
theorem dL_law_1507 : decode cL_law 1507 = .ok (.aload_n 1, 1) := by decide +kernel
theorem dL_law_1508 : decode cL_law 1508 = .ok (.aload_n 0, 1) := by decide +kernel
theorem dL_law_1509 : decode cL_law 1509 = .ok (.iload 4, 2) := by decide +kernel
theorem dL_law_1511 : decode cL_law 1511 = .ok (.iconst 1, 1) := by decide +kernel
theorem dL_law_1512 : decode cL_law 1512 = .ok (.iadd, 1) := by decide +kernel
theorem dL_law_1513 : decode cL_law 1513 = .ok (.iaload, 1) := by decide +kernel
theorem dL_law_1514 : decode cL_law 1514 = .ok (.aload_n 3, 1) := by decide +kernel
theorem dL_law_1515 : decode cL_law 1515 = .ok (.invokestatic 185, 3) := by decide +kernel
theorem dL_law_1518 : decode cL_law 1518 = .ok (.istore 5, 2) := by decide +kernel
theorem dL_law_1520 : decode cL_law 1520 = .ok (.aload_n 2, 1) := by decide +kernel
theorem dL_law_1521 : decode cL_law 1521 = .ok (.aload_n 0, 1) := by decide +kernel
theorem dL_law_1522 : decode cL_law 1522 = .ok (.iload 4, 2) := by decide +kernel
theorem dL_law_1524 : decode cL_law 1524 = .ok (.iconst 1, 1) := by decide +kernel
theorem dL_law_1525 : decode cL_law 1525 = .ok (.iadd, 1) := by decide +kernel
theorem dL_law_1526 : decode cL_law 1526 = .ok (.iaload, 1) := by decide +kernel
theorem dL_law_1527 : decode cL_law 1527 = .ok (.invokevirtual 187, 3) := by decide +kernel
theorem dL_law_1530 : decode cL_law 1530 = .ok (.istore 6, 2) := by decide +kernel
theorem dL_law_1532 : decode cL_law 1532 = .ok (.aload_n 2, 1) := by decide +kernel
theorem dL_law_1533 : decode cL_law 1533 = .ok (.invokevirtual 104, 3) := by decide +kernel
theorem dL_law_1536 : decode cL_law 1536 = .ok (.iload 5, 2) := by decide +kernel
theorem dL_law_1538 : decode cL_law 1538 = .ok (.if_icmp .eq 5, 3) := by decide +kernel
theorem dL_law_1541 : decode cL_law 1541 = .ok (.iconst 0, 1) := by decide +kernel
theorem dL_law_1542 : decode cL_law 1542 = .ok (.ireturn, 1) := by decide +kernel
theorem dL_law_1543 : decode cL_law 1543 = .ok (.iload 5, 2) := by decide +kernel
theorem dL_law_1545 : decode cL_law 1545 = .ok (.ifCond .ne 22, 3) := by decide +kernel
theorem dL_law_1548 : decode cL_law 1548 = .ok (.aload_n 3, 1) := by decide +kernel
theorem dL_law_1549 : decode cL_law 1549 = .ok (.iconst 0, 1) := by decide +kernel
theorem dL_law_1550 : decode cL_law 1550 = .ok (.laload, 1) := by decide +kernel
theorem dL_law_1551 : decode cL_law 1551 = .ok (.iload 6, 2) := by decide +kernel
theorem dL_law_1553 : decode cL_law 1553 = .ok (.ifCond .eq 7, 3) := by decide +kernel
theorem dL_law_1556 : decode cL_law 1556 = .ok (.lconst 1, 1) := by decide +kernel
theorem dL_law_1557 : decode cL_law 1557 = .ok (.goto 4, 3) := by decide +kernel
theorem dL_law_1560 : decode cL_law 1560 = .ok (.lconst 0, 1) := by decide +kernel
theorem dL_law_1561 : decode cL_law 1561 = .ok (.lcmp, 1) := by decide +kernel
theorem dL_law_1562 : decode cL_law 1562 = .ok (.ifCond .eq 5, 3) := by decide +kernel
theorem dL_law_1565 : decode cL_law 1565 = .ok (.iconst 0, 1) := by decide +kernel
theorem dL_law_1566 : decode cL_law 1566 = .ok (.ireturn, 1) := by decide +kernel
theorem dL_law_1567 : decode cL_law 1567 = .ok (.goto 92, 3) := by decide +kernel
theorem dL_law_1570 : decode cL_law 1570 = .ok (.aload_n 1, 1) := by decide +kernel
theorem dL_law_1571 : decode cL_law 1571 = .ok (.aload_n 0, 1) := by decide +kernel
theorem dL_law_1572 : decode cL_law 1572 = .ok (.iload 4, 2) := by decide +kernel
theorem dL_law_1574 : decode cL_law 1574 = .ok (.iconst 1, 1) := by decide +kernel
theorem dL_law_1575 : decode cL_law 1575 = .ok (.iadd, 1) := by decide +kernel
theorem dL_law_1576 : decode cL_law 1576 = .ok (.iaload, 1) := by decide +kernel
theorem dL_law_1577 : decode cL_law 1577 = .ok (.aload_n 3, 1) := by decide +kernel
theorem dL_law_1578 : decode cL_law 1578 = .ok (.invokestatic 188, 3) := by decide +kernel
theorem dL_law_1581 : decode cL_law 1581 = .ok (.istore 5, 2) := by decide +kernel
theorem dL_law_1583 : decode cL_law 1583 = .ok (.aload_n 2, 1) := by decide +kernel
theorem dL_law_1584 : decode cL_law 1584 = .ok (.aload_n 0, 1) := by decide +kernel
theorem dL_law_1585 : decode cL_law 1585 = .ok (.iload 4, 2) := by decide +kernel
theorem dL_law_1587 : decode cL_law 1587 = .ok (.iconst 1, 1) := by decide +kernel
theorem dL_law_1588 : decode cL_law 1588 = .ok (.iadd, 1) := by decide +kernel
theorem dL_law_1589 : decode cL_law 1589 = .ok (.iaload, 1) := by decide +kernel
theorem dL_law_1590 : decode cL_law 1590 = .ok (.invokevirtual 190, 3) := by decide +kernel
theorem dL_law_1593 : decode cL_law 1593 = .ok (.istore 6, 2) := by decide +kernel
theorem dL_law_1595 : decode cL_law 1595 = .ok (.aload_n 2, 1) := by decide +kernel
theorem dL_law_1596 : decode cL_law 1596 = .ok (.invokevirtual 104, 3) := by decide +kernel
theorem dL_law_1599 : decode cL_law 1599 = .ok (.iload 5, 2) := by decide +kernel
theorem dL_law_1601 : decode cL_law 1601 = .ok (.if_icmp .eq 5, 3) := by decide +kernel
theorem dL_law_1604 : decode cL_law 1604 = .ok (.iconst 0, 1) := by decide +kernel
theorem dL_law_1605 : decode cL_law 1605 = .ok (.ireturn, 1) := by decide +kernel
theorem dL_law_1606 : decode cL_law 1606 = .ok (.iload 5, 2) := by decide +kernel
theorem dL_law_1608 : decode cL_law 1608 = .ok (.ifCond .ne 22, 3) := by decide +kernel
theorem dL_law_1611 : decode cL_law 1611 = .ok (.aload_n 3, 1) := by decide +kernel
theorem dL_law_1612 : decode cL_law 1612 = .ok (.iconst 0, 1) := by decide +kernel
theorem dL_law_1613 : decode cL_law 1613 = .ok (.laload, 1) := by decide +kernel
theorem dL_law_1614 : decode cL_law 1614 = .ok (.iload 6, 2) := by decide +kernel
theorem dL_law_1616 : decode cL_law 1616 = .ok (.ifCond .eq 7, 3) := by decide +kernel
theorem dL_law_1619 : decode cL_law 1619 = .ok (.lconst 1, 1) := by decide +kernel
theorem dL_law_1620 : decode cL_law 1620 = .ok (.goto 4, 3) := by decide +kernel
theorem dL_law_1623 : decode cL_law 1623 = .ok (.lconst 0, 1) := by decide +kernel
theorem dL_law_1624 : decode cL_law 1624 = .ok (.lcmp, 1) := by decide +kernel
theorem dL_law_1625 : decode cL_law 1625 = .ok (.ifCond .eq 5, 3) := by decide +kernel
theorem dL_law_1628 : decode cL_law 1628 = .ok (.iconst 0, 1) := by decide +kernel
theorem dL_law_1629 : decode cL_law 1629 = .ok (.ireturn, 1) := by decide +kernel
theorem dL_law_1630 : decode cL_law 1630 = .ok (.goto 29, 3) := by decide +kernel
theorem dL_law_1633 : decode cL_law 1633 = .ok (.aload_n 1, 1) := by decide +kernel
theorem dL_law_1634 : decode cL_law 1634 = .ok (.invokevirtual 191, 3) := by decide +kernel
theorem dL_law_1637 : decode cL_law 1637 = .ok (.aload_n 2, 1) := by decide +kernel
theorem dL_law_1638 : decode cL_law 1638 = .ok (.invokevirtual 194, 3) := by decide +kernel
theorem dL_law_1641 : decode cL_law 1641 = .ok (.if_icmp .eq 18, 3) := by decide +kernel
theorem dL_law_1644 : decode cL_law 1644 = .ok (.iconst 0, 1) := by decide +kernel
theorem dL_law_1645 : decode cL_law 1645 = .ok (.ireturn, 1) := by decide +kernel
theorem dL_law_1646 : decode cL_law 1646 = .ok (.aload_n 1, 1) := by decide +kernel
theorem dL_law_1647 : decode cL_law 1647 = .ok (.invokevirtual 195, 3) := by decide +kernel
theorem dL_law_1650 : decode cL_law 1650 = .ok (.aload_n 2, 1) := by decide +kernel
theorem dL_law_1651 : decode cL_law 1651 = .ok (.invokevirtual 198, 3) := by decide +kernel
theorem dL_law_1654 : decode cL_law 1654 = .ok (.if_icmp .eq 5, 3) := by decide +kernel
theorem dL_law_1657 : decode cL_law 1657 = .ok (.iconst 0, 1) := by decide +kernel
theorem dL_law_1658 : decode cL_law 1658 = .ok (.ireturn, 1) := by decide +kernel
theorem dL_law_1659 : decode cL_law 1659 = .ok (.iinc 4 5, 3) := by decide +kernel
theorem dL_law_1662 : decode cL_law 1662 = .ok (.goto (-1639), 3) := by decide +kernel
theorem dL_law_1665 : decode cL_law 1665 = .ok (.iconst 1, 1) := by decide +kernel
theorem dL_law_1666 : decode cL_law 1666 = .ok (.ireturn, 1) := by decide +kernel
end
section
/-! Base: what every part of this claim stands on. Rows over the kit's own; the world of the system; what the tables and the statics give (Env). -/
section VZ
variable {p : Program} {l : Launch} {e : Env} {R : Room} {s : State} {m : MethodId} {args : Array Value} {below : List Frame} {meth : Method} {c : Code} {H : Heap} {locs : List Loc} {cells slots : Nat} {Q : State → Prop}
variable {cc : ByteArray} {pc : Nat} {ls : Array Slot} {rest : List Value} {D : va_G} {cl : List vw_C} {A : Nat → Prop} {a : Nat} {tys : List (ClassId × FieldType)} {ws : va_W} {H0 : Heap}
/-- a place that several ways come to: P says what holds there -/
theorem vz_cut {g : JFrame} (P : Heap → List Loc → JFrame → Prop) (h0 : (∀ H1 l1 g1, P H1 l1 g1 → W p l e R s m args below meth c H1 l1 cells slots Q g1) → W p l e R s m args below meth c H locs cells slots Q g)
    (h1 : ∀ H1 l1 g1, P H1 l1 g1 → W p l e R s m args below meth c H1 l1 cells slots Q g1) : W p l e R s m args below meth c H locs cells slots Q g := h0 h1
/-- the number on top, said otherwise -/
theorem lv_is {x : Int32} (y : Int32) (h : x = y) (k : W p l e R s m args below meth c H locs cells slots Q (F0 m pc ls (.int y :: rest))) : W p l e R s m args below meth c H locs cells slots Q (F0 m pc ls (.int x :: rest)) := by
  subst h; exact k
theorem vz_iald (hexec : p.tables.exec = Jvm.exec) (hb : c.code = cc) (hK : va_K D cl tys s) (hP : va_P D cl ws H) (q0 t0 : Nat) {cA : ClassId} {n : Nat} {f : Nat → Int32} (ha : ws[q0]? = some (a, .inl (cA, n, .inl f))) (ht : tys[t0]? = some (cA, .int)) (k : Nat) (hk : k < n) (hn : n < 2 ^ 31) (hdg : decode cc pc = .ok (.iaload, 1))
    (kk : W p l e R s m args below meth c H locs cells slots Q (F0 m (pc + 1) ls (.int (f k) :: rest))) : W p l e R s m args below meth c H locs cells slots Q (F0 m pc ls (.int (nI k) :: .ref a :: rest)) :=
  va_iald hexec hb hK hP q0 t0 ha ht (vp_in_nI hk hn) hdg (by rw [nI_clamp (Nat.lt_trans hk hn)]; exact kk)
theorem vz_cald (hexec : p.tables.exec = Jvm.exec) (hb : c.code = cc) (hK : va_K D cl tys s) (hP : va_P D cl ws H) (q0 t0 : Nat) {cA : ClassId} {n : Nat} {f : Nat → Int32} (ha : ws[q0]? = some (a, .inl (cA, n, .inl f))) (ht : tys[t0]? = some (cA, .char)) (k : Nat) (hk : k < n) (hn : n < 2 ^ 31) (hdg : decode cc pc = .ok (.caload, 1))
    (kk : W p l e R s m args below meth c H locs cells slots Q (F0 m (pc + 1) ls (.int (f k) :: rest))) : W p l e R s m args below meth c H locs cells slots Q (F0 m pc ls (.int (nI k) :: .ref a :: rest)) :=
  va_cald hexec hb hK hP q0 t0 ha ht (vp_in_nI hk hn) hdg (by rw [nI_clamp (Nat.lt_trans hk hn)]; exact kk)
theorem vz_iast (hexec : p.tables.exec = Jvm.exec) (hb : c.code = cc) (hK : va_K D cl tys s) (hP : va_P D cl ws H) (hD : va_D A ws) (hS : va_S A H0 H locs) (q0 t0 : Nat) {cA : ClassId} {n : Nat} {f : Nat → Int32} (ha : ws[q0]? = some (a, .inl (cA, n, .inl f))) (ht : tys[t0]? = some (cA, .int)) {x : Int32} (k : Nat) (hk : k < n) (hn : n < 2 ^ 31) (hdg : decode cc pc = .ok (.iastore, 1))
    (kk : ∀ (H1 : Heap) (locs1 : List Loc), va_P D cl (ws.set q0 (a, .inl (cA, n, .inl (upd f k x)))) H1 → va_D A (ws.set q0 (a, .inl (cA, n, .inl (upd f k x)))) → va_S A H0 H1 locs1 → W p l e R s m args below meth c H1 locs1 cells slots Q (F0 m (pc + 1) ls rest)) : W p l e R s m args below meth c H locs cells slots Q (F0 m pc ls (.int x :: .int (nI k) :: .ref a :: rest)) :=
  va_iast hexec hb hK hP hD hS q0 t0 ha ht (vp_in_nI hk hn) hdg (by rw [nI_clamp (Nat.lt_trans hk hn)]; exact kk)
theorem vz_cast (hexec : p.tables.exec = Jvm.exec) (hb : c.code = cc) (hK : va_K D cl tys s) (hP : va_P D cl ws H) (hD : va_D A ws) (hS : va_S A H0 H locs) (q0 t0 : Nat) {cA : ClassId} {n : Nat} {f : Nat → Int32} (ha : ws[q0]? = some (a, .inl (cA, n, .inl f))) (ht : tys[t0]? = some (cA, .char)) {x : Int32} (hx : vp_nar .char x = x) (k : Nat) (hk : k < n) (hn : n < 2 ^ 31) (hdg : decode cc pc = .ok (.castore, 1))
    (kk : ∀ (H1 : Heap) (locs1 : List Loc), va_P D cl (ws.set q0 (a, .inl (cA, n, .inl (upd f k x)))) H1 → va_D A (ws.set q0 (a, .inl (cA, n, .inl (upd f k x)))) → va_S A H0 H1 locs1 → W p l e R s m args below meth c H1 locs1 cells slots Q (F0 m (pc + 1) ls rest)) : W p l e R s m args below meth c H locs cells slots Q (F0 m pc ls (.int x :: .int (nI k) :: .ref a :: rest)) :=
  va_cast hexec hb hK hP hD hS q0 t0 ha ht (vp_in_nI hk hn) hdg (by rw [nI_clamp (Nat.lt_trans hk hn), hx]; exact kk)
theorem vz_ti (hexec : p.tables.exec = Jvm.exec) (hb : c.code = cc) {t N : Nat} {f : Nat → Int32} (hT : va_T .int t N (fun j => .int (f j)) A s s.heap) (hS : va_S A s.heap H locs) (k : Nat) (hk : k < N) (hn : N < 2 ^ 31) (hdg : decode cc pc = .ok (.iaload, 1))
    (kk : W p l e R s m args below meth c H locs cells slots Q (F0 m (pc + 1) ls (.int (f k) :: rest))) : W p l e R s m args below meth c H locs cells slots Q (F0 m pc ls (.int (nI k) :: .ref t :: rest)) :=
  va_ti hexec hb hT hS (vp_in_nI hk hn) (v := .int (f k)) (by rw [nI_clamp (Nat.lt_trans hk hn)]) hdg kk
end VZ
/-- a loop that counts: n steps, from i on -/
def lp {σ : Type} (f : Nat → σ → σ) : Nat → Nat → σ → σ
  | 0, _, a => a
  | n + 1, i, a => lp f n (i + 1) (f i a)
/-- the tables of a, b, c and d -/
def VT : Nat → Int32 := fun k => match k with | 0 => 43690 | 1 => 52428 | 2 => 61680 | _ => 65280
/-- what the tables and the statics say, of a method that writes in A alone -/
def envN (U : State) : Prop := va_Nw (.methodLinkNest RX1 171 yX0_productsRead RX1) U ∧ va_Nw (.methodLinkNest RX1 36 yX0_init RX1) U ∧ va_Nw (.methodLinkNest RX1 99 yX0_firstError RX1) U ∧ va_Nw (.methodLinkNest RX0 39 yX1_bit RX1) U
def envC (U : State) : Prop := va_Nw (.castable "java/lang/IndexOutOfBoundsException" "java/lang/IndexOutOfBoundsException") U ∧ va_Nw (.castable "java/lang/IllegalStateException" "java/lang/IllegalStateException") U ∧ va_Nw (.castable "java/lang/IllegalArgumentException" "java/lang/IllegalArgumentException") U ∧ va_Nc "java/lang/IllegalStateException" "java/lang/IndexOutOfBoundsException" U ∧ va_Nc "java/lang/IllegalArgumentException" "java/lang/IndexOutOfBoundsException" U
def envS (U : State) : Prop := (∃ a, vk_R RX1 76 "table is out of range" a U) ∧ (∃ a, vk_R RX1 81 "there is no such way" a U) ∧ (∃ a, vk_R RX1 96 "the text is full" a U) ∧ (∃ a, vk_R RX1 103 "no state is recorded" a U) ∧ (∃ a, vk_R RX1 114 "there is no snapshot" a U) ∧ (∃ a, vk_R RX1 118 "there is no such point" a U) ∧ (∃ a, vk_R RX1 134 "there is no such letter" a U) ∧ (∃ a, vk_R RX1 160 "functions is out of range" a U) ∧ (∃ a, vk_R RX1 165 "there is no such function" a U) ∧ (∃ a, vk_R RX1 167 "there is no such variable" a U) ∧ (∃ a, vk_R RX1 169 "the text is not valid" a U)
def envT (A : Nat → Prop) (U : State) (H : Heap) : Prop := ∃ vt : Nat, va_Z RX1 "VARIABLE_TABLES" "[I" (.ref vt) A U H ∧ va_T .int vt 4 (fun j => .int (VT j)) A U H
def envZ (A : Nat → Prop) (U : State) (H : Heap) : Prop := vx_Zq Bundle.tN "UNASSIGNED_STACK" Bundle.steD A U H ∧ vx_Zq Bundle.tN "SUPPRESSED_SENTINEL" Bundle.listD A U H
def envE (A : Nat → Prop) (U : State) : Prop := envN U ∧ envC U ∧ envS U ∧ envT A U U.heap ∧ envZ A U U.heap
theorem envN.warm {s U : State} (hW : s.WarmedH U.vm) (h : envN s) : envN U := ⟨va_Nw.warmM hW h.1, va_Nw.warmM hW h.2.1, va_Nw.warmM hW h.2.2.1, va_Nw.warmM hW h.2.2.2⟩
theorem envC.warm {s U : State} (hW : s.WarmedH U.vm) (h : envC s) : envC U := ⟨va_Nw.warmC hW h.1, va_Nw.warmC hW h.2.1, va_Nw.warmC hW h.2.2.1, va_Nc.moved hW.alike h.2.2.2.1, va_Nc.moved hW.alike h.2.2.2.2⟩
theorem vk_R.ex {own tx : String} {k : Nat} {s U : State} (hW : s.WarmedH U.vm) (h : ∃ a, vk_R own k tx a s) : ∃ a, vk_R own k tx a U := by
  obtain ⟨a, h⟩ := h
  exact ⟨a, vk_R.warm hW h⟩
theorem envS.warm {s U : State} (hW : s.WarmedH U.vm) (h : envS s) : envS U := by
  obtain ⟨h0, h1, h2, h3, h4, h5, h6, h7, h8, h9, h10⟩ := h
  exact ⟨vk_R.ex hW h0, vk_R.ex hW h1, vk_R.ex hW h2, vk_R.ex hW h3, vk_R.ex hW h4, vk_R.ex hW h5, vk_R.ex hW h6, vk_R.ex hW h7, vk_R.ex hW h8, vk_R.ex hW h9, vk_R.ex hW h10⟩
/-- at a call: the callee's state, its own part B of what may be written -/
theorem envE.at {A B : Nat → Prop} {s U : State} {H : Heap} {locs : List Loc} (h : envE A s) (hS : va_S A s.heap H locs) (hU : U.heap = H) (hW : s.WarmedH U.vm) (hB : ∀ q, B q → A q) : envE B U := by
  obtain ⟨h1, h2, h3, ⟨vt, h4, h5⟩, h6, h7⟩ := h
  refine ⟨h1.warm hW, h2.warm hW, h3.warm hW, ⟨vt, ?_, ?_⟩, ?_, ?_⟩
  · rw [hU]; exact va_Z.moved hW.alike ((h4.kept hS.2.1).narrow hB)
  · rw [hU]; exact va_T.moved hW.alike ((h5.kept hS.2.1).narrow hB)
  · rw [hU]; exact vx_Zq.moved hW.alike ((h6.kept hS.2.1).narrow hB)
  · rw [hU]; exact vx_Zq.moved hW.alike ((h7.kept hS.2.1).narrow hB)
/-- a read-only method's -/
abbrev env0 (U : State) : Prop := envE (fun _ => False) U
theorem envE.at0 {A : Nat → Prop} {s U : State} {H : Heap} {locs : List Loc} (h : envE A s) (hS : va_S A s.heap H locs) (hU : U.heap = H) (hW : s.WarmedH U.vm) : env0 U := h.at hS hU hW (fun _ z => z.elim)
theorem envE.blind {A : Nat → Prop} {U : State} (g : JFrame) (mk : MethodId) (a : Array Value) (h : envE A U) : envE A (U.calling g mk a) := h.at (H := U.heap) (locs := []) va_S.rf rfl (State.WarmedH.refl U) (fun _ z => z)
end
section
theorem nar_b {x : Int32} (h : x = 0 ∨ x = 1) : narrow .boolean (.int x) = .int x := by rcases h with rfl | rfl <;> rfl
theorem tbl_out3 {x : Int32} (h0 : ¬ x = 0) (h1 : ¬ x = 1) (h2 : ¬ x = 2) : x.toInt < 0 ∨ 2 < x.toInt := by
  rcases Int.lt_or_le x.toInt 0 with a | a
  · exact Or.inl a
  · rcases Int.lt_or_le 2 x.toInt with b | b
    · exact Or.inr b
    · exfalso
      have h : x.toInt = 0 ∨ x.toInt = 1 ∨ x.toInt = 2 := by omega
      rcases h with h | h | h
      · exact h0 (Int32.toInt_inj.mp (by rw [h]; rfl))
      · exact h1 (Int32.toInt_inj.mp (by rw [h]; rfl))
      · exact h2 (Int32.toInt_inj.mp (by rw [h]; rfl))
/-- 0 or 1, all along a loop -/
theorem lp_b {f : Nat → Int32 → Int32} (h : ∀ i a, (a = 0 ∨ a = 1) → (f i a = 0 ∨ f i a = 1)) : ∀ (n i : Nat) (a : Int32), (a = 0 ∨ a = 1) → (lp f n i a = 0 ∨ lp f n i a = 1)
  | 0, _, _, ha => ha
  | n + 1, i, a, ha => lp_b h n (i + 1) _ (h i a ha)
def fX1_bit (t : Int32) (b : Int32) : Int32 := ((t >>> (b &&& 31)) &&& 1)
set_option maxHeartbeats 4000000 in
set_option maxRecDepth 100000 in
theorem c_X1_bit (l : Launch) (t : Int32) (b : Int32) : Met l yX1_bit wsX1_bit ({ frames := 0, cells := 0, slots := 0, locals := 0 }) (va_Pc [.int t, .int b] (fun _ => True)) (vp_Si (fun r => r = (fX1_bit t b))) 0 0 (fun _ => False) := by
  refine Met.ofW (cc := cX1_bit) (maxL := 2) (ret := (some .int)) (by decide) rfl ?_
  intro p e s m args below meth c s₁ B hml hv
  obtain ⟨rfl, -⟩ := hv
  have hx := B.exec
  have hb := B.bytes
  have hr := B.returns
  have hts := atoms_spec (ws := wsX1_bit) B.pre
  have hown : s.vm.findClass RX1 = some m.cls := findClass_of_methodNamed B.named
  have hlocks := B.notSynchronized
  have hS : va_S (fun _ => False) s.heap s.heap [] := va_S.rf
  have hl := lv_entry ([.int t, .int b]) (n := 2) (Nat.le_of_ble_eq_true rfl)
  rw [lg_entry_eq]
  generalize (lg_sl ([.int t, .int b]) ++ List.replicate (2 - (lg_sl ([.int t, .int b])).length) Slot.unset).toArray = ls at hl ⊢
  have hl : lv_has ls 2 [(0, .int t), (1, .int b)] := hl
  refine lv_iload_n hx hb dX1_bit_0 rfl (lv_at hl 0 rfl) ?_
  refine lv_iload_n hx hb dX1_bit_1 rfl (lv_at hl 1 rfl) ?_
  refine lv_ishr hx hb dX1_bit_2 ?_
  refine lv_iconst (v := 1) hx hb dX1_bit_3 (by decide) ?_
  refine lv_iand hx hb dX1_bit_4 ?_
  exact W.iret (v := ((t >>> (b &&& 31)) &&& 1)) hx hb hr (fun t9 ht hW => ⟨((t >>> (b &&& 31)) &&& 1), rfl, (by first | ((rw [fX1_bit]); first | done | rfl) | rfl), ht⟩) (fun q h => nomatch h) dX1_bit_5
def fX1_joinTables (t : Int32) (u : Int32) (w : Int32) : Int32 := if w = 0 then (t ^^^ u) else (if w = 1 then (t &&& u) else (if w = 2 then (t ||| u) else (((t ^^^ (-1)) &&& 65535) ||| u)))
set_option maxHeartbeats 4000000 in
set_option maxRecDepth 100000 in
theorem c_X1_joinTables (l : Launch) (t : Int32) (u : Int32) (w : Int32) : Met l yX1_joinTables wsX1_joinTables ({ frames := 0, cells := 0, slots := 0, locals := 0 }) (va_Pc [.int t, .int u, .int w] (fun _ => True)) (vp_Si (fun r => r = (fX1_joinTables t u w))) 0 0 (fun _ => False) := by
  refine Met.ofW (cc := cX1_joinTables) (maxL := 3) (ret := (some .int)) (by decide) rfl ?_
  intro p e s m args below meth c s₁ B hml hv
  obtain ⟨rfl, -⟩ := hv
  have hx := B.exec
  have hb := B.bytes
  have hr := B.returns
  have hts := atoms_spec (ws := wsX1_joinTables) B.pre
  have hown : s.vm.findClass RX1 = some m.cls := findClass_of_methodNamed B.named
  have hlocks := B.notSynchronized
  have hS : va_S (fun _ => False) s.heap s.heap [] := va_S.rf
  have hl := lv_entry ([.int t, .int u, .int w]) (n := 3) (Nat.le_of_ble_eq_true rfl)
  rw [lg_entry_eq]
  generalize (lg_sl ([.int t, .int u, .int w]) ++ List.replicate (3 - (lg_sl ([.int t, .int u, .int w])).length) Slot.unset).toArray = ls at hl ⊢
  have hl : lv_has ls 3 [(0, .int t), (1, .int u), (2, .int w)] := hl
  refine lv_iload_n hx hb dX1_joinTables_0 rfl (lv_at hl 2 rfl) ?_
  by_cases c_1 : w = 0
  · rw [c_1]
    refine lv_tableIn (tgt := 28) hx hb dX1_joinTables_1 (by decide) (by decide) (show _ = some _ from rfl) (by decide) ?_
    refine lv_iload_n hx hb dX1_joinTables_28 rfl (lv_at hl 0 rfl) ?_
    refine lv_iload_n hx hb dX1_joinTables_29 rfl (lv_at hl 1 rfl) ?_
    refine lv_ixor hx hb dX1_joinTables_30 ?_
    exact W.iret (v := (t ^^^ u)) hx hb hr (fun t9 ht hW => ⟨(t ^^^ u), rfl, (by first | ((rw [fX1_joinTables, if_pos c_1]); first | done | rfl) | rfl), ht⟩) (fun q h => nomatch h) dX1_joinTables_31
  by_cases c_2 : w = 1
  · rw [c_2]
    refine lv_tableIn (tgt := 32) hx hb dX1_joinTables_1 (by decide) (by decide) (show _ = some _ from rfl) (by decide) ?_
    refine lv_iload_n hx hb dX1_joinTables_32 rfl (lv_at hl 0 rfl) ?_
    refine lv_iload_n hx hb dX1_joinTables_33 rfl (lv_at hl 1 rfl) ?_
    refine lv_iand hx hb dX1_joinTables_34 ?_
    exact W.iret (v := (t &&& u)) hx hb hr (fun t9 ht hW => ⟨(t &&& u), rfl, (by first | ((rw [fX1_joinTables, if_neg c_1, if_pos c_2]); first | done | rfl) | rfl), ht⟩) (fun q h => nomatch h) dX1_joinTables_35
  by_cases c_3 : w = 2
  · rw [c_3]
    refine lv_tableIn (tgt := 36) hx hb dX1_joinTables_1 (by decide) (by decide) (show _ = some _ from rfl) (by decide) ?_
    refine lv_iload_n hx hb dX1_joinTables_36 rfl (lv_at hl 0 rfl) ?_
    refine lv_iload_n hx hb dX1_joinTables_37 rfl (lv_at hl 1 rfl) ?_
    refine lv_ior hx hb dX1_joinTables_38 ?_
    exact W.iret (v := (t ||| u)) hx hb hr (fun t9 ht hW => ⟨(t ||| u), rfl, (by first | ((rw [fX1_joinTables, if_neg c_1, if_neg c_2, if_pos c_3]); first | done | rfl) | rfl), ht⟩) (fun q h => nomatch h) dX1_joinTables_39
  refine lv_tableOut (tgt := 40) hx hb dX1_joinTables_1 (tbl_out3 c_1 c_2 c_3) (by decide) ?_
  refine lv_iload_n hx hb dX1_joinTables_40 rfl (lv_at hl 0 rfl) ?_
  refine lv_iconst (v := (-1)) hx hb dX1_joinTables_41 (by decide) ?_
  refine lv_ixor hx hb dX1_joinTables_42 ?_
  refine lv_ldc (v := 65535) hx hb hown (hts (.constant RX1 53 (65535)) (List.mem_of_getElem? (i := 1) rfl)) dX1_joinTables_43 ?_
  refine lv_iand hx hb dX1_joinTables_45 ?_
  refine lv_iload_n hx hb dX1_joinTables_46 rfl (lv_at hl 1 rfl) ?_
  refine lv_ior hx hb dX1_joinTables_47 ?_
  exact W.iret (v := (((t ^^^ (-1)) &&& 65535) ||| u)) hx hb hr (fun t9 ht hW => ⟨(((t ^^^ (-1)) &&& 65535) ||| u), rfl, (by first | ((rw [fX1_joinTables, if_neg c_1, if_neg c_2, if_neg c_3]); first | done | rfl) | rfl), ht⟩) (fun q h => nomatch h) dX1_joinTables_48
def fX1_half (t : Int32) (v : Int32) (b : Int32) : Int32 := if b = 0 then ((t &&& ((VT v.toNatClampNeg) ^^^ (-1))) ||| ((t &&& ((VT v.toNatClampNeg) ^^^ (-1))) <<< (((1 : Int32) <<< (v &&& 31)) &&& 31))) else ((t &&& (VT v.toNatClampNeg)) ||| ((t &&& (VT v.toNatClampNeg)) >>> (((1 : Int32) <<< (v &&& 31)) &&& 31)))
set_option maxHeartbeats 4000000 in
set_option maxRecDepth 100000 in
theorem c_X1_half (l : Launch) (t : Int32) (v : Int32) (b : Int32) (hv : vp_in v 4) : Met l yX1_half wsX1_half ({ frames := 0, cells := 0, slots := 0, locals := 0 }) (va_Pc [.int t, .int v, .int b] (fun U => env0 U)) (vp_Si (fun r => r = (fX1_half t v b))) 0 0 (fun _ => False) := by
  refine Met.ofW (cc := cX1_half) (maxL := 5) (ret := (some .int)) (by decide) rfl ?_
  intro p e s m args below meth c s₁ B hml hv
  obtain ⟨rfl, hE⟩ := hv
  have hx := B.exec
  have hb := B.bytes
  have hr := B.returns
  have hts := atoms_spec (ws := wsX1_half) B.pre
  have hown : s.vm.findClass RX1 = some m.cls := findClass_of_methodNamed B.named
  have hlocks := B.notSynchronized
  have hS : va_S (fun _ => False) s.heap s.heap [] := va_S.rf
  obtain ⟨vt, hZ, hT⟩ := hE.2.2.2.1
  have hl := lv_entry ([.int t, .int v, .int b]) (n := 5) (Nat.le_of_ble_eq_true rfl)
  rw [lg_entry_eq]
  generalize (lg_sl ([.int t, .int v, .int b]) ++ List.replicate (5 - (lg_sl ([.int t, .int v, .int b])).length) Slot.unset).toArray = ls at hl ⊢
  have hl : lv_has ls 5 [(0, .int t), (1, .int v), (2, .int b)] := hl
  refine lv_iconst (v := 1) hx hb dX1_half_0 (by decide) ?_
  refine lv_iload_n hx hb dX1_half_1 rfl (lv_at hl 1 rfl) ?_
  refine lv_ishl hx hb dX1_half_2 ?_
  refine lv_istore_n (lv' := [(3, .int ((1 : Int32) <<< (v &&& 31))), (0, .int t), (1, .int v), (2, .int b)]) hx hb dX1_half_3 rfl hl (by decide) rfl (fun ls hl => ?_)
  refine lv_iload_n hx hb dX1_half_4 rfl (lv_at hl 3 rfl) ?_
  refine lv_if_eq (tgt := 25) hx hb dX1_half_5 (by decide) (fun c_1 => ?_) (fun c_1 => ?_)
  · refine lv_iload_n hx hb dX1_half_25 rfl (lv_at hl 1 rfl) ?_
    refine va_gets (v := .ref vt) hx hb hZ hS hown (hts (.fieldLink RX1 50 "ZhegalkinBench" "VARIABLE_TABLES" "[I") (List.mem_of_getElem? (i := 1) rfl)) (fun _ h9 => h9) dX1_half_26 ?_
    refine lv_iload_n hx hb dX1_half_29 rfl (lv_at hl 2 rfl) ?_
    refine va_ti hx hb hT hS hv rfl dX1_half_30 ?_
    refine lv_iconst (v := (-1)) hx hb dX1_half_31 (by decide) ?_
    refine lv_ixor hx hb dX1_half_32 ?_
    refine lv_iand hx hb dX1_half_33 ?_
    refine lv_istore (lv' := [(4, .int (t &&& ((VT v.toNatClampNeg) ^^^ (-1)))), (3, .int ((1 : Int32) <<< (v &&& 31))), (0, .int t), (1, .int v), (2, .int b)]) hx hb dX1_half_34 hl (by decide) rfl (fun ls hl => ?_)
    refine lv_iload hx hb dX1_half_36 (lv_at hl 0 rfl) ?_
    refine lv_iload hx hb dX1_half_38 (lv_at hl 0 rfl) ?_
    refine lv_iload_n hx hb dX1_half_40 rfl (lv_at hl 1 rfl) ?_
    refine lv_ishl hx hb dX1_half_41 ?_
    refine lv_ior hx hb dX1_half_42 ?_
    exact W.iret (v := ((t &&& ((VT v.toNatClampNeg) ^^^ (-1))) ||| ((t &&& ((VT v.toNatClampNeg) ^^^ (-1))) <<< (((1 : Int32) <<< (v &&& 31)) &&& 31)))) hx hb hr (fun t9 ht hW => ⟨((t &&& ((VT v.toNatClampNeg) ^^^ (-1))) ||| ((t &&& ((VT v.toNatClampNeg) ^^^ (-1))) <<< (((1 : Int32) <<< (v &&& 31)) &&& 31))), rfl, (by first | ((rw [fX1_half, if_pos c_1]); first | done | rfl) | rfl), ht⟩) (fun q h => nomatch h) dX1_half_43
  · refine lv_iload_n hx hb dX1_half_8 rfl (lv_at hl 1 rfl) ?_
    refine va_gets (v := .ref vt) hx hb hZ hS hown (hts (.fieldLink RX1 50 "ZhegalkinBench" "VARIABLE_TABLES" "[I") (List.mem_of_getElem? (i := 1) rfl)) (fun _ h9 => h9) dX1_half_9 ?_
    refine lv_iload_n hx hb dX1_half_12 rfl (lv_at hl 2 rfl) ?_
    refine va_ti hx hb hT hS hv rfl dX1_half_13 ?_
    refine lv_iand hx hb dX1_half_14 ?_
    refine lv_istore (lv' := [(4, .int (t &&& (VT v.toNatClampNeg))), (3, .int ((1 : Int32) <<< (v &&& 31))), (0, .int t), (1, .int v), (2, .int b)]) hx hb dX1_half_15 hl (by decide) rfl (fun ls hl => ?_)
    refine lv_iload hx hb dX1_half_17 (lv_at hl 0 rfl) ?_
    refine lv_iload hx hb dX1_half_19 (lv_at hl 0 rfl) ?_
    refine lv_iload_n hx hb dX1_half_21 rfl (lv_at hl 1 rfl) ?_
    refine lv_ishr hx hb dX1_half_22 ?_
    refine lv_ior hx hb dX1_half_23 ?_
    exact W.iret (v := ((t &&& (VT v.toNatClampNeg)) ||| ((t &&& (VT v.toNatClampNeg)) >>> (((1 : Int32) <<< (v &&& 31)) &&& 31)))) hx hb hr (fun t9 ht hW => ⟨((t &&& (VT v.toNatClampNeg)) ||| ((t &&& (VT v.toNatClampNeg)) >>> (((1 : Int32) <<< (v &&& 31)) &&& 31))), rfl, (by first | ((rw [fX1_half, if_neg c_1]); first | done | rfl) | rfl), ht⟩) (fun q h => nomatch h) dX1_half_24
def sX1_addHalves_4 (i1 : Nat) (a1 : Int32) : Int32 := (a1 ^^^ ((a1 &&& ((VT i1) ^^^ (-1))) <<< (((1 : Int32) <<< ((nI i1) &&& 31)) &&& 31)))
def fX1_addHalves (t : Int32) : Int32 := (lp sX1_addHalves_4 4 0 t)
set_option maxHeartbeats 4000000 in
set_option maxRecDepth 100000 in
theorem c_X1_addHalves (l : Launch) (t : Int32) : Met l yX1_addHalves wsX1_addHalves ({ frames := 0, cells := 0, slots := 0, locals := 0 }) (va_Pc [.int t] (fun U => env0 U)) (vp_Si (fun r => r = (fX1_addHalves t))) 0 0 (fun _ => False) := by
  refine Met.ofW (cc := cX1_addHalves) (maxL := 4) (ret := (some .int)) (by decide) rfl ?_
  intro p e s m args below meth c s₁ B hml hv
  obtain ⟨rfl, hE⟩ := hv
  have hx := B.exec
  have hb := B.bytes
  have hr := B.returns
  have hts := atoms_spec (ws := wsX1_addHalves) B.pre
  have hown : s.vm.findClass RX1 = some m.cls := findClass_of_methodNamed B.named
  have hlocks := B.notSynchronized
  have hS : va_S (fun _ => False) s.heap s.heap [] := va_S.rf
  obtain ⟨vt, hZ, hT⟩ := hE.2.2.2.1
  have hl := lv_entry ([.int t]) (n := 4) (Nat.le_of_ble_eq_true rfl)
  rw [lg_entry_eq]
  generalize (lg_sl ([.int t]) ++ List.replicate (4 - (lg_sl ([.int t])).length) Slot.unset).toArray = ls at hl ⊢
  have hl : lv_has ls 4 [(0, .int t)] := hl
  refine lv_iload_n hx hb dX1_addHalves_0 rfl (lv_at hl 0 rfl) ?_
  refine lv_istore_n (lv' := [(1, .int t), (0, .int t)]) hx hb dX1_addHalves_1 rfl hl (by decide) rfl (fun ls hl => ?_)
  refine lv_iconst (v := 0) hx hb dX1_addHalves_2 (by decide) ?_
  refine lv_istore_n (lv' := [(2, .int 0), (1, .int t), (0, .int t)]) hx hb dX1_addHalves_3 rfl hl (by decide) rfl (fun ls hl => ?_)
  obtain ⟨F1, hF1⟩ : ∃ z, z = (lp sX1_addHalves_4 4 0 t) := ⟨_, rfl⟩
  refine vz_cut (fun H1 l1 g1 => ∃ (n1 i1 : Nat) (a1 : Int32) (ls : Array Slot), i1 + n1 = 4 ∧ lp sX1_addHalves_4 n1 i1 a1 = F1 ∧ lv_has ls 4 [(2, .int (nI i1)), (1, .int a1), (0, .int t)] ∧ (s.heap = H1 ∧ [] = l1) ∧ g1 = F0 m 4 ls []) (fun hj => hj _ _ _ ⟨4, 0, t, ls, (by omega), hF1.symm, lv_sub hl [0, 1, 2] rfl, ⟨rfl, rfl⟩, rfl⟩) ?_
  rintro H1 l1 g1 ⟨n1, i1, a1, ls, hi1, hf1, hl, ⟨rfl, rfl⟩, rfl⟩
  revert i1 a1 ls
  induction n1 with
  | zero =>
    intro i1 a1 ls hi1 hf1 hl
    obtain rfl : i1 = 4 := by omega
    have hf1 : F1 = a1 := hf1.symm
    subst hf1
    refine lv_iload_n hx hb dX1_addHalves_4 rfl (lv_at hl 0 rfl) ?_
    refine lv_iconst (v := 4) hx hb dX1_addHalves_5 (by decide) ?_
    refine lv_icmp_ge (tgt := 33) hx hb dX1_addHalves_6 (by decide) (fun c_1 => ?_) (fun c_1 => ?_)
    · refine lv_iload_n hx hb dX1_addHalves_33 rfl (lv_at hl 1 rfl) ?_
      exact W.iret (v := F1) hx hb hr (fun t9 ht hW => ⟨F1, rfl, (by first | ((rw [fX1_addHalves]); (try rw [← hF1]); first | done | rfl) | rfl), ht⟩) (fun q h => nomatch h) dX1_addHalves_34
    · exact absurd (nI_le (a := 4) (b := 4) (by omega) (by omega)) c_1
  | succ n1 ih1 =>
    intro i1 a1 ls hi1 hf1 hl
    refine lv_iload_n hx hb dX1_addHalves_4 rfl (lv_at hl 0 rfl) ?_
    refine lv_iconst (v := 4) hx hb dX1_addHalves_5 (by decide) ?_
    refine lv_icmp_ge (tgt := 33) hx hb dX1_addHalves_6 (by decide) (fun c_2 => ?_) (fun c_2 => ?_)
    · exact absurd c_2 (nI_ge (a := i1) (b := 4) (by omega) (by omega))
    · refine lv_iload_n hx hb dX1_addHalves_9 rfl (lv_at hl 1 rfl) ?_
      refine va_gets (v := .ref vt) hx hb hZ hS hown (hts (.fieldLink RX1 50 "ZhegalkinBench" "VARIABLE_TABLES" "[I") (List.mem_of_getElem? (i := 1) rfl)) (fun _ h9 => h9) dX1_addHalves_10 ?_
      refine lv_iload_n hx hb dX1_addHalves_13 rfl (lv_at hl 0 rfl) ?_
      refine vz_ti hx hb hT hS i1 (by omega) (by decide) dX1_addHalves_14 ?_
      refine lv_iconst (v := (-1)) hx hb dX1_addHalves_15 (by decide) ?_
      refine lv_ixor hx hb dX1_addHalves_16 ?_
      refine lv_iand hx hb dX1_addHalves_17 ?_
      refine lv_istore_n (lv' := [(3, .int (a1 &&& ((VT i1) ^^^ (-1)))), (2, .int (nI i1)), (1, .int a1), (0, .int t)]) hx hb dX1_addHalves_18 rfl hl (by decide) rfl (fun ls hl => ?_)
      refine lv_iload_n hx hb dX1_addHalves_19 rfl (lv_at hl 2 rfl) ?_
      refine lv_iload_n hx hb dX1_addHalves_20 rfl (lv_at hl 0 rfl) ?_
      refine lv_iconst (v := 1) hx hb dX1_addHalves_21 (by decide) ?_
      refine lv_iload_n hx hb dX1_addHalves_22 rfl (lv_at hl 1 rfl) ?_
      refine lv_ishl hx hb dX1_addHalves_23 ?_
      refine lv_ishl hx hb dX1_addHalves_24 ?_
      refine lv_ixor hx hb dX1_addHalves_25 ?_
      refine lv_istore_n (lv' := [(1, .int (a1 ^^^ ((a1 &&& ((VT i1) ^^^ (-1))) <<< (((1 : Int32) <<< ((nI i1) &&& 31)) &&& 31)))), (3, .int (a1 &&& ((VT i1) ^^^ (-1)))), (2, .int (nI i1)), (0, .int t)]) hx hb dX1_addHalves_26 rfl hl (by decide) rfl (fun ls hl => ?_)
      refine lv_iinc (v := (nI (i1 + 1))) (lv' := [(2, .int (nI (i1 + 1))), (1, .int (a1 ^^^ ((a1 &&& ((VT i1) ^^^ (-1))) <<< (((1 : Int32) <<< ((nI i1) &&& 31)) &&& 31)))), (3, .int (a1 &&& ((VT i1) ^^^ (-1)))), (0, .int t)]) hx hb dX1_addHalves_27 hl (k := 2) rfl (by first | exact nI_add _ _ | rfl) (by decide) rfl (fun ls hl => ?_)
      refine lv_goto (tgt := 4) hx hb dX1_addHalves_30 (by decide) ?_
      exact ih1 (i1 + 1) (a1 ^^^ ((a1 &&& ((VT i1) ^^^ (-1))) <<< (((1 : Int32) <<< ((nI i1) &&& 31)) &&& 31))) ls (by omega) ((congrArg (lp sX1_addHalves_4 n1 (i1 + 1)) (show (a1 ^^^ ((a1 &&& ((VT i1) ^^^ (-1))) <<< (((1 : Int32) <<< ((nI i1) &&& 31)) &&& 31))) = sX1_addHalves_4 i1 a1 from by first | ((rw [sX1_addHalves_4]); first | done | rfl) | rfl)).trans hf1) (lv_sub hl [0, 1, 3] rfl)
def sJ6_bitCount_0f7a4_9 (t : Int32) : Int32 := (t - (((t.toUInt32 >>> ((1 : Int32).toUInt32 &&& Int32.toUInt32 31)).toInt32) &&& 1431655765))
def sJ6_bitCount_0f7a4_23 (y1 : Int32) : Int32 := ((y1 &&& 858993459) + (((y1.toUInt32 >>> ((2 : Int32).toUInt32 &&& Int32.toUInt32 31)).toInt32) &&& 858993459))
def sJ6_bitCount_0f7a4_33 (y2 : Int32) : Int32 := ((y2 + ((y2.toUInt32 >>> ((4 : Int32).toUInt32 &&& Int32.toUInt32 31)).toInt32)) &&& 252645135)
def sJ6_bitCount_0f7a4_40 (y3 : Int32) : Int32 := (y3 + ((y3.toUInt32 >>> ((8 : Int32).toUInt32 &&& Int32.toUInt32 31)).toInt32))
def sJ6_bitCount_0f7a4_47 (y4 : Int32) : Int32 := (y4 + ((y4.toUInt32 >>> ((16 : Int32).toUInt32 &&& Int32.toUInt32 31)).toInt32))
def fJ6_bitCount_0f7a4 (t : Int32) : Int32 := ((sJ6_bitCount_0f7a4_47 (sJ6_bitCount_0f7a4_40 (sJ6_bitCount_0f7a4_33 (sJ6_bitCount_0f7a4_23 (sJ6_bitCount_0f7a4_9 t))))) &&& 63)
set_option maxHeartbeats 4000000 in
set_option maxRecDepth 100000 in
theorem c_J6_bitCount_0f7a4 (l : Launch) (t : Int32) : Met l yJ6_bitCount_0f7a4 wsJ6_bitCount_0f7a4 ({ frames := 0, cells := 0, slots := 0, locals := 0 }) (va_Pc [.int t] (fun _ => True)) (vp_Si (fun r => r = (fJ6_bitCount_0f7a4 t))) 0 0 (fun _ => False) := by
  refine Met.ofW (cc := cJ6_bitCount_0f7a4) (maxL := 1) (ret := (some .int)) (by decide) rfl ?_
  intro p e s m args below meth c s₁ B hml hv
  obtain ⟨rfl, -⟩ := hv
  have hx := B.exec
  have hb := B.bytes
  have hr := B.returns
  have hts := atoms_spec (ws := wsJ6_bitCount_0f7a4) B.pre
  have hown : s.vm.findClass RJ6 = some m.cls := findClass_of_methodNamed B.named
  have hlocks := B.notSynchronized
  have hS : va_S (fun _ => False) s.heap s.heap [] := va_S.rf
  have hl := lv_entry ([.int t]) (n := 1) (Nat.le_of_ble_eq_true rfl)
  rw [lg_entry_eq]
  generalize (lg_sl ([.int t]) ++ List.replicate (1 - (lg_sl ([.int t])).length) Slot.unset).toArray = ls at hl ⊢
  have hl : lv_has ls 1 [(0, .int t)] := hl
  refine lv_iload_n hx hb dJ6_bitCount_0f7a4_0 rfl (lv_at hl 0 rfl) ?_
  refine lv_iload_n hx hb dJ6_bitCount_0f7a4_1 rfl (lv_at hl 0 rfl) ?_
  refine lv_iconst (v := 1) hx hb dJ6_bitCount_0f7a4_2 (by decide) ?_
  refine lv_iushr (v := (t.toUInt32 >>> ((1 : Int32).toUInt32 &&& Int32.toUInt32 31)).toInt32) hx hb dJ6_bitCount_0f7a4_3 rfl ?_
  refine lv_ldcw (v := 1431655765) hx hb hown (hts (.constant RJ6 265 (1431655765)) (List.mem_of_getElem? (i := 1) rfl)) dJ6_bitCount_0f7a4_4 ?_
  refine lv_iand hx hb dJ6_bitCount_0f7a4_7 ?_
  refine lv_isub hx hb dJ6_bitCount_0f7a4_8 ?_
  refine lv_topi (fun y1 ey1 => ?_)
  have ey1 : y1 = (sJ6_bitCount_0f7a4_9 t) := ey1
  refine lv_istore_n (lv' := [(0, .int y1)]) hx hb dJ6_bitCount_0f7a4_9 rfl hl (by decide) rfl (fun ls hl => ?_)
  refine lv_iload_n hx hb dJ6_bitCount_0f7a4_10 rfl (lv_at hl 0 rfl) ?_
  refine lv_ldcw (v := 858993459) hx hb hown (hts (.constant RJ6 266 (858993459)) (List.mem_of_getElem? (i := 2) rfl)) dJ6_bitCount_0f7a4_11 ?_
  refine lv_iand hx hb dJ6_bitCount_0f7a4_14 ?_
  refine lv_iload_n hx hb dJ6_bitCount_0f7a4_15 rfl (lv_at hl 0 rfl) ?_
  refine lv_iconst (v := 2) hx hb dJ6_bitCount_0f7a4_16 (by decide) ?_
  refine lv_iushr (v := (y1.toUInt32 >>> ((2 : Int32).toUInt32 &&& Int32.toUInt32 31)).toInt32) hx hb dJ6_bitCount_0f7a4_17 rfl ?_
  refine lv_ldcw (v := 858993459) hx hb hown (hts (.constant RJ6 266 (858993459)) (List.mem_of_getElem? (i := 2) rfl)) dJ6_bitCount_0f7a4_18 ?_
  refine lv_iand hx hb dJ6_bitCount_0f7a4_21 ?_
  refine lv_iadd hx hb dJ6_bitCount_0f7a4_22 ?_
  refine lv_topi (fun y2 ey2 => ?_)
  have ey2 : y2 = (sJ6_bitCount_0f7a4_23 y1) := ey2
  refine lv_istore_n (lv' := [(0, .int y2)]) hx hb dJ6_bitCount_0f7a4_23 rfl hl (by decide) rfl (fun ls hl => ?_)
  refine lv_iload_n hx hb dJ6_bitCount_0f7a4_24 rfl (lv_at hl 0 rfl) ?_
  refine lv_iload_n hx hb dJ6_bitCount_0f7a4_25 rfl (lv_at hl 0 rfl) ?_
  refine lv_iconst (v := 4) hx hb dJ6_bitCount_0f7a4_26 (by decide) ?_
  refine lv_iushr (v := (y2.toUInt32 >>> ((4 : Int32).toUInt32 &&& Int32.toUInt32 31)).toInt32) hx hb dJ6_bitCount_0f7a4_27 rfl ?_
  refine lv_iadd hx hb dJ6_bitCount_0f7a4_28 ?_
  refine lv_ldcw (v := 252645135) hx hb hown (hts (.constant RJ6 267 (252645135)) (List.mem_of_getElem? (i := 3) rfl)) dJ6_bitCount_0f7a4_29 ?_
  refine lv_iand hx hb dJ6_bitCount_0f7a4_32 ?_
  refine lv_topi (fun y3 ey3 => ?_)
  have ey3 : y3 = (sJ6_bitCount_0f7a4_33 y2) := ey3
  refine lv_istore_n (lv' := [(0, .int y3)]) hx hb dJ6_bitCount_0f7a4_33 rfl hl (by decide) rfl (fun ls hl => ?_)
  refine lv_iload_n hx hb dJ6_bitCount_0f7a4_34 rfl (lv_at hl 0 rfl) ?_
  refine lv_iload_n hx hb dJ6_bitCount_0f7a4_35 rfl (lv_at hl 0 rfl) ?_
  refine lv_bipush (v := 8) hx hb dJ6_bitCount_0f7a4_36 (by decide) ?_
  refine lv_iushr (v := (y3.toUInt32 >>> ((8 : Int32).toUInt32 &&& Int32.toUInt32 31)).toInt32) hx hb dJ6_bitCount_0f7a4_38 rfl ?_
  refine lv_iadd hx hb dJ6_bitCount_0f7a4_39 ?_
  refine lv_topi (fun y4 ey4 => ?_)
  have ey4 : y4 = (sJ6_bitCount_0f7a4_40 y3) := ey4
  refine lv_istore_n (lv' := [(0, .int y4)]) hx hb dJ6_bitCount_0f7a4_40 rfl hl (by decide) rfl (fun ls hl => ?_)
  refine lv_iload_n hx hb dJ6_bitCount_0f7a4_41 rfl (lv_at hl 0 rfl) ?_
  refine lv_iload_n hx hb dJ6_bitCount_0f7a4_42 rfl (lv_at hl 0 rfl) ?_
  refine lv_bipush (v := 16) hx hb dJ6_bitCount_0f7a4_43 (by decide) ?_
  refine lv_iushr (v := (y4.toUInt32 >>> ((16 : Int32).toUInt32 &&& Int32.toUInt32 31)).toInt32) hx hb dJ6_bitCount_0f7a4_45 rfl ?_
  refine lv_iadd hx hb dJ6_bitCount_0f7a4_46 ?_
  refine lv_topi (fun y5 ey5 => ?_)
  have ey5 : y5 = (sJ6_bitCount_0f7a4_47 y4) := ey5
  refine lv_istore_n (lv' := [(0, .int y5)]) hx hb dJ6_bitCount_0f7a4_47 rfl hl (by decide) rfl (fun ls hl => ?_)
  refine lv_iload_n hx hb dJ6_bitCount_0f7a4_48 rfl (lv_at hl 0 rfl) ?_
  refine lv_bipush (v := 63) hx hb dJ6_bitCount_0f7a4_49 (by decide) ?_
  refine lv_iand hx hb dJ6_bitCount_0f7a4_51 ?_
  exact W.iret (v := (y5 &&& 63)) hx hb hr (fun t9 ht hW => ⟨(y5 &&& 63), rfl, (by first | ((rw [fJ6_bitCount_0f7a4]); (try rw [← ey1]); (try rw [← ey2]); (try rw [← ey3]); (try rw [← ey4]); (try rw [← ey5]); first | done | rfl) | rfl), ht⟩) (fun q h => nomatch h) dJ6_bitCount_0f7a4_52
def sX1_sumBelow_4 (t : Int32) (j : Nat) (i1 : Nat) (a1 : Int32) : Int32 := if ((nI i1) &&& ((nI j) ^^^ (-1))) = 0 then (a1 ^^^ (fX1_bit t (nI i1))) else a1
def fX1_sumBelow (t : Int32) (j : Nat) : Int32 := (lp (sX1_sumBelow_4 t j) (j + 1) 0 0)
set_option maxHeartbeats 4000000 in
set_option maxRecDepth 100000 in
theorem c_X1_sumBelow (l : Launch) (t : Int32) (j : Nat) (hj : j < 16) : Met l yX1_sumBelow wsX1_sumBelow ({ frames := 1, cells := 0, slots := 0, locals := 21 }) (va_Pc [.int t, .int (nI j)] (fun _ => True)) (vp_Si (fun r => r = (fX1_sumBelow t j))) 0 0 (fun _ => False) := by
  refine Met.ofW (cc := cX1_sumBelow) (maxL := 4) (ret := (some .int)) (by decide) rfl ?_
  intro p e s m args below meth c s₁ B hml hv
  obtain ⟨rfl, -⟩ := hv
  have hx := B.exec
  have hb := B.bytes
  have hr := B.returns
  have hts := atoms_spec (ws := wsX1_sumBelow) B.pre
  have hown : s.vm.findClass RX1 = some m.cls := findClass_of_methodNamed B.named
  have hlocks := B.notSynchronized
  have hS : va_S (fun _ => False) s.heap s.heap [] := va_S.rf
  have hl := lv_entry ([.int t, .int (nI j)]) (n := 4) (Nat.le_of_ble_eq_true rfl)
  rw [lg_entry_eq]
  generalize (lg_sl ([.int t, .int (nI j)]) ++ List.replicate (4 - (lg_sl ([.int t, .int (nI j)])).length) Slot.unset).toArray = ls at hl ⊢
  have hl : lv_has ls 4 [(0, .int t), (1, .int (nI j))] := hl
  refine lv_iconst (v := 0) hx hb dX1_sumBelow_0 (by decide) ?_
  refine lv_istore_n (lv' := [(2, .int 0), (0, .int t), (1, .int (nI j))]) hx hb dX1_sumBelow_1 rfl hl (by decide) rfl (fun ls hl => ?_)
  refine lv_iconst (v := 0) hx hb dX1_sumBelow_2 (by decide) ?_
  refine lv_istore_n (lv' := [(3, .int 0), (2, .int 0), (0, .int t), (1, .int (nI j))]) hx hb dX1_sumBelow_3 rfl hl (by decide) rfl (fun ls hl => ?_)
  obtain ⟨F1, hF1⟩ : ∃ z, z = (lp (sX1_sumBelow_4 t j) (j + 1) 0 0) := ⟨_, rfl⟩
  refine vz_cut (fun H1 l1 g1 => ∃ (n1 i1 : Nat) (a1 : Int32) (ls : Array Slot), i1 + n1 = j + 1 ∧ lp (sX1_sumBelow_4 t j) n1 i1 a1 = F1 ∧ lv_has ls 4 [(3, .int (nI i1)), (2, .int a1), (0, .int t), (1, .int (nI j))] ∧ (s.heap = H1 ∧ [] = l1) ∧ g1 = F0 m 4 ls []) (fun hj => hj _ _ _ ⟨j + 1, 0, 0, ls, (by omega), hF1.symm, lv_sub hl [0, 1, 2, 3] rfl, ⟨rfl, rfl⟩, rfl⟩) ?_
  rintro H1 l1 g1 ⟨n1, i1, a1, ls, hi1, hf1, hl, ⟨rfl, rfl⟩, rfl⟩
  revert i1 a1 ls
  induction n1 with
  | zero =>
    intro i1 a1 ls hi1 hf1 hl
    obtain rfl : i1 = j + 1 := by omega
    have hf1 : F1 = a1 := hf1.symm
    subst hf1
    refine lv_iload_n hx hb dX1_sumBelow_4 rfl (lv_at hl 0 rfl) ?_
    refine lv_iload_n hx hb dX1_sumBelow_5 rfl (lv_at hl 3 rfl) ?_
    refine lv_icmp_gt (tgt := 31) hx hb dX1_sumBelow_6 (by decide) (fun c_1 => ?_) (fun c_1 => ?_)
    · refine lv_iload_n hx hb dX1_sumBelow_31 rfl (lv_at hl 1 rfl) ?_
      exact W.iret (v := F1) hx hb hr (fun t9 ht hW => ⟨F1, rfl, (by first | ((rw [fX1_sumBelow]); (try rw [← hF1]); first | done | rfl) | rfl), ht⟩) (fun q h => nomatch h) dX1_sumBelow_32
    · exact absurd (nI_lt (a := j) (b := j + 1) (by omega) (by omega)) c_1
  | succ n1 ih1 =>
    intro i1 a1 ls hi1 hf1 hl
    refine lv_iload_n hx hb dX1_sumBelow_4 rfl (lv_at hl 0 rfl) ?_
    refine lv_iload_n hx hb dX1_sumBelow_5 rfl (lv_at hl 3 rfl) ?_
    refine lv_icmp_gt (tgt := 31) hx hb dX1_sumBelow_6 (by decide) (fun c_2 => ?_) (fun c_2 => ?_)
    · exact absurd c_2 (nI_nlt (a := j) (b := i1) (by omega) (by omega))
    · refine lv_iload_n hx hb dX1_sumBelow_9 rfl (lv_at hl 0 rfl) ?_
      refine lv_iload_n hx hb dX1_sumBelow_10 rfl (lv_at hl 3 rfl) ?_
      refine lv_iconst (v := (-1)) hx hb dX1_sumBelow_11 (by decide) ?_
      refine lv_ixor hx hb dX1_sumBelow_12 ?_
      refine lv_iand hx hb dX1_sumBelow_13 ?_
      refine lv_if_ne (tgt := 25) hx hb dX1_sumBelow_14 (by decide) (fun c_3 => ?_) (fun c_3 => ?_)
      · refine lv_iinc (v := (nI (i1 + 1))) (lv' := [(3, .int (nI (i1 + 1))), (2, .int a1), (0, .int t), (1, .int (nI j))]) hx hb dX1_sumBelow_25 hl (k := 0) rfl (by first | exact nI_add _ _ | rfl) (by decide) rfl (fun ls hl => ?_)
        refine lv_goto (tgt := 4) hx hb dX1_sumBelow_28 (by decide) ?_
        exact ih1 (i1 + 1) a1 ls (by omega) ((congrArg (lp (sX1_sumBelow_4 t j) n1 (i1 + 1)) (show a1 = (sX1_sumBelow_4 t j) i1 a1 from by first | ((rw [sX1_sumBelow_4, if_neg c_3]); first | done | rfl) | rfl)).trans hf1) (lv_sub hl [0, 1, 2, 3] rfl)
      · refine lv_iload_n hx hb dX1_sumBelow_17 rfl (lv_at hl 1 rfl) ?_
        refine lv_iload_n hx hb dX1_sumBelow_18 rfl (lv_at hl 2 rfl) ?_
        refine lv_iload_n hx hb dX1_sumBelow_19 rfl (lv_at hl 0 rfl) ?_
        refine vp_callSi (va_Run.run (va_runS (As := [.int t, .int (nI i1)]) (rest := [.int a1]) ⟨hx, hb, hml, hown, hts⟩ (c_X1_bit l t (nI i1)) (va_cwS 2 hts gX1_sumBelow_X1_bit rfl rfl rfl (by decide +kernel) ⟨Nat.le_of_ble_eq_true rfl, Nat.le_of_ble_eq_true rfl⟩) ⟨fun _ _ _ _ z => z, fun _ _ _ => ⟨rfl, trivial⟩⟩ rfl rfl hl.1 rfl (lv_room (Nat.le_of_ble_eq_true rfl)) dX1_sumBelow_20 ⟨(Nat.zero_le _), (Nat.zero_le _)⟩)) (fun r hr => ?_)
        subst hr
        refine lv_ixor hx hb dX1_sumBelow_23 ?_
        refine lv_istore_n (lv' := [(2, .int (a1 ^^^ (fX1_bit t (nI i1)))), (3, .int (nI i1)), (0, .int t), (1, .int (nI j))]) hx hb dX1_sumBelow_24 rfl hl (by decide) rfl (fun ls hl => ?_)
        refine lv_iinc (v := (nI (i1 + 1))) (lv' := [(3, .int (nI (i1 + 1))), (2, .int (a1 ^^^ (fX1_bit t (nI i1)))), (0, .int t), (1, .int (nI j))]) hx hb dX1_sumBelow_25 hl (k := 1) rfl (by first | exact nI_add _ _ | rfl) (by decide) rfl (fun ls hl => ?_)
        refine lv_goto (tgt := 4) hx hb dX1_sumBelow_28 (by decide) ?_
        exact ih1 (i1 + 1) (a1 ^^^ (fX1_bit t (nI i1))) ls (by omega) ((congrArg (lp (sX1_sumBelow_4 t j) n1 (i1 + 1)) (show (a1 ^^^ (fX1_bit t (nI i1))) = (sX1_sumBelow_4 t j) i1 a1 from by first | ((rw [sX1_sumBelow_4, if_pos c_3]); first | done | rfl) | rfl)).trans hf1) (lv_sub hl [0, 1, 2, 3] rfl)
def sX1_degree_9 (t : Int32) (i1 : Nat) (a1 : Int32) : Int32 := if (fX1_bit (fX1_addHalves t) (nI i1)) = 1 then (if a1 < (fJ6_bitCount_0f7a4 (nI i1)) then (fJ6_bitCount_0f7a4 (nI i1)) else a1) else a1
def fX1_degree (t : Int32) : Int32 := (lp (sX1_degree_9 t) 16 0 0)
set_option maxHeartbeats 4000000 in
set_option maxRecDepth 100000 in
theorem c_X1_degree (l : Launch) (t : Int32) : Met l yX1_degree wsX1_degree ({ frames := 1, cells := 0, slots := 0, locals := 23 }) (va_Pc [.int t] (fun U => env0 U)) (vp_Si (fun r => r = (fX1_degree t))) 0 0 (fun _ => False) := by
  refine Met.ofW (cc := cX1_degree) (maxL := 4) (ret := (some .int)) (by decide) rfl ?_
  intro p e s m args below meth c s₁ B hml hv
  obtain ⟨rfl, hE⟩ := hv
  have hx := B.exec
  have hb := B.bytes
  have hr := B.returns
  have hts := atoms_spec (ws := wsX1_degree) B.pre
  have hown : s.vm.findClass RX1 = some m.cls := findClass_of_methodNamed B.named
  have hlocks := B.notSynchronized
  have hS : va_S (fun _ => False) s.heap s.heap [] := va_S.rf
  have hl := lv_entry ([.int t]) (n := 4) (Nat.le_of_ble_eq_true rfl)
  rw [lg_entry_eq]
  generalize (lg_sl ([.int t]) ++ List.replicate (4 - (lg_sl ([.int t])).length) Slot.unset).toArray = ls at hl ⊢
  have hl : lv_has ls 4 [(0, .int t)] := hl
  refine lv_iload_n hx hb dX1_degree_0 rfl (lv_at hl 0 rfl) ?_
  refine vp_callSi (va_Run.run (va_runS (As := [.int t]) (rest := []) ⟨hx, hb, hml, hown, hts⟩ (c_X1_addHalves l t) (va_cwS 1 hts gX1_degree_X1_addHalves rfl rfl rfl (by decide +kernel) ⟨Nat.le_of_ble_eq_true rfl, Nat.le_of_ble_eq_true rfl⟩) ⟨fun a U g mk z => ⟨z.1, z.2.blind g mk a⟩, fun U hU hW => ⟨rfl, hE.at0 hS hU hW⟩⟩ rfl rfl hl.1 rfl (lv_room (Nat.le_of_ble_eq_true rfl)) dX1_degree_1 ⟨(Nat.zero_le _), (Nat.zero_le _)⟩)) (fun r hr => ?_)
  subst hr
  refine lv_istore_n (lv' := [(1, .int (fX1_addHalves t)), (0, .int t)]) hx hb dX1_degree_4 rfl hl (by decide) rfl (fun ls hl => ?_)
  refine lv_iconst (v := 0) hx hb dX1_degree_5 (by decide) ?_
  refine lv_istore_n (lv' := [(2, .int 0), (1, .int (fX1_addHalves t)), (0, .int t)]) hx hb dX1_degree_6 rfl hl (by decide) rfl (fun ls hl => ?_)
  refine lv_iconst (v := 0) hx hb dX1_degree_7 (by decide) ?_
  refine lv_istore_n (lv' := [(3, .int 0), (2, .int 0), (1, .int (fX1_addHalves t)), (0, .int t)]) hx hb dX1_degree_8 rfl hl (by decide) rfl (fun ls hl => ?_)
  obtain ⟨F1, hF1⟩ : ∃ z, z = (lp (sX1_degree_9 t) 16 0 0) := ⟨_, rfl⟩
  refine vz_cut (fun H1 l1 g1 => ∃ (n1 i1 : Nat) (a1 : Int32) (ls : Array Slot), i1 + n1 = 16 ∧ lp (sX1_degree_9 t) n1 i1 a1 = F1 ∧ lv_has ls 4 [(3, .int (nI i1)), (2, .int a1), (1, .int (fX1_addHalves t)), (0, .int t)] ∧ (s.heap = H1 ∧ [] = l1) ∧ g1 = F0 m 9 ls []) (fun hj => hj _ _ _ ⟨16, 0, 0, ls, (by omega), hF1.symm, lv_sub hl [0, 1, 2, 3] rfl, ⟨rfl, rfl⟩, rfl⟩) ?_
  rintro H1 l1 g1 ⟨n1, i1, a1, ls, hi1, hf1, hl, ⟨rfl, rfl⟩, rfl⟩
  revert i1 a1 ls
  induction n1 with
  | zero =>
    intro i1 a1 ls hi1 hf1 hl
    obtain rfl : i1 = 16 := by omega
    have hf1 : F1 = a1 := hf1.symm
    subst hf1
    refine lv_iload_n hx hb dX1_degree_9 rfl (lv_at hl 0 rfl) ?_
    refine lv_bipush (v := 16) hx hb dX1_degree_10 (by decide) ?_
    refine lv_icmp_ge (tgt := 39) hx hb dX1_degree_12 (by decide) (fun c_1 => ?_) (fun c_1 => ?_)
    · refine lv_iload_n hx hb dX1_degree_39 rfl (lv_at hl 1 rfl) ?_
      exact W.iret (v := F1) hx hb hr (fun t9 ht hW => ⟨F1, rfl, (by first | ((rw [fX1_degree]); (try rw [← hF1]); first | done | rfl) | rfl), ht⟩) (fun q h => nomatch h) dX1_degree_40
    · exact absurd (nI_le (a := 16) (b := 16) (by omega) (by omega)) c_1
  | succ n1 ih1 =>
    intro i1 a1 ls hi1 hf1 hl
    refine lv_iload_n hx hb dX1_degree_9 rfl (lv_at hl 0 rfl) ?_
    refine lv_bipush (v := 16) hx hb dX1_degree_10 (by decide) ?_
    refine lv_icmp_ge (tgt := 39) hx hb dX1_degree_12 (by decide) (fun c_2 => ?_) (fun c_2 => ?_)
    · exact absurd c_2 (nI_ge (a := i1) (b := 16) (by omega) (by omega))
    · refine lv_iload_n hx hb dX1_degree_15 rfl (lv_at hl 2 rfl) ?_
      refine lv_iload_n hx hb dX1_degree_16 rfl (lv_at hl 0 rfl) ?_
      refine vp_callSi (va_Run.run (va_runS (As := [.int (fX1_addHalves t), .int (nI i1)]) (rest := []) ⟨hx, hb, hml, hown, hts⟩ (c_X1_bit l (fX1_addHalves t) (nI i1)) (va_cwS 2 hts gX1_degree_X1_bit rfl rfl rfl (by decide +kernel) ⟨Nat.le_of_ble_eq_true rfl, Nat.le_of_ble_eq_true rfl⟩) ⟨fun _ _ _ _ z => z, fun _ _ _ => ⟨rfl, trivial⟩⟩ rfl rfl hl.1 rfl (lv_room (Nat.le_of_ble_eq_true rfl)) dX1_degree_17 ⟨(Nat.zero_le _), (Nat.zero_le _)⟩)) (fun r hr => ?_)
      subst hr
      refine lv_iconst (v := 1) hx hb dX1_degree_20 (by decide) ?_
      refine lv_icmp_ne (tgt := 33) hx hb dX1_degree_21 (by decide) (fun c_3 => ?_) (fun c_3 => ?_)
      · refine lv_iinc (v := (nI (i1 + 1))) (lv' := [(3, .int (nI (i1 + 1))), (2, .int a1), (1, .int (fX1_addHalves t)), (0, .int t)]) hx hb dX1_degree_33 hl (k := 0) rfl (by first | exact nI_add _ _ | rfl) (by decide) rfl (fun ls hl => ?_)
        refine lv_goto (tgt := 9) hx hb dX1_degree_36 (by decide) ?_
        exact ih1 (i1 + 1) a1 ls (by omega) ((congrArg (lp (sX1_degree_9 t) n1 (i1 + 1)) (show a1 = (sX1_degree_9 t) i1 a1 from by first | ((rw [sX1_degree_9, if_neg c_3]); first | done | rfl) | rfl)).trans hf1) (lv_sub hl [0, 1, 2, 3] rfl)
      · refine lv_iload_n hx hb dX1_degree_24 rfl (lv_at hl 1 rfl) ?_
        refine lv_iload_n hx hb dX1_degree_25 rfl (lv_at hl 0 rfl) ?_
        refine vp_callSi (va_Run.run (va_runS (As := [.int (nI i1)]) (rest := [.int a1]) ⟨hx, hb, hml, hown, hts⟩ (c_J6_bitCount_0f7a4 l (nI i1)) (va_cwS 1 hts gX1_degree_J6_bitCount_0f7a4 rfl rfl rfl (by decide +kernel) ⟨Nat.le_of_ble_eq_true rfl, Nat.le_of_ble_eq_true rfl⟩) ⟨fun _ _ _ _ z => z, fun _ _ _ => ⟨rfl, trivial⟩⟩ rfl rfl hl.1 rfl (lv_room (Nat.le_of_ble_eq_true rfl)) dX1_degree_26 ⟨(Nat.zero_le _), (Nat.zero_le _)⟩)) (fun r hr => ?_)
        subst hr
        refine va_mmax hx hb (by rw [hml]; exact hl.1.symm) hown (hts (.methodLink RX1 150 Lib.Math.max.name) (List.mem_of_getElem? (i := 1) rfl)) (hts (.static Lib.Math.max.name) (List.mem_of_getElem? (i := 2) rfl)) (hts (.initialized "java/lang/Math") (List.mem_of_getElem? (i := 3) rfl)) (hts (.code Lib.Math.max.name Lib.Math.max.code 2 (some .int)) (List.mem_of_getElem? (i := 4) rfl)) (Nat.le_of_ble_eq_true rfl) (Nat.le_of_ble_eq_true rfl) (Nat.zero_le _) (Nat.zero_le _) dX1_degree_29 ?_
        refine lv_istore_n (lv' := [(2, .int (if a1 < (fJ6_bitCount_0f7a4 (nI i1)) then (fJ6_bitCount_0f7a4 (nI i1)) else a1)), (3, .int (nI i1)), (1, .int (fX1_addHalves t)), (0, .int t)]) hx hb dX1_degree_32 rfl hl (by decide) rfl (fun ls hl => ?_)
        refine lv_iinc (v := (nI (i1 + 1))) (lv' := [(3, .int (nI (i1 + 1))), (2, .int (if a1 < (fJ6_bitCount_0f7a4 (nI i1)) then (fJ6_bitCount_0f7a4 (nI i1)) else a1)), (1, .int (fX1_addHalves t)), (0, .int t)]) hx hb dX1_degree_33 hl (k := 1) rfl (by first | exact nI_add _ _ | rfl) (by decide) rfl (fun ls hl => ?_)
        refine lv_goto (tgt := 9) hx hb dX1_degree_36 (by decide) ?_
        exact ih1 (i1 + 1) (if a1 < (fJ6_bitCount_0f7a4 (nI i1)) then (fJ6_bitCount_0f7a4 (nI i1)) else a1) ls (by omega) ((congrArg (lp (sX1_degree_9 t) n1 (i1 + 1)) (show (if a1 < (fJ6_bitCount_0f7a4 (nI i1)) then (fJ6_bitCount_0f7a4 (nI i1)) else a1) = (sX1_degree_9 t) i1 a1 from by first | ((rw [sX1_degree_9, if_pos c_3]); first | done | rfl) | rfl)).trans hf1) (lv_sub hl [0, 1, 2, 3] rfl)
def sX1_linearTable_18 (t : Int32) (i1 : Nat) (a1 : Int32) : Int32 := if (fX1_bit t (nI i1)) = 1 then (a1 ^^^ (VT i1)) else a1
def fX1_linearTable (t : Int32) : Int32 := (lp (sX1_linearTable_18 t) 4 0 (if (fX1_bit t 4) = 1 then 65535 else 0 : Int32))
set_option maxHeartbeats 4000000 in
set_option maxRecDepth 100000 in
theorem c_X1_linearTable (l : Launch) (t : Int32) : Met l yX1_linearTable wsX1_linearTable ({ frames := 1, cells := 0, slots := 0, locals := 21 }) (va_Pc [.int t] (fun U => env0 U)) (vp_Si (fun r => r = (fX1_linearTable t))) 0 0 (fun _ => False) := by
  refine Met.ofW (cc := cX1_linearTable) (maxL := 3) (ret := (some .int)) (by decide) rfl ?_
  intro p e s m args below meth c s₁ B hml hv
  obtain ⟨rfl, hE⟩ := hv
  have hx := B.exec
  have hb := B.bytes
  have hr := B.returns
  have hts := atoms_spec (ws := wsX1_linearTable) B.pre
  have hown : s.vm.findClass RX1 = some m.cls := findClass_of_methodNamed B.named
  have hlocks := B.notSynchronized
  have hS : va_S (fun _ => False) s.heap s.heap [] := va_S.rf
  obtain ⟨vt, hZ, hT⟩ := hE.2.2.2.1
  have hl := lv_entry ([.int t]) (n := 3) (Nat.le_of_ble_eq_true rfl)
  rw [lg_entry_eq]
  generalize (lg_sl ([.int t]) ++ List.replicate (3 - (lg_sl ([.int t])).length) Slot.unset).toArray = ls at hl ⊢
  have hl : lv_has ls 3 [(0, .int t)] := hl
  refine lv_iload_n hx hb dX1_linearTable_0 rfl (lv_at hl 0 rfl) ?_
  refine lv_iconst (v := 4) hx hb dX1_linearTable_1 (by decide) ?_
  refine vp_callSi (va_Run.run (va_runS (As := [.int t, .int 4]) (rest := []) ⟨hx, hb, hml, hown, hts⟩ (c_X1_bit l t 4) (va_cwS 2 hts gX1_linearTable_X1_bit rfl rfl rfl (by decide +kernel) ⟨Nat.le_of_ble_eq_true rfl, Nat.le_of_ble_eq_true rfl⟩) ⟨fun _ _ _ _ z => z, fun _ _ _ => ⟨rfl, trivial⟩⟩ rfl rfl hl.1 rfl (lv_room (Nat.le_of_ble_eq_true rfl)) dX1_linearTable_2 ⟨(Nat.zero_le _), (Nat.zero_le _)⟩)) (fun r hr => ?_)
  subst hr
  refine lv_iconst (v := 1) hx hb dX1_linearTable_5 (by decide) ?_
  refine vz_cut (fun H1 l1 g1 => ∃ (x1_0 : Int32) (ls : Array Slot), x1_0 = (if (fX1_bit t 4) = 1 then 65535 else 0 : Int32) ∧ lv_has ls 3 [(0, .int t)] ∧ (s.heap = H1 ∧ [] = l1) ∧ g1 = F0 m 15 ls [.int x1_0]) (fun hj1 => ?_) ?_
  · refine lv_icmp_ne (tgt := 14) hx hb dX1_linearTable_6 (by decide) (fun c_1 => ?_) (fun c_1 => ?_)
    · refine lv_iconst (v := 0) hx hb dX1_linearTable_14 (by decide) ?_
      exact hj1 _ _ _ ⟨0, ls, (by (rw [if_neg c_1]); first | done | rfl), lv_sub hl [0] rfl, ⟨rfl, rfl⟩, rfl⟩
    · refine lv_ldc (v := 65535) hx hb hown (hts (.constant RX1 53 (65535)) (List.mem_of_getElem? (i := 1) rfl)) dX1_linearTable_9 ?_
      refine lv_goto (tgt := 15) hx hb dX1_linearTable_11 (by decide) ?_
      exact hj1 _ _ _ ⟨65535, ls, (by (rw [if_pos c_1]); first | done | rfl), lv_sub hl [0] rfl, ⟨rfl, rfl⟩, rfl⟩
  rintro H1 l1 g1 ⟨x1_0, ls, ex1_0, hl, ⟨rfl, rfl⟩, rfl⟩
  subst ex1_0
  refine lv_istore_n (lv' := [(1, .int (if (fX1_bit t 4) = 1 then 65535 else 0 : Int32)), (0, .int t)]) hx hb dX1_linearTable_15 rfl hl (by decide) rfl (fun ls hl => ?_)
  refine lv_iconst (v := 0) hx hb dX1_linearTable_16 (by decide) ?_
  refine lv_istore_n (lv' := [(2, .int 0), (1, .int (if (fX1_bit t 4) = 1 then 65535 else 0 : Int32)), (0, .int t)]) hx hb dX1_linearTable_17 rfl hl (by decide) rfl (fun ls hl => ?_)
  obtain ⟨F1, hF1⟩ : ∃ z, z = (lp (sX1_linearTable_18 t) 4 0 (if (fX1_bit t 4) = 1 then 65535 else 0 : Int32)) := ⟨_, rfl⟩
  refine vz_cut (fun H1 l1 g1 => ∃ (n1 i1 : Nat) (a1 : Int32) (ls : Array Slot), i1 + n1 = 4 ∧ lp (sX1_linearTable_18 t) n1 i1 a1 = F1 ∧ lv_has ls 3 [(2, .int (nI i1)), (1, .int a1), (0, .int t)] ∧ (s.heap = H1 ∧ [] = l1) ∧ g1 = F0 m 18 ls []) (fun hj => hj _ _ _ ⟨4, 0, (if (fX1_bit t 4) = 1 then 65535 else 0 : Int32), ls, (by omega), hF1.symm, lv_sub hl [0, 1, 2] rfl, ⟨rfl, rfl⟩, rfl⟩) ?_
  rintro H1 l1 g1 ⟨n1, i1, a1, ls, hi1, hf1, hl, ⟨rfl, rfl⟩, rfl⟩
  revert i1 a1 ls
  induction n1 with
  | zero =>
    intro i1 a1 ls hi1 hf1 hl
    obtain rfl : i1 = 4 := by omega
    have hf1 : F1 = a1 := hf1.symm
    subst hf1
    refine lv_iload_n hx hb dX1_linearTable_18 rfl (lv_at hl 0 rfl) ?_
    refine lv_iconst (v := 4) hx hb dX1_linearTable_19 (by decide) ?_
    refine lv_icmp_ge (tgt := 46) hx hb dX1_linearTable_20 (by decide) (fun c_2 => ?_) (fun c_2 => ?_)
    · refine lv_iload_n hx hb dX1_linearTable_46 rfl (lv_at hl 1 rfl) ?_
      exact W.iret (v := F1) hx hb hr (fun t9 ht hW => ⟨F1, rfl, (by first | ((rw [fX1_linearTable]); (try rw [← hF1]); first | done | rfl) | rfl), ht⟩) (fun q h => nomatch h) dX1_linearTable_47
    · exact absurd (nI_le (a := 4) (b := 4) (by omega) (by omega)) c_2
  | succ n1 ih1 =>
    intro i1 a1 ls hi1 hf1 hl
    refine lv_iload_n hx hb dX1_linearTable_18 rfl (lv_at hl 0 rfl) ?_
    refine lv_iconst (v := 4) hx hb dX1_linearTable_19 (by decide) ?_
    refine lv_icmp_ge (tgt := 46) hx hb dX1_linearTable_20 (by decide) (fun c_3 => ?_) (fun c_3 => ?_)
    · exact absurd c_3 (nI_ge (a := i1) (b := 4) (by omega) (by omega))
    · refine lv_iload_n hx hb dX1_linearTable_23 rfl (lv_at hl 2 rfl) ?_
      refine lv_iload_n hx hb dX1_linearTable_24 rfl (lv_at hl 0 rfl) ?_
      refine vp_callSi (va_Run.run (va_runS (As := [.int t, .int (nI i1)]) (rest := []) ⟨hx, hb, hml, hown, hts⟩ (c_X1_bit l t (nI i1)) (va_cwS 2 hts gX1_linearTable_X1_bit rfl rfl rfl (by decide +kernel) ⟨Nat.le_of_ble_eq_true rfl, Nat.le_of_ble_eq_true rfl⟩) ⟨fun _ _ _ _ z => z, fun _ _ _ => ⟨rfl, trivial⟩⟩ rfl rfl hl.1 rfl (lv_room (Nat.le_of_ble_eq_true rfl)) dX1_linearTable_25 ⟨(Nat.zero_le _), (Nat.zero_le _)⟩)) (fun r hr => ?_)
      subst hr
      refine lv_iconst (v := 1) hx hb dX1_linearTable_28 (by decide) ?_
      refine lv_icmp_ne (tgt := 40) hx hb dX1_linearTable_29 (by decide) (fun c_4 => ?_) (fun c_4 => ?_)
      · refine lv_iinc (v := (nI (i1 + 1))) (lv' := [(2, .int (nI (i1 + 1))), (1, .int a1), (0, .int t)]) hx hb dX1_linearTable_40 hl (k := 0) rfl (by first | exact nI_add _ _ | rfl) (by decide) rfl (fun ls hl => ?_)
        refine lv_goto (tgt := 18) hx hb dX1_linearTable_43 (by decide) ?_
        exact ih1 (i1 + 1) a1 ls (by omega) ((congrArg (lp (sX1_linearTable_18 t) n1 (i1 + 1)) (show a1 = (sX1_linearTable_18 t) i1 a1 from by first | ((rw [sX1_linearTable_18, if_neg c_4]); first | done | rfl) | rfl)).trans hf1) (lv_sub hl [0, 1, 2] rfl)
      · refine lv_iload_n hx hb dX1_linearTable_32 rfl (lv_at hl 1 rfl) ?_
        refine va_gets (v := .ref vt) hx hb hZ hS hown (hts (.fieldLink RX1 50 "ZhegalkinBench" "VARIABLE_TABLES" "[I") (List.mem_of_getElem? (i := 2) rfl)) (fun _ h9 => h9) dX1_linearTable_33 ?_
        refine lv_iload_n hx hb dX1_linearTable_36 rfl (lv_at hl 0 rfl) ?_
        refine vz_ti hx hb hT hS i1 (by omega) (by decide) dX1_linearTable_37 ?_
        refine lv_ixor hx hb dX1_linearTable_38 ?_
        refine lv_istore_n (lv' := [(1, .int (a1 ^^^ (VT i1))), (2, .int (nI i1)), (0, .int t)]) hx hb dX1_linearTable_39 rfl hl (by decide) rfl (fun ls hl => ?_)
        refine lv_iinc (v := (nI (i1 + 1))) (lv' := [(2, .int (nI (i1 + 1))), (1, .int (a1 ^^^ (VT i1))), (0, .int t)]) hx hb dX1_linearTable_40 hl (k := 1) rfl (by first | exact nI_add _ _ | rfl) (by decide) rfl (fun ls hl => ?_)
        refine lv_goto (tgt := 18) hx hb dX1_linearTable_43 (by decide) ?_
        exact ih1 (i1 + 1) (a1 ^^^ (VT i1)) ls (by omega) ((congrArg (lp (sX1_linearTable_18 t) n1 (i1 + 1)) (show (a1 ^^^ (VT i1)) = (sX1_linearTable_18 t) i1 a1 from by first | ((rw [sX1_linearTable_18, if_pos c_4]); first | done | rfl) | rfl)).trans hf1) (lv_sub hl [0, 1, 2] rfl)
def tX1_hasOppositeEnds_2 (t : Int32) : Nat → Nat → Unit → Int32
  | 0, _, _ => 1
  | n1 + 1, i1, a1 => if (fX1_bit t (nI i1)) = (fX1_bit t (15 - (nI i1))) then 0 else tX1_hasOppositeEnds_2 t n1 (i1 + 1) ()
def fX1_hasOppositeEnds (t : Int32) : Int32 := tX1_hasOppositeEnds_2 t 16 0 ()
set_option maxHeartbeats 4000000 in
set_option maxRecDepth 100000 in
theorem c_X1_hasOppositeEnds (l : Launch) (t : Int32) : Met l yX1_hasOppositeEnds wsX1_hasOppositeEnds ({ frames := 1, cells := 0, slots := 0, locals := 21 }) (va_Pc [.int t] (fun _ => True)) (vp_Si (fun r => r = (fX1_hasOppositeEnds t))) 0 0 (fun _ => False) := by
  refine Met.ofW (cc := cX1_hasOppositeEnds) (maxL := 2) (ret := (some .boolean)) (by decide) rfl ?_
  intro p e s m args below meth c s₁ B hml hv
  obtain ⟨rfl, -⟩ := hv
  have hx := B.exec
  have hb := B.bytes
  have hr := B.returns
  have hts := atoms_spec (ws := wsX1_hasOppositeEnds) B.pre
  have hown : s.vm.findClass RX1 = some m.cls := findClass_of_methodNamed B.named
  have hlocks := B.notSynchronized
  have hS : va_S (fun _ => False) s.heap s.heap [] := va_S.rf
  have hl := lv_entry ([.int t]) (n := 2) (Nat.le_of_ble_eq_true rfl)
  rw [lg_entry_eq]
  generalize (lg_sl ([.int t]) ++ List.replicate (2 - (lg_sl ([.int t])).length) Slot.unset).toArray = ls at hl ⊢
  have hl : lv_has ls 2 [(0, .int t)] := hl
  refine lv_iconst (v := 0) hx hb dX1_hasOppositeEnds_0 (by decide) ?_
  refine lv_istore_n (lv' := [(1, .int 0), (0, .int t)]) hx hb dX1_hasOppositeEnds_1 rfl hl (by decide) rfl (fun ls hl => ?_)
  refine vz_cut (fun H1 l1 g1 => ∃ (n1 i1 : Nat) (a1 : Unit) (ls : Array Slot), i1 + n1 = 16 ∧ tX1_hasOppositeEnds_2 t n1 i1 a1 = tX1_hasOppositeEnds_2 t 16 0 () ∧ lv_has ls 2 [(1, .int (nI i1)), (0, .int t)] ∧ (s.heap = H1 ∧ [] = l1) ∧ g1 = F0 m 2 ls []) (fun hj => hj _ _ _ ⟨16, 0, (), ls, (by omega), rfl, lv_sub hl [0, 1] rfl, ⟨rfl, rfl⟩, rfl⟩) ?_
  rintro H1 l1 g1 ⟨n1, i1, a1, ls, hi1, hf1, hl, ⟨rfl, rfl⟩, rfl⟩
  revert i1 a1 ls
  induction n1 with
  | zero =>
    intro i1 a1 ls hi1 hf1 hl
    obtain rfl : i1 = 16 := by omega
    refine lv_iload_n hx hb dX1_hasOppositeEnds_2 rfl (lv_at hl 0 rfl) ?_
    refine lv_bipush (v := 16) hx hb dX1_hasOppositeEnds_3 (by decide) ?_
    refine lv_icmp_ge (tgt := 32) hx hb dX1_hasOppositeEnds_5 (by decide) (fun c_1 => ?_) (fun c_1 => ?_)
    · refine lv_iconst (v := 1) hx hb dX1_hasOppositeEnds_32 (by decide) ?_
      exact W.zret (v := 1) hx hb hr rfl (fun t9 ht hW => ⟨1, rfl, ((show 1 = tX1_hasOppositeEnds_2 t 0 16 a1 from by first | (symm; (rw [tX1_hasOppositeEnds_2]); first | done | rfl) | rfl).trans hf1), ht⟩) (fun q h => nomatch h) dX1_hasOppositeEnds_33
    · exact absurd (nI_le (a := 16) (b := 16) (by omega) (by omega)) c_1
  | succ n1 ih1 =>
    intro i1 a1 ls hi1 hf1 hl
    refine lv_iload_n hx hb dX1_hasOppositeEnds_2 rfl (lv_at hl 0 rfl) ?_
    refine lv_bipush (v := 16) hx hb dX1_hasOppositeEnds_3 (by decide) ?_
    refine lv_icmp_ge (tgt := 32) hx hb dX1_hasOppositeEnds_5 (by decide) (fun c_2 => ?_) (fun c_2 => ?_)
    · exact absurd c_2 (nI_ge (a := i1) (b := 16) (by omega) (by omega))
    · refine lv_iload_n hx hb dX1_hasOppositeEnds_8 rfl (lv_at hl 1 rfl) ?_
      refine lv_iload_n hx hb dX1_hasOppositeEnds_9 rfl (lv_at hl 0 rfl) ?_
      refine vp_callSi (va_Run.run (va_runS (As := [.int t, .int (nI i1)]) (rest := []) ⟨hx, hb, hml, hown, hts⟩ (c_X1_bit l t (nI i1)) (va_cwS 2 hts gX1_hasOppositeEnds_X1_bit rfl rfl rfl (by decide +kernel) ⟨Nat.le_of_ble_eq_true rfl, Nat.le_of_ble_eq_true rfl⟩) ⟨fun _ _ _ _ z => z, fun _ _ _ => ⟨rfl, trivial⟩⟩ rfl rfl hl.1 rfl (lv_room (Nat.le_of_ble_eq_true rfl)) dX1_hasOppositeEnds_10 ⟨(Nat.zero_le _), (Nat.zero_le _)⟩)) (fun r hr => ?_)
      subst hr
      refine lv_iload_n hx hb dX1_hasOppositeEnds_13 rfl (lv_at hl 1 rfl) ?_
      refine lv_bipush (v := 15) hx hb dX1_hasOppositeEnds_14 (by decide) ?_
      refine lv_iload_n hx hb dX1_hasOppositeEnds_16 rfl (lv_at hl 0 rfl) ?_
      refine lv_isub hx hb dX1_hasOppositeEnds_17 ?_
      refine vp_callSi (va_Run.run (va_runS (As := [.int t, .int (15 - (nI i1))]) (rest := [.int (fX1_bit t (nI i1))]) ⟨hx, hb, hml, hown, hts⟩ (c_X1_bit l t (15 - (nI i1))) (va_cwS 2 hts gX1_hasOppositeEnds_X1_bit rfl rfl rfl (by decide +kernel) ⟨Nat.le_of_ble_eq_true rfl, Nat.le_of_ble_eq_true rfl⟩) ⟨fun _ _ _ _ z => z, fun _ _ _ => ⟨rfl, trivial⟩⟩ rfl rfl hl.1 rfl (lv_room (Nat.le_of_ble_eq_true rfl)) dX1_hasOppositeEnds_18 ⟨(Nat.zero_le _), (Nat.zero_le _)⟩)) (fun r hr => ?_)
      subst hr
      refine lv_icmp_ne (tgt := 26) hx hb dX1_hasOppositeEnds_21 (by decide) (fun c_3 => ?_) (fun c_3 => ?_)
      · refine lv_iinc (v := (nI (i1 + 1))) (lv' := [(1, .int (nI (i1 + 1))), (0, .int t)]) hx hb dX1_hasOppositeEnds_26 hl (k := 0) rfl (by first | exact nI_add _ _ | rfl) (by decide) rfl (fun ls hl => ?_)
        refine lv_goto (tgt := 2) hx hb dX1_hasOppositeEnds_29 (by decide) ?_
        exact ih1 (i1 + 1) () ls (by omega) ((show tX1_hasOppositeEnds_2 t n1 (i1 + 1) () = tX1_hasOppositeEnds_2 t (n1 + 1) i1 a1 from by first | (symm; (rw [tX1_hasOppositeEnds_2, if_neg c_3]); first | done | rfl) | rfl).trans hf1) (lv_sub hl [0, 1] rfl)
      · refine lv_iconst (v := 0) hx hb dX1_hasOppositeEnds_24 (by decide) ?_
        exact W.zret (v := 0) hx hb hr rfl (fun t9 ht hW => ⟨0, rfl, ((show 0 = tX1_hasOppositeEnds_2 t (n1 + 1) i1 a1 from by first | (symm; (rw [tX1_hasOppositeEnds_2, if_pos c_3]); first | done | rfl) | rfl).trans hf1), ht⟩) (fun q h => nomatch h) dX1_hasOppositeEnds_25
def tX1_neverFalls_2 (t : Int32) : Nat → Nat → Unit → Int32
  | 0, _, _ => 1
  | n1 + 1, i1, a1 => if ((fX1_half t (nI i1) 0) &&& ((fX1_half t (nI i1) 1) ^^^ (-1))) = 0 then tX1_neverFalls_2 t n1 (i1 + 1) () else 0
def fX1_neverFalls (t : Int32) : Int32 := tX1_neverFalls_2 t 4 0 ()
set_option maxHeartbeats 4000000 in
set_option maxRecDepth 100000 in
theorem c_X1_neverFalls (l : Launch) (t : Int32) : Met l yX1_neverFalls wsX1_neverFalls ({ frames := 1, cells := 0, slots := 0, locals := 24 }) (va_Pc [.int t] (fun U => env0 U)) (vp_Si (fun r => r = (fX1_neverFalls t))) 0 0 (fun _ => False) := by
  refine Met.ofW (cc := cX1_neverFalls) (maxL := 2) (ret := (some .boolean)) (by decide) rfl ?_
  intro p e s m args below meth c s₁ B hml hv
  obtain ⟨rfl, hE⟩ := hv
  have hx := B.exec
  have hb := B.bytes
  have hr := B.returns
  have hts := atoms_spec (ws := wsX1_neverFalls) B.pre
  have hown : s.vm.findClass RX1 = some m.cls := findClass_of_methodNamed B.named
  have hlocks := B.notSynchronized
  have hS : va_S (fun _ => False) s.heap s.heap [] := va_S.rf
  have hl := lv_entry ([.int t]) (n := 2) (Nat.le_of_ble_eq_true rfl)
  rw [lg_entry_eq]
  generalize (lg_sl ([.int t]) ++ List.replicate (2 - (lg_sl ([.int t])).length) Slot.unset).toArray = ls at hl ⊢
  have hl : lv_has ls 2 [(0, .int t)] := hl
  refine lv_iconst (v := 0) hx hb dX1_neverFalls_0 (by decide) ?_
  refine lv_istore_n (lv' := [(1, .int 0), (0, .int t)]) hx hb dX1_neverFalls_1 rfl hl (by decide) rfl (fun ls hl => ?_)
  refine vz_cut (fun H1 l1 g1 => ∃ (n1 i1 : Nat) (a1 : Unit) (ls : Array Slot), i1 + n1 = 4 ∧ tX1_neverFalls_2 t n1 i1 a1 = tX1_neverFalls_2 t 4 0 () ∧ lv_has ls 2 [(1, .int (nI i1)), (0, .int t)] ∧ (s.heap = H1 ∧ [] = l1) ∧ g1 = F0 m 2 ls []) (fun hj => hj _ _ _ ⟨4, 0, (), ls, (by omega), rfl, lv_sub hl [0, 1] rfl, ⟨rfl, rfl⟩, rfl⟩) ?_
  rintro H1 l1 g1 ⟨n1, i1, a1, ls, hi1, hf1, hl, ⟨rfl, rfl⟩, rfl⟩
  revert i1 a1 ls
  induction n1 with
  | zero =>
    intro i1 a1 ls hi1 hf1 hl
    obtain rfl : i1 = 4 := by omega
    refine lv_iload_n hx hb dX1_neverFalls_2 rfl (lv_at hl 0 rfl) ?_
    refine lv_iconst (v := 4) hx hb dX1_neverFalls_3 (by decide) ?_
    refine lv_icmp_ge (tgt := 33) hx hb dX1_neverFalls_4 (by decide) (fun c_1 => ?_) (fun c_1 => ?_)
    · refine lv_iconst (v := 1) hx hb dX1_neverFalls_33 (by decide) ?_
      exact W.zret (v := 1) hx hb hr rfl (fun t9 ht hW => ⟨1, rfl, ((show 1 = tX1_neverFalls_2 t 0 4 a1 from by first | (symm; (rw [tX1_neverFalls_2]); first | done | rfl) | rfl).trans hf1), ht⟩) (fun q h => nomatch h) dX1_neverFalls_34
    · exact absurd (nI_le (a := 4) (b := 4) (by omega) (by omega)) c_1
  | succ n1 ih1 =>
    intro i1 a1 ls hi1 hf1 hl
    refine lv_iload_n hx hb dX1_neverFalls_2 rfl (lv_at hl 0 rfl) ?_
    refine lv_iconst (v := 4) hx hb dX1_neverFalls_3 (by decide) ?_
    refine lv_icmp_ge (tgt := 33) hx hb dX1_neverFalls_4 (by decide) (fun c_2 => ?_) (fun c_2 => ?_)
    · exact absurd c_2 (nI_ge (a := i1) (b := 4) (by omega) (by omega))
    · refine lv_iload_n hx hb dX1_neverFalls_7 rfl (lv_at hl 1 rfl) ?_
      refine lv_iload_n hx hb dX1_neverFalls_8 rfl (lv_at hl 0 rfl) ?_
      refine lv_iconst (v := 0) hx hb dX1_neverFalls_9 (by decide) ?_
      refine vp_callSi (va_Run.run (va_runS (As := [.int t, .int (nI i1), .int 0]) (rest := []) ⟨hx, hb, hml, hown, hts⟩ (c_X1_half l t (nI i1) 0 (vp_in_nI (n := i1) (by omega) (by decide))) (va_cwS 3 hts gX1_neverFalls_X1_half rfl rfl rfl (by decide +kernel) ⟨Nat.le_of_ble_eq_true rfl, Nat.le_of_ble_eq_true rfl⟩) ⟨fun a U g mk z => ⟨z.1, z.2.blind g mk a⟩, fun U hU hW => ⟨rfl, hE.at0 hS hU hW⟩⟩ rfl rfl hl.1 rfl (lv_room (Nat.le_of_ble_eq_true rfl)) dX1_neverFalls_10 ⟨(Nat.zero_le _), (Nat.zero_le _)⟩)) (fun r hr => ?_)
      subst hr
      refine lv_iload_n hx hb dX1_neverFalls_13 rfl (lv_at hl 1 rfl) ?_
      refine lv_iload_n hx hb dX1_neverFalls_14 rfl (lv_at hl 0 rfl) ?_
      refine lv_iconst (v := 1) hx hb dX1_neverFalls_15 (by decide) ?_
      refine vp_callSi (va_Run.run (va_runS (As := [.int t, .int (nI i1), .int 1]) (rest := [.int (fX1_half t (nI i1) 0)]) ⟨hx, hb, hml, hown, hts⟩ (c_X1_half l t (nI i1) 1 (vp_in_nI (n := i1) (by omega) (by decide))) (va_cwS 3 hts gX1_neverFalls_X1_half rfl rfl rfl (by decide +kernel) ⟨Nat.le_of_ble_eq_true rfl, Nat.le_of_ble_eq_true rfl⟩) ⟨fun a U g mk z => ⟨z.1, z.2.blind g mk a⟩, fun U hU hW => ⟨rfl, hE.at0 hS hU hW⟩⟩ rfl rfl hl.1 rfl (lv_room (Nat.le_of_ble_eq_true rfl)) dX1_neverFalls_16 ⟨(Nat.zero_le _), (Nat.zero_le _)⟩)) (fun r hr => ?_)
      subst hr
      refine lv_iconst (v := (-1)) hx hb dX1_neverFalls_19 (by decide) ?_
      refine lv_ixor hx hb dX1_neverFalls_20 ?_
      refine lv_iand hx hb dX1_neverFalls_21 ?_
      refine lv_if_eq (tgt := 27) hx hb dX1_neverFalls_22 (by decide) (fun c_3 => ?_) (fun c_3 => ?_)
      · refine lv_iinc (v := (nI (i1 + 1))) (lv' := [(1, .int (nI (i1 + 1))), (0, .int t)]) hx hb dX1_neverFalls_27 hl (k := 0) rfl (by first | exact nI_add _ _ | rfl) (by decide) rfl (fun ls hl => ?_)
        refine lv_goto (tgt := 2) hx hb dX1_neverFalls_30 (by decide) ?_
        exact ih1 (i1 + 1) () ls (by omega) ((show tX1_neverFalls_2 t n1 (i1 + 1) () = tX1_neverFalls_2 t (n1 + 1) i1 a1 from by first | (symm; (rw [tX1_neverFalls_2, if_pos c_3]); first | done | rfl) | rfl).trans hf1) (lv_sub hl [0, 1] rfl)
      · refine lv_iconst (v := 0) hx hb dX1_neverFalls_25 (by decide) ?_
        exact W.zret (v := 0) hx hb hr rfl (fun t9 ht hW => ⟨0, rfl, ((show 0 = tX1_neverFalls_2 t (n1 + 1) i1 a1 from by first | (symm; (rw [tX1_neverFalls_2, if_neg c_3]); first | done | rfl) | rfl).trans hf1), ht⟩) (fun q h => nomatch h) dX1_neverFalls_26
def mX1_classesOf_7 (t : Int32) : Int32 := (if (fX1_bit t 0) = 0 then (0 ||| 1) else 0 : Int32)
def mX1_classesOf_21 (t : Int32) (x1_0 : Int32) : Int32 := (if (fX1_bit t 15) = 1 then (x1_0 ||| 2) else x1_0 : Int32)
def mX1_classesOf_32 (t : Int32) (x2_0 : Int32) : Int32 := (if (fX1_hasOppositeEnds t) = 0 then x2_0 else (x2_0 ||| 4) : Int32)
def mX1_classesOf_43 (t : Int32) (x3_0 : Int32) : Int32 := (if (fX1_neverFalls t) = 0 then x3_0 else (x3_0 ||| 8) : Int32)
def mX1_classesOf_56 (t : Int32) (x4_0 : Int32) : Int32 := (if 1 < (fX1_degree t) then x4_0 else (x4_0 ||| 16) : Int32)
def fX1_classesOf (t : Int32) : Int32 := (mX1_classesOf_56 t (mX1_classesOf_43 t (mX1_classesOf_32 t (mX1_classesOf_21 t (mX1_classesOf_7 t)))))
set_option maxHeartbeats 4000000 in
set_option maxRecDepth 100000 in
theorem c_X1_classesOf (l : Launch) (t : Int32) : Met l yX1_classesOf wsX1_classesOf ({ frames := 2, cells := 0, slots := 0, locals := 46 }) (va_Pc [.int t] (fun U => env0 U)) (vp_Si (fun r => r = (fX1_classesOf t))) 0 0 (fun _ => False) := by
  refine Met.ofW (cc := cX1_classesOf) (maxL := 2) (ret := (some .int)) (by decide) rfl ?_
  intro p e s m args below meth c s₁ B hml hv
  obtain ⟨rfl, hE⟩ := hv
  have hx := B.exec
  have hb := B.bytes
  have hr := B.returns
  have hts := atoms_spec (ws := wsX1_classesOf) B.pre
  have hown : s.vm.findClass RX1 = some m.cls := findClass_of_methodNamed B.named
  have hlocks := B.notSynchronized
  have hS : va_S (fun _ => False) s.heap s.heap [] := va_S.rf
  have hl := lv_entry ([.int t]) (n := 2) (Nat.le_of_ble_eq_true rfl)
  rw [lg_entry_eq]
  generalize (lg_sl ([.int t]) ++ List.replicate (2 - (lg_sl ([.int t])).length) Slot.unset).toArray = ls at hl ⊢
  have hl : lv_has ls 2 [(0, .int t)] := hl
  refine lv_iconst (v := 0) hx hb dX1_classesOf_0 (by decide) ?_
  refine lv_istore_n (lv' := [(1, .int 0), (0, .int t)]) hx hb dX1_classesOf_1 rfl hl (by decide) rfl (fun ls hl => ?_)
  refine lv_iload_n hx hb dX1_classesOf_2 rfl (lv_at hl 1 rfl) ?_
  refine lv_iconst (v := 0) hx hb dX1_classesOf_3 (by decide) ?_
  refine vp_callSi (va_Run.run (va_runS (As := [.int t, .int 0]) (rest := []) ⟨hx, hb, hml, hown, hts⟩ (c_X1_bit l t 0) (va_cwS 2 hts gX1_classesOf_X1_bit rfl rfl rfl (by decide +kernel) ⟨Nat.le_of_ble_eq_true rfl, Nat.le_of_ble_eq_true rfl⟩) ⟨fun _ _ _ _ z => z, fun _ _ _ => ⟨rfl, trivial⟩⟩ rfl rfl hl.1 rfl (lv_room (Nat.le_of_ble_eq_true rfl)) dX1_classesOf_4 ⟨(Nat.zero_le _), (Nat.zero_le _)⟩)) (fun r hr => ?_)
  subst hr
  refine vz_cut (fun H1 l1 g1 => ∃ (x1_0 : Int32) (ls : Array Slot), x1_0 = (if (fX1_bit t 0) = 0 then (0 ||| 1) else 0 : Int32) ∧ lv_has ls 2 [(1, .int x1_0), (0, .int t)] ∧ (s.heap = H1 ∧ [] = l1) ∧ g1 = F0 m 14 ls []) (fun hj1 => ?_) ?_
  · refine lv_if_ne (tgt := 14) hx hb dX1_classesOf_7 (by decide) (fun c_1 => ?_) (fun c_1 => ?_)
    · exact hj1 _ _ _ ⟨0, ls, (by (rw [if_neg c_1]); first | done | rfl), lv_sub hl [0, 1] rfl, ⟨rfl, rfl⟩, rfl⟩
    · refine lv_iload_n hx hb dX1_classesOf_10 rfl (lv_at hl 0 rfl) ?_
      refine lv_iconst (v := 1) hx hb dX1_classesOf_11 (by decide) ?_
      refine lv_ior hx hb dX1_classesOf_12 ?_
      refine lv_istore_n (lv' := [(1, .int (0 ||| 1)), (0, .int t)]) hx hb dX1_classesOf_13 rfl hl (by decide) rfl (fun ls hl => ?_)
      exact hj1 _ _ _ ⟨(0 ||| 1), ls, (by (rw [if_pos c_1]); first | done | rfl), lv_sub hl [0, 1] rfl, ⟨rfl, rfl⟩, rfl⟩
  rintro H1 l1 g1 ⟨x1_0, ls, ex1_0, hl, ⟨rfl, rfl⟩, rfl⟩
  have ex1_0 : x1_0 = (mX1_classesOf_7 t) := ex1_0
  refine lv_iload_n hx hb dX1_classesOf_14 rfl (lv_at hl 1 rfl) ?_
  refine lv_bipush (v := 15) hx hb dX1_classesOf_15 (by decide) ?_
  refine vp_callSi (va_Run.run (va_runS (As := [.int t, .int 15]) (rest := []) ⟨hx, hb, hml, hown, hts⟩ (c_X1_bit l t 15) (va_cwS 2 hts gX1_classesOf_X1_bit rfl rfl rfl (by decide +kernel) ⟨Nat.le_of_ble_eq_true rfl, Nat.le_of_ble_eq_true rfl⟩) ⟨fun _ _ _ _ z => z, fun _ _ _ => ⟨rfl, trivial⟩⟩ rfl rfl hl.1 rfl (lv_room (Nat.le_of_ble_eq_true rfl)) dX1_classesOf_17 ⟨(Nat.zero_le _), (Nat.zero_le _)⟩)) (fun r hr => ?_)
  subst hr
  refine lv_iconst (v := 1) hx hb dX1_classesOf_20 (by decide) ?_
  refine vz_cut (fun H1 l1 g1 => ∃ (x2_0 : Int32) (ls : Array Slot), x2_0 = (if (fX1_bit t 15) = 1 then (x1_0 ||| 2) else x1_0 : Int32) ∧ lv_has ls 2 [(1, .int x2_0), (0, .int t)] ∧ (s.heap = H1 ∧ [] = l1) ∧ g1 = F0 m 28 ls []) (fun hj2 => ?_) ?_
  · refine lv_icmp_ne (tgt := 28) hx hb dX1_classesOf_21 (by decide) (fun c_2 => ?_) (fun c_2 => ?_)
    · exact hj2 _ _ _ ⟨x1_0, ls, (by (rw [if_neg c_2]); first | done | rfl), lv_sub hl [0, 1] rfl, ⟨rfl, rfl⟩, rfl⟩
    · refine lv_iload_n hx hb dX1_classesOf_24 rfl (lv_at hl 0 rfl) ?_
      refine lv_iconst (v := 2) hx hb dX1_classesOf_25 (by decide) ?_
      refine lv_ior hx hb dX1_classesOf_26 ?_
      refine lv_istore_n (lv' := [(1, .int (x1_0 ||| 2)), (0, .int t)]) hx hb dX1_classesOf_27 rfl hl (by decide) rfl (fun ls hl => ?_)
      exact hj2 _ _ _ ⟨(x1_0 ||| 2), ls, (by (rw [if_pos c_2]); first | done | rfl), lv_sub hl [0, 1] rfl, ⟨rfl, rfl⟩, rfl⟩
  rintro H1 l1 g1 ⟨x2_0, ls, ex2_0, hl, ⟨rfl, rfl⟩, rfl⟩
  have ex2_0 : x2_0 = (mX1_classesOf_21 t x1_0) := ex2_0
  refine lv_iload_n hx hb dX1_classesOf_28 rfl (lv_at hl 1 rfl) ?_
  refine vp_callSi (va_Run.run (va_runS (As := [.int t]) (rest := []) ⟨hx, hb, hml, hown, hts⟩ (c_X1_hasOppositeEnds l t) (va_cwS 1 hts gX1_classesOf_X1_hasOppositeEnds rfl rfl rfl (by decide +kernel) ⟨Nat.le_of_ble_eq_true rfl, Nat.le_of_ble_eq_true rfl⟩) ⟨fun _ _ _ _ z => z, fun _ _ _ => ⟨rfl, trivial⟩⟩ rfl rfl hl.1 rfl (lv_room (Nat.le_of_ble_eq_true rfl)) dX1_classesOf_29 ⟨(Nat.zero_le _), (Nat.zero_le _)⟩)) (fun r hr => ?_)
  subst hr
  refine vz_cut (fun H1 l1 g1 => ∃ (x3_0 : Int32) (ls : Array Slot), x3_0 = (if (fX1_hasOppositeEnds t) = 0 then x2_0 else (x2_0 ||| 4) : Int32) ∧ lv_has ls 2 [(1, .int x3_0), (0, .int t)] ∧ (s.heap = H1 ∧ [] = l1) ∧ g1 = F0 m 39 ls []) (fun hj3 => ?_) ?_
  · refine lv_if_eq (tgt := 39) hx hb dX1_classesOf_32 (by decide) (fun c_3 => ?_) (fun c_3 => ?_)
    · exact hj3 _ _ _ ⟨x2_0, ls, (by (rw [if_pos c_3]); first | done | rfl), lv_sub hl [0, 1] rfl, ⟨rfl, rfl⟩, rfl⟩
    · refine lv_iload_n hx hb dX1_classesOf_35 rfl (lv_at hl 0 rfl) ?_
      refine lv_iconst (v := 4) hx hb dX1_classesOf_36 (by decide) ?_
      refine lv_ior hx hb dX1_classesOf_37 ?_
      refine lv_istore_n (lv' := [(1, .int (x2_0 ||| 4)), (0, .int t)]) hx hb dX1_classesOf_38 rfl hl (by decide) rfl (fun ls hl => ?_)
      exact hj3 _ _ _ ⟨(x2_0 ||| 4), ls, (by (rw [if_neg c_3]); first | done | rfl), lv_sub hl [0, 1] rfl, ⟨rfl, rfl⟩, rfl⟩
  rintro H1 l1 g1 ⟨x3_0, ls, ex3_0, hl, ⟨rfl, rfl⟩, rfl⟩
  have ex3_0 : x3_0 = (mX1_classesOf_32 t x2_0) := ex3_0
  refine lv_iload_n hx hb dX1_classesOf_39 rfl (lv_at hl 1 rfl) ?_
  refine vp_callSi (va_Run.run (va_runS (As := [.int t]) (rest := []) ⟨hx, hb, hml, hown, hts⟩ (c_X1_neverFalls l t) (va_cwS 1 hts gX1_classesOf_X1_neverFalls rfl rfl rfl (by decide +kernel) ⟨Nat.le_of_ble_eq_true rfl, Nat.le_of_ble_eq_true rfl⟩) ⟨fun a U g mk z => ⟨z.1, z.2.blind g mk a⟩, fun U hU hW => ⟨rfl, hE.at0 hS hU hW⟩⟩ rfl rfl hl.1 rfl (lv_room (Nat.le_of_ble_eq_true rfl)) dX1_classesOf_40 ⟨(Nat.zero_le _), (Nat.zero_le _)⟩)) (fun r hr => ?_)
  subst hr
  refine vz_cut (fun H1 l1 g1 => ∃ (x4_0 : Int32) (ls : Array Slot), x4_0 = (if (fX1_neverFalls t) = 0 then x3_0 else (x3_0 ||| 8) : Int32) ∧ lv_has ls 2 [(1, .int x4_0), (0, .int t)] ∧ (s.heap = H1 ∧ [] = l1) ∧ g1 = F0 m 51 ls []) (fun hj4 => ?_) ?_
  · refine lv_if_eq (tgt := 51) hx hb dX1_classesOf_43 (by decide) (fun c_4 => ?_) (fun c_4 => ?_)
    · exact hj4 _ _ _ ⟨x3_0, ls, (by (rw [if_pos c_4]); first | done | rfl), lv_sub hl [0, 1] rfl, ⟨rfl, rfl⟩, rfl⟩
    · refine lv_iload_n hx hb dX1_classesOf_46 rfl (lv_at hl 0 rfl) ?_
      refine lv_bipush (v := 8) hx hb dX1_classesOf_47 (by decide) ?_
      refine lv_ior hx hb dX1_classesOf_49 ?_
      refine lv_istore_n (lv' := [(1, .int (x3_0 ||| 8)), (0, .int t)]) hx hb dX1_classesOf_50 rfl hl (by decide) rfl (fun ls hl => ?_)
      exact hj4 _ _ _ ⟨(x3_0 ||| 8), ls, (by (rw [if_neg c_4]); first | done | rfl), lv_sub hl [0, 1] rfl, ⟨rfl, rfl⟩, rfl⟩
  rintro H1 l1 g1 ⟨x4_0, ls, ex4_0, hl, ⟨rfl, rfl⟩, rfl⟩
  have ex4_0 : x4_0 = (mX1_classesOf_43 t x3_0) := ex4_0
  refine lv_iload_n hx hb dX1_classesOf_51 rfl (lv_at hl 1 rfl) ?_
  refine vp_callSi (va_Run.run (va_runS (As := [.int t]) (rest := []) ⟨hx, hb, hml, hown, hts⟩ (c_X1_degree l t) (va_cwS 1 hts gX1_classesOf_X1_degree rfl rfl rfl (by decide +kernel) ⟨Nat.le_of_ble_eq_true rfl, Nat.le_of_ble_eq_true rfl⟩) ⟨fun a U g mk z => ⟨z.1, z.2.blind g mk a⟩, fun U hU hW => ⟨rfl, hE.at0 hS hU hW⟩⟩ rfl rfl hl.1 rfl (lv_room (Nat.le_of_ble_eq_true rfl)) dX1_classesOf_52 ⟨(Nat.zero_le _), (Nat.zero_le _)⟩)) (fun r hr => ?_)
  subst hr
  refine lv_iconst (v := 1) hx hb dX1_classesOf_55 (by decide) ?_
  refine vz_cut (fun H1 l1 g1 => ∃ (x5_0 : Int32) (ls : Array Slot), x5_0 = (if 1 < (fX1_degree t) then x4_0 else (x4_0 ||| 16) : Int32) ∧ lv_has ls 2 [(1, .int x5_0), (0, .int t)] ∧ (s.heap = H1 ∧ [] = l1) ∧ g1 = F0 m 64 ls []) (fun hj5 => ?_) ?_
  · refine lv_icmp_gt (tgt := 64) hx hb dX1_classesOf_56 (by decide) (fun c_5 => ?_) (fun c_5 => ?_)
    · exact hj5 _ _ _ ⟨x4_0, ls, (by (rw [if_pos c_5]); first | done | rfl), lv_sub hl [0, 1] rfl, ⟨rfl, rfl⟩, rfl⟩
    · refine lv_iload_n hx hb dX1_classesOf_59 rfl (lv_at hl 0 rfl) ?_
      refine lv_bipush (v := 16) hx hb dX1_classesOf_60 (by decide) ?_
      refine lv_ior hx hb dX1_classesOf_62 ?_
      refine lv_istore_n (lv' := [(1, .int (x4_0 ||| 16)), (0, .int t)]) hx hb dX1_classesOf_63 rfl hl (by decide) rfl (fun ls hl => ?_)
      exact hj5 _ _ _ ⟨(x4_0 ||| 16), ls, (by (rw [if_neg c_5]); first | done | rfl), lv_sub hl [0, 1] rfl, ⟨rfl, rfl⟩, rfl⟩
  rintro H1 l1 g1 ⟨x5_0, ls, ex5_0, hl, ⟨rfl, rfl⟩, rfl⟩
  have ex5_0 : x5_0 = (mX1_classesOf_56 t x4_0) := ex5_0
  refine lv_iload_n hx hb dX1_classesOf_64 rfl (lv_at hl 0 rfl) ?_
  exact W.iret (v := x5_0) hx hb hr (fun t9 ht hW => ⟨x5_0, rfl, (by first | ((rw [fX1_classesOf]); (try rw [← ex1_0]); (try rw [← ex2_0]); (try rw [← ex3_0]); (try rw [← ex4_0]); (try rw [← ex5_0]); first | done | rfl) | rfl), ht⟩) (fun q h => nomatch h) dX1_classesOf_65
def fX2_in (v : Int32) (lo : Int32) (hi : Int32) : Int32 := if v < lo then 0 else (if hi < v then 0 else 1)
set_option maxHeartbeats 4000000 in
set_option maxRecDepth 100000 in
theorem c_X2_in (l : Launch) (v : Int32) (lo : Int32) (hi : Int32) : Met l yX2_in wsX2_in ({ frames := 0, cells := 0, slots := 0, locals := 0 }) (va_Pc [.int v, .int lo, .int hi] (fun _ => True)) (vp_Si (fun r => r = (fX2_in v lo hi))) 0 0 (fun _ => False) := by
  refine Met.ofW (cc := cX2_in) (maxL := 3) (ret := (some .boolean)) (by decide) rfl ?_
  intro p e s m args below meth c s₁ B hml hv
  obtain ⟨rfl, -⟩ := hv
  have hx := B.exec
  have hb := B.bytes
  have hr := B.returns
  have hts := atoms_spec (ws := wsX2_in) B.pre
  have hown : s.vm.findClass RX2 = some m.cls := findClass_of_methodNamed B.named
  have hlocks := B.notSynchronized
  have hS : va_S (fun _ => False) s.heap s.heap [] := va_S.rf
  have hl := lv_entry ([.int v, .int lo, .int hi]) (n := 3) (Nat.le_of_ble_eq_true rfl)
  rw [lg_entry_eq]
  generalize (lg_sl ([.int v, .int lo, .int hi]) ++ List.replicate (3 - (lg_sl ([.int v, .int lo, .int hi])).length) Slot.unset).toArray = ls at hl ⊢
  have hl : lv_has ls 3 [(0, .int v), (1, .int lo), (2, .int hi)] := hl
  refine lv_iload_n hx hb dX2_in_0 rfl (lv_at hl 0 rfl) ?_
  refine lv_iload_n hx hb dX2_in_1 rfl (lv_at hl 1 rfl) ?_
  refine lv_icmp_lt (tgt := 14) hx hb dX2_in_2 (by decide) (fun c_1 => ?_) (fun c_1 => ?_)
  · refine lv_iconst (v := 0) hx hb dX2_in_14 (by decide) ?_
    exact W.zret (v := 0) hx hb hr rfl (fun t9 ht hW => ⟨0, rfl, (by first | ((rw [fX2_in, if_pos c_1]); first | done | rfl) | rfl), ht⟩) (fun q h => nomatch h) dX2_in_15
  · refine lv_iload_n hx hb dX2_in_5 rfl (lv_at hl 0 rfl) ?_
    refine lv_iload_n hx hb dX2_in_6 rfl (lv_at hl 2 rfl) ?_
    refine lv_icmp_gt (tgt := 14) hx hb dX2_in_7 (by decide) (fun c_2 => ?_) (fun c_2 => ?_)
    · refine lv_iconst (v := 0) hx hb dX2_in_14 (by decide) ?_
      exact W.zret (v := 0) hx hb hr rfl (fun t9 ht hW => ⟨0, rfl, (by first | ((rw [fX2_in, if_neg c_1, if_pos c_2]); first | done | rfl) | rfl), ht⟩) (fun q h => nomatch h) dX2_in_15
    · refine lv_iconst (v := 1) hx hb dX2_in_10 (by decide) ?_
      refine lv_goto (tgt := 15) hx hb dX2_in_11 (by decide) ?_
      exact W.zret (v := 1) hx hb hr rfl (fun t9 ht hW => ⟨1, rfl, (by first | ((rw [fX2_in, if_neg c_1, if_neg c_2]); first | done | rfl) | rfl), ht⟩) (fun q h => nomatch h) dX2_in_15
def fX2_isOne (v : Int32) : Int32 := (fX2_in v 0 5)
theorem nX2_in (v lo hi : Int32) : narrow .boolean (.int (fX2_in v lo hi)) = .int (fX2_in v lo hi) := by unfold fX2_in; split <;> (try split) <;> rfl
set_option maxHeartbeats 4000000 in
set_option maxRecDepth 100000 in
theorem c_X2_isOne (l : Launch) (v : Int32) : Met l yX2_isOne wsX2_isOne ({ frames := 1, cells := 0, slots := 0, locals := 22 }) (va_Pc [.int v] (fun _ => True)) (vp_Si (fun r => r = (fX2_isOne v))) 0 0 (fun _ => False) := by
  refine Met.ofW (cc := cX2_isOne) (maxL := 1) (ret := (some .boolean)) (by decide) rfl ?_
  intro p e s m args below meth c s₁ B hml hv
  obtain ⟨rfl, -⟩ := hv
  have hx := B.exec
  have hb := B.bytes
  have hr := B.returns
  have hts := atoms_spec (ws := wsX2_isOne) B.pre
  have hown : s.vm.findClass RX2 = some m.cls := findClass_of_methodNamed B.named
  have hlocks := B.notSynchronized
  have hS : va_S (fun _ => False) s.heap s.heap [] := va_S.rf
  have hl := lv_entry ([.int v]) (n := 1) (Nat.le_of_ble_eq_true rfl)
  rw [lg_entry_eq]
  generalize (lg_sl ([.int v]) ++ List.replicate (1 - (lg_sl ([.int v])).length) Slot.unset).toArray = ls at hl ⊢
  have hl : lv_has ls 1 [(0, .int v)] := hl
  refine lv_iload_n hx hb dX2_isOne_0 rfl (lv_at hl 0 rfl) ?_
  refine lv_iconst (v := 0) hx hb dX2_isOne_1 (by decide) ?_
  refine lv_iconst (v := 5) hx hb dX2_isOne_2 (by decide) ?_
  refine vp_callSi (va_Run.run (va_runS (As := [.int v, .int 0, .int 5]) (rest := []) ⟨hx, hb, hml, hown, hts⟩ (c_X2_in l v 0 5) (va_cwS 3 hts gX2_isOne_X2_in rfl rfl rfl (by decide +kernel) ⟨Nat.le_of_ble_eq_true rfl, Nat.le_of_ble_eq_true rfl⟩) ⟨fun _ _ _ _ z => z, fun _ _ _ => ⟨rfl, trivial⟩⟩ rfl rfl hl.1 rfl (lv_room (Nat.le_of_ble_eq_true rfl)) dX2_isOne_3 ⟨(Nat.zero_le _), (Nat.zero_le _)⟩)) (fun r hr => ?_)
  subst hr
  exact W.zret (v := (fX2_in v 0 5)) hx hb hr (nX2_in _ _ _) (fun t9 ht hW => ⟨(fX2_in v 0 5), rfl, (by first | ((rw [fX2_isOne]); first | done | rfl) | rfl), ht⟩) (fun q h => nomatch h) dX2_isOne_6
def sX2_variable_4 (v : Int32) (i1 : Nat) (a1 : Int32) : Int32 := (a1 ||| ((((nI i1) >>> (v &&& 31)) &&& 1) <<< ((nI i1) &&& 31)))
def fX2_variable (v : Int32) : Int32 := (lp (sX2_variable_4 v) 16 0 0)
set_option maxHeartbeats 4000000 in
set_option maxRecDepth 100000 in
theorem c_X2_variable (l : Launch) (v : Int32) : Met l yX2_variable wsX2_variable ({ frames := 0, cells := 0, slots := 0, locals := 0 }) (va_Pc [.int v] (fun _ => True)) (vp_Si (fun r => r = (fX2_variable v))) 0 0 (fun _ => False) := by
  refine Met.ofW (cc := cX2_variable) (maxL := 3) (ret := (some .int)) (by decide) rfl ?_
  intro p e s m args below meth c s₁ B hml hv
  obtain ⟨rfl, -⟩ := hv
  have hx := B.exec
  have hb := B.bytes
  have hr := B.returns
  have hts := atoms_spec (ws := wsX2_variable) B.pre
  have hown : s.vm.findClass RX2 = some m.cls := findClass_of_methodNamed B.named
  have hlocks := B.notSynchronized
  have hS : va_S (fun _ => False) s.heap s.heap [] := va_S.rf
  have hl := lv_entry ([.int v]) (n := 3) (Nat.le_of_ble_eq_true rfl)
  rw [lg_entry_eq]
  generalize (lg_sl ([.int v]) ++ List.replicate (3 - (lg_sl ([.int v])).length) Slot.unset).toArray = ls at hl ⊢
  have hl : lv_has ls 3 [(0, .int v)] := hl
  refine lv_iconst (v := 0) hx hb dX2_variable_0 (by decide) ?_
  refine lv_istore_n (lv' := [(1, .int 0), (0, .int v)]) hx hb dX2_variable_1 rfl hl (by decide) rfl (fun ls hl => ?_)
  refine lv_iconst (v := 0) hx hb dX2_variable_2 (by decide) ?_
  refine lv_istore_n (lv' := [(2, .int 0), (1, .int 0), (0, .int v)]) hx hb dX2_variable_3 rfl hl (by decide) rfl (fun ls hl => ?_)
  obtain ⟨F1, hF1⟩ : ∃ z, z = (lp (sX2_variable_4 v) 16 0 0) := ⟨_, rfl⟩
  refine vz_cut (fun H1 l1 g1 => ∃ (n1 i1 : Nat) (a1 : Int32) (ls : Array Slot), i1 + n1 = 16 ∧ lp (sX2_variable_4 v) n1 i1 a1 = F1 ∧ lv_has ls 3 [(2, .int (nI i1)), (1, .int a1), (0, .int v)] ∧ (s.heap = H1 ∧ [] = l1) ∧ g1 = F0 m 4 ls []) (fun hj => hj _ _ _ ⟨16, 0, 0, ls, (by omega), hF1.symm, lv_sub hl [0, 1, 2] rfl, ⟨rfl, rfl⟩, rfl⟩) ?_
  rintro H1 l1 g1 ⟨n1, i1, a1, ls, hi1, hf1, hl, ⟨rfl, rfl⟩, rfl⟩
  revert i1 a1 ls
  induction n1 with
  | zero =>
    intro i1 a1 ls hi1 hf1 hl
    obtain rfl : i1 = 16 := by omega
    have hf1 : F1 = a1 := hf1.symm
    subst hf1
    refine lv_iload_n hx hb dX2_variable_4 rfl (lv_at hl 0 rfl) ?_
    refine lv_bipush (v := 16) hx hb dX2_variable_5 (by decide) ?_
    refine lv_icmp_ge (tgt := 26) hx hb dX2_variable_7 (by decide) (fun c_1 => ?_) (fun c_1 => ?_)
    · refine lv_iload_n hx hb dX2_variable_26 rfl (lv_at hl 1 rfl) ?_
      exact W.iret (v := F1) hx hb hr (fun t9 ht hW => ⟨F1, rfl, (by first | ((rw [fX2_variable]); (try rw [← hF1]); first | done | rfl) | rfl), ht⟩) (fun q h => nomatch h) dX2_variable_27
    · exact absurd (nI_le (a := 16) (b := 16) (by omega) (by omega)) c_1
  | succ n1 ih1 =>
    intro i1 a1 ls hi1 hf1 hl
    refine lv_iload_n hx hb dX2_variable_4 rfl (lv_at hl 0 rfl) ?_
    refine lv_bipush (v := 16) hx hb dX2_variable_5 (by decide) ?_
    refine lv_icmp_ge (tgt := 26) hx hb dX2_variable_7 (by decide) (fun c_2 => ?_) (fun c_2 => ?_)
    · exact absurd c_2 (nI_ge (a := i1) (b := 16) (by omega) (by omega))
    · refine lv_iload_n hx hb dX2_variable_10 rfl (lv_at hl 1 rfl) ?_
      refine lv_iload_n hx hb dX2_variable_11 rfl (lv_at hl 0 rfl) ?_
      refine lv_iload_n hx hb dX2_variable_12 rfl (lv_at hl 2 rfl) ?_
      refine lv_ishr hx hb dX2_variable_13 ?_
      refine lv_iconst (v := 1) hx hb dX2_variable_14 (by decide) ?_
      refine lv_iand hx hb dX2_variable_15 ?_
      refine lv_iload_n hx hb dX2_variable_16 rfl (lv_at hl 0 rfl) ?_
      refine lv_ishl hx hb dX2_variable_17 ?_
      refine lv_ior hx hb dX2_variable_18 ?_
      refine lv_istore_n (lv' := [(1, .int (a1 ||| ((((nI i1) >>> (v &&& 31)) &&& 1) <<< ((nI i1) &&& 31)))), (2, .int (nI i1)), (0, .int v)]) hx hb dX2_variable_19 rfl hl (by decide) rfl (fun ls hl => ?_)
      refine lv_iinc (v := (nI (i1 + 1))) (lv' := [(2, .int (nI (i1 + 1))), (1, .int (a1 ||| ((((nI i1) >>> (v &&& 31)) &&& 1) <<< ((nI i1) &&& 31)))), (0, .int v)]) hx hb dX2_variable_20 hl (k := 1) rfl (by first | exact nI_add _ _ | rfl) (by decide) rfl (fun ls hl => ?_)
      refine lv_goto (tgt := 4) hx hb dX2_variable_23 (by decide) ?_
      exact ih1 (i1 + 1) (a1 ||| ((((nI i1) >>> (v &&& 31)) &&& 1) <<< ((nI i1) &&& 31))) ls (by omega) ((congrArg (lp (sX2_variable_4 v) n1 (i1 + 1)) (show (a1 ||| ((((nI i1) >>> (v &&& 31)) &&& 1) <<< ((nI i1) &&& 31))) = (sX2_variable_4 v) i1 a1 from by first | ((rw [sX2_variable_4]); first | done | rfl) | rfl)).trans hf1) (lv_sub hl [0, 1, 2] rfl)
def sX2_bits_4 (t : Int32) (i1 : Nat) (a1 : Int32) : Int32 := (a1 + ((t >>> ((nI i1) &&& 31)) &&& 1))
def fX2_bits (t : Int32) : Int32 := (lp (sX2_bits_4 t) 16 0 0)
set_option maxHeartbeats 4000000 in
set_option maxRecDepth 100000 in
theorem c_X2_bits (l : Launch) (t : Int32) : Met l yX2_bits wsX2_bits ({ frames := 0, cells := 0, slots := 0, locals := 0 }) (va_Pc [.int t] (fun _ => True)) (vp_Si (fun r => r = (fX2_bits t))) 0 0 (fun _ => False) := by
  refine Met.ofW (cc := cX2_bits) (maxL := 3) (ret := (some .int)) (by decide) rfl ?_
  intro p e s m args below meth c s₁ B hml hv
  obtain ⟨rfl, -⟩ := hv
  have hx := B.exec
  have hb := B.bytes
  have hr := B.returns
  have hts := atoms_spec (ws := wsX2_bits) B.pre
  have hown : s.vm.findClass RX2 = some m.cls := findClass_of_methodNamed B.named
  have hlocks := B.notSynchronized
  have hS : va_S (fun _ => False) s.heap s.heap [] := va_S.rf
  have hl := lv_entry ([.int t]) (n := 3) (Nat.le_of_ble_eq_true rfl)
  rw [lg_entry_eq]
  generalize (lg_sl ([.int t]) ++ List.replicate (3 - (lg_sl ([.int t])).length) Slot.unset).toArray = ls at hl ⊢
  have hl : lv_has ls 3 [(0, .int t)] := hl
  refine lv_iconst (v := 0) hx hb dX2_bits_0 (by decide) ?_
  refine lv_istore_n (lv' := [(1, .int 0), (0, .int t)]) hx hb dX2_bits_1 rfl hl (by decide) rfl (fun ls hl => ?_)
  refine lv_iconst (v := 0) hx hb dX2_bits_2 (by decide) ?_
  refine lv_istore_n (lv' := [(2, .int 0), (1, .int 0), (0, .int t)]) hx hb dX2_bits_3 rfl hl (by decide) rfl (fun ls hl => ?_)
  obtain ⟨F1, hF1⟩ : ∃ z, z = (lp (sX2_bits_4 t) 16 0 0) := ⟨_, rfl⟩
  refine vz_cut (fun H1 l1 g1 => ∃ (n1 i1 : Nat) (a1 : Int32) (ls : Array Slot), i1 + n1 = 16 ∧ lp (sX2_bits_4 t) n1 i1 a1 = F1 ∧ lv_has ls 3 [(2, .int (nI i1)), (1, .int a1), (0, .int t)] ∧ (s.heap = H1 ∧ [] = l1) ∧ g1 = F0 m 4 ls []) (fun hj => hj _ _ _ ⟨16, 0, 0, ls, (by omega), hF1.symm, lv_sub hl [0, 1, 2] rfl, ⟨rfl, rfl⟩, rfl⟩) ?_
  rintro H1 l1 g1 ⟨n1, i1, a1, ls, hi1, hf1, hl, ⟨rfl, rfl⟩, rfl⟩
  revert i1 a1 ls
  induction n1 with
  | zero =>
    intro i1 a1 ls hi1 hf1 hl
    obtain rfl : i1 = 16 := by omega
    have hf1 : F1 = a1 := hf1.symm
    subst hf1
    refine lv_iload_n hx hb dX2_bits_4 rfl (lv_at hl 0 rfl) ?_
    refine lv_bipush (v := 16) hx hb dX2_bits_5 (by decide) ?_
    refine lv_icmp_ge (tgt := 24) hx hb dX2_bits_7 (by decide) (fun c_1 => ?_) (fun c_1 => ?_)
    · refine lv_iload_n hx hb dX2_bits_24 rfl (lv_at hl 1 rfl) ?_
      exact W.iret (v := F1) hx hb hr (fun t9 ht hW => ⟨F1, rfl, (by first | ((rw [fX2_bits]); (try rw [← hF1]); first | done | rfl) | rfl), ht⟩) (fun q h => nomatch h) dX2_bits_25
    · exact absurd (nI_le (a := 16) (b := 16) (by omega) (by omega)) c_1
  | succ n1 ih1 =>
    intro i1 a1 ls hi1 hf1 hl
    refine lv_iload_n hx hb dX2_bits_4 rfl (lv_at hl 0 rfl) ?_
    refine lv_bipush (v := 16) hx hb dX2_bits_5 (by decide) ?_
    refine lv_icmp_ge (tgt := 24) hx hb dX2_bits_7 (by decide) (fun c_2 => ?_) (fun c_2 => ?_)
    · exact absurd c_2 (nI_ge (a := i1) (b := 16) (by omega) (by omega))
    · refine lv_iload_n hx hb dX2_bits_10 rfl (lv_at hl 1 rfl) ?_
      refine lv_iload_n hx hb dX2_bits_11 rfl (lv_at hl 2 rfl) ?_
      refine lv_iload_n hx hb dX2_bits_12 rfl (lv_at hl 0 rfl) ?_
      refine lv_ishr hx hb dX2_bits_13 ?_
      refine lv_iconst (v := 1) hx hb dX2_bits_14 (by decide) ?_
      refine lv_iand hx hb dX2_bits_15 ?_
      refine lv_iadd hx hb dX2_bits_16 ?_
      refine lv_istore_n (lv' := [(1, .int (a1 + ((t >>> ((nI i1) &&& 31)) &&& 1))), (2, .int (nI i1)), (0, .int t)]) hx hb dX2_bits_17 rfl hl (by decide) rfl (fun ls hl => ?_)
      refine lv_iinc (v := (nI (i1 + 1))) (lv' := [(2, .int (nI (i1 + 1))), (1, .int (a1 + ((t >>> ((nI i1) &&& 31)) &&& 1))), (0, .int t)]) hx hb dX2_bits_18 hl (k := 1) rfl (by first | exact nI_add _ _ | rfl) (by decide) rfl (fun ls hl => ?_)
      refine lv_goto (tgt := 4) hx hb dX2_bits_21 (by decide) ?_
      exact ih1 (i1 + 1) (a1 + ((t >>> ((nI i1) &&& 31)) &&& 1)) ls (by omega) ((congrArg (lp (sX2_bits_4 t) n1 (i1 + 1)) (show (a1 + ((t >>> ((nI i1) &&& 31)) &&& 1)) = (sX2_bits_4 t) i1 a1 from by first | ((rw [sX2_bits_4]); first | done | rfl) | rfl)).trans hf1) (lv_sub hl [0, 1, 2] rfl)
def sX2_turned_15 (t : Int32) (i1 : Nat) (i2 : Nat) (a2 : Int32) : Int32 := (a2 + (if ((nI i2) &&& ((nI i1) ^^^ (-1))) = 0 then ((t >>> ((nI i2) &&& 31)) &&& 1) else 0 : Int32))
def sX2_turned_4 (t : Int32) (i1 : Nat) (a1 : Int32) : Int32 := (a1 ||| (((lp (sX2_turned_15 t i1) 16 0 0) &&& 1) <<< ((nI i1) &&& 31)))
def fX2_turned (t : Int32) : Int32 := (lp (sX2_turned_4 t) 16 0 0)
set_option maxHeartbeats 4000000 in
set_option maxRecDepth 100000 in
theorem c_X2_turned (l : Launch) (t : Int32) : Met l yX2_turned wsX2_turned ({ frames := 0, cells := 0, slots := 0, locals := 0 }) (va_Pc [.int t] (fun _ => True)) (vp_Si (fun r => r = (fX2_turned t))) 0 0 (fun _ => False) := by
  refine Met.ofW (cc := cX2_turned) (maxL := 5) (ret := (some .int)) (by decide) rfl ?_
  intro p e s m args below meth c s₁ B hml hv
  obtain ⟨rfl, -⟩ := hv
  have hx := B.exec
  have hb := B.bytes
  have hr := B.returns
  have hts := atoms_spec (ws := wsX2_turned) B.pre
  have hown : s.vm.findClass RX2 = some m.cls := findClass_of_methodNamed B.named
  have hlocks := B.notSynchronized
  have hS : va_S (fun _ => False) s.heap s.heap [] := va_S.rf
  have hl := lv_entry ([.int t]) (n := 5) (Nat.le_of_ble_eq_true rfl)
  rw [lg_entry_eq]
  generalize (lg_sl ([.int t]) ++ List.replicate (5 - (lg_sl ([.int t])).length) Slot.unset).toArray = ls at hl ⊢
  have hl : lv_has ls 5 [(0, .int t)] := hl
  refine lv_iconst (v := 0) hx hb dX2_turned_0 (by decide) ?_
  refine lv_istore_n (lv' := [(1, .int 0), (0, .int t)]) hx hb dX2_turned_1 rfl hl (by decide) rfl (fun ls hl => ?_)
  refine lv_iconst (v := 0) hx hb dX2_turned_2 (by decide) ?_
  refine lv_istore_n (lv' := [(2, .int 0), (1, .int 0), (0, .int t)]) hx hb dX2_turned_3 rfl hl (by decide) rfl (fun ls hl => ?_)
  obtain ⟨F1, hF1⟩ : ∃ z, z = (lp (sX2_turned_4 t) 16 0 0) := ⟨_, rfl⟩
  refine vz_cut (fun H1 l1 g1 => ∃ (n1 i1 : Nat) (a1 : Int32) (ls : Array Slot), i1 + n1 = 16 ∧ lp (sX2_turned_4 t) n1 i1 a1 = F1 ∧ lv_has ls 5 [(2, .int (nI i1)), (1, .int a1), (0, .int t)] ∧ (s.heap = H1 ∧ [] = l1) ∧ g1 = F0 m 4 ls []) (fun hj => hj _ _ _ ⟨16, 0, 0, ls, (by omega), hF1.symm, lv_sub hl [0, 1, 2] rfl, ⟨rfl, rfl⟩, rfl⟩) ?_
  rintro H1 l1 g1 ⟨n1, i1, a1, ls, hi1, hf1, hl, ⟨rfl, rfl⟩, rfl⟩
  revert i1 a1 ls
  induction n1 with
  | zero =>
    intro i1 a1 ls hi1 hf1 hl
    obtain rfl : i1 = 16 := by omega
    have hf1 : F1 = a1 := hf1.symm
    subst hf1
    refine lv_iload_n hx hb dX2_turned_4 rfl (lv_at hl 0 rfl) ?_
    refine lv_bipush (v := 16) hx hb dX2_turned_5 (by decide) ?_
    refine lv_icmp_ge (tgt := 64) hx hb dX2_turned_7 (by decide) (fun c_1 => ?_) (fun c_1 => ?_)
    · refine lv_iload_n hx hb dX2_turned_64 rfl (lv_at hl 1 rfl) ?_
      exact W.iret (v := F1) hx hb hr (fun t9 ht hW => ⟨F1, rfl, (by first | ((rw [fX2_turned]); (try rw [← hF1]); first | done | rfl) | rfl), ht⟩) (fun q h => nomatch h) dX2_turned_65
    · exact absurd (nI_le (a := 16) (b := 16) (by omega) (by omega)) c_1
  | succ n1 ih1 =>
    intro i1 a1 ls hi1 hf1 hl
    refine lv_iload_n hx hb dX2_turned_4 rfl (lv_at hl 0 rfl) ?_
    refine lv_bipush (v := 16) hx hb dX2_turned_5 (by decide) ?_
    refine lv_icmp_ge (tgt := 64) hx hb dX2_turned_7 (by decide) (fun c_2 => ?_) (fun c_2 => ?_)
    · exact absurd c_2 (nI_ge (a := i1) (b := 16) (by omega) (by omega))
    · refine lv_iconst (v := 0) hx hb dX2_turned_10 (by decide) ?_
      refine lv_istore_n (lv' := [(3, .int 0), (2, .int (nI i1)), (1, .int a1), (0, .int t)]) hx hb dX2_turned_11 rfl hl (by decide) rfl (fun ls hl => ?_)
      refine lv_iconst (v := 0) hx hb dX2_turned_12 (by decide) ?_
      refine lv_istore (lv' := [(4, .int 0), (3, .int 0), (2, .int (nI i1)), (1, .int a1), (0, .int t)]) hx hb dX2_turned_13 hl (by decide) rfl (fun ls hl => ?_)
      obtain ⟨F2, hF2⟩ : ∃ z, z = (lp (sX2_turned_15 t i1) 16 0 0) := ⟨_, rfl⟩
      refine vz_cut (fun H1 l1 g1 => ∃ (n2 i2 : Nat) (a2 : Int32) (ls : Array Slot), i2 + n2 = 16 ∧ lp (sX2_turned_15 t i1) n2 i2 a2 = F2 ∧ lv_has ls 5 [(4, .int (nI i2)), (3, .int a2), (2, .int (nI i1)), (1, .int a1), (0, .int t)] ∧ (s.heap = H1 ∧ [] = l1) ∧ g1 = F0 m 15 ls []) (fun hj => hj _ _ _ ⟨16, 0, 0, ls, (by omega), hF2.symm, lv_sub hl [0, 1, 2, 3, 4] rfl, ⟨rfl, rfl⟩, rfl⟩) ?_
      rintro H1 l1 g1 ⟨n2, i2, a2, ls, hi2, hf2, hl, ⟨rfl, rfl⟩, rfl⟩
      revert i2 a2 ls
      induction n2 with
      | zero =>
        intro i2 a2 ls hi2 hf2 hl
        obtain rfl : i2 = 16 := by omega
        have hf2 : F2 = a2 := hf2.symm
        subst hf2
        refine lv_iload hx hb dX2_turned_15 (lv_at hl 0 rfl) ?_
        refine lv_bipush (v := 16) hx hb dX2_turned_17 (by decide) ?_
        refine lv_icmp_ge (tgt := 50) hx hb dX2_turned_19 (by decide) (fun c_3 => ?_) (fun c_3 => ?_)
        · refine lv_iload_n hx hb dX2_turned_50 rfl (lv_at hl 3 rfl) ?_
          refine lv_iload_n hx hb dX2_turned_51 rfl (lv_at hl 1 rfl) ?_
          refine lv_iconst (v := 1) hx hb dX2_turned_52 (by decide) ?_
          refine lv_iand hx hb dX2_turned_53 ?_
          refine lv_iload_n hx hb dX2_turned_54 rfl (lv_at hl 2 rfl) ?_
          refine lv_ishl hx hb dX2_turned_55 ?_
          refine lv_ior hx hb dX2_turned_56 ?_
          refine lv_istore_n (lv' := [(1, .int (a1 ||| ((F2 &&& 1) <<< ((nI i1) &&& 31)))), (4, .int (nI 16)), (3, .int F2), (2, .int (nI i1)), (0, .int t)]) hx hb dX2_turned_57 rfl hl (by decide) rfl (fun ls hl => ?_)
          refine lv_iinc (v := (nI (i1 + 1))) (lv' := [(2, .int (nI (i1 + 1))), (1, .int (a1 ||| ((F2 &&& 1) <<< ((nI i1) &&& 31)))), (4, .int (nI 16)), (3, .int F2), (0, .int t)]) hx hb dX2_turned_58 hl (k := 3) rfl (by first | exact nI_add _ _ | rfl) (by decide) rfl (fun ls hl => ?_)
          refine lv_goto (tgt := 4) hx hb dX2_turned_61 (by decide) ?_
          exact ih1 (i1 + 1) (a1 ||| ((F2 &&& 1) <<< ((nI i1) &&& 31))) ls (by omega) ((congrArg (lp (sX2_turned_4 t) n1 (i1 + 1)) (show (a1 ||| ((F2 &&& 1) <<< ((nI i1) &&& 31))) = (sX2_turned_4 t) i1 a1 from by first | ((rw [sX2_turned_4]); (try rw [← hF2]); first | done | rfl) | rfl)).trans hf1) (lv_sub hl [0, 1, 4] rfl)
        · exact absurd (nI_le (a := 16) (b := 16) (by omega) (by omega)) c_3
      | succ n2 ih2 =>
        intro i2 a2 ls hi2 hf2 hl
        refine lv_iload hx hb dX2_turned_15 (lv_at hl 0 rfl) ?_
        refine lv_bipush (v := 16) hx hb dX2_turned_17 (by decide) ?_
        refine lv_icmp_ge (tgt := 50) hx hb dX2_turned_19 (by decide) (fun c_4 => ?_) (fun c_4 => ?_)
        · exact absurd c_4 (nI_ge (a := i2) (b := 16) (by omega) (by omega))
        · refine lv_iload_n hx hb dX2_turned_22 rfl (lv_at hl 1 rfl) ?_
          refine lv_iload hx hb dX2_turned_23 (lv_at hl 0 rfl) ?_
          refine lv_iload_n hx hb dX2_turned_25 rfl (lv_at hl 2 rfl) ?_
          refine lv_iconst (v := (-1)) hx hb dX2_turned_26 (by decide) ?_
          refine lv_ixor hx hb dX2_turned_27 ?_
          refine lv_iand hx hb dX2_turned_28 ?_
          refine vz_cut (fun H1 l1 g1 => ∃ (x1_0 : Int32) (ls : Array Slot), x1_0 = (if ((nI i2) &&& ((nI i1) ^^^ (-1))) = 0 then ((t >>> ((nI i2) &&& 31)) &&& 1) else 0 : Int32) ∧ lv_has ls 5 [(4, .int (nI i2)), (3, .int a2), (2, .int (nI i1)), (1, .int a1), (0, .int t)] ∧ (s.heap = H1 ∧ [] = l1) ∧ g1 = F0 m 42 ls [.int x1_0, .int a2]) (fun hj1 => ?_) ?_
          · refine lv_if_ne (tgt := 41) hx hb dX2_turned_29 (by decide) (fun c_5 => ?_) (fun c_5 => ?_)
            · refine lv_iconst (v := 0) hx hb dX2_turned_41 (by decide) ?_
              exact hj1 _ _ _ ⟨0, ls, (by (rw [if_neg c_5]); first | done | rfl), lv_sub hl [0, 1, 2, 3, 4] rfl, ⟨rfl, rfl⟩, rfl⟩
            · refine lv_iload_n hx hb dX2_turned_32 rfl (lv_at hl 4 rfl) ?_
              refine lv_iload hx hb dX2_turned_33 (lv_at hl 0 rfl) ?_
              refine lv_ishr hx hb dX2_turned_35 ?_
              refine lv_iconst (v := 1) hx hb dX2_turned_36 (by decide) ?_
              refine lv_iand hx hb dX2_turned_37 ?_
              refine lv_goto (tgt := 42) hx hb dX2_turned_38 (by decide) ?_
              exact hj1 _ _ _ ⟨((t >>> ((nI i2) &&& 31)) &&& 1), ls, (by (rw [if_pos c_5]); first | done | rfl), lv_sub hl [0, 1, 2, 3, 4] rfl, ⟨rfl, rfl⟩, rfl⟩
          rintro H1 l1 g1 ⟨x1_0, ls, ex1_0, hl, ⟨rfl, rfl⟩, rfl⟩
          subst ex1_0
          refine lv_iadd hx hb dX2_turned_42 ?_
          refine lv_istore_n (lv' := [(3, .int (a2 + (if ((nI i2) &&& ((nI i1) ^^^ (-1))) = 0 then ((t >>> ((nI i2) &&& 31)) &&& 1) else 0 : Int32))), (4, .int (nI i2)), (2, .int (nI i1)), (1, .int a1), (0, .int t)]) hx hb dX2_turned_43 rfl hl (by decide) rfl (fun ls hl => ?_)
          refine lv_iinc (v := (nI (i2 + 1))) (lv' := [(4, .int (nI (i2 + 1))), (3, .int (a2 + (if ((nI i2) &&& ((nI i1) ^^^ (-1))) = 0 then ((t >>> ((nI i2) &&& 31)) &&& 1) else 0 : Int32))), (2, .int (nI i1)), (1, .int a1), (0, .int t)]) hx hb dX2_turned_44 hl (k := 1) rfl (by first | exact nI_add _ _ | rfl) (by decide) rfl (fun ls hl => ?_)
          refine lv_goto (tgt := 15) hx hb dX2_turned_47 (by decide) ?_
          exact ih2 (i2 + 1) (a2 + (if ((nI i2) &&& ((nI i1) ^^^ (-1))) = 0 then ((t >>> ((nI i2) &&& 31)) &&& 1) else 0 : Int32)) ls (by omega) ((congrArg (lp (sX2_turned_15 t i1) n2 (i2 + 1)) (show (a2 + (if ((nI i2) &&& ((nI i1) ^^^ (-1))) = 0 then ((t >>> ((nI i2) &&& 31)) &&& 1) else 0 : Int32)) = (sX2_turned_15 t i1) i2 a2 from by first | ((rw [sX2_turned_15]); first | done | rfl) | rfl)).trans hf2) (lv_sub hl [0, 1, 2, 3, 4] rfl)
def sX2_degree_9 (t : Int32) (i1 : Nat) (a1 : Int32) : Int32 := (if (((fX2_turned t) >>> ((nI i1) &&& 31)) &&& 1) = 1 then (if (fX2_bits (nI i1)) ≤ a1 then a1 else (fX2_bits (nI i1))) else a1 : Int32)
def fX2_degree (t : Int32) : Int32 := (lp (sX2_degree_9 t) 16 0 0)
set_option maxHeartbeats 4000000 in
set_option maxRecDepth 100000 in
theorem c_X2_degree (l : Launch) (t : Int32) : Met l yX2_degree wsX2_degree ({ frames := 1, cells := 0, slots := 0, locals := 24 }) (va_Pc [.int t] (fun _ => True)) (vp_Si (fun r => r = (fX2_degree t))) 0 0 (fun _ => False) := by
  refine Met.ofW (cc := cX2_degree) (maxL := 4) (ret := (some .int)) (by decide) rfl ?_
  intro p e s m args below meth c s₁ B hml hv
  obtain ⟨rfl, -⟩ := hv
  have hx := B.exec
  have hb := B.bytes
  have hr := B.returns
  have hts := atoms_spec (ws := wsX2_degree) B.pre
  have hown : s.vm.findClass RX2 = some m.cls := findClass_of_methodNamed B.named
  have hlocks := B.notSynchronized
  have hS : va_S (fun _ => False) s.heap s.heap [] := va_S.rf
  have hl := lv_entry ([.int t]) (n := 4) (Nat.le_of_ble_eq_true rfl)
  rw [lg_entry_eq]
  generalize (lg_sl ([.int t]) ++ List.replicate (4 - (lg_sl ([.int t])).length) Slot.unset).toArray = ls at hl ⊢
  have hl : lv_has ls 4 [(0, .int t)] := hl
  refine lv_iload_n hx hb dX2_degree_0 rfl (lv_at hl 0 rfl) ?_
  refine vp_callSi (va_Run.run (va_runS (As := [.int t]) (rest := []) ⟨hx, hb, hml, hown, hts⟩ (c_X2_turned l t) (va_cwS 1 hts gX2_degree_X2_turned rfl rfl rfl (by decide +kernel) ⟨Nat.le_of_ble_eq_true rfl, Nat.le_of_ble_eq_true rfl⟩) ⟨fun _ _ _ _ z => z, fun _ _ _ => ⟨rfl, trivial⟩⟩ rfl rfl hl.1 rfl (lv_room (Nat.le_of_ble_eq_true rfl)) dX2_degree_1 ⟨(Nat.zero_le _), (Nat.zero_le _)⟩)) (fun r hr => ?_)
  subst hr
  refine lv_istore_n (lv' := [(1, .int (fX2_turned t)), (0, .int t)]) hx hb dX2_degree_4 rfl hl (by decide) rfl (fun ls hl => ?_)
  refine lv_iconst (v := 0) hx hb dX2_degree_5 (by decide) ?_
  refine lv_istore_n (lv' := [(2, .int 0), (1, .int (fX2_turned t)), (0, .int t)]) hx hb dX2_degree_6 rfl hl (by decide) rfl (fun ls hl => ?_)
  refine lv_iconst (v := 0) hx hb dX2_degree_7 (by decide) ?_
  refine lv_istore_n (lv' := [(3, .int 0), (2, .int 0), (1, .int (fX2_turned t)), (0, .int t)]) hx hb dX2_degree_8 rfl hl (by decide) rfl (fun ls hl => ?_)
  obtain ⟨F1, hF1⟩ : ∃ z, z = (lp (sX2_degree_9 t) 16 0 0) := ⟨_, rfl⟩
  refine vz_cut (fun H1 l1 g1 => ∃ (n1 i1 : Nat) (a1 : Int32) (ls : Array Slot), i1 + n1 = 16 ∧ lp (sX2_degree_9 t) n1 i1 a1 = F1 ∧ lv_has ls 4 [(3, .int (nI i1)), (2, .int a1), (1, .int (fX2_turned t)), (0, .int t)] ∧ (s.heap = H1 ∧ [] = l1) ∧ g1 = F0 m 9 ls []) (fun hj => hj _ _ _ ⟨16, 0, 0, ls, (by omega), hF1.symm, lv_sub hl [0, 1, 2, 3] rfl, ⟨rfl, rfl⟩, rfl⟩) ?_
  rintro H1 l1 g1 ⟨n1, i1, a1, ls, hi1, hf1, hl, ⟨rfl, rfl⟩, rfl⟩
  revert i1 a1 ls
  induction n1 with
  | zero =>
    intro i1 a1 ls hi1 hf1 hl
    obtain rfl : i1 = 16 := by omega
    have hf1 : F1 = a1 := hf1.symm
    subst hf1
    refine lv_iload_n hx hb dX2_degree_9 rfl (lv_at hl 0 rfl) ?_
    refine lv_bipush (v := 16) hx hb dX2_degree_10 (by decide) ?_
    refine lv_icmp_ge (tgt := 47) hx hb dX2_degree_12 (by decide) (fun c_1 => ?_) (fun c_1 => ?_)
    · refine lv_iload_n hx hb dX2_degree_47 rfl (lv_at hl 1 rfl) ?_
      exact W.iret (v := F1) hx hb hr (fun t9 ht hW => ⟨F1, rfl, (by first | ((rw [fX2_degree]); (try rw [← hF1]); first | done | rfl) | rfl), ht⟩) (fun q h => nomatch h) dX2_degree_48
    · exact absurd (nI_le (a := 16) (b := 16) (by omega) (by omega)) c_1
  | succ n1 ih1 =>
    intro i1 a1 ls hi1 hf1 hl
    refine lv_iload_n hx hb dX2_degree_9 rfl (lv_at hl 0 rfl) ?_
    refine lv_bipush (v := 16) hx hb dX2_degree_10 (by decide) ?_
    refine lv_icmp_ge (tgt := 47) hx hb dX2_degree_12 (by decide) (fun c_2 => ?_) (fun c_2 => ?_)
    · exact absurd c_2 (nI_ge (a := i1) (b := 16) (by omega) (by omega))
    · refine lv_iload_n hx hb dX2_degree_15 rfl (lv_at hl 2 rfl) ?_
      refine lv_iload_n hx hb dX2_degree_16 rfl (lv_at hl 0 rfl) ?_
      refine lv_ishr hx hb dX2_degree_17 ?_
      refine lv_iconst (v := 1) hx hb dX2_degree_18 (by decide) ?_
      refine lv_iand hx hb dX2_degree_19 ?_
      refine lv_iconst (v := 1) hx hb dX2_degree_20 (by decide) ?_
      refine vz_cut (fun H1 l1 g1 => ∃ (x1_0 : Int32) (ls : Array Slot), x1_0 = (if (((fX2_turned t) >>> ((nI i1) &&& 31)) &&& 1) = 1 then (if (fX2_bits (nI i1)) ≤ a1 then a1 else (fX2_bits (nI i1))) else a1 : Int32) ∧ lv_has ls 4 [(3, .int (nI i1)), (2, .int a1), (1, .int (fX2_turned t)), (0, .int t)] ∧ (s.heap = H1 ∧ [] = l1) ∧ g1 = F0 m 40 ls [.int x1_0]) (fun hj1 => ?_) ?_
      · refine lv_icmp_ne (tgt := 39) hx hb dX2_degree_21 (by decide) (fun c_3 => ?_) (fun c_3 => ?_)
        · refine lv_iload_n hx hb dX2_degree_39 rfl (lv_at hl 1 rfl) ?_
          exact hj1 _ _ _ ⟨a1, ls, (by (rw [if_neg c_3]); first | done | rfl), lv_sub hl [0, 1, 2, 3] rfl, ⟨rfl, rfl⟩, rfl⟩
        · refine lv_iload_n hx hb dX2_degree_24 rfl (lv_at hl 0 rfl) ?_
          refine vp_callSi (va_Run.run (va_runS (As := [.int (nI i1)]) (rest := []) ⟨hx, hb, hml, hown, hts⟩ (c_X2_bits l (nI i1)) (va_cwS 1 hts gX2_degree_X2_bits rfl rfl rfl (by decide +kernel) ⟨Nat.le_of_ble_eq_true rfl, Nat.le_of_ble_eq_true rfl⟩) ⟨fun _ _ _ _ z => z, fun _ _ _ => ⟨rfl, trivial⟩⟩ rfl rfl hl.1 rfl (lv_room (Nat.le_of_ble_eq_true rfl)) dX2_degree_25 ⟨(Nat.zero_le _), (Nat.zero_le _)⟩)) (fun r hr => ?_)
          subst hr
          refine lv_iload_n hx hb dX2_degree_28 rfl (lv_at hl 1 rfl) ?_
          refine lv_icmp_le (tgt := 39) hx hb dX2_degree_29 (by decide) (fun c_4 => ?_) (fun c_4 => ?_)
          · refine lv_iload_n hx hb dX2_degree_39 rfl (lv_at hl 1 rfl) ?_
            exact hj1 _ _ _ ⟨a1, ls, (by (rw [if_pos c_3, if_pos c_4]); first | done | rfl), lv_sub hl [0, 1, 2, 3] rfl, ⟨rfl, rfl⟩, rfl⟩
          · refine lv_iload_n hx hb dX2_degree_32 rfl (lv_at hl 0 rfl) ?_
            refine vp_callSi (va_Run.run (va_runS (As := [.int (nI i1)]) (rest := []) ⟨hx, hb, hml, hown, hts⟩ (c_X2_bits l (nI i1)) (va_cwS 1 hts gX2_degree_X2_bits rfl rfl rfl (by decide +kernel) ⟨Nat.le_of_ble_eq_true rfl, Nat.le_of_ble_eq_true rfl⟩) ⟨fun _ _ _ _ z => z, fun _ _ _ => ⟨rfl, trivial⟩⟩ rfl rfl hl.1 rfl (lv_room (Nat.le_of_ble_eq_true rfl)) dX2_degree_33 ⟨(Nat.zero_le _), (Nat.zero_le _)⟩)) (fun r hr => ?_)
            subst hr
            refine lv_goto (tgt := 40) hx hb dX2_degree_36 (by decide) ?_
            exact hj1 _ _ _ ⟨(fX2_bits (nI i1)), ls, (by (rw [if_pos c_3, if_neg c_4]); first | done | rfl), lv_sub hl [0, 1, 2, 3] rfl, ⟨rfl, rfl⟩, rfl⟩
      rintro H1 l1 g1 ⟨x1_0, ls, ex1_0, hl, ⟨rfl, rfl⟩, rfl⟩
      subst ex1_0
      refine lv_istore_n (lv' := [(2, .int (if (((fX2_turned t) >>> ((nI i1) &&& 31)) &&& 1) = 1 then (if (fX2_bits (nI i1)) ≤ a1 then a1 else (fX2_bits (nI i1))) else a1 : Int32)), (3, .int (nI i1)), (1, .int (fX2_turned t)), (0, .int t)]) hx hb dX2_degree_40 rfl hl (by decide) rfl (fun ls hl => ?_)
      refine lv_iinc (v := (nI (i1 + 1))) (lv' := [(3, .int (nI (i1 + 1))), (2, .int (if (((fX2_turned t) >>> ((nI i1) &&& 31)) &&& 1) = 1 then (if (fX2_bits (nI i1)) ≤ a1 then a1 else (fX2_bits (nI i1))) else a1 : Int32)), (1, .int (fX2_turned t)), (0, .int t)]) hx hb dX2_degree_41 hl (k := 1) rfl (by first | exact nI_add _ _ | rfl) (by decide) rfl (fun ls hl => ?_)
      refine lv_goto (tgt := 9) hx hb dX2_degree_44 (by decide) ?_
      exact ih1 (i1 + 1) (if (((fX2_turned t) >>> ((nI i1) &&& 31)) &&& 1) = 1 then (if (fX2_bits (nI i1)) ≤ a1 then a1 else (fX2_bits (nI i1))) else a1 : Int32) ls (by omega) ((congrArg (lp (sX2_degree_9 t) n1 (i1 + 1)) (show (if (((fX2_turned t) >>> ((nI i1) &&& 31)) &&& 1) = 1 then (if (fX2_bits (nI i1)) ≤ a1 then a1 else (fX2_bits (nI i1))) else a1 : Int32) = (sX2_degree_9 t) i1 a1 from by first | ((rw [sX2_degree_9]); first | done | rfl) | rfl)).trans hf1) (lv_sub hl [0, 1, 2, 3] rfl)
def fX2_letters (t : Int32) : Int32 := if t = 0 then 1 else (fX2_bits t)
set_option maxHeartbeats 4000000 in
set_option maxRecDepth 100000 in
theorem c_X2_letters (l : Launch) (t : Int32) : Met l yX2_letters wsX2_letters ({ frames := 1, cells := 0, slots := 0, locals := 22 }) (va_Pc [.int t] (fun _ => True)) (vp_Si (fun r => r = (fX2_letters t))) 0 0 (fun _ => False) := by
  refine Met.ofW (cc := cX2_letters) (maxL := 1) (ret := (some .int)) (by decide) rfl ?_
  intro p e s m args below meth c s₁ B hml hv
  obtain ⟨rfl, -⟩ := hv
  have hx := B.exec
  have hb := B.bytes
  have hr := B.returns
  have hts := atoms_spec (ws := wsX2_letters) B.pre
  have hown : s.vm.findClass RX2 = some m.cls := findClass_of_methodNamed B.named
  have hlocks := B.notSynchronized
  have hS : va_S (fun _ => False) s.heap s.heap [] := va_S.rf
  have hl := lv_entry ([.int t]) (n := 1) (Nat.le_of_ble_eq_true rfl)
  rw [lg_entry_eq]
  generalize (lg_sl ([.int t]) ++ List.replicate (1 - (lg_sl ([.int t])).length) Slot.unset).toArray = ls at hl ⊢
  have hl : lv_has ls 1 [(0, .int t)] := hl
  refine lv_iload_n hx hb dX2_letters_0 rfl (lv_at hl 0 rfl) ?_
  refine lv_if_ne (tgt := 8) hx hb dX2_letters_1 (by decide) (fun c_1 => ?_) (fun c_1 => ?_)
  · refine lv_iload_n hx hb dX2_letters_8 rfl (lv_at hl 0 rfl) ?_
    refine vp_callSi (va_Run.run (va_runS (As := [.int t]) (rest := []) ⟨hx, hb, hml, hown, hts⟩ (c_X2_bits l t) (va_cwS 1 hts gX2_letters_X2_bits rfl rfl rfl (by decide +kernel) ⟨Nat.le_of_ble_eq_true rfl, Nat.le_of_ble_eq_true rfl⟩) ⟨fun _ _ _ _ z => z, fun _ _ _ => ⟨rfl, trivial⟩⟩ rfl rfl hl.1 rfl (lv_room (Nat.le_of_ble_eq_true rfl)) dX2_letters_9 ⟨(Nat.zero_le _), (Nat.zero_le _)⟩)) (fun r hr => ?_)
    subst hr
    exact W.iret (v := (fX2_bits t)) hx hb hr (fun t9 ht hW => ⟨(fX2_bits t), rfl, (by first | ((rw [fX2_letters, if_neg c_1]); first | done | rfl) | rfl), ht⟩) (fun q h => nomatch h) dX2_letters_12
  · refine lv_iconst (v := 1) hx hb dX2_letters_4 (by decide) ?_
    refine lv_goto (tgt := 12) hx hb dX2_letters_5 (by decide) ?_
    exact W.iret (v := 1) hx hb hr (fun t9 ht hW => ⟨1, rfl, (by first | ((rw [fX2_letters, if_pos c_1]); first | done | rfl) | rfl), ht⟩) (fun q h => nomatch h) dX2_letters_12
def sX2_printed_4 (t : Int32) (i1 : Nat) (a1 : Int32) : Int32 := (a1 + (if ((t >>> ((nI i1) &&& 31)) &&& 1) = 1 then ((fX2_letters (nI i1)) + 1) else 0 : Int32))
def fX2_printed (t : Int32) : Int32 := if t = 0 then 1 else ((lp (sX2_printed_4 t) 16 0 0) - 1)
set_option maxHeartbeats 4000000 in
set_option maxRecDepth 100000 in
theorem c_X2_printed (l : Launch) (t : Int32) : Met l yX2_printed wsX2_printed ({ frames := 2, cells := 0, slots := 0, locals := 42 }) (va_Pc [.int t] (fun _ => True)) (vp_Si (fun r => r = (fX2_printed t))) 0 0 (fun _ => False) := by
  refine Met.ofW (cc := cX2_printed) (maxL := 3) (ret := (some .int)) (by decide) rfl ?_
  intro p e s m args below meth c s₁ B hml hv
  obtain ⟨rfl, -⟩ := hv
  have hx := B.exec
  have hb := B.bytes
  have hr := B.returns
  have hts := atoms_spec (ws := wsX2_printed) B.pre
  have hown : s.vm.findClass RX2 = some m.cls := findClass_of_methodNamed B.named
  have hlocks := B.notSynchronized
  have hS : va_S (fun _ => False) s.heap s.heap [] := va_S.rf
  have hl := lv_entry ([.int t]) (n := 3) (Nat.le_of_ble_eq_true rfl)
  rw [lg_entry_eq]
  generalize (lg_sl ([.int t]) ++ List.replicate (3 - (lg_sl ([.int t])).length) Slot.unset).toArray = ls at hl ⊢
  have hl : lv_has ls 3 [(0, .int t)] := hl
  refine lv_iconst (v := 0) hx hb dX2_printed_0 (by decide) ?_
  refine lv_istore_n (lv' := [(1, .int 0), (0, .int t)]) hx hb dX2_printed_1 rfl hl (by decide) rfl (fun ls hl => ?_)
  refine lv_iconst (v := 0) hx hb dX2_printed_2 (by decide) ?_
  refine lv_istore_n (lv' := [(2, .int 0), (1, .int 0), (0, .int t)]) hx hb dX2_printed_3 rfl hl (by decide) rfl (fun ls hl => ?_)
  obtain ⟨F1, hF1⟩ : ∃ z, z = (lp (sX2_printed_4 t) 16 0 0) := ⟨_, rfl⟩
  refine vz_cut (fun H1 l1 g1 => ∃ (n1 i1 : Nat) (a1 : Int32) (ls : Array Slot), i1 + n1 = 16 ∧ lp (sX2_printed_4 t) n1 i1 a1 = F1 ∧ lv_has ls 3 [(2, .int (nI i1)), (1, .int a1), (0, .int t)] ∧ (s.heap = H1 ∧ [] = l1) ∧ g1 = F0 m 4 ls []) (fun hj => hj _ _ _ ⟨16, 0, 0, ls, (by omega), hF1.symm, lv_sub hl [0, 1, 2] rfl, ⟨rfl, rfl⟩, rfl⟩) ?_
  rintro H1 l1 g1 ⟨n1, i1, a1, ls, hi1, hf1, hl, ⟨rfl, rfl⟩, rfl⟩
  revert i1 a1 ls
  induction n1 with
  | zero =>
    intro i1 a1 ls hi1 hf1 hl
    obtain rfl : i1 = 16 := by omega
    have hf1 : F1 = a1 := hf1.symm
    subst hf1
    refine lv_iload_n hx hb dX2_printed_4 rfl (lv_at hl 0 rfl) ?_
    refine lv_bipush (v := 16) hx hb dX2_printed_5 (by decide) ?_
    refine lv_icmp_ge (tgt := 38) hx hb dX2_printed_7 (by decide) (fun c_1 => ?_) (fun c_1 => ?_)
    · refine lv_iload_n hx hb dX2_printed_38 rfl (lv_at hl 2 rfl) ?_
      refine lv_if_ne (tgt := 46) hx hb dX2_printed_39 (by decide) (fun c_2 => ?_) (fun c_2 => ?_)
      · refine lv_iload_n hx hb dX2_printed_46 rfl (lv_at hl 1 rfl) ?_
        refine lv_iconst (v := 1) hx hb dX2_printed_47 (by decide) ?_
        refine lv_isub hx hb dX2_printed_48 ?_
        exact W.iret (v := (F1 - 1)) hx hb hr (fun t9 ht hW => ⟨(F1 - 1), rfl, (by first | ((rw [fX2_printed]); (try rw [← hF1]); (first | done | rw [if_neg c_2]); first | done | rfl) | rfl), ht⟩) (fun q h => nomatch h) dX2_printed_49
      · refine lv_iconst (v := 1) hx hb dX2_printed_42 (by decide) ?_
        refine lv_goto (tgt := 49) hx hb dX2_printed_43 (by decide) ?_
        exact W.iret (v := 1) hx hb hr (fun t9 ht hW => ⟨1, rfl, (by first | ((rw [fX2_printed]); (try rw [← hF1]); (first | done | rw [if_pos c_2]); first | done | rfl) | rfl), ht⟩) (fun q h => nomatch h) dX2_printed_49
    · exact absurd (nI_le (a := 16) (b := 16) (by omega) (by omega)) c_1
  | succ n1 ih1 =>
    intro i1 a1 ls hi1 hf1 hl
    refine lv_iload_n hx hb dX2_printed_4 rfl (lv_at hl 0 rfl) ?_
    refine lv_bipush (v := 16) hx hb dX2_printed_5 (by decide) ?_
    refine lv_icmp_ge (tgt := 38) hx hb dX2_printed_7 (by decide) (fun c_3 => ?_) (fun c_3 => ?_)
    · exact absurd c_3 (nI_ge (a := i1) (b := 16) (by omega) (by omega))
    · refine lv_iload_n hx hb dX2_printed_10 rfl (lv_at hl 1 rfl) ?_
      refine lv_iload_n hx hb dX2_printed_11 rfl (lv_at hl 2 rfl) ?_
      refine lv_iload_n hx hb dX2_printed_12 rfl (lv_at hl 0 rfl) ?_
      refine lv_ishr hx hb dX2_printed_13 ?_
      refine lv_iconst (v := 1) hx hb dX2_printed_14 (by decide) ?_
      refine lv_iand hx hb dX2_printed_15 ?_
      refine lv_iconst (v := 1) hx hb dX2_printed_16 (by decide) ?_
      refine vz_cut (fun H1 l1 g1 => ∃ (x1_0 : Int32) (ls : Array Slot), x1_0 = (if ((t >>> ((nI i1) &&& 31)) &&& 1) = 1 then ((fX2_letters (nI i1)) + 1) else 0 : Int32) ∧ lv_has ls 3 [(2, .int (nI i1)), (1, .int a1), (0, .int t)] ∧ (s.heap = H1 ∧ [] = l1) ∧ g1 = F0 m 30 ls [.int x1_0, .int a1]) (fun hj1 => ?_) ?_
      · refine lv_icmp_ne (tgt := 29) hx hb dX2_printed_17 (by decide) (fun c_4 => ?_) (fun c_4 => ?_)
        · refine lv_iconst (v := 0) hx hb dX2_printed_29 (by decide) ?_
          exact hj1 _ _ _ ⟨0, ls, (by (rw [if_neg c_4]); first | done | rfl), lv_sub hl [0, 1, 2] rfl, ⟨rfl, rfl⟩, rfl⟩
        · refine lv_iload_n hx hb dX2_printed_20 rfl (lv_at hl 0 rfl) ?_
          refine vp_callSi (va_Run.run (va_runS (As := [.int (nI i1)]) (rest := [.int a1]) ⟨hx, hb, hml, hown, hts⟩ (c_X2_letters l (nI i1)) (va_cwS 1 hts gX2_printed_X2_letters rfl rfl rfl (by decide +kernel) ⟨Nat.le_of_ble_eq_true rfl, Nat.le_of_ble_eq_true rfl⟩) ⟨fun _ _ _ _ z => z, fun _ _ _ => ⟨rfl, trivial⟩⟩ rfl rfl hl.1 rfl (lv_room (Nat.le_of_ble_eq_true rfl)) dX2_printed_21 ⟨(Nat.zero_le _), (Nat.zero_le _)⟩)) (fun r hr => ?_)
          subst hr
          refine lv_iconst (v := 1) hx hb dX2_printed_24 (by decide) ?_
          refine lv_iadd hx hb dX2_printed_25 ?_
          refine lv_goto (tgt := 30) hx hb dX2_printed_26 (by decide) ?_
          exact hj1 _ _ _ ⟨((fX2_letters (nI i1)) + 1), ls, (by (rw [if_pos c_4]); first | done | rfl), lv_sub hl [0, 1, 2] rfl, ⟨rfl, rfl⟩, rfl⟩
      rintro H1 l1 g1 ⟨x1_0, ls, ex1_0, hl, ⟨rfl, rfl⟩, rfl⟩
      subst ex1_0
      refine lv_iadd hx hb dX2_printed_30 ?_
      refine lv_istore_n (lv' := [(1, .int (a1 + (if ((t >>> ((nI i1) &&& 31)) &&& 1) = 1 then ((fX2_letters (nI i1)) + 1) else 0 : Int32))), (2, .int (nI i1)), (0, .int t)]) hx hb dX2_printed_31 rfl hl (by decide) rfl (fun ls hl => ?_)
      refine lv_iinc (v := (nI (i1 + 1))) (lv' := [(2, .int (nI (i1 + 1))), (1, .int (a1 + (if ((t >>> ((nI i1) &&& 31)) &&& 1) = 1 then ((fX2_letters (nI i1)) + 1) else 0 : Int32))), (0, .int t)]) hx hb dX2_printed_32 hl (k := 1) rfl (by first | exact nI_add _ _ | rfl) (by decide) rfl (fun ls hl => ?_)
      refine lv_goto (tgt := 4) hx hb dX2_printed_35 (by decide) ?_
      exact ih1 (i1 + 1) (a1 + (if ((t >>> ((nI i1) &&& 31)) &&& 1) = 1 then ((fX2_letters (nI i1)) + 1) else 0 : Int32)) ls (by omega) ((congrArg (lp (sX2_printed_4 t) n1 (i1 + 1)) (show (a1 + (if ((t >>> ((nI i1) &&& 31)) &&& 1) = 1 then ((fX2_letters (nI i1)) + 1) else 0 : Int32)) = (sX2_printed_4 t) i1 a1 from by first | ((rw [sX2_printed_4]); first | done | rfl) | rfl)).trans hf1) (lv_sub hl [0, 1, 2] rfl)
def tX2_letter_4 (t : Int32) : Nat → Nat → Int32 → Int32
  | 0, _, _ => 49
  | n1 + 1, i1, a1 => if 0 ≤ (a1 - ((t >>> ((nI i1) &&& 31)) &&& 1)) then tX2_letter_4 t n1 (i1 + 1) (a1 - ((t >>> ((nI i1) &&& 31)) &&& 1)) else (((97 + (nI i1)).toUInt32 % 65536).toInt32)
def fX2_letter (t : Int32) (u : Int32) : Int32 := tX2_letter_4 t 4 0 u
set_option maxHeartbeats 4000000 in
set_option maxRecDepth 100000 in
theorem c_X2_letter (l : Launch) (t : Int32) (u : Int32) : Met l yX2_letter wsX2_letter ({ frames := 0, cells := 0, slots := 0, locals := 0 }) (va_Pc [.int t, .int u] (fun _ => True)) (vp_Si (fun r => r = (fX2_letter t u))) 0 0 (fun _ => False) := by
  refine Met.ofW (cc := cX2_letter) (maxL := 4) (ret := (some .char)) (by decide) rfl ?_
  intro p e s m args below meth c s₁ B hml hv
  obtain ⟨rfl, -⟩ := hv
  have hx := B.exec
  have hb := B.bytes
  have hr := B.returns
  have hts := atoms_spec (ws := wsX2_letter) B.pre
  have hown : s.vm.findClass RX2 = some m.cls := findClass_of_methodNamed B.named
  have hlocks := B.notSynchronized
  have hS : va_S (fun _ => False) s.heap s.heap [] := va_S.rf
  have hl := lv_entry ([.int t, .int u]) (n := 4) (Nat.le_of_ble_eq_true rfl)
  rw [lg_entry_eq]
  generalize (lg_sl ([.int t, .int u]) ++ List.replicate (4 - (lg_sl ([.int t, .int u])).length) Slot.unset).toArray = ls at hl ⊢
  have hl : lv_has ls 4 [(0, .int t), (1, .int u)] := hl
  refine lv_iload_n hx hb dX2_letter_0 rfl (lv_at hl 1 rfl) ?_
  refine lv_istore_n (lv' := [(2, .int u), (0, .int t), (1, .int u)]) hx hb dX2_letter_1 rfl hl (by decide) rfl (fun ls hl => ?_)
  refine lv_iconst (v := 0) hx hb dX2_letter_2 (by decide) ?_
  refine lv_istore_n (lv' := [(3, .int 0), (2, .int u), (0, .int t), (1, .int u)]) hx hb dX2_letter_3 rfl hl (by decide) rfl (fun ls hl => ?_)
  refine vz_cut (fun H1 l1 g1 => ∃ (n1 i1 : Nat) (a1 : Int32) (ls : Array Slot), i1 + n1 = 4 ∧ tX2_letter_4 t n1 i1 a1 = tX2_letter_4 t 4 0 u ∧ lv_has ls 4 [(3, .int (nI i1)), (2, .int a1), (0, .int t), (1, .int u)] ∧ (s.heap = H1 ∧ [] = l1) ∧ g1 = F0 m 4 ls []) (fun hj => hj _ _ _ ⟨4, 0, u, ls, (by omega), rfl, lv_sub hl [0, 1, 2, 3] rfl, ⟨rfl, rfl⟩, rfl⟩) ?_
  rintro H1 l1 g1 ⟨n1, i1, a1, ls, hi1, hf1, hl, ⟨rfl, rfl⟩, rfl⟩
  revert i1 a1 ls
  induction n1 with
  | zero =>
    intro i1 a1 ls hi1 hf1 hl
    obtain rfl : i1 = 4 := by omega
    refine lv_iload_n hx hb dX2_letter_4 rfl (lv_at hl 0 rfl) ?_
    refine lv_iconst (v := 4) hx hb dX2_letter_5 (by decide) ?_
    refine lv_icmp_ge (tgt := 33) hx hb dX2_letter_6 (by decide) (fun c_1 => ?_) (fun c_1 => ?_)
    · refine lv_bipush (v := 49) hx hb dX2_letter_33 (by decide) ?_
      exact W.zret (v := 49) hx hb hr rfl (fun t9 ht hW => ⟨49, rfl, ((show 49 = tX2_letter_4 t 0 4 a1 from by first | (symm; (rw [tX2_letter_4]); first | done | rfl) | rfl).trans hf1), ht⟩) (fun q h => nomatch h) dX2_letter_35
    · exact absurd (nI_le (a := 4) (b := 4) (by omega) (by omega)) c_1
  | succ n1 ih1 =>
    intro i1 a1 ls hi1 hf1 hl
    refine lv_iload_n hx hb dX2_letter_4 rfl (lv_at hl 0 rfl) ?_
    refine lv_iconst (v := 4) hx hb dX2_letter_5 (by decide) ?_
    refine lv_icmp_ge (tgt := 33) hx hb dX2_letter_6 (by decide) (fun c_2 => ?_) (fun c_2 => ?_)
    · exact absurd c_2 (nI_ge (a := i1) (b := 4) (by omega) (by omega))
    · refine lv_iload_n hx hb dX2_letter_9 rfl (lv_at hl 1 rfl) ?_
      refine lv_iload_n hx hb dX2_letter_10 rfl (lv_at hl 2 rfl) ?_
      refine lv_iload_n hx hb dX2_letter_11 rfl (lv_at hl 0 rfl) ?_
      refine lv_ishr hx hb dX2_letter_12 ?_
      refine lv_iconst (v := 1) hx hb dX2_letter_13 (by decide) ?_
      refine lv_iand hx hb dX2_letter_14 ?_
      refine lv_isub hx hb dX2_letter_15 ?_
      refine lv_istore_n (lv' := [(2, .int (a1 - ((t >>> ((nI i1) &&& 31)) &&& 1))), (3, .int (nI i1)), (0, .int t), (1, .int u)]) hx hb dX2_letter_16 rfl hl (by decide) rfl (fun ls hl => ?_)
      refine lv_iload_n hx hb dX2_letter_17 rfl (lv_at hl 0 rfl) ?_
      refine lv_if_ge (tgt := 27) hx hb dX2_letter_18 (by decide) (fun c_3 => ?_) (fun c_3 => ?_)
      · refine lv_iinc (v := (nI (i1 + 1))) (lv' := [(3, .int (nI (i1 + 1))), (2, .int (a1 - ((t >>> ((nI i1) &&& 31)) &&& 1))), (0, .int t), (1, .int u)]) hx hb dX2_letter_27 hl (k := 1) rfl (by first | exact nI_add _ _ | rfl) (by decide) rfl (fun ls hl => ?_)
        refine lv_goto (tgt := 4) hx hb dX2_letter_30 (by decide) ?_
        exact ih1 (i1 + 1) (a1 - ((t >>> ((nI i1) &&& 31)) &&& 1)) ls (by omega) ((show tX2_letter_4 t n1 (i1 + 1) (a1 - ((t >>> ((nI i1) &&& 31)) &&& 1)) = tX2_letter_4 t (n1 + 1) i1 a1 from by first | (symm; (rw [tX2_letter_4, if_pos c_3]); first | done | rfl) | rfl).trans hf1) (lv_sub hl [0, 1, 2, 3] rfl)
      · refine lv_bipush (v := 97) hx hb dX2_letter_21 (by decide) ?_
        refine lv_iload_n hx hb dX2_letter_23 rfl (lv_at hl 1 rfl) ?_
        refine lv_iadd hx hb dX2_letter_24 ?_
        refine lv_i2c (v := ((97 + (nI i1)).toUInt32 % 65536).toInt32) hx hb dX2_letter_25 rfl ?_
        exact W.zret (v := (((97 + (nI i1)).toUInt32 % 65536).toInt32)) hx hb hr (pk_nc _) (fun t9 ht hW => ⟨(((97 + (nI i1)).toUInt32 % 65536).toInt32), rfl, ((show (((97 + (nI i1)).toUInt32 % 65536).toInt32) = tX2_letter_4 t (n1 + 1) i1 a1 from by first | (symm; (rw [tX2_letter_4, if_neg c_3]); first | done | rfl) | rfl).trans hf1), ht⟩) (fun q h => nomatch h) dX2_letter_26
def sX2_distance_27 (i1 : Nat) (i2 : Nat) (a2 : Int32) : Int32 := (a2 ^^^ (if (((nI i1) >>> ((nI i2) &&& 31)) &&& 1) = 1 then (fX2_variable (nI i2)) else 0 : Int32))
def sX2_distance_5 (t : Int32) (i1 : Nat) (a1 : Int32) : Int32 := (if a1 ≤ (fX2_bits (t ^^^ (lp (sX2_distance_27 i1) 4 0 (if 16 ≤ (nI i1) then 65535 else 0 : Int32)))) then a1 else (fX2_bits (t ^^^ (lp (sX2_distance_27 i1) 4 0 (if 16 ≤ (nI i1) then 65535 else 0 : Int32)))) : Int32)
def fX2_distance (t : Int32) : Int32 := (lp (sX2_distance_5 t) 32 0 16)
set_option maxHeartbeats 4000000 in
set_option maxRecDepth 100000 in
theorem c_X2_distance (l : Launch) (t : Int32) : Met l yX2_distance wsX2_distance ({ frames := 1, cells := 0, slots := 0, locals := 22 }) (va_Pc [.int t] (fun _ => True)) (vp_Si (fun r => r = (fX2_distance t))) 0 0 (fun _ => False) := by
  refine Met.ofW (cc := cX2_distance) (maxL := 5) (ret := (some .int)) (by decide) rfl ?_
  intro p e s m args below meth c s₁ B hml hv
  obtain ⟨rfl, -⟩ := hv
  have hx := B.exec
  have hb := B.bytes
  have hr := B.returns
  have hts := atoms_spec (ws := wsX2_distance) B.pre
  have hown : s.vm.findClass RX2 = some m.cls := findClass_of_methodNamed B.named
  have hlocks := B.notSynchronized
  have hS : va_S (fun _ => False) s.heap s.heap [] := va_S.rf
  have hl := lv_entry ([.int t]) (n := 5) (Nat.le_of_ble_eq_true rfl)
  rw [lg_entry_eq]
  generalize (lg_sl ([.int t]) ++ List.replicate (5 - (lg_sl ([.int t])).length) Slot.unset).toArray = ls at hl ⊢
  have hl : lv_has ls 5 [(0, .int t)] := hl
  refine lv_bipush (v := 16) hx hb dX2_distance_0 (by decide) ?_
  refine lv_istore_n (lv' := [(1, .int 16), (0, .int t)]) hx hb dX2_distance_2 rfl hl (by decide) rfl (fun ls hl => ?_)
  refine lv_iconst (v := 0) hx hb dX2_distance_3 (by decide) ?_
  refine lv_istore_n (lv' := [(2, .int 0), (1, .int 16), (0, .int t)]) hx hb dX2_distance_4 rfl hl (by decide) rfl (fun ls hl => ?_)
  obtain ⟨F1, hF1⟩ : ∃ z, z = (lp (sX2_distance_5 t) 32 0 16) := ⟨_, rfl⟩
  refine vz_cut (fun H1 l1 g1 => ∃ (n1 i1 : Nat) (a1 : Int32) (ls : Array Slot), i1 + n1 = 32 ∧ lp (sX2_distance_5 t) n1 i1 a1 = F1 ∧ lv_has ls 5 [(2, .int (nI i1)), (1, .int a1), (0, .int t)] ∧ (s.heap = H1 ∧ [] = l1) ∧ g1 = F0 m 5 ls []) (fun hj => hj _ _ _ ⟨32, 0, 16, ls, (by omega), hF1.symm, lv_sub hl [0, 1, 2] rfl, ⟨rfl, rfl⟩, rfl⟩) ?_
  rintro H1 l1 g1 ⟨n1, i1, a1, ls, hi1, hf1, hl, ⟨rfl, rfl⟩, rfl⟩
  revert i1 a1 ls
  induction n1 with
  | zero =>
    intro i1 a1 ls hi1 hf1 hl
    obtain rfl : i1 = 32 := by omega
    have hf1 : F1 = a1 := hf1.symm
    subst hf1
    refine lv_iload_n hx hb dX2_distance_5 rfl (lv_at hl 0 rfl) ?_
    refine lv_bipush (v := 32) hx hb dX2_distance_6 (by decide) ?_
    refine lv_icmp_ge (tgt := 88) hx hb dX2_distance_8 (by decide) (fun c_1 => ?_) (fun c_1 => ?_)
    · refine lv_iload_n hx hb dX2_distance_88 rfl (lv_at hl 1 rfl) ?_
      exact W.iret (v := F1) hx hb hr (fun t9 ht hW => ⟨F1, rfl, (by first | ((rw [fX2_distance]); (try rw [← hF1]); first | done | rfl) | rfl), ht⟩) (fun q h => nomatch h) dX2_distance_89
    · exact absurd (nI_le (a := 32) (b := 32) (by omega) (by omega)) c_1
  | succ n1 ih1 =>
    intro i1 a1 ls hi1 hf1 hl
    refine lv_iload_n hx hb dX2_distance_5 rfl (lv_at hl 0 rfl) ?_
    refine lv_bipush (v := 32) hx hb dX2_distance_6 (by decide) ?_
    refine lv_icmp_ge (tgt := 88) hx hb dX2_distance_8 (by decide) (fun c_2 => ?_) (fun c_2 => ?_)
    · exact absurd c_2 (nI_ge (a := i1) (b := 32) (by omega) (by omega))
    · refine lv_iload_n hx hb dX2_distance_11 rfl (lv_at hl 0 rfl) ?_
      refine lv_bipush (v := 16) hx hb dX2_distance_12 (by decide) ?_
      refine vz_cut (fun H1 l1 g1 => ∃ (x1_0 : Int32) (ls : Array Slot), x1_0 = (if 16 ≤ (nI i1) then 65535 else 0 : Int32) ∧ lv_has ls 5 [(2, .int (nI i1)), (1, .int a1), (0, .int t)] ∧ (s.heap = H1 ∧ [] = l1) ∧ g1 = F0 m 23 ls [.int x1_0]) (fun hj1 => ?_) ?_
      · refine lv_icmp_ge (tgt := 21) hx hb dX2_distance_14 (by decide) (fun c_3 => ?_) (fun c_3 => ?_)
        · refine lv_ldc (v := 65535) hx hb hown (hts (.constant RX2 26 (65535)) (List.mem_of_getElem? (i := 1) rfl)) dX2_distance_21 ?_
          exact hj1 _ _ _ ⟨65535, ls, (by (rw [if_pos c_3]); first | done | rfl), lv_sub hl [0, 1, 2] rfl, ⟨rfl, rfl⟩, rfl⟩
        · refine lv_iconst (v := 0) hx hb dX2_distance_17 (by decide) ?_
          refine lv_goto (tgt := 23) hx hb dX2_distance_18 (by decide) ?_
          exact hj1 _ _ _ ⟨0, ls, (by (rw [if_neg c_3]); first | done | rfl), lv_sub hl [0, 1, 2] rfl, ⟨rfl, rfl⟩, rfl⟩
      rintro H1 l1 g1 ⟨x1_0, ls, ex1_0, hl, ⟨rfl, rfl⟩, rfl⟩
      subst ex1_0
      refine lv_istore_n (lv' := [(3, .int (if 16 ≤ (nI i1) then 65535 else 0 : Int32)), (2, .int (nI i1)), (1, .int a1), (0, .int t)]) hx hb dX2_distance_23 rfl hl (by decide) rfl (fun ls hl => ?_)
      refine lv_iconst (v := 0) hx hb dX2_distance_24 (by decide) ?_
      refine lv_istore (lv' := [(4, .int 0), (3, .int (if 16 ≤ (nI i1) then 65535 else 0 : Int32)), (2, .int (nI i1)), (1, .int a1), (0, .int t)]) hx hb dX2_distance_25 hl (by decide) rfl (fun ls hl => ?_)
      obtain ⟨F2, hF2⟩ : ∃ z, z = (lp (sX2_distance_27 i1) 4 0 (if 16 ≤ (nI i1) then 65535 else 0 : Int32)) := ⟨_, rfl⟩
      refine vz_cut (fun H1 l1 g1 => ∃ (n2 i2 : Nat) (a2 : Int32) (ls : Array Slot), i2 + n2 = 4 ∧ lp (sX2_distance_27 i1) n2 i2 a2 = F2 ∧ lv_has ls 5 [(4, .int (nI i2)), (3, .int a2), (2, .int (nI i1)), (1, .int a1), (0, .int t)] ∧ (s.heap = H1 ∧ [] = l1) ∧ g1 = F0 m 27 ls []) (fun hj => hj _ _ _ ⟨4, 0, (if 16 ≤ (nI i1) then 65535 else 0 : Int32), ls, (by omega), hF2.symm, lv_sub hl [0, 1, 2, 3, 4] rfl, ⟨rfl, rfl⟩, rfl⟩) ?_
      rintro H1 l1 g1 ⟨n2, i2, a2, ls, hi2, hf2, hl, ⟨rfl, rfl⟩, rfl⟩
      revert i2 a2 ls
      induction n2 with
      | zero =>
        intro i2 a2 ls hi2 hf2 hl
        obtain rfl : i2 = 4 := by omega
        have hf2 : F2 = a2 := hf2.symm
        subst hf2
        refine lv_iload hx hb dX2_distance_27 (lv_at hl 0 rfl) ?_
        refine lv_iconst (v := 4) hx hb dX2_distance_29 (by decide) ?_
        refine lv_icmp_ge (tgt := 61) hx hb dX2_distance_30 (by decide) (fun c_4 => ?_) (fun c_4 => ?_)
        · refine lv_iload_n hx hb dX2_distance_61 rfl (lv_at hl 4 rfl) ?_
          refine lv_iload_n hx hb dX2_distance_62 rfl (lv_at hl 1 rfl) ?_
          refine lv_ixor hx hb dX2_distance_63 ?_
          refine vp_callSi (va_Run.run (va_runS (As := [.int (t ^^^ F2)]) (rest := []) ⟨hx, hb, hml, hown, hts⟩ (c_X2_bits l (t ^^^ F2)) (va_cwS 1 hts gX2_distance_X2_bits rfl rfl rfl (by decide +kernel) ⟨Nat.le_of_ble_eq_true rfl, Nat.le_of_ble_eq_true rfl⟩) ⟨fun _ _ _ _ z => z, fun _ _ _ => ⟨rfl, trivial⟩⟩ rfl rfl hl.1 rfl (lv_room (Nat.le_of_ble_eq_true rfl)) dX2_distance_64 ⟨(Nat.zero_le _), (Nat.zero_le _)⟩)) (fun r hr => ?_)
          subst hr
          refine lv_iload_n hx hb dX2_distance_67 rfl (lv_at hl 3 rfl) ?_
          refine vz_cut (fun H1 l1 g1 => ∃ (x2_0 : Int32) (ls : Array Slot), x2_0 = (if a1 ≤ (fX2_bits (t ^^^ F2)) then a1 else (fX2_bits (t ^^^ F2)) : Int32) ∧ lv_has ls 5 [(4, .int (nI 4)), (3, .int F2), (2, .int (nI i1)), (1, .int a1), (0, .int t)] ∧ (s.heap = H1 ∧ [] = l1) ∧ g1 = F0 m 81 ls [.int x2_0]) (fun hj2 => ?_) ?_
          · refine lv_icmp_ge (tgt := 80) hx hb dX2_distance_68 (by decide) (fun c_5 => ?_) (fun c_5 => ?_)
            · refine lv_iload_n hx hb dX2_distance_80 rfl (lv_at hl 3 rfl) ?_
              exact hj2 _ _ _ ⟨a1, ls, (by (rw [if_pos c_5]); first | done | rfl), lv_sub hl [0, 1, 2, 3, 4] rfl, ⟨rfl, rfl⟩, rfl⟩
            · refine lv_iload_n hx hb dX2_distance_71 rfl (lv_at hl 4 rfl) ?_
              refine lv_iload_n hx hb dX2_distance_72 rfl (lv_at hl 1 rfl) ?_
              refine lv_ixor hx hb dX2_distance_73 ?_
              refine vp_callSi (va_Run.run (va_runS (As := [.int (t ^^^ F2)]) (rest := []) ⟨hx, hb, hml, hown, hts⟩ (c_X2_bits l (t ^^^ F2)) (va_cwS 1 hts gX2_distance_X2_bits rfl rfl rfl (by decide +kernel) ⟨Nat.le_of_ble_eq_true rfl, Nat.le_of_ble_eq_true rfl⟩) ⟨fun _ _ _ _ z => z, fun _ _ _ => ⟨rfl, trivial⟩⟩ rfl rfl hl.1 rfl (lv_room (Nat.le_of_ble_eq_true rfl)) dX2_distance_74 ⟨(Nat.zero_le _), (Nat.zero_le _)⟩)) (fun r hr => ?_)
              subst hr
              refine lv_goto (tgt := 81) hx hb dX2_distance_77 (by decide) ?_
              exact hj2 _ _ _ ⟨(fX2_bits (t ^^^ F2)), ls, (by (rw [if_neg c_5]); first | done | rfl), lv_sub hl [0, 1, 2, 3, 4] rfl, ⟨rfl, rfl⟩, rfl⟩
          rintro H1 l1 g1 ⟨x2_0, ls, ex2_0, hl, ⟨rfl, rfl⟩, rfl⟩
          subst ex2_0
          refine lv_istore_n (lv' := [(1, .int (if a1 ≤ (fX2_bits (t ^^^ F2)) then a1 else (fX2_bits (t ^^^ F2)) : Int32)), (4, .int (nI 4)), (3, .int F2), (2, .int (nI i1)), (0, .int t)]) hx hb dX2_distance_81 rfl hl (by decide) rfl (fun ls hl => ?_)
          refine lv_iinc (v := (nI (i1 + 1))) (lv' := [(2, .int (nI (i1 + 1))), (1, .int (if a1 ≤ (fX2_bits (t ^^^ F2)) then a1 else (fX2_bits (t ^^^ F2)) : Int32)), (4, .int (nI 4)), (3, .int F2), (0, .int t)]) hx hb dX2_distance_82 hl (k := 3) rfl (by first | exact nI_add _ _ | rfl) (by decide) rfl (fun ls hl => ?_)
          refine lv_goto (tgt := 5) hx hb dX2_distance_85 (by decide) ?_
          exact ih1 (i1 + 1) (if a1 ≤ (fX2_bits (t ^^^ F2)) then a1 else (fX2_bits (t ^^^ F2)) : Int32) ls (by omega) ((congrArg (lp (sX2_distance_5 t) n1 (i1 + 1)) (show (if a1 ≤ (fX2_bits (t ^^^ F2)) then a1 else (fX2_bits (t ^^^ F2)) : Int32) = (sX2_distance_5 t) i1 a1 from by first | ((rw [sX2_distance_5]); (try rw [← hF2]); first | done | rfl) | rfl)).trans hf1) (lv_sub hl [0, 1, 4] rfl)
        · exact absurd (nI_le (a := 4) (b := 4) (by omega) (by omega)) c_4
      | succ n2 ih2 =>
        intro i2 a2 ls hi2 hf2 hl
        refine lv_iload hx hb dX2_distance_27 (lv_at hl 0 rfl) ?_
        refine lv_iconst (v := 4) hx hb dX2_distance_29 (by decide) ?_
        refine lv_icmp_ge (tgt := 61) hx hb dX2_distance_30 (by decide) (fun c_6 => ?_) (fun c_6 => ?_)
        · exact absurd c_6 (nI_ge (a := i2) (b := 4) (by omega) (by omega))
        · refine lv_iload_n hx hb dX2_distance_33 rfl (lv_at hl 1 rfl) ?_
          refine lv_iload_n hx hb dX2_distance_34 rfl (lv_at hl 2 rfl) ?_
          refine lv_iload hx hb dX2_distance_35 (lv_at hl 0 rfl) ?_
          refine lv_ishr hx hb dX2_distance_37 ?_
          refine lv_iconst (v := 1) hx hb dX2_distance_38 (by decide) ?_
          refine lv_iand hx hb dX2_distance_39 ?_
          refine lv_iconst (v := 1) hx hb dX2_distance_40 (by decide) ?_
          refine vz_cut (fun H1 l1 g1 => ∃ (x3_0 : Int32) (ls : Array Slot), x3_0 = (if (((nI i1) >>> ((nI i2) &&& 31)) &&& 1) = 1 then (fX2_variable (nI i2)) else 0 : Int32) ∧ lv_has ls 5 [(4, .int (nI i2)), (3, .int a2), (2, .int (nI i1)), (1, .int a1), (0, .int t)] ∧ (s.heap = H1 ∧ [] = l1) ∧ g1 = F0 m 53 ls [.int x3_0, .int a2]) (fun hj3 => ?_) ?_
          · refine lv_icmp_ne (tgt := 52) hx hb dX2_distance_41 (by decide) (fun c_7 => ?_) (fun c_7 => ?_)
            · refine lv_iconst (v := 0) hx hb dX2_distance_52 (by decide) ?_
              exact hj3 _ _ _ ⟨0, ls, (by (rw [if_neg c_7]); first | done | rfl), lv_sub hl [0, 1, 2, 3, 4] rfl, ⟨rfl, rfl⟩, rfl⟩
            · refine lv_iload hx hb dX2_distance_44 (lv_at hl 0 rfl) ?_
              refine vp_callSi (va_Run.run (va_runS (As := [.int (nI i2)]) (rest := [.int a2]) ⟨hx, hb, hml, hown, hts⟩ (c_X2_variable l (nI i2)) (va_cwS 1 hts gX2_distance_X2_variable rfl rfl rfl (by decide +kernel) ⟨Nat.le_of_ble_eq_true rfl, Nat.le_of_ble_eq_true rfl⟩) ⟨fun _ _ _ _ z => z, fun _ _ _ => ⟨rfl, trivial⟩⟩ rfl rfl hl.1 rfl (lv_room (Nat.le_of_ble_eq_true rfl)) dX2_distance_46 ⟨(Nat.zero_le _), (Nat.zero_le _)⟩)) (fun r hr => ?_)
              subst hr
              refine lv_goto (tgt := 53) hx hb dX2_distance_49 (by decide) ?_
              exact hj3 _ _ _ ⟨(fX2_variable (nI i2)), ls, (by (rw [if_pos c_7]); first | done | rfl), lv_sub hl [0, 1, 2, 3, 4] rfl, ⟨rfl, rfl⟩, rfl⟩
          rintro H1 l1 g1 ⟨x3_0, ls, ex3_0, hl, ⟨rfl, rfl⟩, rfl⟩
          subst ex3_0
          refine lv_ixor hx hb dX2_distance_53 ?_
          refine lv_istore_n (lv' := [(3, .int (a2 ^^^ (if (((nI i1) >>> ((nI i2) &&& 31)) &&& 1) = 1 then (fX2_variable (nI i2)) else 0 : Int32))), (4, .int (nI i2)), (2, .int (nI i1)), (1, .int a1), (0, .int t)]) hx hb dX2_distance_54 rfl hl (by decide) rfl (fun ls hl => ?_)
          refine lv_iinc (v := (nI (i2 + 1))) (lv' := [(4, .int (nI (i2 + 1))), (3, .int (a2 ^^^ (if (((nI i1) >>> ((nI i2) &&& 31)) &&& 1) = 1 then (fX2_variable (nI i2)) else 0 : Int32))), (2, .int (nI i1)), (1, .int a1), (0, .int t)]) hx hb dX2_distance_55 hl (k := 1) rfl (by first | exact nI_add _ _ | rfl) (by decide) rfl (fun ls hl => ?_)
          refine lv_goto (tgt := 27) hx hb dX2_distance_58 (by decide) ?_
          exact ih2 (i2 + 1) (a2 ^^^ (if (((nI i1) >>> ((nI i2) &&& 31)) &&& 1) = 1 then (fX2_variable (nI i2)) else 0 : Int32)) ls (by omega) ((congrArg (lp (sX2_distance_27 i1) n2 (i2 + 1)) (show (a2 ^^^ (if (((nI i1) >>> ((nI i2) &&& 31)) &&& 1) = 1 then (fX2_variable (nI i2)) else 0 : Int32)) = (sX2_distance_27 i1) i2 a2 from by first | ((rw [sX2_distance_27]); first | done | rfl) | rfl)).trans hf2) (lv_sub hl [0, 1, 2, 3, 4] rfl)
def sX2_selfDual_4 (t : Int32) (i1 : Nat) (a1 : Int32) : Int32 := (if a1 = 0 then 0 else (if ((t >>> ((nI i1) &&& 31)) &&& 1) = ((t >>> ((15 - (nI i1)) &&& 31)) &&& 1) then 0 else 1) : Int32)
def fX2_selfDual (t : Int32) : Int32 := (lp (sX2_selfDual_4 t) 16 0 1)
theorem bX2_selfDual (t : Int32) (i : Nat) (a : Int32) (_ : a = 0 ∨ a = 1) : sX2_selfDual_4 t i a = 0 ∨ sX2_selfDual_4 t i a = 1 := by unfold sX2_selfDual_4; split <;> first | exact Or.inl rfl | (split <;> first | exact Or.inl rfl | exact Or.inr rfl | (split <;> first | exact Or.inl rfl | exact Or.inr rfl))
set_option maxHeartbeats 4000000 in
set_option maxRecDepth 100000 in
theorem c_X2_selfDual (l : Launch) (t : Int32) : Met l yX2_selfDual wsX2_selfDual ({ frames := 0, cells := 0, slots := 0, locals := 0 }) (va_Pc [.int t] (fun _ => True)) (vp_Si (fun r => r = (fX2_selfDual t))) 0 0 (fun _ => False) := by
  refine Met.ofW (cc := cX2_selfDual) (maxL := 3) (ret := (some .boolean)) (by decide) rfl ?_
  intro p e s m args below meth c s₁ B hml hv
  obtain ⟨rfl, -⟩ := hv
  have hx := B.exec
  have hb := B.bytes
  have hr := B.returns
  have hts := atoms_spec (ws := wsX2_selfDual) B.pre
  have hown : s.vm.findClass RX2 = some m.cls := findClass_of_methodNamed B.named
  have hlocks := B.notSynchronized
  have hS : va_S (fun _ => False) s.heap s.heap [] := va_S.rf
  have hl := lv_entry ([.int t]) (n := 3) (Nat.le_of_ble_eq_true rfl)
  rw [lg_entry_eq]
  generalize (lg_sl ([.int t]) ++ List.replicate (3 - (lg_sl ([.int t])).length) Slot.unset).toArray = ls at hl ⊢
  have hl : lv_has ls 3 [(0, .int t)] := hl
  refine lv_iconst (v := 1) hx hb dX2_selfDual_0 (by decide) ?_
  refine lv_istore_n (lv' := [(1, .int 1), (0, .int t)]) hx hb dX2_selfDual_1 rfl hl (by decide) rfl (fun ls hl => ?_)
  refine lv_iconst (v := 0) hx hb dX2_selfDual_2 (by decide) ?_
  refine lv_istore_n (lv' := [(2, .int 0), (1, .int 1), (0, .int t)]) hx hb dX2_selfDual_3 rfl hl (by decide) rfl (fun ls hl => ?_)
  obtain ⟨F1, hF1⟩ : ∃ z, z = (lp (sX2_selfDual_4 t) 16 0 1) := ⟨_, rfl⟩
  refine vz_cut (fun H1 l1 g1 => ∃ (n1 i1 : Nat) (a1 : Int32) (ls : Array Slot), i1 + n1 = 16 ∧ lp (sX2_selfDual_4 t) n1 i1 a1 = F1 ∧ lv_has ls 3 [(2, .int (nI i1)), (1, .int a1), (0, .int t)] ∧ (s.heap = H1 ∧ [] = l1) ∧ g1 = F0 m 4 ls []) (fun hj => hj _ _ _ ⟨16, 0, 1, ls, (by omega), hF1.symm, lv_sub hl [0, 1, 2] rfl, ⟨rfl, rfl⟩, rfl⟩) ?_
  rintro H1 l1 g1 ⟨n1, i1, a1, ls, hi1, hf1, hl, ⟨rfl, rfl⟩, rfl⟩
  revert i1 a1 ls
  induction n1 with
  | zero =>
    intro i1 a1 ls hi1 hf1 hl
    obtain rfl : i1 = 16 := by omega
    have hf1 : F1 = a1 := hf1.symm
    subst hf1
    refine lv_iload_n hx hb dX2_selfDual_4 rfl (lv_at hl 0 rfl) ?_
    refine lv_bipush (v := 16) hx hb dX2_selfDual_5 (by decide) ?_
    refine lv_icmp_ge (tgt := 42) hx hb dX2_selfDual_7 (by decide) (fun c_1 => ?_) (fun c_1 => ?_)
    · refine lv_iload_n hx hb dX2_selfDual_42 rfl (lv_at hl 1 rfl) ?_
      exact W.zret (v := F1) hx hb hr (by rw [hF1]; exact nar_b (lp_b (bX2_selfDual t) 16 0 1 (Or.inr rfl))) (fun t9 ht hW => ⟨F1, rfl, (by first | ((rw [fX2_selfDual]); (try rw [← hF1]); first | done | rfl) | rfl), ht⟩) (fun q h => nomatch h) dX2_selfDual_43
    · exact absurd (nI_le (a := 16) (b := 16) (by omega) (by omega)) c_1
  | succ n1 ih1 =>
    intro i1 a1 ls hi1 hf1 hl
    refine lv_iload_n hx hb dX2_selfDual_4 rfl (lv_at hl 0 rfl) ?_
    refine lv_bipush (v := 16) hx hb dX2_selfDual_5 (by decide) ?_
    refine lv_icmp_ge (tgt := 42) hx hb dX2_selfDual_7 (by decide) (fun c_2 => ?_) (fun c_2 => ?_)
    · exact absurd c_2 (nI_ge (a := i1) (b := 16) (by omega) (by omega))
    · refine lv_iload_n hx hb dX2_selfDual_10 rfl (lv_at hl 1 rfl) ?_
      refine vz_cut (fun H1 l1 g1 => ∃ (x1_0 : Int32) (ls : Array Slot), x1_0 = (if a1 = 0 then 0 else (if ((t >>> ((nI i1) &&& 31)) &&& 1) = ((t >>> ((15 - (nI i1)) &&& 31)) &&& 1) then 0 else 1) : Int32) ∧ lv_has ls 3 [(2, .int (nI i1)), (1, .int a1), (0, .int t)] ∧ (s.heap = H1 ∧ [] = l1) ∧ g1 = F0 m 35 ls [.int x1_0]) (fun hj1 => ?_) ?_
      · refine lv_if_eq (tgt := 34) hx hb dX2_selfDual_11 (by decide) (fun c_3 => ?_) (fun c_3 => ?_)
        · refine lv_iconst (v := 0) hx hb dX2_selfDual_34 (by decide) ?_
          exact hj1 _ _ _ ⟨0, ls, (by (rw [if_pos c_3]); first | done | rfl), lv_sub hl [0, 1, 2] rfl, ⟨rfl, rfl⟩, rfl⟩
        · refine lv_iload_n hx hb dX2_selfDual_14 rfl (lv_at hl 2 rfl) ?_
          refine lv_iload_n hx hb dX2_selfDual_15 rfl (lv_at hl 0 rfl) ?_
          refine lv_ishr hx hb dX2_selfDual_16 ?_
          refine lv_iconst (v := 1) hx hb dX2_selfDual_17 (by decide) ?_
          refine lv_iand hx hb dX2_selfDual_18 ?_
          refine lv_iload_n hx hb dX2_selfDual_19 rfl (lv_at hl 2 rfl) ?_
          refine lv_bipush (v := 15) hx hb dX2_selfDual_20 (by decide) ?_
          refine lv_iload_n hx hb dX2_selfDual_22 rfl (lv_at hl 0 rfl) ?_
          refine lv_isub hx hb dX2_selfDual_23 ?_
          refine lv_ishr hx hb dX2_selfDual_24 ?_
          refine lv_iconst (v := 1) hx hb dX2_selfDual_25 (by decide) ?_
          refine lv_iand hx hb dX2_selfDual_26 ?_
          refine lv_icmp_eq (tgt := 34) hx hb dX2_selfDual_27 (by decide) (fun c_4 => ?_) (fun c_4 => ?_)
          · refine lv_iconst (v := 0) hx hb dX2_selfDual_34 (by decide) ?_
            exact hj1 _ _ _ ⟨0, ls, (by (rw [if_neg c_3, if_pos c_4]); first | done | rfl), lv_sub hl [0, 1, 2] rfl, ⟨rfl, rfl⟩, rfl⟩
          · refine lv_iconst (v := 1) hx hb dX2_selfDual_30 (by decide) ?_
            refine lv_goto (tgt := 35) hx hb dX2_selfDual_31 (by decide) ?_
            exact hj1 _ _ _ ⟨1, ls, (by (rw [if_neg c_3, if_neg c_4]); first | done | rfl), lv_sub hl [0, 1, 2] rfl, ⟨rfl, rfl⟩, rfl⟩
      rintro H1 l1 g1 ⟨x1_0, ls, ex1_0, hl, ⟨rfl, rfl⟩, rfl⟩
      subst ex1_0
      refine lv_istore_n (lv' := [(1, .int (if a1 = 0 then 0 else (if ((t >>> ((nI i1) &&& 31)) &&& 1) = ((t >>> ((15 - (nI i1)) &&& 31)) &&& 1) then 0 else 1) : Int32)), (2, .int (nI i1)), (0, .int t)]) hx hb dX2_selfDual_35 rfl hl (by decide) rfl (fun ls hl => ?_)
      refine lv_iinc (v := (nI (i1 + 1))) (lv' := [(2, .int (nI (i1 + 1))), (1, .int (if a1 = 0 then 0 else (if ((t >>> ((nI i1) &&& 31)) &&& 1) = ((t >>> ((15 - (nI i1)) &&& 31)) &&& 1) then 0 else 1) : Int32)), (0, .int t)]) hx hb dX2_selfDual_36 hl (k := 1) rfl (by first | exact nI_add _ _ | rfl) (by decide) rfl (fun ls hl => ?_)
      refine lv_goto (tgt := 4) hx hb dX2_selfDual_39 (by decide) ?_
      exact ih1 (i1 + 1) (if a1 = 0 then 0 else (if ((t >>> ((nI i1) &&& 31)) &&& 1) = ((t >>> ((15 - (nI i1)) &&& 31)) &&& 1) then 0 else 1) : Int32) ls (by omega) ((congrArg (lp (sX2_selfDual_4 t) n1 (i1 + 1)) (show (if a1 = 0 then 0 else (if ((t >>> ((nI i1) &&& 31)) &&& 1) = ((t >>> ((15 - (nI i1)) &&& 31)) &&& 1) then 0 else 1) : Int32) = (sX2_selfDual_4 t) i1 a1 from by first | ((rw [sX2_selfDual_4]); first | done | rfl) | rfl)).trans hf1) (lv_sub hl [0, 1, 2] rfl)
def sX2_monotone_4 (t : Int32) (i1 : Nat) (a1 : Int32) : Int32 := (if a1 = 0 then 0 else (if (((nI i1) / 16) &&& (((nI i1) - (nI i1) / 16 * 16) ^^^ (-1))) = 0 then (if ((t >>> (((nI i1) - (nI i1) / 16 * 16) &&& 31)) &&& 1) < ((t >>> (((nI i1) / 16) &&& 31)) &&& 1) then 0 else 1) else 1) : Int32)
def fX2_monotone (t : Int32) : Int32 := (lp (sX2_monotone_4 t) 256 0 1)
theorem bX2_monotone (t : Int32) (i : Nat) (a : Int32) (_ : a = 0 ∨ a = 1) : sX2_monotone_4 t i a = 0 ∨ sX2_monotone_4 t i a = 1 := by unfold sX2_monotone_4; split <;> first | exact Or.inl rfl | (split <;> first | exact Or.inl rfl | exact Or.inr rfl | (split <;> first | exact Or.inl rfl | exact Or.inr rfl))
set_option maxHeartbeats 4000000 in
set_option maxRecDepth 100000 in
theorem c_X2_monotone (l : Launch) (t : Int32) : Met l yX2_monotone wsX2_monotone ({ frames := 0, cells := 0, slots := 0, locals := 0 }) (va_Pc [.int t] (fun _ => True)) (vp_Si (fun r => r = (fX2_monotone t))) 0 0 (fun _ => False) := by
  refine Met.ofW (cc := cX2_monotone) (maxL := 5) (ret := (some .boolean)) (by decide) rfl ?_
  intro p e s m args below meth c s₁ B hml hv
  obtain ⟨rfl, -⟩ := hv
  have hx := B.exec
  have hb := B.bytes
  have hr := B.returns
  have hts := atoms_spec (ws := wsX2_monotone) B.pre
  have hown : s.vm.findClass RX2 = some m.cls := findClass_of_methodNamed B.named
  have hlocks := B.notSynchronized
  have hS : va_S (fun _ => False) s.heap s.heap [] := va_S.rf
  have hl := lv_entry ([.int t]) (n := 5) (Nat.le_of_ble_eq_true rfl)
  rw [lg_entry_eq]
  generalize (lg_sl ([.int t]) ++ List.replicate (5 - (lg_sl ([.int t])).length) Slot.unset).toArray = ls at hl ⊢
  have hl : lv_has ls 5 [(0, .int t)] := hl
  refine lv_iconst (v := 1) hx hb dX2_monotone_0 (by decide) ?_
  refine lv_istore_n (lv' := [(1, .int 1), (0, .int t)]) hx hb dX2_monotone_1 rfl hl (by decide) rfl (fun ls hl => ?_)
  refine lv_iconst (v := 0) hx hb dX2_monotone_2 (by decide) ?_
  refine lv_istore_n (lv' := [(2, .int 0), (1, .int 1), (0, .int t)]) hx hb dX2_monotone_3 rfl hl (by decide) rfl (fun ls hl => ?_)
  obtain ⟨F1, hF1⟩ : ∃ z, z = (lp (sX2_monotone_4 t) 256 0 1) := ⟨_, rfl⟩
  refine vz_cut (fun H1 l1 g1 => ∃ (n1 i1 : Nat) (a1 : Int32) (ls : Array Slot), i1 + n1 = 256 ∧ lp (sX2_monotone_4 t) n1 i1 a1 = F1 ∧ lv_has ls 5 [(2, .int (nI i1)), (1, .int a1), (0, .int t)] ∧ (s.heap = H1 ∧ [] = l1) ∧ g1 = F0 m 4 ls []) (fun hj => hj _ _ _ ⟨256, 0, 1, ls, (by omega), hF1.symm, lv_sub hl [0, 1, 2] rfl, ⟨rfl, rfl⟩, rfl⟩) ?_
  rintro H1 l1 g1 ⟨n1, i1, a1, ls, hi1, hf1, hl, ⟨rfl, rfl⟩, rfl⟩
  revert i1 a1 ls
  induction n1 with
  | zero =>
    intro i1 a1 ls hi1 hf1 hl
    obtain rfl : i1 = 256 := by omega
    have hf1 : F1 = a1 := hf1.symm
    subst hf1
    refine lv_iload_n hx hb dX2_monotone_4 rfl (lv_at hl 0 rfl) ?_
    refine lv_sipush (v := 256) hx hb dX2_monotone_5 (by decide) ?_
    refine lv_icmp_ge (tgt := 61) hx hb dX2_monotone_8 (by decide) (fun c_1 => ?_) (fun c_1 => ?_)
    · refine lv_iload_n hx hb dX2_monotone_61 rfl (lv_at hl 1 rfl) ?_
      exact W.zret (v := F1) hx hb hr (by rw [hF1]; exact nar_b (lp_b (bX2_monotone t) 256 0 1 (Or.inr rfl))) (fun t9 ht hW => ⟨F1, rfl, (by first | ((rw [fX2_monotone]); (try rw [← hF1]); first | done | rfl) | rfl), ht⟩) (fun q h => nomatch h) dX2_monotone_62
    · exact absurd (nI_le (a := 256) (b := 256) (by omega) (by omega)) c_1
  | succ n1 ih1 =>
    intro i1 a1 ls hi1 hf1 hl
    refine lv_iload_n hx hb dX2_monotone_4 rfl (lv_at hl 0 rfl) ?_
    refine lv_sipush (v := 256) hx hb dX2_monotone_5 (by decide) ?_
    refine lv_icmp_ge (tgt := 61) hx hb dX2_monotone_8 (by decide) (fun c_2 => ?_) (fun c_2 => ?_)
    · exact absurd c_2 (nI_ge (a := i1) (b := 256) (by omega) (by omega))
    · refine lv_iload_n hx hb dX2_monotone_11 rfl (lv_at hl 0 rfl) ?_
      refine lv_bipush (v := 16) hx hb dX2_monotone_12 (by decide) ?_
      refine lv_idiv hx hb dX2_monotone_14 (by decide) ?_
      refine lv_istore_n (lv' := [(3, .int ((nI i1) / 16)), (2, .int (nI i1)), (1, .int a1), (0, .int t)]) hx hb dX2_monotone_15 rfl hl (by decide) rfl (fun ls hl => ?_)
      refine lv_iload_n hx hb dX2_monotone_16 rfl (lv_at hl 1 rfl) ?_
      refine lv_bipush (v := 16) hx hb dX2_monotone_17 (by decide) ?_
      refine lv_irem hx hb dX2_monotone_19 (by decide) ?_
      refine lv_istore (lv' := [(4, .int ((nI i1) - (nI i1) / 16 * 16)), (3, .int ((nI i1) / 16)), (2, .int (nI i1)), (1, .int a1), (0, .int t)]) hx hb dX2_monotone_20 hl (by decide) rfl (fun ls hl => ?_)
      refine lv_iload_n hx hb dX2_monotone_22 rfl (lv_at hl 3 rfl) ?_
      refine vz_cut (fun H1 l1 g1 => ∃ (x1_0 : Int32) (ls : Array Slot), x1_0 = (if a1 = 0 then 0 else (if (((nI i1) / 16) &&& (((nI i1) - (nI i1) / 16 * 16) ^^^ (-1))) = 0 then (if ((t >>> (((nI i1) - (nI i1) / 16 * 16) &&& 31)) &&& 1) < ((t >>> (((nI i1) / 16) &&& 31)) &&& 1) then 0 else 1) else 1) : Int32) ∧ lv_has ls 5 [(4, .int ((nI i1) - (nI i1) / 16 * 16)), (3, .int ((nI i1) / 16)), (2, .int (nI i1)), (1, .int a1), (0, .int t)] ∧ (s.heap = H1 ∧ [] = l1) ∧ g1 = F0 m 54 ls [.int x1_0]) (fun hj1 => ?_) ?_
      · refine lv_if_eq (tgt := 53) hx hb dX2_monotone_23 (by decide) (fun c_3 => ?_) (fun c_3 => ?_)
        · refine lv_iconst (v := 0) hx hb dX2_monotone_53 (by decide) ?_
          exact hj1 _ _ _ ⟨0, ls, (by (rw [if_pos c_3]); first | done | rfl), lv_sub hl [0, 1, 2, 3, 4] rfl, ⟨rfl, rfl⟩, rfl⟩
        · refine lv_iload_n hx hb dX2_monotone_26 rfl (lv_at hl 1 rfl) ?_
          refine lv_iload hx hb dX2_monotone_27 (lv_at hl 0 rfl) ?_
          refine lv_iconst (v := (-1)) hx hb dX2_monotone_29 (by decide) ?_
          refine lv_ixor hx hb dX2_monotone_30 ?_
          refine lv_iand hx hb dX2_monotone_31 ?_
          refine lv_if_ne (tgt := 49) hx hb dX2_monotone_32 (by decide) (fun c_4 => ?_) (fun c_4 => ?_)
          · refine lv_iconst (v := 1) hx hb dX2_monotone_49 (by decide) ?_
            refine lv_goto (tgt := 54) hx hb dX2_monotone_50 (by decide) ?_
            exact hj1 _ _ _ ⟨1, ls, (by (rw [if_neg c_3, if_neg c_4]); first | done | rfl), lv_sub hl [0, 1, 2, 3, 4] rfl, ⟨rfl, rfl⟩, rfl⟩
          · refine lv_iload_n hx hb dX2_monotone_35 rfl (lv_at hl 4 rfl) ?_
            refine lv_iload_n hx hb dX2_monotone_36 rfl (lv_at hl 1 rfl) ?_
            refine lv_ishr hx hb dX2_monotone_37 ?_
            refine lv_iconst (v := 1) hx hb dX2_monotone_38 (by decide) ?_
            refine lv_iand hx hb dX2_monotone_39 ?_
            refine lv_iload_n hx hb dX2_monotone_40 rfl (lv_at hl 4 rfl) ?_
            refine lv_iload hx hb dX2_monotone_41 (lv_at hl 0 rfl) ?_
            refine lv_ishr hx hb dX2_monotone_43 ?_
            refine lv_iconst (v := 1) hx hb dX2_monotone_44 (by decide) ?_
            refine lv_iand hx hb dX2_monotone_45 ?_
            refine lv_icmp_gt (tgt := 53) hx hb dX2_monotone_46 (by decide) (fun c_5 => ?_) (fun c_5 => ?_)
            · refine lv_iconst (v := 0) hx hb dX2_monotone_53 (by decide) ?_
              exact hj1 _ _ _ ⟨0, ls, (by (rw [if_neg c_3, if_pos c_4, if_pos c_5]); first | done | rfl), lv_sub hl [0, 1, 2, 3, 4] rfl, ⟨rfl, rfl⟩, rfl⟩
            · refine lv_iconst (v := 1) hx hb dX2_monotone_49 (by decide) ?_
              refine lv_goto (tgt := 54) hx hb dX2_monotone_50 (by decide) ?_
              exact hj1 _ _ _ ⟨1, ls, (by (rw [if_neg c_3, if_pos c_4, if_neg c_5]); first | done | rfl), lv_sub hl [0, 1, 2, 3, 4] rfl, ⟨rfl, rfl⟩, rfl⟩
      rintro H1 l1 g1 ⟨x1_0, ls, ex1_0, hl, ⟨rfl, rfl⟩, rfl⟩
      subst ex1_0
      refine lv_istore_n (lv' := [(1, .int (if a1 = 0 then 0 else (if (((nI i1) / 16) &&& (((nI i1) - (nI i1) / 16 * 16) ^^^ (-1))) = 0 then (if ((t >>> (((nI i1) - (nI i1) / 16 * 16) &&& 31)) &&& 1) < ((t >>> (((nI i1) / 16) &&& 31)) &&& 1) then 0 else 1) else 1) : Int32)), (4, .int ((nI i1) - (nI i1) / 16 * 16)), (3, .int ((nI i1) / 16)), (2, .int (nI i1)), (0, .int t)]) hx hb dX2_monotone_54 rfl hl (by decide) rfl (fun ls hl => ?_)
      refine lv_iinc (v := (nI (i1 + 1))) (lv' := [(2, .int (nI (i1 + 1))), (1, .int (if a1 = 0 then 0 else (if (((nI i1) / 16) &&& (((nI i1) - (nI i1) / 16 * 16) ^^^ (-1))) = 0 then (if ((t >>> (((nI i1) - (nI i1) / 16 * 16) &&& 31)) &&& 1) < ((t >>> (((nI i1) / 16) &&& 31)) &&& 1) then 0 else 1) else 1) : Int32)), (4, .int ((nI i1) - (nI i1) / 16 * 16)), (3, .int ((nI i1) / 16)), (0, .int t)]) hx hb dX2_monotone_55 hl (k := 3) rfl (by first | exact nI_add _ _ | rfl) (by decide) rfl (fun ls hl => ?_)
      refine lv_goto (tgt := 4) hx hb dX2_monotone_58 (by decide) ?_
      exact ih1 (i1 + 1) (if a1 = 0 then 0 else (if (((nI i1) / 16) &&& (((nI i1) - (nI i1) / 16 * 16) ^^^ (-1))) = 0 then (if ((t >>> (((nI i1) - (nI i1) / 16 * 16) &&& 31)) &&& 1) < ((t >>> (((nI i1) / 16) &&& 31)) &&& 1) then 0 else 1) else 1) : Int32) ls (by omega) ((congrArg (lp (sX2_monotone_4 t) n1 (i1 + 1)) (show (if a1 = 0 then 0 else (if (((nI i1) / 16) &&& (((nI i1) - (nI i1) / 16 * 16) ^^^ (-1))) = 0 then (if ((t >>> (((nI i1) - (nI i1) / 16 * 16) &&& 31)) &&& 1) < ((t >>> (((nI i1) / 16) &&& 31)) &&& 1) then 0 else 1) else 1) : Int32) = (sX2_monotone_4 t) i1 a1 from by first | ((rw [sX2_monotone_4]); first | done | rfl) | rfl)).trans hf1) (lv_sub hl [0, 1, 4] rfl)
def fX2_highest (t : Int32) : Int32 := if ((t >>> ((3 : Int32) &&& 31)) &&& 1) = 0 then (if ((t >>> (((3 : Int32) + (-1)) &&& 31)) &&& 1) = 0 then (if ((t >>> ((((3 : Int32) + (-1)) + (-1)) &&& 31)) &&& 1) = 0 then ((((3 : Int32) + (-1)) + (-1)) + (-1)) else (((3 : Int32) + (-1)) + (-1))) else ((3 : Int32) + (-1))) else 3
set_option maxHeartbeats 4000000 in
set_option maxRecDepth 100000 in
theorem c_X2_highest (l : Launch) (t : Int32) (hq : ¬ ((t >>> ((3 : Int32) &&& 31)) &&& 1 = 0 ∧ (t >>> (((3 : Int32) + (-1)) &&& 31)) &&& 1 = 0 ∧ (t >>> ((((3 : Int32) + (-1)) + (-1)) &&& 31)) &&& 1 = 0 ∧ (t >>> (((((3 : Int32) + (-1)) + (-1)) + (-1)) &&& 31)) &&& 1 = 0)) : Met l yX2_highest wsX2_highest ({ frames := 0, cells := 0, slots := 0, locals := 0 }) (va_Pc [.int t] (fun _ => True)) (vp_Si (fun r => r = (fX2_highest t))) 0 0 (fun _ => False) := by
  refine Met.ofW (cc := cX2_highest) (maxL := 2) (ret := (some .int)) (by decide) rfl ?_
  intro p e s m args below meth c s₁ B hml hv
  obtain ⟨rfl, -⟩ := hv
  have hx := B.exec
  have hb := B.bytes
  have hr := B.returns
  have hts := atoms_spec (ws := wsX2_highest) B.pre
  have hown : s.vm.findClass RX2 = some m.cls := findClass_of_methodNamed B.named
  have hlocks := B.notSynchronized
  have hS : va_S (fun _ => False) s.heap s.heap [] := va_S.rf
  have hl := lv_entry ([.int t]) (n := 2) (Nat.le_of_ble_eq_true rfl)
  rw [lg_entry_eq]
  generalize (lg_sl ([.int t]) ++ List.replicate (2 - (lg_sl ([.int t])).length) Slot.unset).toArray = ls at hl ⊢
  have hl : lv_has ls 2 [(0, .int t)] := hl
  refine lv_iconst (v := 3) hx hb dX2_highest_0 (by decide) ?_
  refine lv_istore_n (lv' := [(1, .int 3), (0, .int t)]) hx hb dX2_highest_1 rfl hl (by decide) rfl (fun ls hl => ?_)
  refine lv_iload_n hx hb dX2_highest_2 rfl (lv_at hl 1 rfl) ?_
  refine lv_iload_n hx hb dX2_highest_3 rfl (lv_at hl 0 rfl) ?_
  refine lv_ishr hx hb dX2_highest_4 ?_
  refine lv_iconst (v := 1) hx hb dX2_highest_5 (by decide) ?_
  refine lv_iand hx hb dX2_highest_6 ?_
  refine lv_if_ne (tgt := 16) hx hb dX2_highest_7 (by decide) (fun c_1 => ?_) (fun c_1 => ?_)
  · refine lv_iload_n hx hb dX2_highest_16 rfl (lv_at hl 0 rfl) ?_
    exact W.iret (v := 3) hx hb hr (fun t9 ht hW => ⟨3, rfl, (by first | ((rw [fX2_highest, if_neg c_1]); first | done | rfl) | rfl), ht⟩) (fun q h => nomatch h) dX2_highest_17
  · refine lv_iinc (v := ((3 : Int32) + (-1))) (lv' := [(1, .int ((3 : Int32) + (-1))), (0, .int t)]) hx hb dX2_highest_10 hl (k := 0) rfl rfl (by decide) rfl (fun ls hl => ?_)
    refine lv_goto (tgt := 2) hx hb dX2_highest_13 (by decide) ?_
    refine lv_iload_n hx hb dX2_highest_2 rfl (lv_at hl 1 rfl) ?_
    refine lv_iload_n hx hb dX2_highest_3 rfl (lv_at hl 0 rfl) ?_
    refine lv_ishr hx hb dX2_highest_4 ?_
    refine lv_iconst (v := 1) hx hb dX2_highest_5 (by decide) ?_
    refine lv_iand hx hb dX2_highest_6 ?_
    refine lv_if_ne (tgt := 16) hx hb dX2_highest_7 (by decide) (fun c_2 => ?_) (fun c_2 => ?_)
    · refine lv_iload_n hx hb dX2_highest_16 rfl (lv_at hl 0 rfl) ?_
      exact W.iret (v := ((3 : Int32) + (-1))) hx hb hr (fun t9 ht hW => ⟨((3 : Int32) + (-1)), rfl, (by first | ((rw [fX2_highest, if_pos c_1, if_neg c_2]); first | done | rfl) | rfl), ht⟩) (fun q h => nomatch h) dX2_highest_17
    · refine lv_iinc (v := (((3 : Int32) + (-1)) + (-1))) (lv' := [(1, .int (((3 : Int32) + (-1)) + (-1))), (0, .int t)]) hx hb dX2_highest_10 hl (k := 0) rfl rfl (by decide) rfl (fun ls hl => ?_)
      refine lv_goto (tgt := 2) hx hb dX2_highest_13 (by decide) ?_
      refine lv_iload_n hx hb dX2_highest_2 rfl (lv_at hl 1 rfl) ?_
      refine lv_iload_n hx hb dX2_highest_3 rfl (lv_at hl 0 rfl) ?_
      refine lv_ishr hx hb dX2_highest_4 ?_
      refine lv_iconst (v := 1) hx hb dX2_highest_5 (by decide) ?_
      refine lv_iand hx hb dX2_highest_6 ?_
      refine lv_if_ne (tgt := 16) hx hb dX2_highest_7 (by decide) (fun c_3 => ?_) (fun c_3 => ?_)
      · refine lv_iload_n hx hb dX2_highest_16 rfl (lv_at hl 0 rfl) ?_
        exact W.iret (v := (((3 : Int32) + (-1)) + (-1))) hx hb hr (fun t9 ht hW => ⟨(((3 : Int32) + (-1)) + (-1)), rfl, (by first | ((rw [fX2_highest, if_pos c_1, if_pos c_2, if_neg c_3]); first | done | rfl) | rfl), ht⟩) (fun q h => nomatch h) dX2_highest_17
      · refine lv_iinc (v := ((((3 : Int32) + (-1)) + (-1)) + (-1))) (lv' := [(1, .int ((((3 : Int32) + (-1)) + (-1)) + (-1))), (0, .int t)]) hx hb dX2_highest_10 hl (k := 0) rfl rfl (by decide) rfl (fun ls hl => ?_)
        refine lv_goto (tgt := 2) hx hb dX2_highest_13 (by decide) ?_
        refine lv_iload_n hx hb dX2_highest_2 rfl (lv_at hl 1 rfl) ?_
        refine lv_iload_n hx hb dX2_highest_3 rfl (lv_at hl 0 rfl) ?_
        refine lv_ishr hx hb dX2_highest_4 ?_
        refine lv_iconst (v := 1) hx hb dX2_highest_5 (by decide) ?_
        refine lv_iand hx hb dX2_highest_6 ?_
        refine lv_if_ne (tgt := 16) hx hb dX2_highest_7 (by decide) (fun c_4 => ?_) (fun c_4 => ?_)
        · refine lv_iload_n hx hb dX2_highest_16 rfl (lv_at hl 0 rfl) ?_
          exact W.iret (v := ((((3 : Int32) + (-1)) + (-1)) + (-1))) hx hb hr (fun t9 ht hW => ⟨((((3 : Int32) + (-1)) + (-1)) + (-1)), rfl, (by first | ((rw [fX2_highest, if_pos c_1, if_pos c_2, if_pos c_3]); first | done | rfl) | rfl), ht⟩) (fun q h => nomatch h) dX2_highest_17
        · exact absurd ⟨c_1, c_2, c_3, c_4⟩ hq
end
