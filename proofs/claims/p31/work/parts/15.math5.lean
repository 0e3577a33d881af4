/-! Mathematics of the law 4: the ways of a turn. -/
theorem mul_bit {x y : Int32} (hy : tb y) : tb ((x &&& 1) * y) := by
  rw [and1_bI]
  cases bt x 0
  · show tb (0 * y)
    rw [Int32.zero_mul]; exact tb_0
  · show tb (1 * y)
    rw [Int32.one_mul]; exact hy
theorem table_tb (v : Int32) : tb (fL_table v) := by
  unfold fL_table
  refine ite_of tb ?_ (ite_of tb ?_ ?_)
  · exact tb_xor (tb_xor (tb_xor (tb_xor (mul_bit (tb_VT 0)) (mul_bit (tb_VT 1))) (mul_bit (tb_VT 2))) (mul_bit (tb_VT 3))) (mul_bit tb_all)
  · exact tb_and (tb_and' _ tb_all) _
  · exact tb_and' _ tb_all
theorem tb_hi {t : Int32} (h : tb t) : t ≤ 65535 := by
  obtain ⟨n, hn, rfl⟩ := tb_of h
  exact nI_le (a := n) (b := 65535) (by omega) (by omega)
theorem low_of (v : Int32) {g : Nat} (h0 : 0 < g) (h : g < 64) : ∃ j, j < g ∧ fL_low v g = nI j := by
  obtain ⟨m, hm, e⟩ : ∃ m, m < 2 ^ 31 ∧ v &&& 2147483647 = nI m := by
    refine ⟨(v &&& 2147483647).toBitVec.toNat, ?_, ?_⟩
    · refine Nat.lt_pow_two_of_testBit (n := 31) _ (fun i hi => ?_)
      show bt (v &&& 2147483647) i = false
      rcases Nat.lt_or_ge i 32 with h1 | h1
      · have : i = 31 := by omega
        subst this
        rw [b_and, (by decide +kernel : bt 2147483647 31 = false), Bool.and_false]
      · exact b_big h1
    · apply Int32.toBitVec_inj.mp
      show _ = BitVec.ofNat 32 _
      simp
  refine ⟨m % g, Nat.mod_lt _ h0, ?_⟩
  unfold fL_low
  rw [e]
  exact pk_rem hm h0 (by omega)
theorem upd_at (f : Nat → Int32) (i : Nat) (x : Int32) : upd f i x i = x := if_pos rfl
theorem record_n (T R : Nat → Int32) {n : Nat} (hn : n ≤ 4) : (fX1_recordState T R n).2 ≤ 4 := by
  unfold fX1_recordState
  by_cases h : nI n < 4
  · rw [if_pos h]
    have := (nI_ltI (a := n) (b := 4) (by omega) (by decide)).mp h
    show n + 1 ≤ 4
    omega
  · rw [if_neg h]; exact Nat.le_refl 4
theorem record_tbs {T R : Nat → Int32} (hT : tbs T) (hR : tbs R) (n : Nat) : tbs (fX1_recordState T R n).1 := by
  unfold fX1_recordState
  by_cases h : nI n < 4
  · rw [if_pos h]; exact cpy_tbs hT hR _ _ _
  · rw [if_neg h]; exact cpy_tbs hT (cpy_tbs hR hR _ _ _) _ _ _
theorem join_same (t : Int32) {j : Nat} (hj : j < 2) : fX1_joinTables t t (nI (1 + j)) = t := by
  have hc : j = 0 ∨ j = 1 := by omega
  rcases hc with h | h
  · subst h
    show fX1_joinTables t t 1 = t
    unfold fX1_joinTables
    rw [if_neg (by decide), if_pos rfl]
    exact b_ext (fun i _ => by rw [b_and, Bool.and_self])
  · subst h
    show fX1_joinTables t t 2 = t
    unfold fX1_joinTables
    rw [if_neg (by decide), if_neg (by decide), if_pos rfl]
    exact b_ext (fun i _ => by rw [b_or, Bool.or_self])
theorem half_c {t : Int32} (h : tb t) {v : Nat} (hv : v < 4) (b : Int32) : tb (fX1_half t (nI v) b) ∧ ∀ p, p < 16 → bt (fX1_half t (nI v) b) p = bt t (pw p v (decide (¬ b = 0))) := by
  by_cases hb : b = 0
  · subst hb
    exact ⟨(half_0 h hv).1, fun p hp => by rw [(half_0 h hv).2 p hp]; rfl⟩
  · rw [decide_eq_true hb]; exact half_1 h hv hb
theorem pw_pw : ∀ v, v < 4 → ∀ p, p < 16 → ∀ c d : Bool, pw (pw p v d) v c = pw p v c ∧ pw p v d < 16 := by decide +kernel
theorem half_half {t : Int32} (h : tb t) {v : Nat} (hv : v < 4) (b : Int32) : fX1_half (fX1_half t (nI v) b) (nI v) 1 = fX1_half (fX1_half t (nI v) b) (nI v) 0 := by
  have hh := half_c h hv b
  have h1 := half_1 hh.1 hv (b := 1) (by decide)
  have h0 := half_0 hh.1 hv
  refine tb_ext h1.1 h0.1 (fun p hp => ?_)
  rw [h1.2 p hp, h0.2 p hp, hh.2 _ (pw_pw v hv p hp true true).2, hh.2 _ (pw_pw v hv p hp true false).2, (pw_pw v hv p hp _ true).1, (pw_pw v hv p hp _ false).1]
/-- a function one of whose variables is fixed does not depend on it -/
theorem fix_0 (T R : Nat → Int32) (n x : Nat) (h : tb (T x)) {v : Nat} (hv : v < 4) (b : Int32) : fX1_dependsOn (fX1_fix T R n x v b).2.1 x v = 0 := by
  show fX1_dependsOn (upd T x (fX1_half (T x) (nI v) b)) x v = 0
  unfold fX1_dependsOn
  rw [upd_at, if_pos (half_half h hv b)]
def subT (t w : Int32) (v : Nat) : Int32 := (w &&& (fX1_half t (nI v) 1)) ||| ((w ^^^ (-1)) &&& (fX1_half t (nI v) 0))
theorem sub_tb {t w : Int32} (h : tb t) (hw : tb w) {v : Nat} (hv : v < 4) : tb (subT t w v) := tb_or (tb_and hw _) (tb_and' _ (half_0 h hv).1)
theorem sub_self {t : Int32} (h : tb t) {v : Nat} (hv : v < 4) : subT t (VT v) v = t := by
  refine tb_ext (sub_tb h (tb_VT v) hv) h (fun i hi => ?_)
  unfold subT
  rw [b_or, b_and, b_and, b_xor, bm1 (by omega), (half_1 h hv (b := 1) (by decide)).2 i hi, (half_0 h hv).2 i hi]
  rcases hf_tab v hv i hi with ⟨a1, a2, a3, _⟩ | ⟨a1, a2, a3, _, a4⟩
  · rw [a1, a3]; simp
  · rw [a1, a4]; simp
/-- a variable put in for itself changes nothing -/
theorem sub_had (T R : Nat → Int32) (n x x3 : Nat) (h : tb (T x)) {v : Nat} (hv : v < 4) (e : T x3 = VT v) : (fX1_substitute T R n x v x3).2.1 x = T x := by
  show upd T x (subT (T x) (T x3) v) x = T x
  rw [upd_at, e, sub_self h hv]
theorem add_add {t : Int32} (h : tb t) : fX1_addHalves (fX1_addHalves t) = t :=
  lin_ext (fun x => fX1_addHalves (fX1_addHalves x)) (fun x => x) (fun x y => by show fX1_addHalves (fX1_addHalves (x ^^^ y)) = _; rw [add_xor, add_xor]) (fun _ _ => rfl) (by decide +kernel) (by decide +kernel) 16 (Nat.le_refl _) t h
/-- a function is defined by the printed text of another one -/
theorem define_T (T R X : Nat → Int32) (n k x : Nat) {t : Int32} (h : tb t) (hp : fX0_productsRead (fX0_firstError X k).2.1 (fX0_firstError X k).2.2.1 (fX0_firstError X k).2.2.2.1 = fX1_addHalves t) : (fX1_define T R X n k x).2.1 = upd T x t := by
  show upd T x (fX1_addHalves (fX0_productsRead (fX0_firstError X k).2.1 (fX0_firstError X k).2.2.1 (fX0_firstError X k).2.2.2.1)) = _
  rw [hp, add_add h]
theorem define_n (T R X : Nat → Int32) (n k x : Nat) {t : Int32} (h : tb t) (hp : fX0_productsRead (fX0_firstError X k).2.1 (fX0_firstError X k).2.2.1 (fX0_firstError X k).2.2.2.1 = fX1_addHalves t) : (fL_define T R X n k x).1 = fL_bits (fX1_productsBySums (fL_define T R X n k x).2.1 x) := by
  have e : (fL_define T R X n k x).2.1 = upd T x t := define_T T R X n k x h hp
  have e2 : upd T x t x = t := upd_at T x t
  rw [e, bySums_ok _ x (by rw [e2]; exact h), e2]
  show fJ6_bitCount_0f7a4 (fX0_productsRead (fX0_firstError X k).2.1 (fX0_firstError X k).2.2.1 (fX0_firstError X k).2.2.2.1) = _
  rw [hp]
  exact bitCount_tb (add_tb h)
theorem define_at (T R X : Nat → Int32) (n k x : Nat) {t : Int32} (h : tb t) (hp : fX0_productsRead (fX0_firstError X k).2.1 (fX0_firstError X k).2.2.1 (fX0_firstError X k).2.2.2.1 = fX1_addHalves t) : fX1_tableOf (fL_define T R X n k x).2.1 x = t := by
  have e : (fL_define T R X n k x).2.1 = upd T x t := define_T T R X n k x h hp
  show (fL_define T R X n k x).2.1 x = t
  rw [e]; exact upd_at T x t
theorem undo_ok (T R : Nat → Int32) {n : Nat} (hn : n ≤ 4) : (fL_undo T R n).1 = (if nI n = 0 then -3 else nI n - 1 : Int32) := by
  unfold fL_undo kX1_undo fX1_undo
  have hc : n = 0 ∨ 0 < n := by omega
  rcases hc with h | h
  · subst h
    rw [if_neg (by decide : ¬ (0 : Int32) < nI 0), if_neg (by decide : ¬ (2 : Nat) = 0)]
    rfl
  · have h1 : (0 : Int32) < nI n := nI_lt (a := 0) (b := n) h (by omega)
    rw [if_pos h1, if_pos (rfl : (0 : Nat) = 0), if_neg (nI_ne0 h (by omega)), if_pos h1]
    show nI (n - 1) = nI n - 1
    exact (pk_sub (a := n) (b := 1) h).symm
theorem undo_tbs {T R : Nat → Int32} (hT : tbs T) (hR : tbs R) (n : Nat) : tbs (fL_undo T R n).2.1 := by
  have h : tbs (fX1_undo T R n).2.1 := by
    unfold fX1_undo
    by_cases h : 0 < nI n
    · rw [if_pos h]; exact cpy_tbs hR hT _ _ _
    · rw [if_neg h]; exact hT
  unfold fL_undo
  by_cases hk : kX1_undo n = 0
  · rw [if_pos hk]; exact h
  · rw [if_neg hk]; exact h
theorem undo_n (T R : Nat → Int32) {n : Nat} (hn : n ≤ 4) : (fL_undo T R n).2.2 ≤ 4 := by
  have h : (fX1_undo T R n).2.2 ≤ 4 := by
    unfold fX1_undo
    by_cases h : 0 < nI n
    · rw [if_pos h]; show n - 1 ≤ 4; omega
    · rw [if_neg h]; exact hn
  unfold fL_undo
  by_cases hk : kX1_undo n = 0
  · rw [if_pos hk]; exact h
  · rw [if_neg hk]; exact h
/-- all of the row are characters -/
def pch (P : Nat → Int32) : Prop := ∀ j, vp_nar .char (P j) = P j
theorem init_tbs : tbs fX1_init := by
  have h0 : tbs (fun _ => 0) := fun _ => tb_0
  have h1 : tbs (lp sX1_init_85 4 0 (fun _ => 0)) := lp_holds (fun _ (a : Nat → Int32) => tbs a) sX1_init_85 4 0 (fun _ => 0) (fun j a _ _ h => upd_tbs h j (tb_VT j)) h0
  exact upd_tbs (upd_tbs h1 4 tb_0) 5 tb_all
