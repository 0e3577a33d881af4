/-! Mathematics of the law 3: the printed text, and what is read of it. -/
def Lp (i : Nat) : List Int32 := if i = 0 then [49] else (if i.testBit 0 then [97] else []) ++ (if i.testBit 1 then [98] else []) ++ (if i.testBit 2 then [99] else []) ++ (if i.testBit 3 then [100] else [])
/-- the text of the products from i on, n of them -/
def sx (s : Nat → Bool) : Nat → Nat → List Int32
  | 0, _ => []
  | n + 1, i => if s i then Lp i ++ (if sx s n (i + 1) = [] then [] else 43 :: sx s n (i + 1)) else sx s n (i + 1)
def sxl (s : Nat → Bool) : Nat → Nat → Nat
  | 0, _ => 0
  | n + 1, i => (if s i then (Lp i).length + 1 else 0) + sxl s n (i + 1)
theorem Lp_len : ∀ i, i < 16 → 0 < (Lp i).length ∧ (Lp i).length ≤ 4 := by decide +kernel
theorem Lp_ne {i : Nat} (hi : i < 16) : Lp i ≠ [] := fun h => by have := (Lp_len i hi).1; rw [h] at this; exact absurd this (by decide)
theorem sx_len (s : Nat → Bool) : ∀ n i, i + n ≤ 16 → (sx s n i = [] ∧ sxl s n i = 0) ∨ (sx s n i ≠ [] ∧ sxl s n i = (sx s n i).length + 1)
  | 0, _, _ => Or.inl ⟨rfl, rfl⟩
  | n + 1, i, h => by
    have hr := sx_len s n (i + 1) (by omega)
    simp only [sx, sxl]
    have hs : s i = false ∨ s i = true := by cases s i <;> simp
    rcases hs with hs | hs
    · simp only [hs, Bool.false_eq_true, if_false, Nat.zero_add]; exact hr
    · simp only [hs, if_true]
      refine Or.inr ⟨fun h9 => Lp_ne (by omega : i < 16) (List.append_eq_nil_iff.mp h9).1, ?_⟩
      rcases hr with ⟨h1, h2⟩ | ⟨h1, h2⟩
      · rw [if_pos h1, h2]; simp
      · rw [if_neg h1, h2]; simp; omega
theorem sxl_le (s : Nat → Bool) : ∀ n i, sxl s n i ≤ sxl (fun _ => true) n i
  | 0, _ => Nat.le_refl _
  | n + 1, i => by
    have := sxl_le s n (i + 1)
    simp only [sxl, if_true]
    split <;> omega
theorem sxl_49 (s : Nat → Bool) : sxl s 16 0 ≤ 49 := Nat.le_trans (sxl_le s 16 0) (by decide)
theorem sx_48 (s : Nat → Bool) : (sx s 16 0).length ≤ 48 := by
  have h1 := sxl_49 s
  rcases sx_len s 16 0 (by decide) with ⟨h, _⟩ | ⟨_, h⟩
  · rw [h]; decide
  · omega
theorem sx_none {s : Nat → Bool} : ∀ n i, (∀ j, i ≤ j → j < i + n → s j = false) → sx s n i = []
  | 0, _, _ => rfl
  | n + 1, i, h => by
    simp only [sx, h i (Nat.le_refl _) (by omega), Bool.false_eq_true, if_false]
    exact sx_none n (i + 1) (fun j h1 h2 => h j (by omega) (by omega))
theorem sx_some {s : Nat → Bool} : ∀ n i j, i + n ≤ 16 → i ≤ j → j < i + n → s j = true → sx s n i ≠ []
  | 0, i, j, _, h1, h2, _ => by omega
  | n + 1, i, j, h0, h1, h2, h3 => by
    rcases sx_len s (n + 1) i h0 with ⟨h, h5⟩ | ⟨h, _⟩
    · simp only [sxl] at h5
      rcases Nat.eq_or_lt_of_le h1 with h6 | h6
      · subst h6; rw [h3] at h5; simp at h5
      · have := sx_some n (i + 1) j (by omega) (by omega) (by omega) h3
        rcases sx_len s n (i + 1) (by omega) with ⟨h7, _⟩ | ⟨_, h7⟩
        · exact absurd h7 this
        · omega
    · exact h
/-- the printed text of a set of products -/
def txt (u : Int32) : List Int32 := if u = 0 then [48] else sx (bt u) 16 0
theorem txt_48 (u : Int32) : (txt u).length ≤ 48 := by
  unfold txt; split
  · decide
  · exact sx_48 _
theorem tb_ne0 {u : Int32} (h : tb u) (h0 : u ≠ 0) : ∃ i, i < 16 ∧ bt u i = true := by
  refine Classical.byContradiction (fun hc => h0 (tb_ext h tb_0 (fun i hi => ?_)))
  rw [b_0]
  cases hb : bt u i
  · rfl
  · exact absurd ⟨i, hi, hb⟩ hc
theorem txt_ne {u : Int32} (h : tb u) : txt u ≠ [] := by
  unfold txt
  by_cases h0 : u = 0
  · rw [if_pos h0]; simp
  · rw [if_neg h0]
    obtain ⟨i, hi, hb⟩ := tb_ne0 h h0
    exact sx_some 16 0 i (by decide) (Nat.zero_le _) (by omega) hb
/-- what the program has put down -/
def hld (P : Nat → Int32) (z : Nat) (l : List Int32) : Prop := z = l.length ∧ ∀ k, k < z → P k = l.getD k 0
theorem put_hld {P : Nat → Int32} {z : Nat} {l : List Int32} (h : hld P z l) (c : Int32) (hl : l.length < 48) : hld (fX1_put P z c).1 (fX1_put P z c).2 (l ++ [c]) := by
  obtain ⟨h1, h2⟩ := h
  unfold fX1_put
  have hn : ¬ (48 : Int32) ≤ nI z := nI_ge (a := z) (b := 48) (by omega) (by decide)
  rw [if_neg hn]
  refine ⟨by simp [h1], fun k hk => ?_⟩
  show upd P z c k = _
  unfold upd
  have hk : k < z + 1 := hk
  by_cases e : k = z
  · subst e
    rw [if_pos rfl, h1]
    simp [List.getD_eq_getElem?_getD]
  · rw [if_neg e, h2 k (by omega)]
    simp only [List.getD_eq_getElem?_getD]
    rw [List.getElem?_append_left (by omega)]
/-- one by one -/
def puts (a : (Nat → Int32) × Nat) : List Int32 → (Nat → Int32) × Nat
  | [] => a
  | c :: l => puts (fX1_put a.1 a.2 c) l
theorem puts_hld : ∀ (m : List Int32) {a : (Nat → Int32) × Nat} {l : List Int32}, hld a.1 a.2 l → (l ++ m).length ≤ 48 → hld (puts a m).1 (puts a m).2 (l ++ m)
  | [], a, l, h, _ => by rw [List.append_nil]; exact h
  | c :: m, a, l, h, hl => by
    have h1 := put_hld h c (by simp at hl; omega)
    have := puts_hld m (a := fX1_put a.1 a.2 c) h1 (by simpa using hl)
    rw [List.append_assoc] at this
    exact this
theorem puts_app : ∀ (l m : List Int32) (a : (Nat → Int32) × Nat), puts a (l ++ m) = puts (puts a l) m
  | [], m, a => rfl
  | c :: l, m, a => puts_app l m _
theorem ch_tab : ∀ j, j < 4 → (((97 + (nI j)).toUInt32 % 65536).toInt32) = nI (97 + j) := by decide +kernel
theorem b_nI16 {i j : Nat} (hj : j < 32) : fX1_bit (nI i) (nI j) = bI (i.testBit j) := by
  rw [fX1_bit_bI hj, b_nI, decide_eq_true hj, Bool.true_and]
theorem pp_step (i j : Nat) (hj : j < 4) (a : (Nat → Int32) × Nat) : sX1_printProduct_12 (nI i) j a = puts a (if i.testBit j then [nI (97 + j)] else []) := by
  unfold sX1_printProduct_12
  rw [b_nI16 (by omega), ch_tab j hj]
  have hs : i.testBit j = false ∨ i.testBit j = true := by cases i.testBit j <;> simp
  rcases hs with hs | hs
  · rw [hs, if_neg (by decide)]; rfl
  · rw [hs, if_pos (by decide)]; rfl
theorem product_puts (P : Nat → Int32) (z : Nat) (i : Nat) (hi : i < 16) : fX1_printProduct P z (nI i) = puts (P, z) (Lp i) := by
  have h4 : ∀ a, lp (sX1_printProduct_12 (nI i)) 4 0 a = puts a ((if i.testBit 0 then [97] else []) ++ (if i.testBit 1 then [98] else []) ++ (if i.testBit 2 then [99] else []) ++ (if i.testBit 3 then [100] else [])) := by
    intro a
    rw [puts_app, puts_app, puts_app]
    show sX1_printProduct_12 (nI i) 3 (sX1_printProduct_12 (nI i) 2 (sX1_printProduct_12 (nI i) 1 (sX1_printProduct_12 (nI i) 0 a))) = _
    rw [pp_step i 0 (by decide), pp_step i 1 (by decide), pp_step i 2 (by decide), pp_step i 3 (by decide)]
    rfl
  unfold fX1_printProduct Lp
  rw [h4]
  by_cases h0 : i = 0
  · subst h0
    have hz : nI 0 = 0 := rfl
    rw [if_pos hz, if_pos hz, if_pos rfl]
    rfl
  · have hz : ¬ nI i = 0 := nI_ne0 (by omega) (by omega)
    rw [if_neg hz, if_neg hz, if_neg h0]
theorem ite_prod {c : Prop} [Decidable c] (a b : (Nat → Int32) × Nat) : ((if c then a.1 else b.1), (if c then a.2 else b.2)) = if c then a else b := by split <;> rfl
theorem print_loop (u : Int32) : ∀ n i (a : (Nat → Int32) × Nat) (l : List Int32), i + n ≤ 16 → hld a.1 a.2 l → (l ≠ [] ∨ (∀ j, j < i → bt u j = false)) → (if l = [] then sx (bt u) n i else if sx (bt u) n i = [] then l else l ++ 43 :: sx (bt u) n i).length ≤ 48 →
    hld (lp (sX1_print_17 u) n i a).1 (lp (sX1_print_17 u) n i a).2 (if l = [] then sx (bt u) n i else if sx (bt u) n i = [] then l else l ++ 43 :: sx (bt u) n i)
  | 0, i, a, l, _, h, _, _ => by
    show hld a.1 a.2 _
    simp only [sx, if_true]
    split
    · rename_i e; rw [e] at h; exact h
    · exact h
  | n + 1, i, a, l, hi, h, h2, h3 => by
    show hld (lp (sX1_print_17 u) n (i + 1) (sX1_print_17 u i a)).1 (lp (sX1_print_17 u) n (i + 1) (sX1_print_17 u i a)).2 _
    have hs : bt u i = false ∨ bt u i = true := by cases bt u i <;> simp
    rcases hs with hs | hs
    · have e : sX1_print_17 u i a = a := by
        unfold sX1_print_17
        rw [fX1_bit_bI (by omega), hs, if_neg (by decide)]
      have e2 : sx (bt u) (n + 1) i = sx (bt u) n (i + 1) := by simp only [sx, hs, Bool.false_eq_true, if_false]
      rw [e, e2]
      rw [e2] at h3
      exact print_loop u n (i + 1) a l (by omega) h (h2.imp id (fun h9 j hj => by
        rcases Nat.lt_or_ge j i with h8 | h8
        · exact h9 j h8
        · have : j = i := by omega
          subst this; exact hs)) h3
    · have hz := h.1
      have e : sX1_print_17 u i a = puts (if l = [] then a else fX1_put a.1 a.2 43) (Lp i) := by
        unfold sX1_print_17
        rw [fX1_bit_bI (by omega), hs, if_pos (by decide)]
        have hl : a.2 < 48 := by
          rw [hz]
          rcases Nat.lt_or_ge l.length 48 with h9 | h9
          · exact h9
          · rw [if_neg (fun h8 => by rw [h8] at h9; simp at h9), if_neg (sx_some (n + 1) i i (by omega) (Nat.le_refl _) (by omega) hs)] at h3
            simp at h3; omega
        by_cases hn : l = []
        · have : nI a.2 ≤ 0 := by rw [hz, hn]; decide
          rw [if_pos this, if_pos this, if_pos hn, product_puts _ _ i (by omega)]
        · have hp : 0 < a.2 := by rw [hz]; exact List.length_pos_iff.mpr hn
          have : ¬ nI a.2 ≤ 0 := nI_nle hp (by omega)
          rw [if_neg this, if_neg this, if_neg hn, product_puts _ _ i (by omega)]
      have e2 : sx (bt u) (n + 1) i = Lp i ++ (if sx (bt u) n (i + 1) = [] then [] else 43 :: sx (bt u) n (i + 1)) := by simp only [sx, hs, if_true]
      have hLp := Lp_ne (show i < 16 by omega)
      have e3 : sx (bt u) (n + 1) i ≠ [] := by rw [e2]; intro h9; exact hLp (List.append_eq_nil_iff.mp h9).1
      have goalEq : (if l = [] then sx (bt u) (n + 1) i else if sx (bt u) (n + 1) i = [] then l else l ++ 43 :: sx (bt u) (n + 1) i) = (if (if l = [] then Lp i else (l ++ [43]) ++ Lp i) = [] then sx (bt u) n (i + 1) else if sx (bt u) n (i + 1) = [] then (if l = [] then Lp i else (l ++ [43]) ++ Lp i) else (if l = [] then Lp i else (l ++ [43]) ++ Lp i) ++ 43 :: sx (bt u) n (i + 1)) := by
        rw [if_neg e3, e2]
        by_cases hn : l = []
        · rw [if_pos hn, if_pos hn, if_neg hLp]
          by_cases hr : sx (bt u) n (i + 1) = []
          · rw [if_pos hr, if_pos hr, List.append_nil]
          · rw [if_neg hr, if_neg hr]
        · rw [if_neg hn, if_neg hn, if_neg (fun h9 => hLp (List.append_eq_nil_iff.mp h9).2)]
          by_cases hr : sx (bt u) n (i + 1) = []
          · rw [if_pos hr, if_pos hr]; simp
          · rw [if_neg hr, if_neg hr]; simp
      rw [goalEq] at h3 ⊢
      have hl' : (if l = [] then Lp i else (l ++ [43]) ++ Lp i) ≠ [] := by
        by_cases hn : l = []
        · rw [if_pos hn]; exact hLp
        · rw [if_neg hn]; exact fun h9 => hLp (List.append_eq_nil_iff.mp h9).2
      have hlen : (if l = [] then Lp i else (l ++ [43]) ++ Lp i).length ≤ 48 := by
        generalize (if l = [] then Lp i else (l ++ [43]) ++ Lp i) = l' at h3 hl' ⊢
        rw [if_neg hl'] at h3
        by_cases hr : sx (bt u) n (i + 1) = []
        · rw [if_pos hr] at h3; exact h3
        · rw [if_neg hr] at h3; simp only [List.length_append, List.length_cons] at h3; omega
      rw [e]
      refine print_loop u n (i + 1) _ _ (by omega) ?_ (Or.inl ?_) h3
      · by_cases hn : l = []
        · rw [if_pos hn, if_pos hn]
          rw [if_pos hn] at hlen
          have := puts_hld (Lp i) (a := a) (l := []) (by rw [← hn]; exact h) (by simpa using hlen)
          simpa using this
        · rw [if_neg hn, if_neg hn]
          rw [if_neg hn] at hlen
          have h43 := put_hld h 43 (by simp at hlen; omega)
          exact puts_hld (Lp i) h43 hlen
      · by_cases hn : l = []
        · rw [if_pos hn]; exact hLp
        · rw [if_neg hn]; exact fun h9 => hLp (List.append_eq_nil_iff.mp h9).2
theorem print_hld (P : Nat → Int32) {u : Int32} (hu : tb u) : hld (fX1_print P u).1 (fX1_print P u).2 (txt u) := by
  have h0 : hld P 0 [] := ⟨rfl, fun k hk => absurd hk (Nat.not_lt_zero k)⟩
  by_cases hz : u = 0
  · subst hz
    have hb : ∀ j, bt 0 j = false := b_0
    have hsx : sx (bt 0) 16 0 = [] := sx_none 16 0 (fun j _ _ => hb j)
    have h1 := put_hld h0 48 (by decide)
    have := print_loop 0 16 0 ((fX1_put P 0 48).1, (fX1_put P 0 48).2) [48] (by decide) h1 (Or.inl (by simp)) (by rw [if_neg (by simp), if_pos hsx]; decide)
    rw [if_neg (by simp), if_pos hsx] at this
    unfold txt fX1_print
    rw [if_pos rfl, if_pos rfl, if_pos rfl]
    dsimp only
    exact this
  · have := print_loop u 16 0 (P, 0) [] (by decide) h0 (Or.inr (fun j hj => absurd hj (Nat.not_lt_zero j))) (by rw [if_pos rfl]; exact sx_48 _)
    rw [if_pos rfl] at this
    unfold txt fX1_print
    rw [if_neg hz, if_neg hz, if_neg hz]
    dsimp only
    exact this
/-- all numbers of an array are tables -/
def tbs (T : Nat → Int32) : Prop := ∀ i, tb (T i)
theorem cpy_tbs {f g : Nat → Int32} (hf : tbs f) (hg : tbs g) (a b n : Nat) : tbs (va_cpy f g a b n) := by
  intro i
  unfold va_cpy
  split
  · exact hf _
  · exact hg _
theorem upd_tbs {f : Nat → Int32} (hf : tbs f) (i : Nat) {x : Int32} (hx : tb x) : tbs (upd f i x) := by
  intro j
  unfold upd
  split
  · exact hx
  · exact hf _
theorem join_tb {t u : Int32} (ht : tb t) (hu : tb u) (w : Int32) : tb (fX1_joinTables t u w) := by
  unfold fX1_joinTables
  split
  · exact tb_xor ht hu
  · split
    · exact tb_and ht _
    · split
      · exact tb_or ht hu
      · exact tb_or (tb_and' _ tb_all) hu
theorem isNew_z {d : Nat} (hd : d < 32) (o : Int32) : (o &&& ((1 : Int32) <<< (nI d &&& 31))) = 0 ↔ bt o d = false := by
  constructor
  · intro h
    have e := congrArg (fun z => bt z d) h
    simp only [b_and, b_shl d hd _ hd, b_1, b_0, Nat.sub_self, Nat.le_refl, decide_true, Bool.and_true] at e
    exact e
  · intro h
    apply b_ext
    intro i hi
    rw [b_and, b_shl d hd _ hi, b_1, b_0]
    by_cases e : i = d
    · subst e; rw [h, Bool.false_and]
    · by_cases e1 : d ≤ i
      · rw [decide_eq_false (p := i - d = 0) (by omega), Bool.and_false, Bool.and_false]
      · rw [decide_eq_false e1, Bool.false_and, Bool.and_false]
theorem isNew_b {d : Nat} (hd : d < 32) (o : Int32) : fX0_isNew o (nI d) = bI (! bt o d) := by
  unfold fX0_isNew
  cases h : bt o d with
  | false => rw [if_pos ((isNew_z hd o).mpr h)]; rfl
  | true => rw [if_neg (fun e => by rw [(isNew_z hd o).mp e] at h; cases h)]; rfl
/-- the first variable that may come behind the product d -/
def nxN (d : Nat) : Nat := if d = 0 then 0 else if d = 1 then 1 else if d < 4 then 2 else if d < 8 then 3 else 4
theorem go_tab : ∀ d, d < 16 → ∀ x, x < 4 → nxN d ≤ x → (nI d ||| ((1 : Int32) <<< (nI x &&& 31))) = nI (d ||| 2 ^ x) ∧ (d ||| 2 ^ x) < 16 ∧ 0 < (d ||| 2 ^ x) ∧ nxN (d ||| 2 ^ x) = x + 1 := by decide +kernel
/-- a product that begins so -/
def beg (le i : Nat) : Bool := decide (i &&& (2 ^ (nxN le) - 1) = le)
theorem beg_new : ∀ le, le < 16 → 0 < le → ∀ i, i < 16 → decide (((nI i) &&& (((1 : Int32) <<< ((nI (nxN le)) &&& 31)) - 1)) = nI le) = beg le i := by decide +kernel
/-- a product that begins so is new -/
def cnw (o : Int32) (le : Nat) : Bool := ! al (fun i => ! (beg le i && ! bt o i)) 16 0
theorem canBecome_al (o : Int32) {le : Nat} (hle : le < 16) (h0 : 0 < le) : ∀ n i, i + n = 16 → tX0_canBecomeNew_9 o (nI le) (nI (nxN le)) n i () = bI (! al (fun i => ! (beg le i && ! bt o i)) n i)
  | 0, _, _ => rfl
  | n + 1, i, h => by
    have hb := beg_new le hle h0 i (by omega)
    rw [tX0_canBecomeNew_9, al, canBecome_al o hle h0 n (i + 1) (by omega), isNew_b (by omega)]
    by_cases hc : ((nI i) &&& (((1 : Int32) <<< ((nI (nxN le)) &&& 31)) - 1)) = nI le
    · rw [if_pos hc]
      rw [decide_eq_true hc] at hb
      rw [← hb]
      cases bt o i
      · rw [if_neg (by decide)]; rfl
      · rw [if_pos (by decide)]; rfl
    · rw [if_neg hc]
      rw [decide_eq_false hc] at hb
      rw [← hb]; rfl
theorem canBecome_b (o : Int32) {le : Nat} (hle : le < 16) (h0 : 0 < le) : fX0_canBecomeNew o (nI le) (nI (nxN le)) = bI (cnw o le) := canBecome_al o hle h0 16 0 rfl
/-! the class, a character at a time -/
theorem fe_fail {X : Nat → Int32} {k n i : Nat} {w f d v : Int32} (h : (fX0_takes w f d v (X i)).1 = 0) : (tX0_firstError_16 X k (n + 1) i (w, f, d, v)).1 = nI i := by
  rw [tX0_firstError_16]
  dsimp only
  rw [if_pos h]
theorem fe_go {X : Nat → Int32} {k n i : Nat} {w f d v w2 f2 d2 v2 : Int32} (h : fX0_takes w f d v (X i) = (1, w2, f2, d2, v2)) : tX0_firstError_16 X k (n + 1) i (w, f, d, v) = tX0_firstError_16 X k n (i + 1) (w2, f2, d2, v2) := by
  rw [tX0_firstError_16]
  dsimp only
  rw [h]
  rw [if_neg (show ¬ (1 : Int32) = 0 by decide)]
theorem fe_end {X : Nat → Int32} {k i : Nat} {w f d v : Int32} (h : fX0_canEnd w f d = 0) : (tX0_firstError_16 X k 0 i (w, f, d, v)).1 = nI k := by
  rw [tX0_firstError_16]
  dsimp only
  rw [if_pos h]
theorem fe_fin {X : Nat → Int32} {k i : Nat} {w f d v : Int32} (h : ¬ fX0_canEnd w f d = 0) : tX0_firstError_16 X k 0 i (w, f, d, v) = (-1, w, f, d, v) := by
  rw [tX0_firstError_16]
  dsimp only
  rw [if_neg h]
/-- where the class stands in a product, d of it read; w0 is where it stood before -/
def stw (w0 : Int32) (d : Nat) : Int32 := if d = 0 then w0 else 3
theorem minus97 {x : Int32} {y : Nat} (hy : y < 4) (h : x - 97 = nI y) : x = nI (97 + y) := by
  have : x = (x - 97) + 97 := (Int32.sub_add_cancel x 97).symm
  rw [this, h, Nat.add_comm]
  exact nI_add y 97
theorem letters_far : ∀ y, y < 4 → ¬ nI (97 + y) = 48 ∧ ¬ nI (97 + y) = 49 ∧ ¬ nI (97 + y) = 43 := by decide +kernel
/-- the class takes a letter -/
theorem takes_letter {w o : Int32} {d y : Nat} {c : Int32} (hd : d < 16) (hy : y < 4) (hn : nxN d ≤ y) (hc : c - 97 = nI y) (hcw : cnw o (d ||| 2 ^ y) = true) :
    fX0_takes w o (nI d) (nI (nxN d)) c = (1, 3, o, nI (d ||| 2 ^ y), nI (nxN (d ||| 2 ^ y))) := by
  obtain ⟨g1, g2, g3, g4⟩ := go_tab d hd y hy hn
  have hc2 := minus97 hy hc
  have hf := letters_far y hy
  have hv : fX0_takesVariable w o (nI d) (nI (nxN d)) (nI y) = (1, 3, nI (d ||| 2 ^ y), nI (nxN (d ||| 2 ^ y))) := by
    unfold fX0_takesVariable
    have hx4 : nI y < (4 : Int32) := nI_lt (a := y) (b := 4) (by omega) (by omega)
    have hb := canBecome_b o g2 g3
    rw [hcw] at hb
    rw [if_neg (nI_nlt hn (by omega)), if_pos hx4, g1, nI_1, ← g4, hb, if_neg (by decide)]
  unfold fX0_takes
  rw [hc, hv, hc2, if_neg hf.1, if_neg hf.2.1, if_neg hf.2.2]
theorem or_tb {o : Int32} (ho : tb o) {d : Nat} (hd : d < 16) : tb (o ||| ((1 : Int32) <<< (nI d &&& 31))) := tb_or ho (fun i hi => by
  rcases Nat.lt_or_ge i 32 with h | h
  · rw [b_shl d (by omega) _ h, b_1, decide_eq_false (p := i - d = 0) (by omega), Bool.and_false]
  · exact b_big h)
/-! what is read of a list of characters -/
def goes : List Int32 → Int32 × Int32 × Int32 × Int32 → Int32 × Int32 × Int32 × Int32 → Prop
  | [], a, b => a = b
  | c :: l, a, b => ∃ w2 f2 d2 v2, fX0_takes a.1 a.2.1 a.2.2.1 a.2.2.2 c = (1, w2, f2, d2, v2) ∧ goes l (w2, f2, d2, v2) b
theorem goes_app : ∀ (l m : List Int32) {a b c : Int32 × Int32 × Int32 × Int32}, goes l a b → goes m b c → goes (l ++ m) a c
  | [], m, a, b, c, h1, h2 => by
    have h1 : a = b := h1
    subst h1; exact h2
  | x :: l, m, a, b, c, h1, h2 => by
    obtain ⟨w2, f2, d2, v2, h3, h4⟩ := h1
    exact ⟨w2, f2, d2, v2, h3, goes_app l m h4 h2⟩
theorem goes_fe (X : Nat → Int32) (k : Nat) : ∀ (l : List Int32) (i : Nat) {a b : Int32 × Int32 × Int32 × Int32}, (∀ j, j < l.length → X (i + j) = l.getD j 0) → goes l a b → tX0_firstError_16 X k l.length i a = tX0_firstError_16 X k 0 (i + l.length) b
  | [], i, a, b, _, h => by
    have h : a = b := h
    subst h; rfl
  | c :: l, i, a, b, hX, h => by
    obtain ⟨w2, f2, d2, v2, h3, h4⟩ := h
    obtain ⟨w, f, d, v⟩ := a
    have e0 : X i = c := hX 0 (by simp)
    have h3 : fX0_takes w f d v (X i) = (1, w2, f2, d2, v2) := by rw [e0]; exact h3
    show tX0_firstError_16 X k (l.length + 1) i (w, f, d, v) = _
    rw [fe_go h3, goes_fe X k l (i + 1) (fun j hj => by
      have := hX (j + 1) (by simp; omega)
      rw [show i + 1 + j = i + (j + 1) by omega, this]
      rfl) h4]
    congr 1
    simp only [List.length_cons]; omega
theorem cnw_of {o : Int32} {le i : Nat} (hi : i < 16) (h1 : beg le i = true) (h2 : bt o i = false) : cnw o le = true := by
  unfold cnw
  cases ha : al (fun i => ! (beg le i && ! bt o i)) 16 0
  · rfl
  · have := (al_iff _ _ _).mp ha i (Nat.zero_le _) (by omega)
    simp only [h1, h2] at this
    exact absurd this (by decide)
theorem pre_tab : ∀ i, i < 16 → ∀ j, j < 4 → (i.testBit j = true → i % 2 ^ j < 16 ∧ nxN (i % 2 ^ j) ≤ j ∧ (i % 2 ^ j ||| 2 ^ j) = i % 2 ^ (j + 1) ∧ beg (i % 2 ^ (j + 1)) i = true ∧ ¬ i % 2 ^ (j + 1) = 0) ∧ (i.testBit j = false → i % 2 ^ (j + 1) = i % 2 ^ j) := by decide +kernel
theorem let_tab : ∀ j, j < 4 → nI (97 + j) - 97 = nI j := by decide +kernel
/-- where the reader stands when the first j variables of the product i are read -/
def pst (w0 o : Int32) (i j : Nat) : Int32 × Int32 × Int32 × Int32 := (stw w0 (i % 2 ^ j), o, nI (i % 2 ^ j), nI (nxN (i % 2 ^ j)))
theorem pst_step (w0 o : Int32) {i j : Nat} (hi : i < 16) (hj : j < 4) (hb : bt o i = false) : goes (if i.testBit j then [nI (97 + j)] else []) (pst w0 o i j) (pst w0 o i (j + 1)) := by
  obtain ⟨t1, t2⟩ := pre_tab i hi j hj
  cases ht : i.testBit j
  · rw [if_neg (by decide)]
    show pst w0 o i j = pst w0 o i (j + 1)
    unfold pst
    rw [t2 ht]
  · rw [if_pos rfl]
    obtain ⟨a1, a2, a3, a4, a5⟩ := t1 ht
    refine ⟨3, o, nI (i % 2 ^ (j + 1)), nI (nxN (i % 2 ^ (j + 1))), ?_, ?_⟩
    · have := takes_letter (w := stw w0 (i % 2 ^ j)) (o := o) (d := i % 2 ^ j) (y := j) (c := nI (97 + j)) a1 hj a2 (let_tab j hj) (by rw [a3]; exact cnw_of hi a4 hb)
      rw [a3] at this
      exact this
    · show (3, o, nI (i % 2 ^ (j + 1)), nI (nxN (i % 2 ^ (j + 1)))) = pst w0 o i (j + 1)
      unfold pst stw
      rw [if_neg a5]
theorem mod16 : ∀ i, i < 16 → i % 2 ^ 4 = i := by decide
theorem goes_Lp {w0 o : Int32} (hw : w0 = 0 ∨ w0 = 2) {i : Nat} (hi : i < 16) (hb : bt o i = false) : ∃ v, goes (Lp i) (w0, o, 0, 0) (3, o, nI i, v) := by
  by_cases h0 : i = 0
  · subst h0
    refine ⟨4, 3, o, 0, 4, ?_, rfl⟩
    have hn := isNew_b (show 0 < 32 by decide) o
    rw [hb] at hn
    have hn2 : ¬ fX0_isNew o 0 = 0 := by
      show ¬ fX0_isNew o (nI 0) = 0
      rw [hn]; decide
    have h1 : fX0_takesOne w0 o 0 = (1, 3, 4) := by
      unfold fX0_takesOne
      rcases hw with h | h
      · subst h; rw [if_pos rfl, if_neg hn2]
      · subst h; rw [if_neg (by decide), if_pos rfl, if_neg hn2]
    show fX0_takes w0 o 0 0 49 = (1, 3, o, 0, 4)
    unfold fX0_takes
    rw [if_neg (by decide), if_pos rfl, h1]
  · refine ⟨nI (nxN i), ?_⟩
    have e : Lp i = (if i.testBit 0 then [nI (97 + 0)] else []) ++ (if i.testBit 1 then [nI (97 + 1)] else []) ++ (if i.testBit 2 then [nI (97 + 2)] else []) ++ (if i.testBit 3 then [nI (97 + 3)] else []) := by
      unfold Lp
      rw [if_neg h0]; rfl
    rw [e]
    have h4 := goes_app _ _ (goes_app _ _ (goes_app _ _ (pst_step w0 o hi (j := 0) (by decide) hb) (pst_step w0 o hi (j := 1) (by decide) hb)) (pst_step w0 o hi (j := 2) (by decide) hb)) (pst_step w0 o hi (j := 3) (by decide) hb)
    have s0 : pst w0 o i 0 = (w0, o, 0, 0) := by
      unfold pst
      rw [show i % 2 ^ 0 = 0 from Nat.mod_one i]; rfl
    have s4 : pst w0 o i 4 = (3, o, nI i, nI (nxN i)) := by
      unfold pst stw
      rw [mod16 i hi, if_neg h0]
    rw [s0] at h4
    rw [← s4]
    exact h4
theorem or_bt {o : Int32} {i : Nat} (hi : i < 16) {j : Nat} (hj : j < 16) : bt (o ||| ((1 : Int32) <<< (nI i &&& 31))) j = (bt o j || decide (j = i)) := by
  rw [b_or, b_shl i (by omega) _ (by omega), b_1]
  by_cases h : j = i
  · subst h; simp
  · by_cases h1 : i ≤ j
    · have h2 : ¬ j - i = 0 := by omega
      simp [h, h2]
    · simp [h, h1]
theorem goes_sx (u : Int32) (hu : tb u) : ∀ (n i : Nat) (o w0 : Int32), i + n = 16 → tb o → (∀ j, j < 16 → bt o j = (bt u j && decide (j < i))) → (w0 = 0 ∨ w0 = 2) → sx (bt u) n i ≠ [] →
    ∃ (f : Int32) (d : Nat) (v : Int32), goes (sx (bt u) n i) (w0, o, 0, 0) (3, f, nI d, v) ∧ d < 16 ∧ bt f d = false ∧ (f ||| ((1 : Int32) <<< (nI d &&& 31))) = u
  | 0, i, o, w0, _, _, _, _, hne => absurd rfl hne
  | n + 1, i, o, w0, hi, ho, hob, hw, hne => by
    have hs : bt u i = false ∨ bt u i = true := by cases bt u i <;> simp
    rcases hs with hs | hs
    · have e2 : sx (bt u) (n + 1) i = sx (bt u) n (i + 1) := by simp only [sx, hs, Bool.false_eq_true, if_false]
      rw [e2] at hne ⊢
      refine goes_sx u hu n (i + 1) o w0 (by omega) ho (fun j hj => ?_) hw hne
      rw [hob j hj]
      by_cases h : j = i
      · subst h; rw [hs]; rfl
      · congr 1
        by_cases h1 : j < i
        · rw [decide_eq_true h1, decide_eq_true (by omega)]
        · rw [decide_eq_false h1, decide_eq_false (by omega)]
    · have e2 : sx (bt u) (n + 1) i = Lp i ++ (if sx (bt u) n (i + 1) = [] then [] else 43 :: sx (bt u) n (i + 1)) := by simp only [sx, hs, if_true]
      have hbi : bt o i = false := by rw [hob i (by omega), decide_eq_false (Nat.lt_irrefl i), Bool.and_false]
      obtain ⟨v, hv⟩ := goes_Lp hw (show i < 16 by omega) hbi
      have ho2 := or_tb ho (show i < 16 by omega)
      have hob2 : ∀ j, j < 16 → bt (o ||| ((1 : Int32) <<< (nI i &&& 31))) j = (bt u j && decide (j < i + 1)) := fun j hj => by
        rw [or_bt (by omega) hj, hob j hj]
        by_cases h : j = i
        · subst h; rw [hs, decide_eq_true rfl, decide_eq_true (Nat.lt_succ_self j)]; simp
        · rw [decide_eq_false h, Bool.or_false]
          congr 1
          by_cases h1 : j < i
          · rw [decide_eq_true h1, decide_eq_true (by omega)]
          · rw [decide_eq_false h1, decide_eq_false (by omega)]
      rw [e2]
      by_cases hr : sx (bt u) n (i + 1) = []
      · rw [if_pos hr, List.append_nil]
        refine ⟨o, i, v, hv, by omega, hbi, tb_ext ho2 hu (fun j hj => ?_)⟩
        rw [hob2 j hj]
        by_cases h1 : j < i + 1
        · rw [decide_eq_true h1, Bool.and_true]
        · cases hj2 : bt u j
          · rfl
          · exact absurd hr (sx_some n (i + 1) j (by omega) (by omega) (by omega) hj2)
      · rw [if_neg hr]
        obtain ⟨f, d, v2, h1, h2, h3, h4⟩ := goes_sx u hu n (i + 1) (o ||| ((1 : Int32) <<< (nI i &&& 31))) 2 (by omega) ho2 hob2 (Or.inr rfl) hr
        refine ⟨f, d, v2, goes_app _ _ hv ⟨2, o ||| ((1 : Int32) <<< (nI i &&& 31)), 0, 0, ?_, h1⟩, h2, h3, h4⟩
        have hn := isNew_b (show i < 32 by omega) o
        rw [hbi] at hn
        have hn2 : ¬ fX0_isNew o (nI i) = 0 := by rw [hn]; decide
        have hfull : ¬ (o ||| ((1 : Int32) <<< (nI i &&& 31))) = 65535 := fun e => by
          have hn0 : n ≠ 0 := fun z => hr (by rw [z]; rfl)
          have h15 := hob2 15 (by decide)
          rw [e, decide_eq_false (by omega), Bool.and_false] at h15
          exact absurd h15 (by decide)
        have hp : fX0_takesPlus 3 o (nI i) v = (1, 2, (o ||| ((1 : Int32) <<< (nI i &&& 31))), 0, 0) := by
          unfold fX0_takesPlus fX0_startProduct
          rw [if_pos rfl, if_neg hn2, if_neg hfull]
        show fX0_takes 3 o (nI i) v 43 = _
        unfold fX0_takes
        rw [if_neg (by decide), if_neg (by decide), if_pos rfl, hp]
/-- the printed text of a set of products is valid, and tells that set -/
theorem read_txt {u : Int32} (hu : tb u) {X : Nat → Int32} {k : Nat} (hk : k = (txt u).length) (hX : ∀ j, j < k → X j = (txt u).getD j 0) :
    (fX0_firstError X k).1 = -1 ∧ fX0_productsRead (fX0_firstError X k).2.1 (fX0_firstError X k).2.2.1 (fX0_firstError X k).2.2.2.1 = u := by
  have hX2 : ∀ j, j < (txt u).length → X (0 + j) = (txt u).getD j 0 := fun j hj => by rw [Nat.zero_add]; exact hX j (by omega)
  have hfe : ∀ b, goes (txt u) (0, 0, 0, 0) b → fX0_firstError X k = tX0_firstError_16 X k 0 (0 + (txt u).length) b := fun b h => by
    have h1 := goes_fe X k (txt u) 0 hX2 h
    rw [← h1, ← hk]
    rfl
  by_cases hz : u = 0
  · subst hz
    have h1 := hfe (1, 0, 0, 4) ⟨1, 0, 0, 4, rfl, rfl⟩
    rw [fe_fin (by decide)] at h1
    rw [h1]
    exact ⟨rfl, rfl⟩
  · have et : txt u = sx (bt u) 16 0 := if_neg hz
    have hne := txt_ne hu
    rw [et] at hne
    obtain ⟨f, d, v, h1, h2, h3, h4⟩ := goes_sx u hu 16 0 0 0 rfl tb_0 (fun j _ => by rw [b_0, decide_eq_false (Nat.not_lt_zero j), Bool.and_false]) (Or.inl rfl) hne
    rw [← et] at h1
    have h5 := hfe _ h1
    have hn := isNew_b (show d < 32 by omega) f
    rw [h3] at hn
    have hc : ¬ fX0_canEnd 3 f (nI d) = 0 := by
      unfold fX0_canEnd
      rw [if_neg (by decide), if_pos rfl, if_neg (by rw [hn]; decide)]
      decide
    rw [fe_fin hc] at h5
    rw [h5]
    refine ⟨rfl, ?_⟩
    show fX0_productsRead 3 f (nI d) = u
    unfold fX0_productsRead
    rw [if_neg (by decide)]
    exact h4
