/-! Mathematics 8: the printed text. -/
def Lp (i : Nat) : List Int32 := if i = 0 then [49] else (if i.testBit 0 then [97] else []) ++ (if i.testBit 1 then [98] else []) ++ (if i.testBit 2 then [99] else []) ++ (if i.testBit 3 then [100] else [])
/-- the text of the products from i on, n of them -/
def sx (s : Nat → Bool) : Nat → Nat → List Int32
  | 0, _ => []
  | n + 1, i => if s i then Lp i ++ (if sx s n (i + 1) = [] then [] else 43 :: sx s n (i + 1)) else sx s n (i + 1)
def sxl (s : Nat → Bool) : Nat → Nat → Nat
  | 0, _ => 0
  | n + 1, i => (if s i then (Lp i).length + 1 else 0) + sxl s n (i + 1)
theorem Lp_len : ∀ i, i < 16 → 0 < (Lp i).length ∧ (Lp i).length ≤ 4 ∧ fX2_letters (nI i) = nI (Lp i).length := by decide +kernel
theorem Lp_ne {i : Nat} (hi : i < 16) : Lp i ≠ [] := fun h => by have := (Lp_len i hi).1; rw [h] at this; exact absurd this (by decide)
theorem sx_len (s : Nat → Bool) : ∀ n i, i + n ≤ 16 → (sx s n i = [] ∧ sxl s n i = 0) ∨ (sx s n i ≠ [] ∧ sxl s n i = (sx s n i).length + 1)
  | 0, _, _ => Or.inl ⟨rfl, rfl⟩
  | n + 1, i, h => by
    have hr := sx_len s n (i + 1) (by omega)
    simp only [sx, sxl]
    have hs : s i = false ∨ s i = true := by cases s i <;> simp
    rcases hs with hs | hs
    · simp only [hs, Bool.false_eq_true, if_false, Nat.zero_add]; exact hr
    · simp only [hs, if_true]
      refine Or.inr ⟨fun h9 => Lp_ne (by omega : i < 16) (List.append_eq_nil_iff.mp h9).1, ?_⟩
      rcases hr with ⟨h1, h2⟩ | ⟨h1, h2⟩
      · rw [if_pos h1, h2]; simp
      · rw [if_neg h1, h2]; simp; omega
theorem sxl_le (s : Nat → Bool) : ∀ n i, sxl s n i ≤ sxl (fun _ => true) n i
  | 0, _ => Nat.le_refl _
  | n + 1, i => by
    have := sxl_le s n (i + 1)
    simp only [sxl, if_true]
    split <;> omega
theorem sxl_49 (s : Nat → Bool) : sxl s 16 0 ≤ 49 := Nat.le_trans (sxl_le s 16 0) (by decide)
theorem sx_48 (s : Nat → Bool) : (sx s 16 0).length ≤ 48 := by
  have h1 := sxl_49 s
  rcases sx_len s 16 0 (by decide) with ⟨h, _⟩ | ⟨_, h⟩
  · rw [h]; decide
  · omega
theorem sx_none {s : Nat → Bool} : ∀ n i, (∀ j, i ≤ j → j < i + n → s j = false) → sx s n i = []
  | 0, _, _ => rfl
  | n + 1, i, h => by
    simp only [sx, h i (Nat.le_refl _) (by omega), Bool.false_eq_true, if_false]
    exact sx_none n (i + 1) (fun j h1 h2 => h j (by omega) (by omega))
theorem sx_some {s : Nat → Bool} : ∀ n i j, i + n ≤ 16 → i ≤ j → j < i + n → s j = true → sx s n i ≠ []
  | 0, i, j, _, h1, h2, _ => by omega
  | n + 1, i, j, h0, h1, h2, h3 => by
    rcases sx_len s (n + 1) i h0 with ⟨h, h5⟩ | ⟨h, _⟩
    · simp only [sxl] at h5
      rcases Nat.eq_or_lt_of_le h1 with h6 | h6
      · subst h6; rw [h3] at h5; simp at h5
      · have := sx_some n (i + 1) j (by omega) (by omega) (by omega) h3
        rcases sx_len s n (i + 1) (by omega) with ⟨h7, _⟩ | ⟨_, h7⟩
        · exact absurd h7 this
        · omega
    · exact h
/-- the printed text of a set of products -/
def txt (u : Int32) : List Int32 := if u = 0 then [48] else sx (bt u) 16 0
theorem txt_48 (u : Int32) : (txt u).length ≤ 48 := by
  unfold txt; split
  · decide
  · exact sx_48 _
theorem tb_ne0 {u : Int32} (h : tb u) (h0 : u ≠ 0) : ∃ i, i < 16 ∧ bt u i = true := by
  refine Classical.byContradiction (fun hc => h0 (tb_ext h tb_0 (fun i hi => ?_)))
  rw [b_0]
  cases hb : bt u i
  · rfl
  · exact absurd ⟨i, hi, hb⟩ hc
theorem txt_ne {u : Int32} (h : tb u) : txt u ≠ [] := by
  unfold txt
  by_cases h0 : u = 0
  · rw [if_pos h0]; simp
  · rw [if_neg h0]
    obtain ⟨i, hi, hb⟩ := tb_ne0 h h0
    exact sx_some 16 0 i (by decide) (Nat.zero_le _) (by omega) hb
/-- what the program has put down -/
def hld (P : Nat → Int32) (z : Nat) (l : List Int32) : Prop := z = l.length ∧ ∀ k, k < z → P k = l.getD k 0
theorem put_hld {P : Nat → Int32} {z : Nat} {l : List Int32} (h : hld P z l) (c : Int32) (hl : l.length < 48) : hld (fX1_put P z c).1 (fX1_put P z c).2 (l ++ [c]) := by
  obtain ⟨h1, h2⟩ := h
  unfold fX1_put
  have hn : ¬ (48 : Int32) ≤ nI z := nI_ge (a := z) (b := 48) (by omega) (by decide)
  rw [if_neg hn]
  refine ⟨by simp [h1], fun k hk => ?_⟩
  show upd P z c k = _
  unfold upd
  have hk : k < z + 1 := hk
  by_cases e : k = z
  · subst e
    rw [if_pos rfl, h1]
    simp [List.getD_eq_getElem?_getD]
  · rw [if_neg e, h2 k (by omega)]
    simp only [List.getD_eq_getElem?_getD]
    rw [List.getElem?_append_left (by omega)]
/-- one by one -/
def puts (a : (Nat → Int32) × Nat) : List Int32 → (Nat → Int32) × Nat
  | [] => a
  | c :: l => puts (fX1_put a.1 a.2 c) l
theorem puts_hld : ∀ (m : List Int32) {a : (Nat → Int32) × Nat} {l : List Int32}, hld a.1 a.2 l → (l ++ m).length ≤ 48 → hld (puts a m).1 (puts a m).2 (l ++ m)
  | [], a, l, h, _ => by rw [List.append_nil]; exact h
  | c :: m, a, l, h, hl => by
    have h1 := put_hld h c (by simp at hl; omega)
    have := puts_hld m (a := fX1_put a.1 a.2 c) h1 (by simpa using hl)
    rw [List.append_assoc] at this
    exact this
theorem puts_app : ∀ (l m : List Int32) (a : (Nat → Int32) × Nat), puts a (l ++ m) = puts (puts a l) m
  | [], m, a => rfl
  | c :: l, m, a => puts_app l m _
theorem ch_tab : ∀ j, j < 4 → (((97 + (nI j)).toUInt32 % 65536).toInt32) = nI (97 + j) := by decide +kernel
theorem b_nI16 {i j : Nat} (hj : j < 32) : fX1_bit (nI i) (nI j) = bI (i.testBit j) := by
  rw [fX1_bit_bI hj, b_nI, decide_eq_true hj, Bool.true_and]
theorem pp_step (i j : Nat) (hj : j < 4) (a : (Nat → Int32) × Nat) : sX1_printProduct_12 (nI i) j a = puts a (if i.testBit j then [nI (97 + j)] else []) := by
  unfold sX1_printProduct_12
  rw [b_nI16 (by omega), ch_tab j hj]
  have hs : i.testBit j = false ∨ i.testBit j = true := by cases i.testBit j <;> simp
  rcases hs with hs | hs
  · rw [hs, if_neg (by decide)]; rfl
  · rw [hs, if_pos (by decide)]; rfl
theorem product_puts (P : Nat → Int32) (z : Nat) (i : Nat) (hi : i < 16) : fX1_printProduct P z (nI i) = puts (P, z) (Lp i) := by
  have h4 : ∀ a, lp (sX1_printProduct_12 (nI i)) 4 0 a = puts a ((if i.testBit 0 then [97] else []) ++ (if i.testBit 1 then [98] else []) ++ (if i.testBit 2 then [99] else []) ++ (if i.testBit 3 then [100] else [])) := by
    intro a
    rw [puts_app, puts_app, puts_app]
    show sX1_printProduct_12 (nI i) 3 (sX1_printProduct_12 (nI i) 2 (sX1_printProduct_12 (nI i) 1 (sX1_printProduct_12 (nI i) 0 a))) = _
    rw [pp_step i 0 (by decide), pp_step i 1 (by decide), pp_step i 2 (by decide), pp_step i 3 (by decide)]
    rfl
  unfold fX1_printProduct Lp
  rw [h4]
  by_cases h0 : i = 0
  · subst h0
    have hz : nI 0 = 0 := rfl
    rw [if_pos hz, if_pos hz, if_pos rfl]
    rfl
  · have hz : ¬ nI i = 0 := nI_ne0 (by omega) (by omega)
    rw [if_neg hz, if_neg hz, if_neg h0]
theorem ite_prod {c : Prop} [Decidable c] (a b : (Nat → Int32) × Nat) : ((if c then a.1 else b.1), (if c then a.2 else b.2)) = if c then a else b := by split <;> rfl
theorem print_loop (u : Int32) : ∀ n i (a : (Nat → Int32) × Nat) (l : List Int32), i + n ≤ 16 → hld a.1 a.2 l → (l ≠ [] ∨ (∀ j, j < i → bt u j = false)) → (if l = [] then sx (bt u) n i else if sx (bt u) n i = [] then l else l ++ 43 :: sx (bt u) n i).length ≤ 48 →
    hld (lp (sX1_print_17 u) n i a).1 (lp (sX1_print_17 u) n i a).2 (if l = [] then sx (bt u) n i else if sx (bt u) n i = [] then l else l ++ 43 :: sx (bt u) n i)
  | 0, i, a, l, _, h, _, _ => by
    show hld a.1 a.2 _
    simp only [sx, if_true]
    split
    · rename_i e; rw [e] at h; exact h
    · exact h
  | n + 1, i, a, l, hi, h, h2, h3 => by
    show hld (lp (sX1_print_17 u) n (i + 1) (sX1_print_17 u i a)).1 (lp (sX1_print_17 u) n (i + 1) (sX1_print_17 u i a)).2 _
    have hs : bt u i = false ∨ bt u i = true := by cases bt u i <;> simp
    rcases hs with hs | hs
    · have e : sX1_print_17 u i a = a := by
        unfold sX1_print_17
        rw [fX1_bit_bI (by omega), hs, if_neg (by decide)]
      have e2 : sx (bt u) (n + 1) i = sx (bt u) n (i + 1) := by simp only [sx, hs, Bool.false_eq_true, if_false]
      rw [e, e2]
      rw [e2] at h3
      exact print_loop u n (i + 1) a l (by omega) h (h2.imp id (fun h9 j hj => by
        rcases Nat.lt_or_ge j i with h8 | h8
        · exact h9 j h8
        · have : j = i := by omega
          subst this; exact hs)) h3
    · have hz := h.1
      have e : sX1_print_17 u i a = puts (if l = [] then a else fX1_put a.1 a.2 43) (Lp i) := by
        unfold sX1_print_17
        rw [fX1_bit_bI (by omega), hs, if_pos (by decide)]
        have hl : a.2 < 48 := by
          rw [hz]
          rcases Nat.lt_or_ge l.length 48 with h9 | h9
          · exact h9
          · rw [if_neg (fun h8 => by rw [h8] at h9; simp at h9), if_neg (sx_some (n + 1) i i (by omega) (Nat.le_refl _) (by omega) hs)] at h3
            simp at h3; omega
        by_cases hn : l = []
        · have : nI a.2 ≤ 0 := by rw [hz, hn]; decide
          rw [if_pos this, if_pos this, if_pos hn, product_puts _ _ i (by omega)]
        · have hp : 0 < a.2 := by rw [hz]; exact List.length_pos_iff.mpr hn
          have : ¬ nI a.2 ≤ 0 := nI_nle hp (by omega)
          rw [if_neg this, if_neg this, if_neg hn, product_puts _ _ i (by omega)]
      have e2 : sx (bt u) (n + 1) i = Lp i ++ (if sx (bt u) n (i + 1) = [] then [] else 43 :: sx (bt u) n (i + 1)) := by simp only [sx, hs, if_true]
      have hLp := Lp_ne (show i < 16 by omega)
      have e3 : sx (bt u) (n + 1) i ≠ [] := by rw [e2]; intro h9; exact hLp (List.append_eq_nil_iff.mp h9).1
      have goalEq : (if l = [] then sx (bt u) (n + 1) i else if sx (bt u) (n + 1) i = [] then l else l ++ 43 :: sx (bt u) (n + 1) i) = (if (if l = [] then Lp i else (l ++ [43]) ++ Lp i) = [] then sx (bt u) n (i + 1) else if sx (bt u) n (i + 1) = [] then (if l = [] then Lp i else (l ++ [43]) ++ Lp i) else (if l = [] then Lp i else (l ++ [43]) ++ Lp i) ++ 43 :: sx (bt u) n (i + 1)) := by
        rw [if_neg e3, e2]
        by_cases hn : l = []
        · rw [if_pos hn, if_pos hn, if_neg hLp]
          by_cases hr : sx (bt u) n (i + 1) = []
          · rw [if_pos hr, if_pos hr, List.append_nil]
          · rw [if_neg hr, if_neg hr]
        · rw [if_neg hn, if_neg hn, if_neg (fun h9 => hLp (List.append_eq_nil_iff.mp h9).2)]
          by_cases hr : sx (bt u) n (i + 1) = []
          · rw [if_pos hr, if_pos hr]; simp
          · rw [if_neg hr, if_neg hr]; simp
      rw [goalEq] at h3 ⊢
      have hl' : (if l = [] then Lp i else (l ++ [43]) ++ Lp i) ≠ [] := by
        by_cases hn : l = []
        · rw [if_pos hn]; exact hLp
        · rw [if_neg hn]; exact fun h9 => hLp (List.append_eq_nil_iff.mp h9).2
      have hlen : (if l = [] then Lp i else (l ++ [43]) ++ Lp i).length ≤ 48 := by
        generalize (if l = [] then Lp i else (l ++ [43]) ++ Lp i) = l' at h3 hl' ⊢
        rw [if_neg hl'] at h3
        by_cases hr : sx (bt u) n (i + 1) = []
        · rw [if_pos hr] at h3; exact h3
        · rw [if_neg hr] at h3; simp only [List.length_append, List.length_cons] at h3; omega
      rw [e]
      refine print_loop u n (i + 1) _ _ (by omega) ?_ (Or.inl ?_) h3
      · by_cases hn : l = []
        · rw [if_pos hn, if_pos hn]
          rw [if_pos hn] at hlen
          have := puts_hld (Lp i) (a := a) (l := []) (by rw [← hn]; exact h) (by simpa using hlen)
          simpa using this
        · rw [if_neg hn, if_neg hn]
          rw [if_neg hn] at hlen
          have h43 := put_hld h 43 (by simp at hlen; omega)
          exact puts_hld (Lp i) h43 hlen
      · by_cases hn : l = []
        · rw [if_pos hn]; exact hLp
        · rw [if_neg hn]; exact fun h9 => hLp (List.append_eq_nil_iff.mp h9).2
theorem print_hld (P : Nat → Int32) {u : Int32} (hu : tb u) : hld (fX1_print P u).1 (fX1_print P u).2 (txt u) := by
  have h0 : hld P 0 [] := ⟨rfl, fun k hk => absurd hk (Nat.not_lt_zero k)⟩
  by_cases hz : u = 0
  · subst hz
    have hb : ∀ j, bt 0 j = false := b_0
    have hsx : sx (bt 0) 16 0 = [] := sx_none 16 0 (fun j _ _ => hb j)
    have h1 := put_hld h0 48 (by decide)
    have := print_loop 0 16 0 ((fX1_put P 0 48).1, (fX1_put P 0 48).2) [48] (by decide) h1 (Or.inl (by simp)) (by rw [if_neg (by simp), if_pos hsx]; decide)
    rw [if_neg (by simp), if_pos hsx] at this
    unfold txt fX1_print
    rw [if_pos rfl, if_pos rfl, if_pos rfl]
    dsimp only
    exact this
  · have := print_loop u 16 0 (P, 0) [] (by decide) h0 (Or.inr (fun j hj => absurd hj (Nat.not_lt_zero j))) (by rw [if_pos rfl]; exact sx_48 _)
    rw [if_pos rfl] at this
    unfold txt fX1_print
    rw [if_neg hz, if_neg hz, if_neg hz]
    dsimp only
    exact this
/-! the model -/
theorem printed_sxl (u : Int32) : ∀ n i a, i + n ≤ 16 → lp (sX2_printed_4 u) n i (nI a) = nI (a + sxl (bt u) n i)
  | 0, _, _, _ => rfl
  | n + 1, i, a, h => by
    show lp (sX2_printed_4 u) n (i + 1) (sX2_printed_4 u i (nI a)) = _
    have e : sX2_printed_4 u i (nI a) = nI (a + (if bt u i then (Lp i).length + 1 else 0)) := by
      unfold sX2_printed_4
      rw [bit_bI (by omega), (Lp_len i (by omega)).2.2, nI_1]
      cases bt u i
      · rw [if_neg (by decide)]; exact nI_add _ 0
      · rw [if_pos (by decide), nI_add]; rfl
    rw [e, printed_sxl u n (i + 1) _ (by omega), Nat.add_assoc]
    rfl
theorem printed_txt {u : Int32} (hu : tb u) : fX2_printed u = nI (txt u).length := by
  unfold fX2_printed txt
  by_cases hz : u = 0
  · rw [if_pos hz, if_pos hz]; rfl
  · rw [if_neg hz, if_neg hz]
    have h := printed_sxl u 16 0 0 (by decide)
    rw [show (0 : Int32) = nI 0 from rfl, h, Nat.zero_add]
    obtain ⟨i, hi, hb⟩ := tb_ne0 hu hz
    have hne := sx_some 16 0 i (by decide) (Nat.zero_le _) (by omega) hb
    rcases sx_len (bt u) 16 0 (by decide) with ⟨h1, _⟩ | ⟨_, h1⟩
    · exact absurd h1 hne
    · rw [h1]; exact nI_pred _
theorem printedLength_eq (P : Nat → Int32) {u : Int32} (hu : tb u) : nI (fX1_print P u).2 = fX2_printed u := by
  rw [printed_txt hu, (print_hld P hu).1]
theorem letter_tab : ∀ i, i < 16 → ∀ k, k < (Lp i).length → fX2_letter (nI i) (nI k) = (Lp i).getD k 0 := by decide +kernel
theorem letter_tail (T : Nat → Int32) (x : Int32) (u : Int32) (hu : (if (fX2_is x).1 = 0 then 0 else (fX2_turned (T x.toNatClampNeg)) : Int32) = u) : ∀ n i a, i + n ≤ 16 → a < (sx (bt u) n i).length → a < 64 → tX2_printedLetter_56 T x n i (nI a) = ((sx (bt u) n i).getD a 0, (fX2_is x).2)
  | 0, _, _, _, h, _ => absurd h (Nat.not_lt_zero _)
  | n + 1, i, a, hi, h, h64 => by
    have hL := Lp_len i (by omega)
    rw [tX2_printedLetter_56, hu, bit_bI (by omega), hL.2.2]
    have hs : bt u i = false ∨ bt u i = true := by cases bt u i <;> simp
    rcases hs with hs | hs
    · have e2 : sx (bt u) (n + 1) i = sx (bt u) n (i + 1) := by simp only [sx, hs, Bool.false_eq_true, if_false]
      have hc : (if bI (bt u i) = 1 then 1 else 0 : Int32) = 0 := by rw [hs]; decide
      rw [if_pos hc, if_pos hc, e2, Int32.sub_zero]
      rw [e2] at h
      exact letter_tail T x u hu n (i + 1) a (by omega) h h64
    · have e2 : sx (bt u) (n + 1) i = Lp i ++ (if sx (bt u) n (i + 1) = [] then [] else 43 :: sx (bt u) n (i + 1)) := by simp only [sx, hs, if_true]
      have hc : ¬ (if bI (bt u i) = 1 then 1 else 0 : Int32) = 0 := by rw [hs]; decide
      rw [if_neg hc, if_neg hc, e2]
      rw [e2] at h
      rcases Nat.lt_trichotomy a (Lp i).length with h1 | h1 | h1
      · rw [if_neg (nI_nlt (by omega) (by omega)), if_neg (fun h9 => by rw [nI_eq (by omega) (by omega)] at h9; omega), letter_tab i (by omega) a h1]
        simp only [List.getD_eq_getElem?_getD]
        rw [List.getElem?_append_left h1]
      · rw [if_neg (nI_nlt (by omega) (by omega)), if_pos (by rw [h1])]
        by_cases hr : sx (bt u) n (i + 1) = []
        · rw [if_pos hr] at h; simp at h; omega
        · rw [if_neg hr, h1]
          simp only [List.getD_eq_getElem?_getD]
          rw [List.getElem?_append_right (Nat.le_refl _), Nat.sub_self]
          rfl
      · rw [if_pos (nI_lt h1 (by omega)), nI_1, pk_sub (by omega)]
        by_cases hr : sx (bt u) n (i + 1) = []
        · rw [if_pos hr] at h; simp at h; omega
        · rw [if_neg hr] at h ⊢
          simp only [List.length_append, List.length_cons] at h
          rw [letter_tail T x u hu n (i + 1) (a - ((Lp i).length + 1)) (by omega) (by omega) (by omega)]
          simp only [List.getD_eq_getElem?_getD]
          rw [List.getElem?_append_right (by omega), show a - (Lp i).length = (a - ((Lp i).length + 1)) + 1 by omega]
          rfl
theorem letter_eq (T : Nat → Int32) (x : Int32) (u : Int32) (hu : tb u) (he : (if (fX2_is x).1 = 0 then 0 else (fX2_turned (T x.toNatClampNeg)) : Int32) = u) {a : Nat} (ha : a < (txt u).length) : tX2_printedLetter_56 T x 16 0 (nI a) = ((txt u).getD a 0, (fX2_is x).2) := by
  have h48 := txt_48 u
  unfold txt at ha h48 ⊢
  by_cases hz : u = 0
  · rw [if_pos hz] at ha ⊢
    have : a = 0 := by simp at ha; exact ha
    subst this
    have hno : ∀ n i (w : Int32), i + n ≤ 16 → tX2_printedLetter_56 T x n i w = (48, (fX2_is x).2) := by
      intro n
      induction n with
      | zero => intro i w _; rfl
      | succ n ih =>
        intro i w hi
        have hc : (if ((u >>> ((nI i) &&& 31)) &&& 1) = 1 then 1 else 0 : Int32) = 0 := by rw [bit_bI (by omega), hz, b_0]; decide
        rw [tX2_printedLetter_56, he, if_pos hc]
        exact ih (i + 1) _ (by omega)
    rw [hno 16 0 _ (by decide)]
    rfl
  · rw [if_neg hz] at ha h48 ⊢
    exact letter_tail T x u he 16 0 a (by decide) ha (by omega)
/-! Mathematics 9: what is recorded and copied; joins; the products of all functions. -/
theorem copies_at (f g : Nat → Int32) (fa ta : Nat) : ∀ n, lp (sX2_copies_3 f fa ta) n 0 g = va_cpy f g fa ta n
  | 0 => by
    funext k
    show g k = _
    unfold va_cpy
    rw [if_neg (by omega)]
  | n + 1 => by
    rw [lp_succ, copies_at f g fa ta n, Nat.zero_add]
    funext k
    unfold sX2_copies_3 upd va_cpy
    by_cases h : k = ta + n
    · rw [if_pos h, if_pos (by omega)]
      congr 1; omega
    · rw [if_neg h]
      by_cases h2 : ta ≤ k ∧ k < ta + n
      · rw [if_pos h2, if_pos (by omega)]
      · rw [if_neg h2, if_neg (by omega)]
theorem copies_eq (f g : Nat → Int32) (fa ta : Nat) : fX2_copies f g fa ta = va_cpy f g fa ta 6 := copies_at f g fa ta 6
theorem records_at (R : Nat → Int32) : ∀ n, lp sX2_records_10 n 0 R = va_cpy R R 6 0 n
  | 0 => by
    funext k
    show R k = _
    unfold va_cpy
    rw [if_neg (by omega)]
  | n + 1 => by
    rw [lp_succ, records_at R n, Nat.zero_add]
    funext k
    unfold sX2_records_10 upd va_cpy
    by_cases h : k = n
    · rw [if_pos h, if_neg (by omega), if_pos (by omega)]
      congr 1; omega
    · rw [if_neg h]
      by_cases h2 : 0 ≤ k ∧ k < 0 + n
      · rw [if_pos h2, if_pos (by omega)]
      · rw [if_neg h2, if_neg (by omega)]
theorem record_eq (T R : Nat → Int32) {n : Nat} (hn : n ≤ 4) : fX1_recordState T R n = fX2_records T R n := by
  unfold fX1_recordState fX2_records
  rw [copies_eq, copies_eq, records_at]
  have h4 : (4 : Int32) = nI 4 := rfl
  rw [h4]
  by_cases h : n = 4
  · subst h
    rw [if_neg (by decide), if_pos rfl]
  · rw [if_pos (nI_lt (by omega) (by decide)), if_neg (fun h9 => h ((nI_eq (by omega) (by decide)).mp h9)), Nat.mul_comm]
theorem record_n (T R : Nat → Int32) {n : Nat} (hn : n ≤ 4) : (fX2_records T R n).2 ≤ 4 := by
  unfold fX2_records
  have h4 : (4 : Int32) = nI 4 := rfl
  rw [h4]
  by_cases h : n = 4
  · subst h
    rw [if_pos rfl]
    exact Nat.le_refl 4
  · rw [if_neg (fun h9 => h ((nI_eq (by omega) (by decide)).mp h9))]
    show n + 1 ≤ 4
    omega
/-- all numbers of an array are tables -/
def tbs (T : Nat → Int32) : Prop := ∀ i, tb (T i)
theorem cpy_tbs {f g : Nat → Int32} (hf : tbs f) (hg : tbs g) (a b n : Nat) : tbs (va_cpy f g a b n) := by
  intro i
  unfold va_cpy
  split
  · exact hf _
  · exact hg _
theorem upd_tbs {f : Nat → Int32} (hf : tbs f) (i : Nat) {x : Int32} (hx : tb x) : tbs (upd f i x) := by
  intro j
  unfold upd
  split
  · exact hx
  · exact hf _
theorem record_tbs {T R : Nat → Int32} (hT : tbs T) (hR : tbs R) (n : Nat) : tbs (fX2_records T R n).1 := by
  unfold fX2_records
  rw [copies_eq, copies_eq, records_at]
  split
  · exact cpy_tbs hT (cpy_tbs hR hR _ _ _) _ _ _
  · exact cpy_tbs hT hR _ _ _
theorem count_eq {T : Nat → Int32} (hT : tbs T) : fX1_countAllProducts T = fX2_allProducts T := by
  unfold fX1_countAllProducts fX2_allProducts
  refine lp_cong (f := sX1_countAllProducts_4 T) (g := sX2_allProducts_4 T) (n := 6) (i := 0) 0 (fun j a _ _ => ?_)
  unfold sX1_countAllProducts_4 sX2_allProducts_4
  rw [addHalves_turned (hT j), bitCount_tb (turned_bits _).1]
theorem join_tb {t u : Int32} (ht : tb t) (hu : tb u) (w : Int32) : tb (fX1_joinTables t u w) := by
  unfold fX1_joinTables
  split
  · exact tb_xor ht hu
  · split
    · exact tb_and ht _
    · split
      · exact tb_or ht hu
      · exact tb_or (tb_and' _ tb_all) hu
theorem init_eq : (upd (upd (lp (fun i a => upd a i (VT i)) 4 0 (fun _ => 0)) 4 0) 5 65535 : Nat → Int32) = upd (lp (fun i a => upd a i (fX2_variable (nI i))) 4 0 (fun _ => 0)) 5 65535 := by
  have e0 : fX2_variable (nI 0) = VT 0 := by decide +kernel
  have e1 : fX2_variable (nI 1) = VT 1 := by decide +kernel
  have e2 : fX2_variable (nI 2) = VT 2 := by decide +kernel
  have e3 : fX2_variable (nI 3) = VT 3 := by decide +kernel
  simp only [lp, e0, e1, e2, e3]
  funext k
  unfold upd
  by_cases h5 : k = 5
  · rw [if_pos h5, if_pos h5]
  · rw [if_neg h5, if_neg h5]
    by_cases h4 : k = 4
    · subst h4; rfl
    · rw [if_neg h4]
/-! Mathematics 10: the text is read in two ways. -/
def hsb (o : Int32) (d : Nat) : Bool := bt o d
theorem has_b {d : Nat} (hd : d < 32) (o : Int32) : fX2_has o (nI d) = bI (bt o d) := by
  unfold fX2_has; rw [bit_bI hd]; cases bt o d <;> decide
theorem isNew_z {d : Nat} (hd : d < 32) (o : Int32) : (o &&& ((1 : Int32) <<< (nI d &&& 31))) = 0 ↔ bt o d = false := by
  constructor
  · intro h
    have e := congrArg (fun z => bt z d) h
    simp only [b_and, b_shl d hd _ hd, b_1, b_0, Nat.sub_self, Nat.le_refl, decide_true, Bool.and_true] at e
    exact e
  · intro h
    apply b_ext
    intro i hi
    rw [b_and, b_shl d hd _ hi, b_1, b_0]
    by_cases e : i = d
    · subst e; rw [h, Bool.false_and]
    · by_cases e1 : d ≤ i
      · rw [decide_eq_false (p := i - d = 0) (by omega), Bool.and_false, Bool.and_false]
      · rw [decide_eq_false e1, Bool.false_and, Bool.and_false]
theorem isNew_b {d : Nat} (hd : d < 32) (o : Int32) : fX0_isNew o (nI d) = bI (! bt o d) := by
  unfold fX0_isNew
  cases h : bt o d with
  | false => rw [if_pos ((isNew_z hd o).mpr h)]; rfl
  | true => rw [if_neg (fun e => by rw [(isNew_z hd o).mp e] at h; cases h)]; rfl
/-- the first variable that may come behind the product d -/
def nxN (d : Nat) : Nat := if d = 0 then 0 else if d = 1 then 1 else if d < 4 then 2 else if d < 8 then 3 else 4
theorem nx_tab : ∀ d, d < 16 → (if nI d = 0 then 0 else ((fX2_highest (nI d)) + 1) : Int32) = nI (nxN d) := by decide +kernel
theorem go_tab : ∀ d, d < 16 → ∀ x, x < 4 → nxN d ≤ x → (nI d ||| ((1 : Int32) <<< (nI x &&& 31))) = nI (d ||| 2 ^ x) ∧ (d ||| 2 ^ x) < 16 ∧ 0 < (d ||| 2 ^ x) ∧ nxN (d ||| 2 ^ x) = x + 1 := by decide +kernel
/-- a product that begins so -/
def beg (le i : Nat) : Bool := decide (i &&& (2 ^ (nxN le) - 1) = le)
theorem beg_new : ∀ le, le < 16 → 0 < le → ∀ i, i < 16 → decide (((nI i) &&& (((1 : Int32) <<< ((nI (nxN le)) &&& 31)) - 1)) = nI le) = beg le i := by decide +kernel
theorem beg_come : ∀ le, le < 16 → 0 < le → ∀ i, i < 16 → le ≤ i → decide ((if ((nI i) &&& (nI le)) = (nI le) then (if (((nI i) &&& ((nI le) ^^^ (-1))) &&& (((1 : Int32) <<< (((if (fX2_bits (nI le)) = 0 then (-1) else (fX2_highest (nI le)) : Int32) + 1) &&& 31)) - 1)) = 0 then 1 else 0) else 0 : Int32) = 0) = ! beg le i := by decide +kernel
theorem beg_le : ∀ le, le < 16 → ∀ i, i < 16 → i < le → beg le i = false := by decide +kernel
/-- a product that begins so is new -/
def cnw (o : Int32) (le : Nat) : Bool := ! al (fun i => ! (beg le i && ! bt o i)) 16 0
theorem canBecome_al (o : Int32) {le : Nat} (hle : le < 16) (h0 : 0 < le) : ∀ n i, i + n = 16 → tX0_canBecomeNew_9 o (nI le) (nI (nxN le)) n i () = bI (! al (fun i => ! (beg le i && ! bt o i)) n i)
  | 0, _, _ => rfl
  | n + 1, i, h => by
    have hb := beg_new le hle h0 i (by omega)
    rw [tX0_canBecomeNew_9, al, canBecome_al o hle h0 n (i + 1) (by omega), isNew_b (by omega)]
    by_cases hc : ((nI i) &&& (((1 : Int32) <<< ((nI (nxN le)) &&& 31)) - 1)) = nI le
    · rw [if_pos hc]
      rw [decide_eq_true hc] at hb
      rw [← hb]
      cases bt o i
      · rw [if_neg (by decide)]; rfl
      · rw [if_pos (by decide)]; rfl
    · rw [if_neg hc]
      rw [decide_eq_false hc] at hb
      rw [← hb]; rfl
theorem canBecome_b (o : Int32) {le : Nat} (hle : le < 16) (h0 : 0 < le) : fX0_canBecomeNew o (nI le) (nI (nxN le)) = bI (cnw o le) := canBecome_al o hle h0 16 0 rfl
theorem canCome_b (o : Int32) {le : Nat} (hle : le < 16) (h0 : 0 < le) : fX2_canCome o le = bI (cnw o le) := by
  unfold fX2_canCome cnw
  rw [(sticky1 (fun i => beg le i && ! bt o i) (sX2_canCome_4 o le) (16 - le) le (fun j a h1 h2 => by
    unfold sX2_canCome_4
    have hb := beg_come le hle h0 j (by omega) h1
    rw [has_b (by omega)]
    by_cases ha : a = 0
    · rw [if_pos ha, if_pos ha]
      by_cases hc : (if ((nI j) &&& (nI le)) = (nI le) then (if (((nI j) &&& ((nI le) ^^^ (-1))) &&& (((1 : Int32) <<< (((if (fX2_bits (nI le)) = 0 then (-1) else (fX2_highest (nI le)) : Int32) + 1) &&& 31)) - 1)) = 0 then 1 else 0) else 0 : Int32) = 0
      · rw [if_pos hc]
        rw [decide_eq_true hc] at hb
        rw [show beg le j = false by revert hb; cases beg le j <;> simp]; rfl
      · rw [if_neg hc]
        rw [decide_eq_false hc] at hb
        rw [show beg le j = true by revert hb; cases beg le j <;> simp]
        cases bt o j <;> decide
    · rw [if_neg ha, if_neg ha])).2]
  congr 2
  apply bool_iff
  rw [al_iff, al_iff]
  constructor
  · intro h j _ hj
    rcases Nat.lt_or_ge j le with h1 | h1
    · rw [beg_le le hle j (by omega) h1]; rfl
    · exact h j h1 (by omega)
  · intro h j h1 hj
    exact h j (Nat.zero_le _) (by omega)
/-! the class, a character at a time -/
theorem fe_fail {X : Nat → Int32} {k n i : Nat} {w f d v : Int32} (h : (fX0_takes w f d v (X i)).1 = 0) : (tX0_firstError_16 X k (n + 1) i (w, f, d, v)).1 = nI i := by
  rw [tX0_firstError_16]
  dsimp only
  rw [if_pos h]
theorem fe_go {X : Nat → Int32} {k n i : Nat} {w f d v w2 f2 d2 v2 : Int32} (h : fX0_takes w f d v (X i) = (1, w2, f2, d2, v2)) : tX0_firstError_16 X k (n + 1) i (w, f, d, v) = tX0_firstError_16 X k n (i + 1) (w2, f2, d2, v2) := by
  rw [tX0_firstError_16]
  dsimp only
  rw [h]
  rw [if_neg (show ¬ (1 : Int32) = 0 by decide)]
theorem fe_end {X : Nat → Int32} {k i : Nat} {w f d v : Int32} (h : fX0_canEnd w f d = 0) : (tX0_firstError_16 X k 0 i (w, f, d, v)).1 = nI k := by
  rw [tX0_firstError_16]
  dsimp only
  rw [if_pos h]
theorem fe_fin {X : Nat → Int32} {k i : Nat} {w f d v : Int32} (h : ¬ fX0_canEnd w f d = 0) : tX0_firstError_16 X k 0 i (w, f, d, v) = (-1, w, f, d, v) := by
  rw [tX0_firstError_16]
  dsimp only
  rw [if_neg h]
/-- where the class stands in a product, d of it read; w0 is where it stood before -/
def stw (w0 : Int32) (d : Nat) : Int32 := if d = 0 then w0 else 3
theorem in_of {x lo : Int32} : (fX2_in x lo 3 = 0 ∧ (x < lo ∨ 3 < x)) ∨ (fX2_in x lo 3 = 1 ∧ ¬ x < lo ∧ ¬ 3 < x) := by
  unfold fX2_in
  by_cases h1 : x < lo
  · rw [if_pos h1]; exact Or.inl ⟨rfl, Or.inl h1⟩
  · rw [if_neg h1]
    by_cases h2 : (3 : Int32) < x
    · rw [if_pos h2]; exact Or.inl ⟨rfl, Or.inr h2⟩
    · rw [if_neg h2]; exact Or.inr ⟨rfl, h1, h2⟩
theorem takesVariable_far {w f d x : Int32} {v : Nat} (h : x < nI v ∨ 3 < x) : fX0_takesVariable w f d (nI v) x = (0, w, d, nI v) := by
  unfold fX0_takesVariable
  by_cases h1 : x < nI v
  · rw [if_pos h1]
  · rw [if_neg h1]
    have h2 : (3 : Int32) < x := h.resolve_left h1
    have h3 : ¬ x < 4 := by
      rw [Int32.lt_iff_toInt_lt] at h2 ⊢
      have e3 : (3 : Int32).toInt = 3 := rfl
      have e4 : (4 : Int32).toInt = 4 := rfl
      omega
    rw [if_neg h3]
theorem near {x : Int32} {v : Nat} (hv : v < 2 ^ 31) (h1 : ¬ x < nI v) (h2 : ¬ (3 : Int32) < x) : ∃ y, y < 4 ∧ v ≤ y ∧ x = nI y := by
  have e3 : (3 : Int32).toInt = 3 := rfl
  have e0 : (0 : Int32).toInt = 0 := rfl
  have ev := nI_toInt hv
  rw [Int32.lt_iff_toInt_lt] at h1 h2
  obtain ⟨y, hy, rfl⟩ := nI_of2 (x := x) (M := 3) (n := 3) rfl (by rw [Int32.lt_iff_toInt_lt]; omega) (by rw [Int32.le_iff_toInt_le]; omega)
  have ey := nI_toInt (n := y) (by omega)
  exact ⟨y, by omega, by omega, rfl⟩
theorem minus97 {x : Int32} {y : Nat} (hy : y < 4) (h : x - 97 = nI y) : x = nI (97 + y) := by
  have : x = (x - 97) + 97 := (Int32.sub_add_cancel x 97).symm
  rw [this, h, Nat.add_comm]
  exact nI_add y 97
theorem letters_far : ∀ y, y < 4 → ¬ nI (97 + y) = 48 ∧ ¬ nI (97 + y) = 49 ∧ ¬ nI (97 + y) = 43 := by decide +kernel
/-- the class takes a letter -/
theorem takes_letter {w o : Int32} {d y : Nat} {c : Int32} (hd : d < 16) (hy : y < 4) (hn : nxN d ≤ y) (hc : c - 97 = nI y) (hcw : cnw o (d ||| 2 ^ y) = true) :
    fX0_takes w o (nI d) (nI (nxN d)) c = (1, 3, o, nI (d ||| 2 ^ y), nI (nxN (d ||| 2 ^ y))) := by
  obtain ⟨g1, g2, g3, g4⟩ := go_tab d hd y hy hn
  have hc2 := minus97 hy hc
  have hf := letters_far y hy
  have hv : fX0_takesVariable w o (nI d) (nI (nxN d)) (nI y) = (1, 3, nI (d ||| 2 ^ y), nI (nxN (d ||| 2 ^ y))) := by
    unfold fX0_takesVariable
    have hx4 : nI y < (4 : Int32) := nI_lt (a := y) (b := 4) (by omega) (by omega)
    have hb := canBecome_b o g2 g3
    rw [hcw] at hb
    rw [if_neg (nI_nlt hn (by omega)), if_pos hx4, g1, nI_1, ← g4, hb, if_neg (by decide)]
  unfold fX0_takes
  rw [hc, hv, hc2, if_neg hf.1, if_neg hf.2.1, if_neg hf.2.2]
/-- the class takes no letter here -/
def noLetter (o : Int32) (d : Nat) (c : Int32) : Prop := ∀ w, (fX0_takesVariable w o (nI d) (nI (nxN d)) (c - 97)).1 = 0
theorem noLetter_far {o : Int32} {d : Nat} {c : Int32} (h : c - 97 < nI (nxN d) ∨ 3 < c - 97) : noLetter o d c := fun w => by rw [takesVariable_far h]
theorem noLetter_old {o : Int32} {d y : Nat} {c : Int32} (hd : d < 16) (hy : y < 4) (hn : nxN d ≤ y) (hc : c - 97 = nI y) (hcw : cnw o (d ||| 2 ^ y) = false) : noLetter o d c := fun w => by
  obtain ⟨g1, g2, g3, g4⟩ := go_tab d hd y hy hn
  have hx4 : nI y < (4 : Int32) := nI_lt (a := y) (b := 4) (by omega) (by omega)
  have hb := canBecome_b o g2 g3
  rw [hcw] at hb
  unfold fX0_takesVariable
  rw [hc, if_neg (nI_nlt hn (by omega)), if_pos hx4, g1, nI_1, ← g4, hb, if_pos (by decide)]
/-- what the model's reader of a product answers -/
def pAns (d : Nat) : Int32 := if d = 0 then -1 else nI d
theorem pAns_ite {d : Nat} (hd : d < 16) (a : Nat) : (if nI d = 0 then ((-1 : Int32), a) else (nI d, a)) = (pAns d, a) := by
  unfold pAns
  by_cases h : d = 0
  · subst h; rfl
  · rw [if_neg (nI_ne0 (by omega) (by omega)), if_neg h]
theorem nxN_le : ∀ d, d < 16 → nxN d ≤ 4 := by decide
theorem product_stop (X : Nat → Int32) (k : Nat) (o : Int32) {d : Nat} (hd : d < 16) (at_ : Nat) : ∀ n i, tX2_product_49 X k o n i (nI d, 0, at_) = (pAns d, at_)
  | 0, _ => by rw [tX2_product_49]; exact pAns_ite hd at_
  | n + 1, _ => by rw [tX2_product_49]; dsimp only; rw [if_pos rfl]; exact pAns_ite hd at_
theorem product_run (X : Nat → Int32) {k : Nat} (hk : k ≤ 80) (o w0 : Int32) : ∀ (n i d a : Nat), d < 16 → a ≤ k → k - a ≤ n →
    ∃ d2 a2, d2 < 16 ∧ a ≤ a2 ∧ a2 ≤ k ∧ (d2 = 0 → d = 0 ∧ a2 = a) ∧ tX2_product_49 X k o n i (nI d, 1, a) = (pAns d2, a2) ∧
      tX0_firstError_16 X k (k - a) a (stw w0 d, o, nI d, nI (nxN d)) = tX0_firstError_16 X k (k - a2) a2 (stw w0 d2, o, nI d2, nI (nxN d2)) ∧ (a2 < k → noLetter o d2 (X a2))
  | 0, i, d, a, hd, ha, hn => by
    have : a = k := by omega
    subst this
    exact ⟨d, a, hd, Nat.le_refl _, Nat.le_refl _, fun h => ⟨h, rfl⟩, by rw [tX2_product_49]; exact pAns_ite hd a, rfl, fun h => absurd h (Nat.lt_irrefl _)⟩
  | n + 1, i, d, a, hd, ha, hn => by
    rcases Nat.lt_or_ge a k with hak | hak
    · have hnx := nxN_le d hd
      rcases in_of (x := X a - 97) (lo := nI (nxN d)) with ⟨h1, h2⟩ | ⟨h1, h2, h3⟩
      · refine ⟨d, a, hd, Nat.le_refl _, ha, fun h => ⟨h, rfl⟩, ?_, rfl, fun _ => noLetter_far h2⟩
        rw [tX2_product_49]
        dsimp only
        rw [if_neg (by decide), if_neg (nI_ge hak (by omega)), nx_tab d hd, if_pos h1, Nat.add_zero, show nI d ||| 0 = nI d from b_ext (fun i _ => by rw [b_or, b_0, Bool.or_false])]
        exact product_stop X k o hd a n (i + 1)
      · obtain ⟨y, hy, hny, hxy⟩ := near (by omega) h2 h3
        obtain ⟨g1, g2, g3, g4⟩ := go_tab d hd y hy hny
        have hcc : fX2_canCome o ((nI d ||| ((1 : Int32) <<< ((X a - 97) &&& 31))).toNatClampNeg) = bI (cnw o (d ||| 2 ^ y)) := by
          rw [hxy, g1, nI_clamp (by omega), canCome_b o g2 g3]
        cases hcw : cnw o (d ||| 2 ^ y)
        · refine ⟨d, a, hd, Nat.le_refl _, ha, fun h => ⟨h, rfl⟩, ?_, rfl, fun _ => noLetter_old hd hy hny hxy hcw⟩
          rw [tX2_product_49]
          dsimp only
          rw [if_neg (by decide), if_neg (nI_ge hak (by omega)), nx_tab d hd, h1, if_neg (by decide), hcc, hcw, if_pos (by decide), Nat.add_zero, show nI d ||| 0 = nI d from b_ext (fun i _ => by rw [b_or, b_0, Bool.or_false])]
          exact product_stop X k o hd a n (i + 1)
        · obtain ⟨d2, a2, r1, r2, r3, r4, r5, r6, r7⟩ := product_run X hk o w0 n (i + 1) (d ||| 2 ^ y) (a + 1) g2 (by omega) (by omega)
          refine ⟨d2, a2, r1, by omega, r3, fun h => absurd (r4 h).1 (by omega), ?_, ?_, r7⟩
          · rw [tX2_product_49]
            dsimp only
            rw [if_neg (by decide), if_neg (nI_ge hak (by omega)), nx_tab d hd, h1, if_neg (by decide), hcc, hcw, if_neg (by decide), hxy, g1]
            exact r5
          · rw [show k - a = (k - (a + 1)) + 1 by omega, fe_go (takes_letter hd hy hny hxy hcw)]
            have : stw w0 (d ||| 2 ^ y) = 3 := if_neg (by omega)
            rw [this] at r6
            exact r6
    · have : a = k := by omega
      subst this
      refine ⟨d, a, hd, Nat.le_refl _, Nat.le_refl _, fun h => ⟨h, rfl⟩, ?_, rfl, fun h => absurd h (Nat.lt_irrefl _)⟩
      rw [tX2_product_49]
      dsimp only
      rw [if_neg (by decide), if_pos (nI_le (Nat.le_refl _) (by omega))]
      exact pAns_ite hd a
/-! Mathematics 11: the first error and the products of a text, read in two ways. -/
def rgood (k : Nat) (r : Int32 × Nat × Int32) (c : Int32 × Int32 × Int32 × Int32 × Int32) : Prop :=
  (r.1 = 0 ∧ r.2.1 ≤ k ∧ c.1 = nI r.2.1) ∨ (r.1 = 1 ∧ c.1 = -1 ∧ fX0_productsRead c.2.1 c.2.2.1 c.2.2.2.1 = r.2.2 ∧ tb r.2.2)
theorem reads_stop (X : Nat → Int32) (k : Nat) (a : Nat) (o : Int32) : ∀ n i, tX2_reads_49 X k n i (0, a, o) = if nI a = nI k then (1, a, o) else (0, a, o)
  | 0, _ => by rw [tX2_reads_49]
  | n + 1, _ => by rw [tX2_reads_49]; dsimp only; rw [if_pos rfl]
theorem or_tb {o : Int32} (ho : tb o) {d : Nat} (hd : d < 16) : tb (o ||| ((1 : Int32) <<< (nI d &&& 31))) := tb_or ho (fun i hi => by
  rcases Nat.lt_or_ge i 32 with h | h
  · rw [b_shl d (by omega) _ h, b_1, decide_eq_false (p := i - d = 0) (by omega), Bool.and_false]
  · exact b_big h)
theorem takes_zero {w f d v : Int32} (h : ¬ w = 0) : (fX0_takes w f d v 48).1 = 0 := by
  unfold fX0_takes fX0_takesZero
  rw [if_pos rfl, if_neg h]
theorem ne_of {c : Int32} {n : Int32} (h : ¬ c = n) : ¬ c = n := h
/-- behind a product: what the class and the model do -/
theorem behind (X : Nat → Int32) {k : Nat} (hk : k ≤ 80) {n i a d : Nat} {o v : Int32} (hd : d < 16) (ha : a ≤ k) (ho : tb o) (hno : a < k → (fX0_takesVariable 3 o (nI d) v (X a - 97)).1 = 0)
    (next : ∀ o2, tb o2 → a + 1 ≤ k → rgood k (tX2_reads_49 X k n (i + 1) (1, a + 1, o2)) (tX0_firstError_16 X k (k - (a + 1)) (a + 1) (2, o2, 0, 0))) :
    rgood k (if (fX2_has o (nI d)) = 0 then (if (o ||| ((1 : Int32) <<< (nI d &&& 31))) = 65535 then tX2_reads_49 X k n (i + 1) (0, (a + 0), (o ||| ((1 : Int32) <<< (nI d &&& 31)))) else (if (nI k) ≤ (nI a) then tX2_reads_49 X k n (i + 1) (0, (a + 0), (o ||| ((1 : Int32) <<< (nI d &&& 31)))) else (if (X a) = 43 then tX2_reads_49 X k n (i + 1) (1, (a + 1), (o ||| ((1 : Int32) <<< (nI d &&& 31)))) else tX2_reads_49 X k n (i + 1) (0, (a + 0), (o ||| ((1 : Int32) <<< (nI d &&& 31))))))) else (0, a, o))
      (tX0_firstError_16 X k (k - a) a (3, o, nI d, v)) := by
  have hN := isNew_b (show d < 32 by omega) o
  rw [has_b (by omega)]
  have h2 := or_tb ho hd
  have hother : a < k → ¬ X a = 43 → (fX0_takes 3 o (nI d) v (X a)).1 = 0 := by
    intro h h43
    unfold fX0_takes
    by_cases e0 : X a = 48
    · rw [if_pos e0]; unfold fX0_takesZero; rw [if_neg (by decide)]
    · rw [if_neg e0]
      by_cases e1 : X a = 49
      · rw [if_pos e1]; unfold fX0_takesOne; rw [if_neg (by decide), if_neg (by decide)]
      · rw [if_neg e1, if_neg h43]
        exact hno h
  have herr : a < k → (fX0_takes 3 o (nI d) v (X a)).1 = 0 → (tX0_firstError_16 X k (k - a) a (3, o, nI d, v)).1 = nI a := by
    intro h hf
    rw [show k - a = (k - a - 1) + 1 by omega]
    exact fe_fail hf
  cases hb : bt o d
  · rw [hb, Bool.not_false] at hN
    rw [if_pos (by decide : bI false = 0)]
    have hend : ¬ fX0_canEnd 3 o (nI d) = 0 := by
      unfold fX0_canEnd
      rw [if_neg (by decide), if_pos rfl, hN, if_neg (by decide)]
      decide
    have hfin : a = k → rgood k (1, a, (o ||| ((1 : Int32) <<< (nI d &&& 31)))) (tX0_firstError_16 X k (k - a) a (3, o, nI d, v)) := by
      intro h
      rw [show k - a = 0 by omega, fe_fin hend]
      refine Or.inr ⟨rfl, rfl, ?_, h2⟩
      show fX0_productsRead 3 o (nI d) = _
      unfold fX0_productsRead
      rw [if_neg (by decide)]
    have hstop : (a < k → (fX0_takes 3 o (nI d) v (X a)).1 = 0) → rgood k (tX2_reads_49 X k n (i + 1) (0, (a + 0), (o ||| ((1 : Int32) <<< (nI d &&& 31))))) (tX0_firstError_16 X k (k - a) a (3, o, nI d, v)) := by
      intro hf
      rw [reads_stop, Nat.add_zero]
      rcases Nat.lt_or_ge a k with h | h
      · rw [if_neg (fun h9 => by rw [nI_eq (by omega) (by omega)] at h9; omega)]
        exact Or.inl ⟨rfl, ha, herr h (hf h)⟩
      · have : a = k := by omega
        rw [if_pos (by rw [this])]
        exact hfin this
    have hplus : X a = 43 → fX0_takes 3 o (nI d) v (X a) = (if (o ||| ((1 : Int32) <<< (nI d &&& 31))) = 65535 then (0, 3, o, nI d, v) else (1, 2, (o ||| ((1 : Int32) <<< (nI d &&& 31))), 0, 0)) := by
      intro h
      unfold fX0_takes
      rw [h, if_neg (by decide), if_neg (by decide), if_pos rfl]
      unfold fX0_takesPlus
      rw [if_pos rfl, hN, if_neg (by decide)]
      split <;> rfl
    by_cases hall : (o ||| ((1 : Int32) <<< (nI d &&& 31))) = 65535
    · rw [if_pos hall]
      refine hstop (fun h => ?_)
      by_cases h43 : X a = 43
      · rw [hplus h43, if_pos hall]
      · exact hother h h43
    · rw [if_neg hall]
      rcases Nat.lt_or_ge a k with h | h
      · rw [if_neg (nI_ge h (by omega))]
        by_cases h43 : X a = 43
        · rw [if_pos h43, show k - a = (k - (a + 1)) + 1 by omega]
          have hp := hplus h43
          rw [if_neg hall] at hp
          rw [fe_go hp]
          exact next _ h2 h
        · rw [if_neg h43]
          exact hstop (fun _ => hother h h43)
      · rw [if_pos (nI_le h (by omega))]
        exact hstop (fun h9 => by omega)
  · rw [hb, Bool.not_true] at hN
    rw [if_neg (by decide : ¬ bI true = 0)]
    refine Or.inl ⟨rfl, ha, ?_⟩
    rcases Nat.lt_or_ge a k with h | h
    · refine herr h ?_
      by_cases h43 : X a = 43
      · unfold fX0_takes
        rw [h43, if_neg (by decide), if_neg (by decide), if_pos rfl]
        unfold fX0_takesPlus
        rw [if_pos rfl, hN, if_pos (by decide)]
      · exact hother h h43
    · have : a = k := by omega
      subst this
      rw [Nat.sub_self]
      refine fe_end ?_
      unfold fX0_canEnd
      rw [if_neg (by decide), if_pos rfl, hN, if_pos (by decide)]
theorem reads_run (X : Nat → Int32) {k : Nat} (hk : k ≤ 80) : ∀ (n i a : Nat) (o w0 : Int32), a ≤ k → k - a < n → (w0 = 0 ∨ w0 = 2) → (w0 = 0 → a < k → ¬ X a = 48) → tb o →
    rgood k (tX2_reads_49 X k n i (1, a, o)) (tX0_firstError_16 X k (k - a) a (w0, o, 0, 0))
  | 0, _, _, _, _, _, h, _, _, _ => absurd h (Nat.not_lt_zero _)
  | n + 1, i, a, o, w0, ha, hn, hw, h48, ho => by
    have next : ∀ a2, a ≤ a2 → ∀ o2, tb o2 → a2 + 1 ≤ k → rgood k (tX2_reads_49 X k n (i + 1) (1, a2 + 1, o2)) (tX0_firstError_16 X k (k - (a2 + 1)) (a2 + 1) (2, o2, 0, 0)) :=
      fun a2 h1 o2 h2 h3 => reads_run X hk n (i + 1) (a2 + 1) o2 2 h3 (by omega) (Or.inr rfl) (fun h => absurd h (by decide)) h2
    have hw3 : ¬ w0 = 3 := by rcases hw with h | h <;> rw [h] <;> decide
    have hw1 : ¬ w0 = 1 := by rcases hw with h | h <;> rw [h] <;> decide
    rw [tX2_reads_49]
    dsimp only
    rw [if_neg (by decide : ¬ (1 : Int32) = 0)]
    by_cases h1 : a < k ∧ X a = 49 ∧ fX2_has o 0 = 0
    · obtain ⟨hak, h49, hh⟩ := h1
      have hp : fX2_product X k a o = (0, a + 1) := by
        unfold fX2_product
        rw [if_neg (nI_ge hak (by omega)), if_pos h49, if_pos hh]
      rw [hp]
      dsimp only
      rw [if_neg (by decide : ¬ (0 : Int32) < 0)]
      have hN := isNew_b (show 0 < 32 by decide) o
      rw [show (0 : Int32) = nI 0 from rfl, has_b (by decide)] at hh
      rw [show bt o 0 = false by revert hh; cases bt o 0 <;> decide] at hN
      have ht : fX0_takes w0 o 0 0 (X a) = (1, 3, o, nI 0, 4) := by
        unfold fX0_takes
        rw [h49, if_neg (by decide), if_pos rfl]
        unfold fX0_takesOne
        rw [show (0 : Int32) = nI 0 from rfl, hN]
        rcases hw with h | h
        · rw [h]; rfl
        · rw [h]; rfl
      rw [show k - a = (k - (a + 1)) + 1 by omega, fe_go ht]
      exact behind X hk (d := 0) (by decide) (by omega) ho (fun h => by
        have h9 : ∀ x : Int32, x < 4 ∨ 3 < x := fun x => by
          rw [Int32.lt_iff_toInt_lt, Int32.lt_iff_toInt_lt]
          have e3 : (3 : Int32).toInt = 3 := rfl
          have e4 : (4 : Int32).toInt = 4 := rfl
          omega
        have := takesVariable_far (w := 3) (f := o) (d := nI 0) (x := X (a + 1) - 97) (v := 4) (h9 _)
        rw [show (4 : Int32) = nI 4 from rfl, this]) (next (a + 1) (by omega))
    · have hp : fX2_product X k a o = tX2_product_49 X k o (k - a + 1) 0 (0, 1, a) := by
        unfold fX2_product
        rcases Nat.lt_or_ge a k with hak | hak
        · rw [if_neg (nI_ge hak (by omega))]
          by_cases h49 : X a = 49
          · rw [if_pos h49, if_neg (fun h9 => h1 ⟨hak, h49, h9⟩)]
          · rw [if_neg h49]
        · rw [if_pos (nI_le hak (by omega))]
      obtain ⟨d2, a2, r1, r2, r3, r4, r5, r6, r7⟩ := product_run X hk o w0 (k - a + 1) 0 0 a (by decide) ha (by omega)
      rw [hp, show ((0 : Int32), (1 : Int32), a) = (nI 0, 1, a) from rfl, r5]
      rw [show (w0, o, (0 : Int32), (0 : Int32)) = (stw w0 0, o, nI 0, nI (nxN 0)) from rfl, r6]
      dsimp only
      by_cases hd0 : d2 = 0
      · obtain ⟨_, ha2⟩ := r4 hd0
        subst hd0
        subst ha2
        rw [if_pos (by decide : pAns 0 < 0)]
        refine Or.inl ⟨rfl, r3, ?_⟩
        show (tX0_firstError_16 X k (k - a2) a2 (w0, o, nI 0, nI (nxN 0))).1 = nI a2
        rcases Nat.lt_or_ge a2 k with hak | hak
        · rw [show k - a2 = (k - a2 - 1) + 1 by omega]
          refine fe_fail ?_
          unfold fX0_takes
          by_cases e0 : X a2 = 48
          · rw [if_pos e0]
            unfold fX0_takesZero
            rw [if_neg (fun h9 => h48 h9 hak e0)]
          · rw [if_neg e0]
            by_cases e1 : X a2 = 49
            · rw [if_pos e1]
              have hh : ¬ fX2_has o (nI 0) = 0 := fun h9 => h1 ⟨hak, e1, h9⟩
              have hN := isNew_b (show 0 < 32 by decide) o
              rw [has_b (by decide)] at hh
              rw [show bt o 0 = true by revert hh; cases bt o 0 <;> decide] at hN
              unfold fX0_takesOne
              rw [show (0 : Int32) = nI 0 from rfl, hN]
              rcases hw with h | h
              · rw [h]; rfl
              · rw [h]; rfl
            · rw [if_neg e1]
              by_cases e2 : X a2 = 43
              · rw [if_pos e2]
                unfold fX0_takesPlus
                rw [if_neg hw3]
              · rw [if_neg e2]
                exact r7 hak w0
        · have : a2 = k := by omega
          subst this
          rw [Nat.sub_self]
          refine fe_end ?_
          unfold fX0_canEnd
          rw [if_neg hw1, if_neg hw3]
      · have hpa : pAns d2 = nI d2 := if_neg hd0
        rw [hpa, if_neg (nI_pos (by omega))]
        have : stw w0 d2 = 3 := if_neg hd0
        rw [this]
        exact behind X hk r1 r3 ho (fun h => r7 h 3) (next a2 r2)
/-- the two readers of a text -/
theorem reads_first (X : Nat → Int32) {k : Nat} (hk : k ≤ 80) : rgood k (fX2_reads X k) (fX0_firstError X k) := by
  unfold fX2_reads fX0_firstError
  rw [show (0, 0, fX0_startProduct.1, fX0_startProduct.2) = ((0 : Int32), (0 : Int32), (0 : Int32), (0 : Int32)) from rfl]
  rcases Nat.eq_zero_or_pos k with h0 | h0
  · subst h0
    rw [if_pos (by decide)]
    exact reads_run X hk 1 0 0 0 0 (by decide) (by decide) (Or.inl rfl) (fun _ h => absurd h (by decide)) tb_0
  · rw [if_neg (nI_nle h0 (by omega))]
    by_cases h48 : X 0 = 48
    · rw [if_pos h48]
      have ht : fX0_takes 0 0 0 0 (X 0) = (1, 1, 0, 0, 4) := by rw [h48]; rfl
      obtain ⟨k, rfl⟩ : ∃ k2, k = k2 + 1 := ⟨k - 1, by omega⟩
      rw [fe_go ht]
      rcases Nat.eq_zero_or_pos k with h1 | h1
      · subst h1
        rw [if_pos (by decide)]
        refine Or.inr ⟨rfl, ?_, ?_, tb_0⟩
        · rw [fe_fin (by decide)]
        · rw [fe_fin (by decide)]; rfl
      · rw [if_neg (fun h9 => by rw [show (1 : Int32) = nI 1 from rfl, nI_eq (by omega) (by decide)] at h9; omega)]
        refine Or.inl ⟨rfl, by show 1 ≤ k + 1; omega, ?_⟩
        obtain ⟨k, rfl⟩ : ∃ k2, k = k2 + 1 := ⟨k - 1, by omega⟩
        refine fe_fail ?_
        unfold fX0_takes fX0_takesZero fX0_takesOne fX0_takesPlus
        have hv : (fX0_takesVariable 1 0 0 4 (X (0 + 1) - 97)).1 = 0 := by
          have h9 : ∀ x : Int32, x < 4 ∨ 3 < x := fun x => by
            rw [Int32.lt_iff_toInt_lt, Int32.lt_iff_toInt_lt]
            have e3 : (3 : Int32).toInt = 3 := rfl
            have e4 : (4 : Int32).toInt = 4 := rfl
            omega
          have := takesVariable_far (w := 1) (f := 0) (d := 0) (x := X (0 + 1) - 97) (v := 4) (h9 _)
          rw [show (4 : Int32) = nI 4 from rfl, this]
        by_cases e0 : X (0 + 1) = 48
        · rw [if_pos e0, if_neg (by decide)]
        · rw [if_neg e0]
          by_cases e1 : X (0 + 1) = 49
          · rw [if_pos e1, if_neg (by decide), if_neg (by decide)]
          · rw [if_neg e1]
            by_cases e2 : X (0 + 1) = 43
            · rw [if_pos e2, if_neg (by decide)]
            · rw [if_neg e2]
              exact hv
    · rw [if_neg h48]
      have := reads_run X hk (k + 1) 0 0 0 0 (Nat.zero_le _) (by omega) (Or.inl rfl) (fun _ _ => h48) tb_0
      rw [Nat.sub_zero] at this
      exact this
/-! Mathematics 12: method by method, the class answers as the model does. -/
theorem chkF (x : Int32) : (kX1_checkFunction x = 0 ∧ fX2_isOne x = 1 ∧ ∃ j, j < 6 ∧ x = nI j) ∨ (kX1_checkFunction x = 1 ∧ fX2_isOne x = 0) := by
  have e0 : (0 : Int32).toInt = 0 := rfl
  have e5 : (5 : Int32).toInt = 5 := rfl
  have e6 : (6 : Int32).toInt = 6 := rfl
  unfold kX1_checkFunction fX2_isOne fX2_in
  by_cases h0 : x < 0
  · rw [if_pos h0, if_pos h0]; exact Or.inr ⟨rfl, rfl⟩
  · rw [if_neg h0, if_neg h0]
    by_cases h6 : x < 6
    · have h5 : ¬ (5 : Int32) < x := by rw [Int32.lt_iff_toInt_lt] at h6 ⊢; omega
      rw [if_pos h6, if_neg h5]
      obtain ⟨j, hj, rfl⟩ := nI_of2 (x := x) (M := 5) (n := 5) rfl h0 (by rw [Int32.lt_iff_toInt_lt] at h5; rw [Int32.le_iff_toInt_le]; omega)
      exact Or.inl ⟨rfl, rfl, j, by omega, rfl⟩
    · have h5 : (5 : Int32) < x := by rw [Int32.lt_iff_toInt_lt] at h6 ⊢; omega
      rw [if_neg h6, if_pos h5]; exact Or.inr ⟨rfl, rfl⟩
theorem chkV (x : Int32) : (kX1_checkVariable x = 0 ∧ fX2_in x 0 3 = 1 ∧ ∃ j, j < 4 ∧ x = nI j) ∨ (kX1_checkVariable x = 1 ∧ fX2_in x 0 3 = 0) := by
  have e3 : (3 : Int32).toInt = 3 := rfl
  have e4 : (4 : Int32).toInt = 4 := rfl
  unfold kX1_checkVariable fX2_in
  by_cases h0 : x < 0
  · rw [if_pos h0, if_pos h0]; exact Or.inr ⟨rfl, rfl⟩
  · rw [if_neg h0, if_neg h0]
    by_cases h6 : x < 4
    · have h5 : ¬ (3 : Int32) < x := by rw [Int32.lt_iff_toInt_lt] at h6 ⊢; omega
      rw [if_pos h6, if_neg h5]
      obtain ⟨j, hj, rfl⟩ := nI_of2 (x := x) (M := 3) (n := 3) rfl h0 (by rw [Int32.lt_iff_toInt_lt] at h5; rw [Int32.le_iff_toInt_le]; omega)
      exact Or.inl ⟨rfl, rfl, j, by omega, rfl⟩
    · have h5 : (3 : Int32) < x := by rw [Int32.lt_iff_toInt_lt] at h6 ⊢; omega
      rw [if_neg h6, if_pos h5]; exact Or.inr ⟨rfl, rfl⟩
/-- lo ≤ x ≤ hi, asked in two ways -/
theorem rng2 (x lo hi hi1 : Int32) (h : ∀ y : Int32, y < hi1 ↔ ¬ hi < y) : (if x < lo then (3 : Nat) else (if x < hi1 then 0 else 3)) = if fX2_in x lo hi = 0 then 3 else 0 := by
  unfold fX2_in
  by_cases h0 : x < lo
  · rw [if_pos h0, if_pos h0, if_pos rfl]
  · rw [if_neg h0, if_neg h0]
    by_cases h1 : hi < x
    · rw [if_pos h1, if_pos rfl, if_neg (fun h9 => (h x).mp h9 h1)]
    · rw [if_neg h1, if_pos ((h x).mpr h1), if_neg (by decide)]
theorem ten {a : Int32} (h : a = 1) : ¬ a = 0 := by rw [h]; decide
theorem ten0 : ¬ (1 : Nat) = 0 := by decide
theorem nIc {j : Nat} (h : j < 2 ^ 31) : (nI j).toNatClampNeg = j := nI_clamp h
theorem i10 : ((1 : Int32) = 0) = False := eq_false (by decide)
theorem n10 : ((1 : Nat) = 0) = False := eq_false (by decide)
section M
variable {T R S : Nat → Int32} {n : Nat}
theorem tb_of_table {x : Int32} (h0 : ¬ x < 0) (h1 : x ≤ 65535) : tb x := by
  obtain ⟨j, hj, rfl⟩ := nI_of2 (x := x) (M := 65535) (n := 65535) rfl h0 h1
  exact tb_nI (by omega)
theorem in_table (x : Int32) : (fX2_in x 0 65535 = 0 ∧ (x < 0 ∨ (¬ x < 0 ∧ ¬ x ≤ 65535))) ∨ (fX2_in x 0 65535 = 1 ∧ ¬ x < 0 ∧ x ≤ 65535) := by
  unfold fX2_in
  by_cases h0 : x < 0
  · rw [if_pos h0]; exact Or.inl ⟨rfl, Or.inl h0⟩
  · rw [if_neg h0]
    by_cases h1 : (65535 : Int32) < x
    · rw [if_pos h1]; exact Or.inl ⟨rfl, Or.inr ⟨h0, fun h => by rw [Int32.le_iff_toInt_le] at h; rw [Int32.lt_iff_toInt_lt] at h1; omega⟩⟩
    · rw [if_neg h1]; exact Or.inr ⟨rfl, h0, by rw [Int32.le_iff_toInt_le]; rw [Int32.lt_iff_toInt_lt] at h1; omega⟩
theorem in_way (x : Int32) : (fX2_in x 0 3 = 0 ∧ (x < 0 ∨ (¬ x < 0 ∧ ¬ x ≤ 3))) ∨ (fX2_in x 0 3 = 1 ∧ ¬ x < 0 ∧ x ≤ 3) := by
  unfold fX2_in
  by_cases h0 : x < 0
  · rw [if_pos h0]; exact Or.inl ⟨rfl, Or.inl h0⟩
  · rw [if_neg h0]
    by_cases h1 : (3 : Int32) < x
    · rw [if_pos h1]; exact Or.inl ⟨rfl, Or.inr ⟨h0, fun h => by rw [Int32.le_iff_toInt_le] at h; rw [Int32.lt_iff_toInt_lt] at h1; omega⟩⟩
    · rw [if_neg h1]; exact Or.inr ⟨rfl, h0, by rw [Int32.le_iff_toInt_le]; rw [Int32.lt_iff_toInt_lt] at h1; omega⟩
theorem tenN {a : Nat} (h : a = 1) : ¬ a = 0 := by rw [h]; decide
theorem upd_self (f : Nat → Int32) (i : Nat) (x : Int32) : upd f i x i = x := if_pos rfl
theorem e_setTable (hT : tbs T) (hR : tbs R) (hn : n ≤ 4) (x x2 : Int32) :
    ((kX1_setTable x x2 = 0 ∧ (fX2_setTable T R n x x2).2.2.2.2 = 0 ∧ (fX1_setTable T R n x x2).1 = (fX2_setTable T R n x x2).1) ∨ (kX1_setTable x x2 = 1 ∧ (fX2_setTable T R n x x2).2.2.2.2 = 1) ∨ (kX1_setTable x x2 = 3 ∧ (fX2_setTable T R n x x2).2.2.2.2 = 2)) ∧
    ((fX2_setTable T R n x x2).2.1 = (fX1_setTable T R n x x2).2.1 ∧ (fX2_setTable T R n x x2).2.2.1 = (fX1_setTable T R n x x2).2.2.1 ∧ (fX2_setTable T R n x x2).2.2.2.1 = (fX1_setTable T R n x x2).2.2.2) ∧
    tbs (fX1_setTable T R n x x2).2.1 ∧ tbs (fX1_setTable T R n x x2).2.2.1 ∧ (fX1_setTable T R n x x2).2.2.2 ≤ 4 := by
  rcases chkF x with ⟨c0, m0, j0, hj0, hx0⟩ | ⟨c0, m0⟩
  · skip
    rcases in_table x2 with ⟨m1, c1 | ⟨c1, w1⟩⟩ | ⟨m1, c1, w1⟩
    · skip
      have a1 : kX1_setTable x x2 = 3 := by rw [kX1_setTable, if_pos c0, if_pos c1]
      have a2 : fX1_setTable T R n x x2 = (0, T, R, n) := by rw [fX1_setTable, if_pos c0, if_pos c1]
      have a3 : fX2_setTable T R n x x2 = ((fX2_fails 2).1, T, R, n, (fX2_fails 2).2) := by rw [fX2_setTable, if_neg (ten m0), if_pos m1]
      rw [a1, a2, a3]
      exact ⟨Or.inr (Or.inr (⟨rfl, rfl⟩)), ⟨rfl, rfl, rfl⟩, hT, hR, hn⟩
    · skip
      have a1 : kX1_setTable x x2 = 3 := by rw [kX1_setTable, if_pos c0, if_neg c1, if_neg w1]
      have a2 : fX1_setTable T R n x x2 = (0, T, R, n) := by rw [fX1_setTable, if_pos c0, if_neg c1, if_neg w1]
      have a3 : fX2_setTable T R n x x2 = ((fX2_fails 2).1, T, R, n, (fX2_fails 2).2) := by rw [fX2_setTable, if_neg (ten m0), if_pos m1]
      rw [a1, a2, a3]
      exact ⟨Or.inr (Or.inr (⟨rfl, rfl⟩)), ⟨rfl, rfl, rfl⟩, hT, hR, hn⟩
    · skip
      have a1 : kX1_setTable x x2 = 0 := by rw [kX1_setTable, if_pos c0, if_neg c1, if_pos w1]
      have a2 : fX1_setTable T R n x x2 = (T x.toNatClampNeg, upd T x.toNatClampNeg (x2), (fX2_records T R n).1, (fX2_records T R n).2) := by rw [fX1_setTable, if_pos c0, if_neg c1, if_pos w1, record_eq T R hn]
      have a3 : fX2_setTable T R n x x2 = (T x.toNatClampNeg, upd T x.toNatClampNeg (x2), (fX2_records T R n).1, (fX2_records T R n).2, 0) := by rw [fX2_setTable, if_neg (ten m0), if_neg (ten m1)]; rfl
      rw [a1, a2, a3]
      exact ⟨Or.inl ⟨rfl, rfl, rfl⟩, ⟨rfl, rfl, rfl⟩, upd_tbs hT _ (tb_of_table c1 w1), record_tbs hT hR n, record_n T R hn⟩
  · skip
    have a1 : kX1_setTable x x2 = 1 := by rw [kX1_setTable, if_neg (tenN c0)]; exact c0
    have a2 : fX1_setTable T R n x x2 = (0, T, R, n) := by rw [fX1_setTable, if_neg (tenN c0)]
    have a3 : fX2_setTable T R n x x2 = ((fX2_fails 1).1, T, R, n, (fX2_fails 1).2) := by rw [fX2_setTable, if_pos m0]
    rw [a1, a2, a3]
    exact ⟨Or.inr (Or.inl ⟨rfl, rfl⟩), ⟨rfl, rfl, rfl⟩, hT, hR, hn⟩
theorem e_join (hT : tbs T) (hR : tbs R) (hn : n ≤ 4) (x x2 x3 x4 : Int32) :
    ((kX1_join x x2 x3 x4 = 0 ∧ (fX2_join T R n x x2 x3 x4).2.2.2.2 = 0 ∧ (fX1_join T R n x x2 x3 x4).1 = (fX2_join T R n x x2 x3 x4).1) ∨ (kX1_join x x2 x3 x4 = 1 ∧ (fX2_join T R n x x2 x3 x4).2.2.2.2 = 1) ∨ (kX1_join x x2 x3 x4 = 3 ∧ (fX2_join T R n x x2 x3 x4).2.2.2.2 = 2)) ∧
    ((fX2_join T R n x x2 x3 x4).2.1 = (fX1_join T R n x x2 x3 x4).2.1 ∧ (fX2_join T R n x x2 x3 x4).2.2.1 = (fX1_join T R n x x2 x3 x4).2.2.1 ∧ (fX2_join T R n x x2 x3 x4).2.2.2.1 = (fX1_join T R n x x2 x3 x4).2.2.2) ∧
    tbs (fX1_join T R n x x2 x3 x4).2.1 ∧ tbs (fX1_join T R n x x2 x3 x4).2.2.1 ∧ (fX1_join T R n x x2 x3 x4).2.2.2 ≤ 4 := by
  rcases chkF x with ⟨c0, m0, j0, hj0, hx0⟩ | ⟨c0, m0⟩
  · skip
    rcases chkF x2 with ⟨c1, m1, j1, hj1, hx1⟩ | ⟨c1, m1⟩
    · skip
      rcases chkF x3 with ⟨c2, m2, j2, hj2, hx2⟩ | ⟨c2, m2⟩
      · skip
        rcases in_way x4 with ⟨m3, c3 | ⟨c3, w3⟩⟩ | ⟨m3, c3, w3⟩
        · skip
          have a1 : kX1_join x x2 x3 x4 = 3 := by rw [kX1_join, if_pos c0, if_pos c1, if_pos c2, if_pos c3]
          have a2 : fX1_join T R n x x2 x3 x4 = (0, T, R, n) := by rw [fX1_join, if_pos c0, if_pos c1, if_pos c2, if_pos c3]
          have a3 : fX2_join T R n x x2 x3 x4 = ((fX2_fails 2).1, T, R, n, (fX2_fails 2).2) := by rw [fX2_join, if_neg (ten m0), if_neg (ten m1), if_neg (ten m2), if_pos m3]
          rw [a1, a2, a3]
          exact ⟨Or.inr (Or.inr (⟨rfl, rfl⟩)), ⟨rfl, rfl, rfl⟩, hT, hR, hn⟩
        · skip
          have a1 : kX1_join x x2 x3 x4 = 3 := by rw [kX1_join, if_pos c0, if_pos c1, if_pos c2, if_neg c3, if_neg w3]
          have a2 : fX1_join T R n x x2 x3 x4 = (0, T, R, n) := by rw [fX1_join, if_pos c0, if_pos c1, if_pos c2, if_neg c3, if_neg w3]
          have a3 : fX2_join T R n x x2 x3 x4 = ((fX2_fails 2).1, T, R, n, (fX2_fails 2).2) := by rw [fX2_join, if_neg (ten m0), if_neg (ten m1), if_neg (ten m2), if_pos m3]
          rw [a1, a2, a3]
          exact ⟨Or.inr (Or.inr (⟨rfl, rfl⟩)), ⟨rfl, rfl, rfl⟩, hT, hR, hn⟩
        · skip
          have a1 : kX1_join x x2 x3 x4 = 0 := by rw [kX1_join, if_pos c0, if_pos c1, if_pos c2, if_neg c3, if_pos w3]
          have a2 : fX1_join T R n x x2 x3 x4 = (fX1_joinTables (T x2.toNatClampNeg) (T x3.toNatClampNeg) x4, upd T x.toNatClampNeg (fX1_joinTables (T x2.toNatClampNeg) (T x3.toNatClampNeg) x4), (fX2_records T R n).1, (fX2_records T R n).2) := by rw [fX1_join, if_pos c0, if_pos c1, if_pos c2, if_neg c3, if_pos w3, record_eq T R hn]
          have a3 : fX2_join T R n x x2 x3 x4 = (fX1_joinTables (T x2.toNatClampNeg) (T x3.toNatClampNeg) x4, upd T x.toNatClampNeg (fX1_joinTables (T x2.toNatClampNeg) (T x3.toNatClampNeg) x4), (fX2_records T R n).1, (fX2_records T R n).2, 0) := by rw [fX2_join, if_neg (ten m0), if_neg (ten m1), if_neg (ten m2), if_neg (ten m3)]; rfl
          rw [a1, a2, a3]
          exact ⟨Or.inl ⟨rfl, rfl, rfl⟩, ⟨rfl, rfl, rfl⟩, upd_tbs hT _ (join_tb (hT _) (hT _) _), record_tbs hT hR n, record_n T R hn⟩
      · skip
        have a1 : kX1_join x x2 x3 x4 = 1 := by rw [kX1_join, if_pos c0, if_pos c1, if_neg (tenN c2)]; exact c2
        have a2 : fX1_join T R n x x2 x3 x4 = (0, T, R, n) := by rw [fX1_join, if_pos c0, if_pos c1, if_neg (tenN c2)]
        have a3 : fX2_join T R n x x2 x3 x4 = ((fX2_fails 1).1, T, R, n, (fX2_fails 1).2) := by rw [fX2_join, if_neg (ten m0), if_neg (ten m1), if_pos m2]
        rw [a1, a2, a3]
        exact ⟨Or.inr (Or.inl ⟨rfl, rfl⟩), ⟨rfl, rfl, rfl⟩, hT, hR, hn⟩
    · skip
      have a1 : kX1_join x x2 x3 x4 = 1 := by rw [kX1_join, if_pos c0, if_neg (tenN c1)]; exact c1
      have a2 : fX1_join T R n x x2 x3 x4 = (0, T, R, n) := by rw [fX1_join, if_pos c0, if_neg (tenN c1)]
      have a3 : fX2_join T R n x x2 x3 x4 = ((fX2_fails 1).1, T, R, n, (fX2_fails 1).2) := by rw [fX2_join, if_neg (ten m0), if_pos m1]
      rw [a1, a2, a3]
      exact ⟨Or.inr (Or.inl ⟨rfl, rfl⟩), ⟨rfl, rfl, rfl⟩, hT, hR, hn⟩
  · skip
    have a1 : kX1_join x x2 x3 x4 = 1 := by rw [kX1_join, if_neg (tenN c0)]; exact c0
    have a2 : fX1_join T R n x x2 x3 x4 = (0, T, R, n) := by rw [fX1_join, if_neg (tenN c0)]
    have a3 : fX2_join T R n x x2 x3 x4 = ((fX2_fails 1).1, T, R, n, (fX2_fails 1).2) := by rw [fX2_join, if_pos m0]
    rw [a1, a2, a3]
    exact ⟨Or.inr (Or.inl ⟨rfl, rfl⟩), ⟨rfl, rfl, rfl⟩, hT, hR, hn⟩
theorem e_fix (hT : tbs T) (hR : tbs R) (hn : n ≤ 4) (x x2 x3 : Int32) :
    ((kX1_fix x x2 = 0 ∧ (fX2_fix T R n x x2 x3).2.2.2.2 = 0 ∧ (fX1_fix T R n x x2 x3).1 = (fX2_fix T R n x x2 x3).1) ∨ (kX1_fix x x2 = 1 ∧ (fX2_fix T R n x x2 x3).2.2.2.2 = 1)) ∧
    ((fX2_fix T R n x x2 x3).2.1 = (fX1_fix T R n x x2 x3).2.1 ∧ (fX2_fix T R n x x2 x3).2.2.1 = (fX1_fix T R n x x2 x3).2.2.1 ∧ (fX2_fix T R n x x2 x3).2.2.2.1 = (fX1_fix T R n x x2 x3).2.2.2) ∧
    tbs (fX1_fix T R n x x2 x3).2.1 ∧ tbs (fX1_fix T R n x x2 x3).2.2.1 ∧ (fX1_fix T R n x x2 x3).2.2.2 ≤ 4 := by
  rcases chkF x with ⟨c0, m0, j0, hj0, hx0⟩ | ⟨c0, m0⟩
  · skip
    rcases chkV x2 with ⟨c1, m1, v, hv, hx1⟩ | ⟨c1, m1⟩
    · skip
      subst hx1
      have hf := fix_eq T x (hT _) hv x3
      have a1 : kX1_fix x (nI v) = 0 := by rw [kX1_fix, if_pos c0, if_pos c1]
      have a2 : fX1_fix T R n x (nI v) x3 = (lp (sX2_fix_33 T x (nI v) x3) 16 0 0, upd T x.toNatClampNeg (lp (sX2_fix_33 T x (nI v) x3) 16 0 0), (fX2_records T R n).1, (fX2_records T R n).2) := by rw [fX1_fix, if_pos c0, if_pos c1, record_eq T R hn, hf.2, upd_self]
      have a3 : fX2_fix T R n x (nI v) x3 = (lp (sX2_fix_33 T x (nI v) x3) 16 0 0, upd T x.toNatClampNeg (lp (sX2_fix_33 T x (nI v) x3) 16 0 0), (fX2_records T R n).1, (fX2_records T R n).2, 0) := by rw [fX2_fix, if_neg (ten m0), if_neg (ten m1)]; rfl
      rw [a1, a2, a3]
      exact ⟨Or.inl ⟨rfl, rfl, rfl⟩, ⟨rfl, rfl, rfl⟩, upd_tbs hT _ (hf.1), record_tbs hT hR n, record_n T R hn⟩
    · skip
      have a1 : kX1_fix x x2 = 1 := by rw [kX1_fix, if_pos c0, if_neg (tenN c1)]; exact c1
      have a2 : fX1_fix T R n x x2 x3 = (0, T, R, n) := by rw [fX1_fix, if_pos c0, if_neg (tenN c1)]
      have a3 : fX2_fix T R n x x2 x3 = ((fX2_fails 1).1, T, R, n, (fX2_fails 1).2) := by rw [fX2_fix, if_neg (ten m0), if_pos m1]
      rw [a1, a2, a3]
      exact ⟨Or.inr (⟨rfl, rfl⟩), ⟨rfl, rfl, rfl⟩, hT, hR, hn⟩
  · skip
    have a1 : kX1_fix x x2 = 1 := by rw [kX1_fix, if_neg (tenN c0)]; exact c0
    have a2 : fX1_fix T R n x x2 x3 = (0, T, R, n) := by rw [fX1_fix, if_neg (tenN c0)]
    have a3 : fX2_fix T R n x x2 x3 = ((fX2_fails 1).1, T, R, n, (fX2_fails 1).2) := by rw [fX2_fix, if_pos m0]
    rw [a1, a2, a3]
    exact ⟨Or.inr (⟨rfl, rfl⟩), ⟨rfl, rfl, rfl⟩, hT, hR, hn⟩
theorem e_substitute (hT : tbs T) (hR : tbs R) (hn : n ≤ 4) (x x2 x3 : Int32) :
    ((kX1_substitute x x2 x3 = 0 ∧ (fX2_substitute T R n x x2 x3).2.2.2.2 = 0 ∧ (fX1_substitute T R n x x2 x3).1 = (fX2_substitute T R n x x2 x3).1) ∨ (kX1_substitute x x2 x3 = 1 ∧ (fX2_substitute T R n x x2 x3).2.2.2.2 = 1)) ∧
    ((fX2_substitute T R n x x2 x3).2.1 = (fX1_substitute T R n x x2 x3).2.1 ∧ (fX2_substitute T R n x x2 x3).2.2.1 = (fX1_substitute T R n x x2 x3).2.2.1 ∧ (fX2_substitute T R n x x2 x3).2.2.2.1 = (fX1_substitute T R n x x2 x3).2.2.2) ∧
    tbs (fX1_substitute T R n x x2 x3).2.1 ∧ tbs (fX1_substitute T R n x x2 x3).2.2.1 ∧ (fX1_substitute T R n x x2 x3).2.2.2 ≤ 4 := by
  rcases chkF x with ⟨c0, m0, j0, hj0, hx0⟩ | ⟨c0, m0⟩
  · skip
    rcases chkV x2 with ⟨c1, m1, v, hv, hx1⟩ | ⟨c1, m1⟩
    · skip
      rcases chkF x3 with ⟨c2, m2, j2, hj2, hx2⟩ | ⟨c2, m2⟩
      · skip
        subst hx1
        have hf := substitute_eq T x x3 (hT _) (hT _) hv
        have a1 : kX1_substitute x (nI v) x3 = 0 := by rw [kX1_substitute, if_pos c0, if_pos c1, if_pos c2]
        have a2 : fX1_substitute T R n x (nI v) x3 = (lp (sX2_substitute_40 T x (nI v) x3) 16 0 0, upd T x.toNatClampNeg (lp (sX2_substitute_40 T x (nI v) x3) 16 0 0), (fX2_records T R n).1, (fX2_records T R n).2) := by rw [fX1_substitute, if_pos c0, if_pos c1, if_pos c2, record_eq T R hn, hf.2, upd_self]
        have a3 : fX2_substitute T R n x (nI v) x3 = (lp (sX2_substitute_40 T x (nI v) x3) 16 0 0, upd T x.toNatClampNeg (lp (sX2_substitute_40 T x (nI v) x3) 16 0 0), (fX2_records T R n).1, (fX2_records T R n).2, 0) := by rw [fX2_substitute, if_neg (ten m0), if_neg (ten m1), if_neg (ten m2)]; rfl
        rw [a1, a2, a3]
        exact ⟨Or.inl ⟨rfl, rfl, rfl⟩, ⟨rfl, rfl, rfl⟩, upd_tbs hT _ (hf.1), record_tbs hT hR n, record_n T R hn⟩
      · skip
        have a1 : kX1_substitute x x2 x3 = 1 := by rw [kX1_substitute, if_pos c0, if_pos c1, if_neg (tenN c2)]; exact c2
        have a2 : fX1_substitute T R n x x2 x3 = (0, T, R, n) := by rw [fX1_substitute, if_pos c0, if_pos c1, if_neg (tenN c2)]
        have a3 : fX2_substitute T R n x x2 x3 = ((fX2_fails 1).1, T, R, n, (fX2_fails 1).2) := by rw [fX2_substitute, if_neg (ten m0), if_neg (ten m1), if_pos m2]
        rw [a1, a2, a3]
        exact ⟨Or.inr (⟨rfl, rfl⟩), ⟨rfl, rfl, rfl⟩, hT, hR, hn⟩
    · skip
      have a1 : kX1_substitute x x2 x3 = 1 := by rw [kX1_substitute, if_pos c0, if_neg (tenN c1)]; exact c1
      have a2 : fX1_substitute T R n x x2 x3 = (0, T, R, n) := by rw [fX1_substitute, if_pos c0, if_neg (tenN c1)]
      have a3 : fX2_substitute T R n x x2 x3 = ((fX2_fails 1).1, T, R, n, (fX2_fails 1).2) := by rw [fX2_substitute, if_neg (ten m0), if_pos m1]
      rw [a1, a2, a3]
      exact ⟨Or.inr (⟨rfl, rfl⟩), ⟨rfl, rfl, rfl⟩, hT, hR, hn⟩
  · skip
    have a1 : kX1_substitute x x2 x3 = 1 := by rw [kX1_substitute, if_neg (tenN c0)]; exact c0
    have a2 : fX1_substitute T R n x x2 x3 = (0, T, R, n) := by rw [fX1_substitute, if_neg (tenN c0)]
    have a3 : fX2_substitute T R n x x2 x3 = ((fX2_fails 1).1, T, R, n, (fX2_fails 1).2) := by rw [fX2_substitute, if_pos m0]
    rw [a1, a2, a3]
    exact ⟨Or.inr (⟨rfl, rfl⟩), ⟨rfl, rfl, rfl⟩, hT, hR, hn⟩
end M
/-! Mathematics 13: method by method, the rest. -/
section M
variable {T R S : Nat → Int32} {n : Nat}
theorem valid_cases (X : Nat → Int32) {k : Nat} (hk : k ≤ 80) :
    ((fX2_reads X k).1 = 0 ∧ (fX2_reads X k).2.1 ≤ k ∧ (fX0_firstError X k).1 = nI (fX2_reads X k).2.1 ∧ ¬ (fX0_firstError X k).1 = -1 ∧ kX1_validTextProducts X k = 2) ∨
    ((fX2_reads X k).1 = 1 ∧ (fX0_firstError X k).1 = -1 ∧ (fX1_validTextProducts X k).1 = (fX2_reads X k).2.2 ∧ tb (fX2_reads X k).2.2 ∧ kX1_validTextProducts X k = 0) := by
  rcases reads_first X hk with ⟨h1, h2, h3⟩ | ⟨h1, h2, h3, h4⟩
  · have hne : ¬ (fX0_firstError X k).1 = -1 := by
      rw [h3]
      intro h
      have := congrArg Int32.toInt h
      rw [nI_toInt (by omega)] at this
      have e : (-1 : Int32).toInt = -1 := rfl
      omega
    exact Or.inl ⟨h1, h2, h3, hne, by rw [kX1_validTextProducts, if_neg hne]⟩
  · refine Or.inr ⟨h1, h2, ?_, h4, by rw [kX1_validTextProducts, if_pos h2]⟩
    rw [fX1_validTextProducts, if_pos h2]
    exact h3
theorem ten2 {a : Nat} (h : a = 2) : ¬ a = 0 := by rw [h]; decide
theorem e_define (hT : tbs T) (hR : tbs R) (hn : n ≤ 4) (X : Nat → Int32) {k : Nat} (hk : k ≤ 80) (w f d v : Int32) (a : Nat) (o x : Int32) :
    ((kX1_define X k x = 0 ∧ (fX2_define T R X n k a o x).2.2.2.2.1 = 0 ∧ (fX1_define T R X n k w f d v x).1 = (fX2_define T R X n k a o x).1) ∨ (kX1_define X k x = 1 ∧ (fX2_define T R X n k a o x).2.2.2.2.1 = 1) ∨ (kX1_define X k x = 2 ∧ (fX2_define T R X n k a o x).2.2.2.2.1 = 2)) ∧
    ((fX2_define T R X n k a o x).2.1 = (fX1_define T R X n k w f d v x).2.1 ∧ (fX2_define T R X n k a o x).2.2.1 = (fX1_define T R X n k w f d v x).2.2.1 ∧ (fX2_define T R X n k a o x).2.2.2.1 = (fX1_define T R X n k w f d v x).2.2.2.1) ∧
    tbs (fX1_define T R X n k w f d v x).2.1 ∧ tbs (fX1_define T R X n k w f d v x).2.2.1 ∧ (fX1_define T R X n k w f d v x).2.2.2.1 ≤ 4 := by
  rcases chkF x with ⟨h1, h2, j, hj, hx⟩ | ⟨h1, h2⟩
  · rcases valid_cases X hk with ⟨v1, v2, v3, v4, v5⟩ | ⟨v1, v2, v3, v4, v5⟩
    · have a1 : kX1_define X k x = 2 := by rw [kX1_define, if_pos h1, if_neg (ten2 v5)]; exact v5
      have a2 : (fX1_define T R X n k w f d v x) = (0, T, R, n, (fX1_validTextProducts X k).2.1, (fX1_validTextProducts X k).2.2.1, (fX1_validTextProducts X k).2.2.2.1, (fX1_validTextProducts X k).2.2.2.2) := by rw [fX1_define, if_pos h1, if_neg (ten2 v5)]
      have a3 : (fX2_define T R X n k a o x) = ((fX2_fails 2).1, T, R, n, (fX2_fails 2).2, ((fX2_reads X k).2.1), (fX2_reads X k).2.2) := by rw [fX2_define, if_neg (ten h2), if_pos v1]
      rw [a1, a2, a3]
      exact ⟨Or.inr (Or.inr ⟨rfl, rfl⟩), ⟨rfl, rfl, rfl⟩, hT, hR, hn⟩
    · have a1 : kX1_define X k x = 0 := by rw [kX1_define, if_pos h1, if_pos v5]
      have a2 : (fX1_define T R X n k w f d v x) = (fX2_bits (fX2_reads X k).2.2, upd T x.toNatClampNeg (fX2_turned (fX2_reads X k).2.2), (fX2_records T R n).1, (fX2_records T R n).2, (fX1_validTextProducts X k).2.1, (fX1_validTextProducts X k).2.2.1, (fX1_validTextProducts X k).2.2.2.1, (fX1_validTextProducts X k).2.2.2.2) := by rw [fX1_define, if_pos h1, if_pos v5, v3, bitCount_tb v4, addHalves_turned v4, record_eq T R hn]
      have a3 : (fX2_define T R X n k a o x) = (fX2_bits (fX2_reads X k).2.2, upd T x.toNatClampNeg (fX2_turned (fX2_reads X k).2.2), (fX2_records T R n).1, (fX2_records T R n).2, 0, ((fX2_reads X k).2.1), (fX2_reads X k).2.2) := by rw [fX2_define, if_neg (ten h2), if_neg (ten v1)]; rfl
      rw [a1, a2, a3]
      exact ⟨Or.inl ⟨rfl, rfl, rfl⟩, ⟨rfl, rfl, rfl⟩, upd_tbs hT _ (turned_bits _).1, record_tbs hT hR n, record_n T R hn⟩
  · have a1 : kX1_define X k x = 1 := by rw [kX1_define, if_neg (tenN h1)]; exact h1
    have a2 : (fX1_define T R X n k w f d v x) = (0, T, R, n, w, f, d, v) := by rw [fX1_define, if_neg (tenN h1)]
    have a3 : (fX2_define T R X n k a o x) = ((fX2_fails 1).1, T, R, n, (fX2_fails 1).2, a, o) := by rw [fX2_define, if_pos h2]
    rw [a1, a2, a3]
    exact ⟨Or.inr (Or.inl ⟨rfl, rfl⟩), ⟨rfl, rfl, rfl⟩, hT, hR, hn⟩
theorem e_type (X : Nat → Int32) {k : Nat} (hk : k ≤ 80) (x : Int32) :
    ((kX1_type k = 0 ∧ (fX2_type X k x).2.2.2 = 0 ∧ (fX1_type X k x).1 = (fX2_type X k x).1) ∨ (kX1_type k = 2 ∧ (fX2_type X k x).2.2.2 = 1)) ∧
    ((fX2_type X k x).2.1 = (fX1_type X k x).2.1 ∧ (fX2_type X k x).2.2.1 = (fX1_type X k x).2.2) ∧ (fX1_type X k x).2.2 ≤ 80 := by
  have e80 : (80 : Int32) = nI 80 := rfl
  by_cases h : k = 80
  · subst h
    have a1 : kX1_type 80 = 2 := rfl
    have a2 : fX1_type X 80 x = (0, X, 80) := rfl
    have a3 : fX2_type X 80 x = (0, X, 80, 1) := rfl
    rw [a1, a2, a3]
    exact ⟨Or.inr ⟨rfl, rfl⟩, ⟨rfl, rfl⟩, Nat.le_refl 80⟩
  · have h1 : nI k < 80 := nI_lt (a := k) (b := 80) (by omega) (by decide)
    have h2 : ¬ nI k = 80 := fun h9 => by rw [e80, nI_eq (by omega) (by decide)] at h9; exact h h9
    have a1 : kX1_type k = 0 := by rw [kX1_type, if_pos h1]
    have a2 : fX1_type X k x = (nI (k + 1), upd X k x, k + 1) := by rw [fX1_type, if_pos h1]
    have a3 : fX2_type X k x = (nI (k + 1), upd X k x, k + 1, 0) := by rw [fX2_type, if_neg h2]
    rw [a1, a2, a3]
    exact ⟨Or.inl ⟨rfl, rfl, rfl⟩, ⟨rfl, rfl⟩, by show k + 1 ≤ 80; omega⟩
theorem e_textError (X : Nat → Int32) {k : Nat} (hk : k ≤ 80) : (fX1_textError X k).1 = (fX2_textError X k).1 ∧ (fX2_textError X k).2.1 = 0 := by
  rcases valid_cases X hk with ⟨v1, v2, v3, v4, v5⟩ | ⟨v1, v2, v3, v4, v5⟩
  · rw [fX1_textError, fX2_textError, if_pos v1]
    exact ⟨v3, rfl⟩
  · rw [fX1_textError, fX2_textError, if_neg (ten v1)]
    exact ⟨v2, rfl⟩
theorem e_textProducts (X : Nat → Int32) {k : Nat} (hk : k ≤ 80) : (kX1_textProducts X k = 0 ∧ (fX2_textProducts X k).2.1 = 0 ∧ (fX1_textProducts X k).1 = (fX2_textProducts X k).1) ∨ (kX1_textProducts X k = 2 ∧ (fX2_textProducts X k).2.1 = 1) := by
  rcases valid_cases X hk with ⟨v1, v2, v3, v4, v5⟩ | ⟨v1, v2, v3, v4, v5⟩
  · rw [kX1_textProducts, fX1_textProducts, fX2_textProducts, if_pos v1, if_neg (ten2 v5), if_neg (ten2 v5)]
    exact Or.inr ⟨v5, rfl⟩
  · rw [kX1_textProducts, fX1_textProducts, fX2_textProducts, if_neg (ten v1), if_pos v5, if_pos v5]
    exact Or.inl ⟨rfl, rfl, v3⟩
theorem e_undo (hT : tbs T) (hR : tbs R) (hn : n ≤ 4) :
    ((kX1_undo n = 0 ∧ (fX2_undo T R n).2.2.2 = 0 ∧ (fX1_undo T R n).1 = (fX2_undo T R n).1) ∨ (kX1_undo n = 2 ∧ (fX2_undo T R n).2.2.2 = 1)) ∧
    ((fX2_undo T R n).2.1 = (fX1_undo T R n).2.1 ∧ (fX2_undo T R n).2.2.1 = (fX1_undo T R n).2.2) ∧ tbs (fX1_undo T R n).2.1 ∧ (fX1_undo T R n).2.2 ≤ 4 := by
  by_cases h : n = 0
  · subst h
    have a1 : kX1_undo 0 = 2 := rfl
    have a2 : fX1_undo T R 0 = (0, T, 0) := rfl
    have a3 : fX2_undo T R 0 = (0, T, 0, 1) := rfl
    rw [a1, a2, a3]
    exact ⟨Or.inr ⟨rfl, rfl⟩, ⟨rfl, rfl⟩, hT, Nat.zero_le _⟩
  · have h1 : 0 < nI n := nI_lt (a := 0) (b := n) (by omega) (by omega)
    have h2 : ¬ nI n = 0 := nI_ne0 (by omega) (by omega)
    have a1 : kX1_undo n = 0 := by rw [kX1_undo, if_pos h1]
    have a2 : fX1_undo T R n = (nI (n - 1), va_cpy R T (6 * (n - 1)) 0 6, n - 1) := by rw [fX1_undo, if_pos h1, Nat.mul_comm]
    have a3 : fX2_undo T R n = (nI (n - 1), va_cpy R T (6 * (n - 1)) 0 6, n - 1, 0) := by rw [fX2_undo, if_neg h2, copies_eq]
    rw [a1, a2, a3]
    exact ⟨Or.inl ⟨rfl, rfl, rfl⟩, ⟨rfl, rfl⟩, cpy_tbs hR hT _ _ _, by show n - 1 ≤ 4; omega⟩
theorem e_takeSnapshot (hT : tbs T) (hS : tbs S) :
    (fX1_takeSnapshot T S).1 = (fX2_takeSnapshot T S).1 ∧ (fX2_takeSnapshot T S).2.1 = (fX1_takeSnapshot T S).2.1 ∧ (fX2_takeSnapshot T S).2.2.1 = (fX1_takeSnapshot T S).2.2 ∧ (fX2_takeSnapshot T S).2.2.2 = 0 ∧ tbs (fX1_takeSnapshot T S).2.1 := by
  rw [fX1_takeSnapshot, fX2_takeSnapshot, copies_eq]
  exact ⟨count_eq hT, rfl, rfl, rfl, cpy_tbs hT hS _ _ _⟩
theorem e_restoreSnapshot (hT : tbs T) (hR : tbs R) (hS : tbs S) (hn : n ≤ 4) (h : Int32) :
    ((kX1_restoreSnapshot h = 0 ∧ (fX2_restoreSnapshot T R S n h).2.2.2.2 = 0 ∧ (fX1_restoreSnapshot T R S n h).1 = (fX2_restoreSnapshot T R S n h).1) ∨ (kX1_restoreSnapshot h = 2 ∧ (fX2_restoreSnapshot T R S n h).2.2.2.2 = 1)) ∧
    ((fX2_restoreSnapshot T R S n h).2.1 = (fX1_restoreSnapshot T R S n h).2.1 ∧ (fX2_restoreSnapshot T R S n h).2.2.1 = (fX1_restoreSnapshot T R S n h).2.2.1 ∧ (fX2_restoreSnapshot T R S n h).2.2.2.1 = (fX1_restoreSnapshot T R S n h).2.2.2) ∧
    tbs (fX1_restoreSnapshot T R S n h).2.1 ∧ tbs (fX1_restoreSnapshot T R S n h).2.2.1 ∧ (fX1_restoreSnapshot T R S n h).2.2.2 ≤ 4 := by
  by_cases h0 : h = 0
  · rw [kX1_restoreSnapshot, fX1_restoreSnapshot, fX2_restoreSnapshot, if_pos h0, if_pos h0, if_pos h0]
    exact ⟨Or.inr ⟨rfl, rfl⟩, ⟨rfl, rfl, rfl⟩, hT, hR, hn⟩
  · rw [kX1_restoreSnapshot, fX1_restoreSnapshot, fX2_restoreSnapshot, if_neg h0, if_neg h0, if_neg h0, copies_eq, record_eq T R hn]
    have hc := cpy_tbs hS hT 0 0 6
    exact ⟨Or.inl ⟨rfl, rfl, count_eq hc⟩, ⟨rfl, rfl, rfl⟩, hc, record_tbs hT hR n, record_n T R hn⟩
/-! questions -/
theorem is_0 {x : Int32} (h : fX2_isOne x = 0) : fX2_is x = (0, 1) := by rw [fX2_is, if_pos h]
theorem is_1 {x : Int32} (h : fX2_isOne x = 1) : fX2_is x = (1, 0) := by rw [fX2_is, if_neg (ten h)]
theorem e_ask (T : Nat → Int32) (x : Int32) (V W : Int32) (hV : V = W) (c : Int32) (kc : Nat) (m : Int32 × Int32)
    (hc : c = if kX1_checkFunction x = 0 then V else 0) (hk : kc = if kX1_checkFunction x = 0 then 0 else kX1_checkFunction x) (hm : m = if (fX2_is x).1 = 0 then (0, (fX2_is x).2) else (W, (fX2_is x).2)) :
    (kc = 0 ∧ m.2 = 0 ∧ c = m.1) ∨ (kc = 1 ∧ m.2 = 1) := by
  subst hc hk hm
  rcases chkF x with ⟨h1, h2, j, hj, hx⟩ | ⟨h1, h2⟩
  · rw [if_pos h1, if_pos h1, is_1 h2, hV]
    exact Or.inl ⟨rfl, rfl, rfl⟩
  · rw [if_neg (tenN h1), is_0 h2]
    exact Or.inr ⟨h1, rfl⟩
theorem e_tableOf (T : Nat → Int32) (x : Int32) : (kX1_tableOf x = 0 ∧ (fX2_tableOf T x).2 = 0 ∧ fX1_tableOf T x = (fX2_tableOf T x).1) ∨ (kX1_tableOf x = 1 ∧ (fX2_tableOf T x).2 = 1) :=
  e_ask T x (T x.toNatClampNeg) _ rfl _ _ _ rfl rfl rfl
theorem e_weightOf (hT : tbs T) (x : Int32) : (kX1_weightOf x = 0 ∧ (fX2_weightOf T x).2 = 0 ∧ fX1_weightOf T x = (fX2_weightOf T x).1) ∨ (kX1_weightOf x = 1 ∧ (fX2_weightOf T x).2 = 1) :=
  e_ask T x (fJ6_bitCount_0f7a4 (T x.toNatClampNeg)) (fX2_bits (T x.toNatClampNeg)) (bitCount_tb (hT _)) _ _ _ (by rw [fX1_weightOf]) (by rw [kX1_weightOf]) (by rw [fX2_weightOf])
theorem e_productsByHalves (hT : tbs T) (x : Int32) : (kX1_productsByHalves x = 0 ∧ (fX2_productsByHalves T x).2 = 0 ∧ fX1_productsByHalves T x = (fX2_productsByHalves T x).1) ∨ (kX1_productsByHalves x = 1 ∧ (fX2_productsByHalves T x).2 = 1) :=
  e_ask T x (fX1_addHalves (T x.toNatClampNeg)) (fX2_turned (T x.toNatClampNeg)) (addHalves_turned (hT _)) _ _ _ (by rw [fX1_productsByHalves]) (by rw [kX1_productsByHalves]) (by rw [fX2_productsByHalves])
theorem e_productsBySums (T : Nat → Int32) (x : Int32) : (kX1_productsBySums x = 0 ∧ (fX2_productsBySums T x).2 = 0 ∧ fX1_productsBySums T x = (fX2_productsBySums T x).1) ∨ (kX1_productsBySums x = 1 ∧ (fX2_productsBySums T x).2 = 1) :=
  e_ask T x (lp (sX1_productsBySums_8 T x) 16 0 0) (fX2_turned (T x.toNatClampNeg)) (bySums_eq (T x.toNatClampNeg) (sX1_productsBySums_8 T x) (fun j a _ => by rw [sX1_productsBySums_8])) _ _ _ (by rw [fX1_productsBySums]) (by rw [kX1_productsBySums]) (by rw [fX2_productsBySums])
theorem e_degreeOf (hT : tbs T) (x : Int32) : (kX1_degreeOf x = 0 ∧ (fX2_degreeOf T x).2 = 0 ∧ fX1_degreeOf T x = (fX2_degreeOf T x).1) ∨ (kX1_degreeOf x = 1 ∧ (fX2_degreeOf T x).2 = 1) :=
  e_ask T x (fX1_degree (T x.toNatClampNeg)) (fX2_degree (T x.toNatClampNeg)) (degree_eq (hT _)) _ _ _ (by rw [fX1_degreeOf]) (by rw [kX1_degreeOf]) (by rw [fX2_degreeOf])
theorem e_distanceByTrying (hT : tbs T) (x : Int32) : (kX1_distanceByTrying x = 0 ∧ (fX2_distanceByTrying T x).2 = 0 ∧ fX1_distanceByTrying T x = (fX2_distanceByTrying T x).1) ∨ (kX1_distanceByTrying x = 1 ∧ (fX2_distanceByTrying T x).2 = 1) :=
  e_ask T x (lp (sX1_distanceByTrying_9 T x) 32 0 16) (fX2_distance (T x.toNatClampNeg)) (trying_eq (hT _) (sX1_distanceByTrying_9 T x) (fun j a => by rw [sX1_distanceByTrying_9])) _ _ _ (by rw [fX1_distanceByTrying]) (by rw [kX1_distanceByTrying]) (by rw [fX2_distanceByTrying])
theorem e_distanceBySums (T M : Nat → Int32) (x : Int32) : (kX1_distanceBySums x = 0 ∧ (fX2_distanceBySums T x).2 = 0 ∧ (fX1_distanceBySums T M x).1 = (fX2_distanceBySums T x).1) ∨ (kX1_distanceBySums x = 1 ∧ (fX2_distanceBySums T x).2 = 1) :=
  e_ask T x _ (fX2_distance (T x.toNatClampNeg)) (bySums_distance T M x) _ _ _ (by rw [fX1_distanceBySums]; split <;> rfl) (by rw [kX1_distanceBySums]) (by rw [fX2_distanceBySums])
theorem ite01 (c : Int32) (h : c = 0 ∨ c = 1) (y : Int32) : (if c = 0 then ((0 : Int32), y) else (1, y)) = (c, y) := by
  rcases h with h | h <;> rw [h] <;> rfl
theorem bI_01 (b : Bool) : bI b = 0 ∨ bI b = 1 := by cases b <;> decide
theorem e_isSelfDual (T : Nat → Int32) (x : Int32) : (kX1_isSelfDual x = 0 ∧ (fX2_isSelfDual T x).2 = 0 ∧ fX1_isSelfDual T x = (fX2_isSelfDual T x).1) ∨ (kX1_isSelfDual x = 1 ∧ (fX2_isSelfDual T x).2 = 1) :=
  e_ask T x (fX1_hasOppositeEnds (T x.toNatClampNeg)) (fX2_selfDual (T x.toNatClampNeg)) (opposite_eq _) _ _ _ (by rw [fX1_isSelfDual]) (by rw [kX1_isSelfDual]) (by rw [fX2_isSelfDual, ite01 _ (by rw [selfDual_al]; exact bI_01 _)])
theorem e_isMonotone (hT : tbs T) (x : Int32) : (kX1_isMonotone x = 0 ∧ (fX2_isMonotone T x).2 = 0 ∧ fX1_isMonotone T x = (fX2_isMonotone T x).1) ∨ (kX1_isMonotone x = 1 ∧ (fX2_isMonotone T x).2 = 1) :=
  e_ask T x (fX1_neverFalls (T x.toNatClampNeg)) (fX2_monotone (T x.toNatClampNeg)) (never_eq (hT _)) _ _ _ (by rw [fX1_isMonotone]) (by rw [kX1_isMonotone]) (by rw [fX2_isMonotone, ite01 _ (by rw [monotone_al]; exact bI_01 _)])
theorem e_printedLength (hT : tbs T) (P : Nat → Int32) (z : Nat) (x : Int32) : (kX1_printedLength x = 0 ∧ (fX2_printedLength T x).2 = 0 ∧ (fX1_printedLength T P z x).1 = (fX2_printedLength T x).1) ∨ (kX1_printedLength x = 1 ∧ (fX2_printedLength T x).2 = 1) :=
  e_ask T x (nI (fX1_print P (fX1_addHalves (T x.toNatClampNeg))).2) (fX2_printed (fX2_turned (T x.toNatClampNeg))) (by rw [addHalves_turned (hT _)]; exact printedLength_eq P (turned_bits _).1) _ _ _ (by rw [fX1_printedLength]; split <;> rfl) (by rw [kX1_printedLength]) (by rw [fX2_printedLength])
theorem in_point (x : Int32) : (fX2_in x 0 15 = 0 ∧ (x < 0 ∨ (¬ x < 0 ∧ ¬ x < 16))) ∨ (fX2_in x 0 15 = 1 ∧ ¬ x < 0 ∧ x < 16) := by
  have e15 : (15 : Int32).toInt = 15 := rfl
  have e16 : (16 : Int32).toInt = 16 := rfl
  unfold fX2_in
  by_cases h0 : x < 0
  · rw [if_pos h0]; exact Or.inl ⟨rfl, Or.inl h0⟩
  · rw [if_neg h0]
    by_cases h1 : (15 : Int32) < x
    · rw [if_pos h1]; exact Or.inl ⟨rfl, Or.inr ⟨h0, fun h => by rw [Int32.lt_iff_toInt_lt] at h h1; omega⟩⟩
    · rw [if_neg h1]; exact Or.inr ⟨rfl, h0, by rw [Int32.lt_iff_toInt_lt] at h1 ⊢; omega⟩
theorem e_valueAt (T : Nat → Int32) (x x2 : Int32) : (kX1_valueAt x x2 = 0 ∧ (fX2_valueAt T x x2).2 = 0 ∧ fX1_valueAt T x x2 = (fX2_valueAt T x x2).1) ∨ (kX1_valueAt x x2 = 1 ∧ (fX2_valueAt T x x2).2 = 1) := by
  rcases chkF x with ⟨h1, h2, j, hj, hx⟩ | ⟨h1, h2⟩
  · rcases in_point x2 with ⟨h3, h4 | ⟨h4, h5⟩⟩ | ⟨h3, h4, h5⟩
    · have a1 : kX1_valueAt x x2 = 1 := by rw [kX1_valueAt, if_pos h1, if_pos h4]
      have a3 : fX2_valueAt T x x2 = (0, 1) := by rw [fX2_valueAt, if_neg (ten h2), if_pos h3]
      rw [a1, a3]; exact Or.inr ⟨rfl, rfl⟩
    · have a1 : kX1_valueAt x x2 = 1 := by rw [kX1_valueAt, if_pos h1, if_neg h4, if_neg h5]
      have a3 : fX2_valueAt T x x2 = (0, 1) := by rw [fX2_valueAt, if_neg (ten h2), if_pos h3]
      rw [a1, a3]; exact Or.inr ⟨rfl, rfl⟩
    · have a1 : kX1_valueAt x x2 = 0 := by rw [kX1_valueAt, if_pos h1, if_neg h4, if_pos h5]
      have a2 : fX1_valueAt T x x2 = fX1_bit (T x.toNatClampNeg) x2 := by rw [fX1_valueAt, if_pos h1, if_neg h4, if_pos h5]
      have a3 : fX2_valueAt T x x2 = (fX1_bit (T x.toNatClampNeg) x2, 0) := by rw [fX2_valueAt, if_neg (ten h2), if_neg (ten h3), fX1_bit]
      rw [a1, a2, a3]; exact Or.inl ⟨rfl, rfl, rfl⟩
  · have a1 : kX1_valueAt x x2 = 1 := by rw [kX1_valueAt, if_neg (tenN h1)]; exact h1
    have a3 : fX2_valueAt T x x2 = (0, 1) := by rw [fX2_valueAt, if_pos h2]
    rw [a1, a3]; exact Or.inr ⟨rfl, rfl⟩
theorem tail_fail {T : Nat → Int32} {x x2 : Int32} (h : (if (fX2_isOne x) = 0 then 1 else (if (fX2_in x2 0 3) = 0 then 1 else 0) : Int32) = 1) : fX2_dependsOn T x x2 = (0, 1) := by
  unfold fX2_dependsOn
  rw [tX2_dependsOn_30, h, if_neg (by decide)]
def dpf (T : Nat → Int32) (x x2 : Int32) (j : Nat) (a : Int32) : Int32 := (if a = 0 then (if (fX2_valueWith T x (nI j) x2 0) = (fX2_valueWith T x (nI j) x2 1) then 0 else 1) else 1 : Int32)
theorem tail_ok {T : Nat → Int32} {x x2 : Int32} (h : (if (fX2_isOne x) = 0 then 1 else (if (fX2_in x2 0 3) = 0 then 1 else 0) : Int32) = 0) : ∀ n i a, tX2_dependsOn_30 T x x2 n i a = (lp (dpf T x x2) n i a, 0)
  | 0, i, a => by rw [tX2_dependsOn_30, h]; rfl
  | n + 1, i, a => by rw [tX2_dependsOn_30, h, if_pos rfl, tail_ok h n (i + 1)]; rfl
theorem e_dependsOn (hT : tbs T) (x x2 : Int32) : (kX1_dependsOn T x x2 = 0 ∧ (fX2_dependsOn T x x2).2 = 0 ∧ fX1_dependsOn T x x2 = (fX2_dependsOn T x x2).1) ∨ (kX1_dependsOn T x x2 = 1 ∧ (fX2_dependsOn T x x2).2 = 1) := by
  rcases chkF x with ⟨h1, h2, j, hj, hx⟩ | ⟨h1, h2⟩
  · rcases chkV x2 with ⟨h3, h4, v, hv, hx2⟩ | ⟨h3, h4⟩
    · have hz : (if (fX2_isOne x) = 0 then 1 else (if (fX2_in x2 0 3) = 0 then 1 else 0) : Int32) = 0 := by rw [if_neg (ten h2), if_neg (ten h4)]
      subst hx2
      have a1 : kX1_dependsOn T x (nI v) = 0 := by rw [kX1_dependsOn, if_pos h1, if_pos h3]; split <;> rfl
      have a2 : fX1_dependsOn T x (nI v) = (fX2_dependsOn T x (nI v)).1 := by
        rw [fX1_dependsOn, if_pos h1, if_pos h3, fX2_dependsOn, tail_ok hz]
        dsimp only
        exact depends_eq T x (hT _) hv (dpf T x (nI v)) (fun j a => by rw [dpf])
      have a3 : (fX2_dependsOn T x (nI v)).2 = 0 := by rw [fX2_dependsOn, tail_ok hz]
      exact Or.inl ⟨a1, a3, a2⟩
    · have a1 : kX1_dependsOn T x x2 = 1 := by rw [kX1_dependsOn, if_pos h1, if_neg (tenN h3)]; exact h3
      rw [a1, tail_fail (by rw [if_neg (ten h2), if_pos h4])]
      exact Or.inr ⟨rfl, rfl⟩
  · have a1 : kX1_dependsOn T x x2 = 1 := by rw [kX1_dependsOn, if_neg (tenN h1)]; exact h1
    rw [a1, tail_fail (by rw [if_pos h2])]
    exact Or.inr ⟨rfl, rfl⟩
theorem in_set (x : Int32) : (fX2_in x 1 63 = 0 ∧ (x < 1 ∨ (¬ x < 1 ∧ ¬ x < 64))) ∨ (fX2_in x 1 63 = 1 ∧ ¬ x < 1 ∧ x < 64) := by
  have e15 : (63 : Int32).toInt = 63 := rfl
  have e16 : (64 : Int32).toInt = 64 := rfl
  unfold fX2_in
  by_cases h0 : x < 1
  · rw [if_pos h0]; exact Or.inl ⟨rfl, Or.inl h0⟩
  · rw [if_neg h0]
    by_cases h1 : (63 : Int32) < x
    · rw [if_pos h1]; exact Or.inl ⟨rfl, Or.inr ⟨h0, fun h => by rw [Int32.lt_iff_toInt_lt] at h h1; omega⟩⟩
    · rw [if_neg h1]; exact Or.inr ⟨rfl, h0, by rw [Int32.lt_iff_toInt_lt] at h1 ⊢; omega⟩
theorem e_areEnough (hT : tbs T) (x : Int32) : (kX1_areEnough T x = 0 ∧ (fX2_areEnough T x).2 = 0 ∧ fX1_areEnough T x = (fX2_areEnough T x).1) ∨ (kX1_areEnough T x = 3 ∧ (fX2_areEnough T x).2 = 1) := by
  rcases in_set x with ⟨h3, h4 | ⟨h4, h5⟩⟩ | ⟨h3, h4, h5⟩
  · have a1 : kX1_areEnough T x = 3 := by rw [kX1_areEnough, if_pos h4]
    have a3 : fX2_areEnough T x = (0, 1) := by rw [fX2_areEnough, if_pos h3]
    rw [a1, a3]; exact Or.inr ⟨rfl, rfl⟩
  · have a1 : kX1_areEnough T x = 3 := by rw [kX1_areEnough, if_neg h4, if_neg h5]
    have a3 : fX2_areEnough T x = (0, 1) := by rw [fX2_areEnough, if_pos h3]
    rw [a1, a3]; exact Or.inr ⟨rfl, rfl⟩
  · have a1 : kX1_areEnough T x = 0 := by rw [kX1_areEnough, if_neg h4, if_pos h5]; split <;> rfl
    have hs := shared_enough T (fun i _ => hT i) x
    by_cases hc : fX1_sharedClasses T x = 0
    · have a2 : fX1_areEnough T x = 1 := by rw [fX1_areEnough, if_neg h4, if_pos h5, if_pos hc]
      rw [if_pos hc] at hs
      have a3 : fX2_areEnough T x = (1, 0) := by rw [fX2_areEnough, if_neg (ten h3), if_neg (ten hs)]
      rw [a1, a2, a3]; exact Or.inl ⟨rfl, rfl, rfl⟩
    · have a2 : fX1_areEnough T x = 0 := by rw [fX1_areEnough, if_neg h4, if_pos h5, if_neg hc]
      rw [if_neg hc] at hs
      have a3 : fX2_areEnough T x = (0, 0) := by rw [fX2_areEnough, if_neg (ten h3), if_pos hs]
      rw [a1, a2, a3]; exact Or.inl ⟨rfl, rfl, rfl⟩
theorem e_printedLetter (hT : tbs T) (P : Nat → Int32) (z : Nat) (x x2 : Int32) : (kX1_printedLetter T P x x2 = 0 ∧ (fX2_printedLetter T x x2).2 = 0 ∧ (fX1_printedLetter T P z x x2).1 = (fX2_printedLetter T x x2).1) ∨ (kX1_printedLetter T P x x2 = 1 ∧ (fX2_printedLetter T x x2).2 = 1) := by
  rcases chkF x with ⟨h1, h2, j, hj, hx⟩ | ⟨h1, h2⟩
  · have hu := (turned_bits (T x.toNatClampNeg)).1
    have he : (if (fX2_is x).1 = 0 then 0 else (fX2_turned (T x.toNatClampNeg)) : Int32) = fX2_turned (T x.toNatClampNeg) := by rw [is_1 h2]; rfl
    have hp := print_hld P hu
    have hq := printed_txt hu
    have h48 := txt_48 (fX2_turned (T x.toNatClampNeg))
    have hne := List.length_pos_iff.mpr (txt_ne hu)
    have hth : ¬ 0 < (fX2_is x).2 := by rw [is_1 h2]; decide
    have eA := addHalves_turned (hT x.toNatClampNeg)
    generalize hU : fX2_turned (T x.toNatClampNeg) = u at *
    have hin : fX2_in x2 0 (fX2_printed u - 1) = if x2 < 0 then 0 else if nI ((txt u).length - 1) < x2 then 0 else 1 := by
      rw [hq, fX2_in, show (1 : Int32) = nI 1 from rfl, pk_sub hne]
    have hk2 : kX1_printedLetter T P x x2 = if x2 < 0 then 1 else if x2 < nI (txt u).length then 0 else 1 := by
      rw [kX1_printedLetter, if_pos h1, eA, hp.1]
    have hm : fX2_printedLetter T x x2 = if fX2_in x2 0 (fX2_printed u - 1) = 0 then (0, 1) else tX2_printedLetter_56 T x 16 0 x2 := by
      rw [fX2_printedLetter, if_neg hth, hU, he]
    by_cases h0 : x2 < 0
    · rw [if_pos h0] at hin hk2
      rw [hm, hk2, if_pos hin]; exact Or.inr ⟨rfl, rfl⟩
    · rw [if_neg h0] at hin hk2
      by_cases h5 : x2 < nI (txt u).length
      · have h9 : x2 ≤ nI (txt u).length := by rw [Int32.le_iff_toInt_le]; rw [Int32.lt_iff_toInt_lt] at h5; omega
        obtain ⟨y, hy, rfl⟩ := nI_of2 (x := x2) (M := nI (txt u).length) (nI_toInt (by omega)) h0 h9
        rw [nI_ltI (by omega) (by omega)] at h5
        rw [if_pos (nI_lt h5 (by omega))] at hk2
        rw [if_neg (nI_nlt (by omega) (by omega))] at hin
        have hz : ¬ fX2_in (nI y) 0 (fX2_printed u - 1) = 0 := by rw [hin]; decide
        rw [if_neg hz, letter_eq T x u hu (by rw [hU]; exact he) h5, is_1 h2] at hm
        have hc : (fX1_printedLetter T P z x (nI y)).1 = (txt u).getD y 0 := by
          rw [fX1_printedLetter, if_pos h1, if_neg h0, eA, hp.1, if_pos (nI_lt h5 (by omega))]
          dsimp only
          rw [nI_clamp (by omega)]
          exact hp.2 y (by rw [hp.1]; exact h5)
        rw [hm, hk2, hc]
        exact Or.inl ⟨rfl, rfl, rfl⟩
      · rw [if_neg h5] at hk2
        have h6 : nI ((txt u).length - 1) < x2 := by
          rw [Int32.lt_iff_toInt_lt] at h5 ⊢
          rw [nI_toInt (by omega)] at h5 ⊢
          omega
        rw [if_pos h6] at hin
        rw [hm, hk2, if_pos hin]; exact Or.inr ⟨rfl, rfl⟩
  · have a1 : kX1_printedLetter T P x x2 = 1 := by rw [kX1_printedLetter, if_neg (tenN h1)]; exact h1
    have a3 : fX2_printedLetter T x x2 = (0, 1) := by rw [fX2_printedLetter, if_pos (by rw [is_0 h2]; decide)]
    rw [a1, a3]; exact Or.inr ⟨rfl, rfl⟩
end M
