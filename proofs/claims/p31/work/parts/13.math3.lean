/-! Mathematics of the law 2: which functions are enough. -/
def sL_enough_34 (T : Nat → Int32) (i1 : Nat) (i2 : Nat) (a2 : Int32) : Int32 := (a2 ||| (if (((nI i1) >>> ((nI i2) &&& 31)) &&& 1) = 1 then (fL_without (fX1_tableOf T i2) (fX1_degreeOf T i2)) else 0 : Int32))
def sL_enough_18 (T : Nat → Int32) (i1 : Nat) (a1 : Int32) : Int32 := (if (if (lp (sL_enough_34 T i1) 6 0 0) = 31 then 1 else 0 : Int32) = 0 then a1 else (if a1 < 0 then (fL_bits (nI i1)) else (if a1 ≤ (fL_bits (nI i1)) then a1 else (fL_bits (nI i1)))) : Int32)
theorem ite_of {α : Type} {c : Prop} [Decidable c] {x y : α} (P : α → Prop) (hx : P x) (hy : P y) : P (if c then x else y) := by
  by_cases h : c
  · rw [if_pos h]; exact hx
  · rw [if_neg h]; exact hy
def kb (t : Int32) : Bool := decide (¬ fL_selfDual t = 0)
def km (t : Int32) : Bool := decide (¬ fL_monotone t = 0)
def kl (t : Int32) : Bool := decide (fL_degree (fX1_addHalves t) ≤ 1)
theorem classesOf_clI {t : Int32} (h : tb t) : fX1_classesOf t = clI (! bt t 0) (bt t 15) (kb t) (km t) (kl t) := by
  unfold fX1_classesOf mX1_classesOf_56 mX1_classesOf_43 mX1_classesOf_32 mX1_classesOf_21 mX1_classesOf_7 kb km kl
  rw [selfDual_ok, monotone_ok h, degree_ok h, show (0 : Int32) = nI 0 from rfl, show (15 : Int32) = nI 15 from rfl, fX1_bit_bI (by decide), fX1_bit_bI (by decide)]
  generalize bt t 0 = a
  generalize bt t 15 = b
  rw [show nI 0 = (0 : Int32) from rfl]
  rw [if_lt_le]
  by_cases h1 : fL_selfDual t = 0 <;> by_cases h2 : fL_monotone t = 0 <;> by_cases h3 : fL_degree (fX1_addHalves t) ≤ 1
  all_goals simp only [h1, h2, h3, if_true, if_false, not_true, not_false_iff, decide_true, decide_false]
  all_goals (revert a b; decide)
theorem cw_step : ∀ s, s < 32 → ∀ a b c d e : Bool, (nI s &&& clI a b c d e) = nI (s &&& clN a b c d e) ∧ (s &&& clN a b c d e) < 32 ∧
    (nI (31 - s) ||| ((((bI (! a) ||| (if b then 0 else 2)) ||| (if c then 0 else 4)) ||| (if d then 0 else 8)) ||| (if e then 0 else 16)) : Int32) = nI (31 - (s &&& clN a b c d e)) := by decide +kernel
theorem without_eq (t : Int32) : fL_without t (fL_degree (fX1_addHalves t)) = ((((bI (! ! bt t 0) ||| (if bt t 15 then 0 else 2)) ||| (if kb t then 0 else 4)) ||| (if km t then 0 else 8)) ||| (if kl t then 0 else 16) : Int32) := by
  unfold fL_without
  have e0 : (if (t &&& 1) = 1 then 1 else 0 : Int32) = bI (! ! bt t 0) := by
    rw [and1_bI]; cases bt t 0 <;> decide
  have e1 : (if ((t >>> ((15 : Int32) &&& 31)) &&& 1) = 0 then 2 else 0 : Int32) = (if bt t 15 then 0 else 2) := by
    rw [show (15 : Int32) = nI 15 from rfl, bit_bI (by decide)]; cases bt t 15 <;> decide
  have e2 : (if (fL_selfDual t) = 0 then 4 else 0 : Int32) = (if kb t then 0 else 4) := by
    unfold kb; by_cases h9 : fL_selfDual t = 0 <;> simp [h9]
  have e3 : (if (fL_monotone t) = 0 then 8 else 0 : Int32) = (if km t then 0 else 8) := by
    unfold km; by_cases h9 : fL_monotone t = 0 <;> simp [h9]
  have e4 : (if (fL_degree (fX1_addHalves t)) ≤ 1 then 0 else 16 : Int32) = (if kl t then 0 else 16) := by
    unfold kl; by_cases h9 : fL_degree (fX1_addHalves t) ≤ 1 <;> simp [h9]
  rw [e0, e1, e2, e3, e4]
theorem shared_without (T : Nat → Int32) (hT : ∀ i, i < 6 → tb (T i)) (i : Nat) : ∃ s, s < 32 ∧ fX1_sharedClasses T (nI i) = nI s ∧ lp (sL_enough_34 T i) 6 0 0 = nI (31 - s) := by
  have hr := lp_rel (fun _ (p q : Int32) => ∃ s, s < 32 ∧ p = nI s ∧ q = nI (31 - s)) (sX1_sharedClasses_5 T (nI i)) (sL_enough_34 T i) 6 0 31 0 (fun j a b h1 h2 h3 => by
    obtain ⟨s, hs, rfl, rfl⟩ := h3
    have ht := hT j (by omega)
    have e1 : sX1_sharedClasses_5 T (nI i) j (nI s) = if ((nI i >>> (nI j &&& 31)) &&& 1) = 1 then (nI s &&& fX1_classesOf (T j)) else nI s := rfl
    have e2 : sL_enough_34 T i j (nI (31 - s)) = nI (31 - s) ||| (if ((nI i >>> (nI j &&& 31)) &&& 1) = 1 then fL_without (T j) (fX1_degree (T j)) else 0) := rfl
    rw [e1, e2]
    by_cases hc : ((nI i >>> (nI j &&& 31)) &&& 1) = 1
    · rw [if_pos hc, if_pos hc]
      have hh := cw_step s hs (! bt (T j) 0) (bt (T j) 15) (kb (T j)) (km (T j)) (kl (T j))
      refine ⟨_, hh.2.1, by rw [classesOf_clI ht]; exact hh.1, ?_⟩
      rw [degree_ok ht, without_eq]
      exact hh.2.2
    · rw [if_neg hc, if_neg hc]
      exact ⟨s, hs, rfl, Int32.or_zero⟩) ⟨31, by decide, rfl, rfl⟩
  exact hr
theorem due_ok (T : Nat → Int32) (hT : ∀ i, i < 6 → tb (T i)) {i : Nat} (_ : 1 ≤ i) (_ : i < 64) : fX1_areEnough T i = (if lp (sL_enough_34 T i) 6 0 0 = 31 then 1 else 0 : Int32) := by
  obtain ⟨s, hs, h1, h2⟩ := shared_without T hT i
  unfold fX1_areEnough
  rw [h1, h2]
  exact (by decide +kernel : ∀ s, s < 32 → (if nI s = 0 then 1 else 0 : Int32) = (if nI (31 - s) = 31 then 1 else 0 : Int32)) s hs
theorem nI_nm1 {m : Nat} (h : m < 2 ^ 31) : ¬ nI m = -1 := fun e => by
  have := nI_pos h
  rw [e] at this
  exact this (by decide)
theorem fewest_ok (T : Nat → Int32) (hT : ∀ i, i < 6 → tb (T i)) : fX1_fewestEnough T = lp (sL_enough_18 T) 63 1 (-1) := by
  have hr := lp_rel (fun _ (p q : Int32) => p = q ∧ (p = -1 ∨ ∃ m, m ≤ 32 ∧ p = nI m)) (sX1_fewestEnough_4 T) (sL_enough_18 T) 63 1 (-1) (-1) (fun j a b h1 h2 h3 => by
    obtain ⟨h3, h4⟩ := h3
    subst h3
    have hd := due_ok T hT (i := j) h1 (by omega)
    have hbm : ∃ m, m ≤ 32 ∧ fL_bits (nI j) = nI m := ⟨cnt (bt (nI j)) 16, Nat.le_trans (cnt_le _ 16) (by decide), bits_cnt _⟩
    unfold sX1_fewestEnough_4 sL_enough_18
    rw [bitCount_bits (by omega), ← hd]
    unfold fX1_areEnough
    by_cases hs : fX1_sharedClasses T (nI j) = 0
    · simp only [if_pos hs]
      rcases h4 with h4 | ⟨m, hm, h4⟩
      · subst h4
        rw [if_pos (rfl : (-1 : Int32) = -1), if_neg (by decide : ¬ (1 : Int32) = 0), if_pos (by decide : (-1 : Int32) < 0)]
        exact ⟨rfl, Or.inr hbm⟩
      · subst h4
        rw [if_neg (nI_nm1 (by omega)), if_neg (by decide : ¬ (1 : Int32) = 0), if_neg (nI_pos (by omega))]
        refine ⟨rfl, ?_⟩
        by_cases hc : nI m ≤ fL_bits (nI j)
        · rw [if_pos hc]; exact Or.inr ⟨m, hm, rfl⟩
        · rw [if_neg hc]; exact Or.inr hbm
    · simp only [if_neg hs, ite_self]
      exact ⟨rfl, h4⟩) ⟨rfl, Or.inl rfl⟩
  exact hr.1
theorem shared_bt (T : Nat → Int32) (y : Nat) (i : Nat) : bt (fX1_sharedClasses T (nI y)) i = true ↔ bt 31 i = true ∧ ∀ f, f < 6 → y.testBit f = true → bt (fX1_classesOf (T f)) i = true := by
  have hr := lp_holds (fun j (z : Int32) => j ≤ 6 → (bt z i = true ↔ bt 31 i = true ∧ ∀ f, f < j → y.testBit f = true → bt (fX1_classesOf (T f)) i = true)) (sX1_sharedClasses_5 T (nI y)) 6 0 31 (fun j a h1 h2 h3 hj => by
    have h3 := h3 (by omega)
    unfold sX1_sharedClasses_5
    rw [fX1_bit_bI (by omega), b_nI, decide_eq_true (show j < 32 by omega), Bool.true_and]
    cases hy : y.testBit j
    · rw [if_neg (by decide), h3]
      constructor
      · rintro ⟨a1, a2⟩
        refine ⟨a1, fun f hf hb => ?_⟩
        rcases Nat.lt_or_ge f j with h | h
        · exact a2 f h hb
        · have : f = j := by omega
          subst this; rw [hy] at hb; exact absurd hb (by decide)
      · rintro ⟨a1, a2⟩
        exact ⟨a1, fun f hf hb => a2 f (by omega) hb⟩
    · rw [if_pos (by decide), b_and, Bool.and_eq_true, h3]
      constructor
      · rintro ⟨⟨a1, a2⟩, a3⟩
        refine ⟨a1, fun f hf hb => ?_⟩
        rcases Nat.lt_or_ge f j with h | h
        · exact a2 f h hb
        · have : f = j := by omega
          subst this; exact a3
      · rintro ⟨a1, a2⟩
        exact ⟨⟨a1, fun f hf hb => a2 f (by omega) hb⟩, a2 j (by omega) hy⟩) (fun _ => ⟨fun h => ⟨h, fun f hf => absurd hf (Nat.not_lt_zero f)⟩, fun h => h.1⟩)
  exact hr (Nat.le_refl _)
theorem shared_0 {T : Nat → Int32} {y : Nat} (hy : ¬ fX1_areEnough T y = 0) : fX1_sharedClasses T (nI y) = 0 := by
  by_cases hc : fX1_sharedClasses T (nI y) = 0
  · exact hc
  · exact absurd (if_neg hc) hy
theorem enough_more (T : Nat → Int32) {y y2 : Nat} (h : ∀ f, f < 6 → y.testBit f = true → y2.testBit f = true) (hy : ¬ fX1_areEnough T y = 0) : ¬ fX1_areEnough T y2 = 0 := by
  have h1 := shared_0 hy
  have h2 : fX1_sharedClasses T (nI y2) = 0 := b_ext (fun i _ => by
    rw [b_0]
    cases hb : bt (fX1_sharedClasses T (nI y2)) i
    · rfl
    · have h4 := (shared_bt T y2 i).mp hb
      have h3 := (shared_bt T y i).mpr ⟨h4.1, fun f hf hb => h4.2 f hf (h f hf hb)⟩
      rw [h1, b_0] at h3
      exact absurd h3 (by decide))
  intro h3
  have h5 : fX1_areEnough T y2 = 1 := if_pos h2
  rw [h5] at h3
  exact absurd h3 (by decide)
theorem fewest_inv (T : Nat → Int32) : (fX1_fewestEnough T = -1 ∧ ∀ i, 1 ≤ i → i < 64 → ¬ fX1_sharedClasses T (nI i) = 0) ∨ ∃ m, m ≤ 32 ∧ fX1_fewestEnough T = nI m ∧ ∀ i, 1 ≤ i → i < 64 → fX1_sharedClasses T (nI i) = 0 → m ≤ bcq i := by
  have hr := lp_holds (fun j (a : Int32) => (a = -1 ∧ ∀ i, 1 ≤ i → i < j → ¬ fX1_sharedClasses T (nI i) = 0) ∨ ∃ m, m ≤ 32 ∧ a = nI m ∧ ∀ i, 1 ≤ i → i < j → fX1_sharedClasses T (nI i) = 0 → m ≤ bcq i) (sX1_fewestEnough_4 T) 63 1 (-1) (fun j a h1 h2 h3 => by
    have hb : bcq j ≤ 16 := cnt_le _ 16
    have eb : fJ6_bitCount_0f7a4 (nI j) = nI (bcq j) := (bitCount_bits (by omega)).trans (bits_cnt _)
    unfold sX1_fewestEnough_4
    rw [eb]
    rcases h3 with ⟨h3, h4⟩ | ⟨m, hm, h3, h4⟩
    · subst h3
      rw [if_pos (rfl : (-1 : Int32) = -1)]
      by_cases hs : fX1_sharedClasses T (nI j) = 0
      · rw [if_pos hs]
        refine Or.inr ⟨bcq j, by omega, rfl, fun i hi1 hi2 hi3 => ?_⟩
        rcases Nat.lt_or_ge i j with h | h
        · exact absurd hi3 (h4 i hi1 h)
        · have : i = j := by omega
          subst this; exact Nat.le_refl _
      · rw [if_neg hs]
        refine Or.inl ⟨rfl, fun i hi1 hi2 => ?_⟩
        rcases Nat.lt_or_ge i j with h | h
        · exact h4 i hi1 h
        · have : i = j := by omega
          subst this; exact hs
    · subst h3
      rw [if_neg (nI_nm1 (by omega))]
      by_cases hc : nI m ≤ nI (bcq j)
      · rw [if_pos hc]
        have hc2 : m ≤ bcq j := (nI_leI (by omega) (by omega)).mp hc
        refine Or.inr ⟨m, hm, rfl, fun i hi1 hi2 hi3 => ?_⟩
        rcases Nat.lt_or_ge i j with h | h
        · exact h4 i hi1 h hi3
        · have : i = j := by omega
          subst this; exact hc2
      · rw [if_neg hc]
        have hc2 : ¬ m ≤ bcq j := fun z => hc (nI_le z (by omega))
        by_cases hs : fX1_sharedClasses T (nI j) = 0
        · rw [if_pos hs]
          refine Or.inr ⟨bcq j, by omega, rfl, fun i hi1 hi2 hi3 => ?_⟩
          rcases Nat.lt_or_ge i j with h | h
          · have := h4 i hi1 h hi3; omega
          · have : i = j := by omega
            subst this; exact Nat.le_refl _
        · rw [if_neg hs]
          refine Or.inr ⟨m, hm, rfl, fun i hi1 hi2 hi3 => ?_⟩
          rcases Nat.lt_or_ge i j with h | h
          · exact h4 i hi1 h hi3
          · have : i = j := by omega
            subst this; exact absurd hi3 hs) (Or.inl ⟨rfl, fun i hi1 hi2 => by omega⟩)
  exact hr
theorem fewest_le (T : Nat → Int32) {y : Nat} (h1 : 1 ≤ y) (h2 : y < 64) (hy : ¬ fX1_areEnough T y = 0) : ¬ fL_bits (nI y) < fX1_fewestEnough T := by
  have hs := shared_0 hy
  have eb : fL_bits (nI y) = nI (bcq y) := bits_cnt _
  rcases fewest_inv T with ⟨_, h⟩ | ⟨m, hm, em, h⟩
  · exact absurd hs (h y h1 h2)
  · rw [em, eb]
    exact nI_nlt (h y h1 h2 hs) (Nat.lt_of_le_of_lt (cnt_le _ 16) (by decide))
theorem set_or : ∀ y, y < 64 → ∀ f, f < 6 → (nI y ||| ((1 : Int32) <<< (nI f &&& 31))) = nI (y ||| 2 ^ f) ∧ y ≤ (y ||| 2 ^ f) ∧ (y ||| 2 ^ f) < 64 := by decide +kernel
theorem set_more (y f : Nat) : ∀ g, g < 6 → y.testBit g = true → (y ||| 2 ^ f).testBit g = true := fun g _ h => by rw [Nat.testBit_or, h, Bool.true_or]
theorem set_all (y : Nat) : ∀ g, g < 6 → y.testBit g = true → (63 : Nat).testBit g = true := fun g hg _ => (by decide : ∀ g, g < 6 → (63 : Nat).testBit g = true) g hg
