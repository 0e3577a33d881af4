/-! Mathematics of the law 1: what it checks of a function. -/
theorem tb_pos {t : Int32} (h : tb t) : ¬ t < 0 := by
  obtain ⟨n, hn, rfl⟩ := tb_of h
  exact nI_pos (by omega)
theorem tb_le {t : Int32} (h : tb t) : ¬ 65535 < t := by
  obtain ⟨n, hn, rfl⟩ := tb_of h
  exact nI_nlt (a := 65535) (b := n) (by omega) (by omega)
/-- the points of the product j -/
def mkq (j : Nat) : Int32 := lp (sL_summed_29 j) 4 0 65535
theorem mkq_0 : ∀ j, j < 16 → lp (sL_summed_29 j) 4 0 0 = 0 := by decide +kernel
theorem summed_step (t : Int32) {j : Nat} (hj : j < 16) (a : Int32) : sL_summed_4 t j a = a ^^^ (if bt t j then mkq j else 0) := by
  unfold sL_summed_4 mkq
  rw [bit_bI (by omega)]
  cases bt t j
  · rw [if_neg (by decide : ¬ bI false = 1), mkq_0 j hj]; rfl
  · rw [if_pos (by decide : bI true = 1)]; rfl
theorem summed_bt (t : Int32) (i : Nat) : bt (fL_summed t) i = xs (fun j => bt t j && bt (mkq j) i) 16 := by
  have := lp_holds (fun n (x : Int32) => n ≤ 16 → bt x i = xs (fun j => bt t j && bt (mkq j) i) n) (sL_summed_4 t) 16 0 0 (fun n a h1 h2 h3 hn => by
    rw [summed_step t (by omega), b_xor, h3 (by omega)]
    show _ = (xs _ n ^^ (bt t n && bt (mkq n) i))
    congr 1
    cases bt t n
    · rw [if_neg (by decide), b_0]; rfl
    · rw [if_pos rfl]; rfl) (fun _ => b_0 i)
  exact this (by decide)
theorem xs_and_xor (s t m : Nat → Bool) (n : Nat) : xs (fun j => (s j ^^ t j) && m j) n = (xs (fun j => s j && m j) n ^^ xs (fun j => t j && m j) n) := by
  rw [← xs_xor]
  exact xs_cong (fun k _ => by cases s k <;> cases t k <;> cases m k <;> rfl)
theorem summed_xor (x y : Int32) : fL_summed (x ^^^ y) = fL_summed x ^^^ fL_summed y := b_ext (fun i _ => by
  rw [b_xor, summed_bt, summed_bt, summed_bt, ← xs_and_xor]
  exact xs_cong (fun k _ => by simp only [b_xor]))
theorem summed_ok {t : Int32} (h : tb t) : fL_summed (fX1_addHalves t) = t :=
  lin_ext (fun x => fL_summed (fX1_addHalves x)) (fun x => x) (fun x y => by show fL_summed (fX1_addHalves (x ^^^ y)) = _; rw [add_xor, summed_xor]) (fun _ _ => rfl) (by decide +kernel) (by decide +kernel) 16 (Nat.le_refl _) t h
theorem bySums_bits (T : Nat → Int32) (x : Nat) : tb (fX1_productsBySums T x) ∧ ∀ i, i < 16 → bt (fX1_productsBySums T x) i = pr (bt (T x)) i :=
  lp_bits (pr (bt (T x))) (sX1_productsBySums_8 T x) (fun j a hj => by
    show (a ||| ((fX1_sumBelow (T x) j) <<< ((nI j) &&& 31))) = _
    rw [sumBelow_pr (T x) hj])
theorem bySums_ok (T : Nat → Int32) (x : Nat) (h : tb (T x)) : fX1_productsBySums T x = fX1_addHalves (T x) :=
  lin_ext (fun t => fX1_productsBySums (fun _ => t) 0) fX1_addHalves (fun a b => by
    show fX1_productsBySums (fun _ => a ^^^ b) 0 = fX1_productsBySums (fun _ => a) 0 ^^^ fX1_productsBySums (fun _ => b) 0
    refine tb_ext (bySums_bits _ 0).1 (tb_xor (bySums_bits _ 0).1 (bySums_bits _ 0).1) (fun i hi => ?_)
    rw [b_xor, (bySums_bits _ 0).2 i hi, (bySums_bits _ 0).2 i hi, (bySums_bits _ 0).2 i hi, ← pr_xor]
    exact pr_cong (fun k _ => b_xor a b k) i) add_xor (by decide +kernel) (by decide +kernel) 16 (Nat.le_refl _) (T x) h
theorem add_tb {t : Int32} (h : tb t) : tb (fX1_addHalves t) := by
  have e : fX1_productsBySums (fun _ => t) 0 = fX1_addHalves t := bySums_ok (fun _ => t) 0 h
  rw [← e]
  exact (bySums_bits _ 0).1
theorem le_bits (i : Nat) (hi : i < 16) : fJ6_bitCount_0f7a4 (nI i) = fL_bits (nI i) := bitCount_bits (by omega)
theorem degree_ok {t : Int32} (_ : tb t) : fX1_degree t = fL_degree (fX1_addHalves t) := by
  unfold fX1_degree fL_degree
  apply lp_cong
  intro j a _ hj
  unfold sX1_degree_9 sL_degree_4 fX1_bit
  rw [le_bits j (by omega), if_lt_le]
theorem weight_ok {t : Int32} (h : tb t) : fJ6_bitCount_0f7a4 t = fL_bits t := bitCount_tb h
theorem selfDual_al (t : Int32) : fL_selfDual t = bI (al (fun j => bt t j != bt t (15 - j)) 8 0) :=
  (sticky (fun j => bt t j != bt t (15 - j)) (sL_selfDual_4 t) 8 0 (fun j a _ hj => by
    unfold sL_selfDual_4
    rw [rev_ix j (by omega), bit_bI (by omega), bit_bI (by omega)]
    by_cases ha : a = 0
    · rw [if_pos ha, if_pos ha]
    · rw [if_neg ha, if_neg ha]
      cases bt t j <;> cases bt t (15 - j) <;> decide)).2
theorem selfDual_ok (t : Int32) : fX1_hasOppositeEnds t = fL_selfDual t := by
  rw [selfDual_al]
  show tX1_hasOppositeEnds_2 t 16 0 () = _
  rw [opposite_al t 16 0 rfl]
  congr 1
  apply bool_iff
  rw [al_iff, al_iff]
  constructor
  · intro h j h1 h2
    exact h j h1 (by omega)
  · intro h j _ hj
    rcases Nat.lt_or_ge j 8 with h1 | h1
    · exact h j (Nat.zero_le _) (by omega)
    · have := h (15 - j) (Nat.zero_le _) (by omega)
      have e : 15 - (15 - j) = j := by omega
      simp only [e] at this
      revert this
      show (bt t (15 - j) != bt t j) = true → (bt t j != bt t (15 - j)) = true
      cases bt t j <;> cases bt t (15 - j) <;> decide
/-! where a variable is 0, and where it is 1 -/
def lowT (t : Int32) (v : Nat) : Int32 := (t &&& ((VT v) ^^^ (-1))) &&& 65535
def highT (t : Int32) (v : Nat) : Int32 := (t &&& (VT v)) >>> (((1 : Int32) <<< ((nI v) &&& 31)) &&& 31)
theorem lowT_tb {t : Int32} (h : tb t) (v : Nat) : tb (lowT t v) := tb_and (tb_and h _) _
theorem highT_tb {t : Int32} (h : tb t) {v : Nat} (hv : v < 4) : tb (highT t v) := by
  have h8 := hf_p2 v hv
  have ht : tb (t &&& VT v) := tb_and h _
  unfold highT
  rw [hf_sh v hv]
  intro i hi
  rcases Nat.lt_or_ge i 32 with h1 | h1
  · rw [b_sshr _ (by omega) _ h1]
    split
    · exact ht _ (Nat.le_trans hi (Nat.le_add_left i _))
    · exact ht 31 (by decide)
  · exact b_big h1
theorem lh_tab {t : Int32} {v : Nat} (hv : v < 4) {p : Nat} (hp : p < 16) : (bt (VT v) p = true ∧ bt (lowT t v) p = false ∧ bt (highT t v) p = false) ∨ (bt (VT v) p = false ∧ bt (lowT t v) p = bt t (pw p v false) ∧ bt (highT t v) p = bt t (pw p v true)) := by
  have h8 := hf_p2 v hv
  have h9 : 0 < 2 ^ v := Nat.two_pow_pos v
  have e1 : bt (lowT t v) p = (bt t p && ! bt (VT v) p) := by
    unfold lowT
    rw [b_and, b_and, b_xor, bm1 (by omega), (by decide +kernel : ∀ i, i < 16 → bt 65535 i = true) p hp]
    simp
  have e2 : bt (highT t v) p = (bt t (2 ^ v + p) && bt (VT v) (2 ^ v + p)) := by
    unfold highT
    rw [hf_sh v hv, b_sshr _ (by omega) _ (by omega), if_pos (by omega), b_and]
  rcases hf_tab v hv p hp with ⟨a1, a2, a3, _⟩ | ⟨a1, a2, a3, _, a4⟩
  · left
    rw [e1, e2, a1, a2]; simp
  · right
    rw [e1, e2, a1, a2, a3, a4]; simp
theorem pw_low : ∀ v, v < 4 → ∀ p, p < 16 → pw p v false < 16 ∧ bt (VT v) (pw p v false) = false ∧ pw (pw p v false) v true = pw p v true ∧ pw (pw p v false) v false = pw p v false := by decide +kernel
theorem lh_low {t : Int32} {v : Nat} (hv : v < 4) {p : Nat} (hp : p < 16) : bt (lowT t v) (pw p v false) = bt t (pw p v false) ∧ bt (highT t v) (pw p v false) = bt t (pw p v true) := by
  obtain ⟨q1, q2, q3, q4⟩ := pw_low v hv p hp
  rcases lh_tab (t := t) hv q1 with ⟨a, _⟩ | ⟨_, a, b⟩
  · rw [q2] at a; exact absurd a (by decide)
  · rw [q4] at a; rw [q3] at b; exact ⟨a, b⟩
theorem mono_step {t : Int32} (h : tb t) {v : Nat} (hv : v < 4) : (lowT t v &&& (highT t v ^^^ (-1))) = 0 ↔ vup t v = true := by
  unfold vup
  rw [al_iff]
  constructor
  · intro he j _ hj
    obtain ⟨a, b⟩ := lh_low (t := t) hv (show j < 16 by omega)
    have hb := bm1 (show pw j v false < 32 from Nat.lt_trans (pw_low v hv j (by omega)).1 (by decide))
    have := congrArg (fun x => bt x (pw j v false)) he
    simp only [b_and, b_xor, b_0, hb, a, b] at this
    revert this
    cases bt t (pw j v false) <;> cases bt t (pw j v true) <;> simp
  · intro ha
    refine tb_ext (tb_and (lowT_tb h v) _) tb_0 (fun i hi => ?_)
    rw [b_and, b_xor, b_0, bm1 (by omega)]
    rcases lh_tab (t := t) hv hi with ⟨_, a, b⟩ | ⟨_, a, b⟩
    · rw [a]; rfl
    · have := ha i (Nat.zero_le _) (by omega)
      rw [a, b]
      revert this
      cases bt t (pw i v false) <;> cases bt t (pw i v true) <;> simp
theorem monotone_ok {t : Int32} (h : tb t) : fX1_neverFalls t = fL_monotone t := by
  show tX1_neverFalls_2 t 4 0 () = _
  rw [never_al h 4 0 rfl]
  exact (sticky (vup t) (sL_monotone_4 t) 4 0 (fun j a _ hj => by
    unfold sL_monotone_4
    by_cases ha : a = 0
    · rw [if_pos ha, if_pos ha]
    · rw [if_neg ha, if_neg ha]
      have hs := mono_step h (show j < 4 by omega)
      show (if (lowT t j &&& (highT t j ^^^ (-1))) = 0 then 1 else 0 : Int32) = _
      cases hv : vup t j
      · rw [if_neg (fun z => by rw [hs.mp z] at hv; exact absurd hv (by decide))]; rfl
      · rw [if_pos (hs.mpr hv)]; rfl)).2.symm
theorem value_ok (T : Nat → Int32) (x i : Nat) : fX1_valueAt T x i = ((T x) >>> ((nI i) &&& 31)) &&& 1 := rfl
theorem depends_ok (T : Nat → Int32) (x : Nat) (h : tb (T x)) {v : Nat} (hv : v < 4) : fX1_dependsOn T x v = (if lowT (T x) v = highT (T x) v then 0 else 1 : Int32) := by
  have h1 := half_1 h hv (b := 1) (by decide)
  have h0 := half_0 h hv
  have hq : (fX1_half (T x) (nI v) 1 = fX1_half (T x) (nI v) 0) ↔ lowT (T x) v = highT (T x) v := by
    constructor
    · intro he
      refine tb_ext (lowT_tb h v) (highT_tb h hv) (fun i hi => ?_)
      rcases lh_tab (t := T x) hv hi with ⟨_, a, b⟩ | ⟨_, a, b⟩
      · rw [a, b]
      · rw [a, b, ← h0.2 i hi, ← h1.2 i hi, he]
    · intro he
      refine tb_ext h1.1 h0.1 (fun i hi => ?_)
      obtain ⟨a, b⟩ := lh_low (t := T x) hv hi
      rw [h1.2 i hi, h0.2 i hi, ← a, ← b, he]
  unfold fX1_dependsOn
  by_cases hc : fX1_half (T x) (nI v) 1 = fX1_half (T x) (nI v) 0
  · rw [if_pos hc, if_pos (hq.mp hc)]
  · rw [if_neg hc, if_neg (fun z => hc (hq.mpr z))]
/-! the distance to the linear functions -/
/-- m is the distance -/
def Lst (t : Int32) (m : Nat) : Prop := m ≤ 8 ∧ (∀ i, i < 32 → m ≤ dd t i) ∧ ∃ i, i < 32 ∧ m = dd t i
theorem Lst_one {t : Int32} {m n : Nat} (h : Lst t m) (h' : Lst t n) : m = n := by
  obtain ⟨_, a, i, hi, ei⟩ := h
  obtain ⟨_, b, j, hj, ej⟩ := h'
  have := a j hj
  have := b i hi
  omega
theorem Lst_of {t : Int32} {m : Nat} (ha : ∀ i, i < 32 → m ≤ dd t i) (hb : m = 16 ∨ ∃ i, i < 32 ∧ m = dd t i) : Lst t m := by
  have m0 := ha 0 (by decide)
  have m16 := ha 16 (by decide)
  have n0 := dd_not t (u := 0) (by decide)
  rw [Nat.zero_add] at n0
  refine ⟨by omega, ha, ?_⟩
  rcases hb with h | h
  · omega
  · exact h
theorem trying_Lst (T : Nat → Int32) (x : Nat) (h : tb (T x)) : ∃ m, fX1_distanceByTrying T x = nI m ∧ Lst (T x) m := by
  have hr := lp_holds (fun j (y : Int32) => j ≤ 32 → ∃ m, m ≤ 16 ∧ y = nI m ∧ (∀ i, i < j → m ≤ dd (T x) i) ∧ (m = 16 ∨ ∃ i, i < j ∧ m = dd (T x) i)) (sX1_distanceByTrying_9 T x) 32 0 16 (fun j a h1 h2 h3 hj => by
    obtain ⟨g, hg, rfl, ha, hb⟩ := h3 (by omega)
    unfold sX1_distanceByTrying_9
    have hd := dd_le (T x) j
    rw [bitCount_tb (tb_xor h (lin_tb j (by omega))), dd_bits]
    by_cases hc : nI (dd (T x) j) < nI g
    · rw [if_pos hc]
      rw [nI_ltI (by omega) (by omega)] at hc
      exact ⟨_, hd, rfl, fun i hi => by
        rcases Nat.lt_or_ge i j with h | h
        · have := ha i h; omega
        · have : i = j := by omega
          subst this; exact Nat.le_refl _, Or.inr ⟨j, by omega, rfl⟩⟩
    · rw [if_neg hc]
      rw [nI_ltI (by omega) (by omega)] at hc
      exact ⟨g, hg, rfl, fun i hi => by
        rcases Nat.lt_or_ge i j with h | h
        · exact ha i h
        · have : i = j := by omega
          subst this; omega, hb.imp id (fun ⟨i, h, e⟩ => ⟨i, by omega, e⟩)⟩) (fun _ => ⟨16, by decide, rfl, fun i hi => absurd hi (Nat.not_lt_zero i), Or.inl rfl⟩)
  obtain ⟨m, _, em, ha, hb⟩ := hr (Nat.le_refl _)
  exact ⟨m, em, Lst_of (fun i hi => ha i (by omega)) (hb.imp id (fun ⟨i, h, e⟩ => ⟨i, by omega, e⟩))⟩
theorem lin16 : ∀ i, i < 16 → lp (sL_distance_16 i) 4 0 0 = fX1_linearTable (nI i) := by decide +kernel
def mn8 (d : Nat) : Nat := if d ≤ 8 then d else 16 - d
theorem mn8_ok : ∀ d, d < 17 → (if nI d ≤ 8 then nI d else 16 - nI d : Int32) = nI (mn8 d) := by decide +kernel
theorem mn8_le {d : Nat} (h : d ≤ 16) : mn8 d ≤ 8 := by
  have e : mn8 d = if d ≤ 8 then d else 16 - d := rfl
  by_cases h8 : d ≤ 8
  · rw [if_pos h8] at e; omega
  · rw [if_neg h8] at e; omega
theorem mn8_dd (t : Int32) {i : Nat} (hi : i < 16) : mn8 (dd t i) ≤ dd t i ∧ mn8 (dd t i) ≤ dd t (i + 16) ∧ (mn8 (dd t i) = dd t i ∨ mn8 (dd t i) = dd t (i + 16)) := by
  have h := dd_not t hi
  have e : mn8 (dd t i) = if dd t i ≤ 8 then dd t i else 16 - dd t i := rfl
  by_cases h8 : dd t i ≤ 8
  · rw [if_pos h8] at e; omega
  · rw [if_neg h8] at e; omega
theorem law_Lst (t : Int32) : ∃ m, fL_distance t = nI m ∧ Lst t m := by
  have hr := lp_holds (fun j (y : Int32) => j ≤ 16 → ∃ m, m ≤ 16 ∧ y = nI m ∧ (∀ i, i < j → m ≤ mn8 (dd t i)) ∧ (m = 16 ∨ ∃ i, i < j ∧ m = mn8 (dd t i))) (sL_distance_5 t) 16 0 16 (fun j a h1 h2 h3 hj => by
    obtain ⟨g, hg, rfl, ha, hb⟩ := h3 (by omega)
    unfold sL_distance_5
    have hd := dd_le t j
    have hl := mn8_le hd
    rw [lin16 j (by omega), dd_bits, mn8_ok _ (by omega)]
    by_cases hc : nI g ≤ nI (mn8 (dd t j))
    · rw [if_pos hc]
      rw [nI_leI (by omega) (by omega)] at hc
      exact ⟨g, hg, rfl, fun i hi => by
        rcases Nat.lt_or_ge i j with h | h
        · exact ha i h
        · have : i = j := by omega
          subst this; omega, hb.imp id (fun ⟨i, h, e⟩ => ⟨i, by omega, e⟩)⟩
    · rw [if_neg hc]
      rw [nI_leI (by omega) (by omega)] at hc
      exact ⟨mn8 (dd t j), by omega, rfl, fun i hi => by
        rcases Nat.lt_or_ge i j with h | h
        · have := ha i h; omega
        · have : i = j := by omega
          subst this; exact Nat.le_refl _, Or.inr ⟨j, by omega, rfl⟩⟩) (fun _ => ⟨16, by decide, rfl, fun i hi => absurd hi (Nat.not_lt_zero i), Or.inl rfl⟩)
  obtain ⟨m, hm, em, ma, mb⟩ := hr (Nat.le_refl _)
  have h0 := ma 0 (by decide)
  have l0 := mn8_le (dd_le t 0)
  refine ⟨m, em, by omega, fun i hi => ?_, ?_⟩
  · rcases Nat.lt_or_ge i 16 with h | h
    · have h1 := ma i (by omega)
      have h2 := mn8_dd t h
      omega
    · have h1 := ma (i - 16) (by omega)
      have h2 := mn8_dd t (i := i - 16) (by omega)
      rw [show i - 16 + 16 = i by omega] at h2
      omega
  · rcases mb with h | ⟨i, hi, ei⟩
    · omega
    · have h2 := mn8_dd t (i := i) (by omega)
      rcases h2.2.2 with h | h
      · exact ⟨i, by omega, by omega⟩
      · exact ⟨i + 16, by omega, by omega⟩
theorem trying_ok (T : Nat → Int32) (x : Nat) (h : tb (T x)) : fX1_distanceByTrying T x = fL_distance (T x) := by
  obtain ⟨m, e1, l1⟩ := trying_Lst T x h
  obtain ⟨n, e2, l2⟩ := law_Lst (T x)
  rw [e1, e2, Lst_one l1 l2]
theorem start_ok (T : Nat → Int32) (M : Nat → Int32) (x : Nat) : ∀ p, p < 16 → lp (sX1_distanceBySums_6 T x) 16 0 M p = Int32.ofInt (sg (bt (T x) p)) := by
  have hr := lp_holds (fun j (a : Nat → Int32) => j ≤ 16 → ∀ p, p < j → a p = Int32.ofInt (sg (bt (T x) p))) (sX1_distanceBySums_6 T x) 16 0 M (fun j a h1 h2 h3 hj p hp => by
    unfold sX1_distanceBySums_6 upd
    by_cases e : p = j
    · subst e
      rw [if_pos rfl, fX1_bit_bI (by omega)]
      cases bt (T x) p <;> decide
    · rw [if_neg e]
      exact h3 (by omega) p (by omega)) (fun _ p hp => absurd hp (Nat.not_lt_zero p))
  exact fun p hp => hr (Nat.le_refl _) p hp
theorem sums_dd (T M : Nat → Int32) (x : Nat) : ∀ i, i < 16 → lp sX1_distanceBySums_40 4 0 (lp (sX1_distanceBySums_6 T x) 16 0 M) i = Int32.ofInt (16 - 2 * (dd (T x) i : Int)) := by
  intro i hi
  have h0 := start_ok T M x
  have h1 := wsz_ok h0 0 (by decide)
  have h2 := wsz_ok h1 1 (by decide)
  have h3 := wsz_ok h2 2 (by decide)
  have h4 := wsz_ok h3 3 (by decide) i hi
  rw [walsh _ i hi, sgs_cnt] at h4
  exact h4
theorem greatest (t : Int32) (F : Nat → Int32) (hF : ∀ i, i < 16 → F i = Int32.ofInt (16 - 2 * (dd t i : Int))) : ∃ g, g ≤ 16 ∧ lp (sX1_distanceBySums_60 F) 16 0 0 = nI g ∧ (∀ i, i < 16 → ab (dd t i) ≤ g) ∧ (g = 0 ∨ ∃ i, i < 16 ∧ g = ab (dd t i)) := by
  have hr := lp_holds (fun j (x : Int32) => j ≤ 16 → ∃ g, g ≤ 16 ∧ x = nI g ∧ (∀ i, i < j → ab (dd t i) ≤ g) ∧ (g = 0 ∨ ∃ i, i < j ∧ g = ab (dd t i))) (sX1_distanceBySums_60 F) 16 0 0 (fun j a h1 h2 h3 hj => by
    obtain ⟨g, hg, rfl, ha, hb⟩ := h3 (by omega)
    unfold sX1_distanceBySums_60
    have hd := dd_le t j
    have hl := ab_le _ hd
    rw [hF j (by omega), ab_ok _ (by omega)]
    by_cases hc : nI g < nI (ab (dd t j))
    · rw [if_pos hc]
      rw [nI_ltI (by omega) (by omega)] at hc
      exact ⟨_, hl, rfl, fun i hi => by
        rcases Nat.lt_or_ge i j with h | h
        · have := ha i h; omega
        · have : i = j := by omega
          subst this; exact Nat.le_refl _, Or.inr ⟨j, by omega, rfl⟩⟩
    · rw [if_neg hc]
      rw [nI_ltI (by omega) (by omega)] at hc
      exact ⟨g, hg, rfl, fun i hi => by
        rcases Nat.lt_or_ge i j with h | h
        · exact ha i h
        · have : i = j := by omega
          subst this; omega, hb.imp id (fun ⟨i, h, e⟩ => ⟨i, by omega, e⟩)⟩) (fun _ => ⟨0, by decide, rfl, fun i hi => absurd hi (Nat.not_lt_zero i), Or.inl rfl⟩)
  exact hr (Nat.le_refl _)
theorem sums_Lst (T M : Nat → Int32) (x : Nat) {m : Nat} (hL : Lst (T x) m) : (fX1_distanceBySums T M x).1 = nI m := by
  show ((16 - (lp (sX1_distanceBySums_60 (lp sX1_distanceBySums_40 4 0 (lp (sX1_distanceBySums_6 T x) 16 0 M))) 16 0 0)) / 2) = _
  generalize hF : lp sX1_distanceBySums_40 4 0 (lp (sX1_distanceBySums_6 T x) 16 0 M) = F
  have hs := sums_dd T M x
  rw [hF] at hs
  generalize T x = t at hs hL ⊢
  obtain ⟨g, hg, eg, ga, gb⟩ := greatest t F hs
  obtain ⟨hm8, ma, k, hk, ek⟩ := hL
  rw [eg]
  have key : g = 16 - 2 * m := by
    have up : 16 - 2 * m ≤ g := by
      rcases Nat.lt_or_ge k 16 with h | h
      · have h1 := ga k h
        unfold ab at h1
        rw [← ek] at h1
        split at h1 <;> omega
      · have h1 := ga (k - 16) (by omega)
        have h2 := dd_not t (u := k - 16) (by omega)
        rw [show k - 16 + 16 = k by omega] at h2
        unfold ab at h1
        split at h1 <;> omega
    rcases gb with h | ⟨i, hi, ei⟩
    · omega
    · have h1 := ma i (by omega)
      have h2 := ma (i + 16) (by omega)
      have h3 := dd_not t hi
      unfold ab at ei
      split at ei <;> omega
  rw [key, half_nI m (by omega), if_pos hm8]
theorem sums_ok (T M : Nat → Int32) (x : Nat) (_ : tb (T x)) : (fX1_distanceBySums T M x).1 = fL_distance (T x) := by
  obtain ⟨n, e2, l2⟩ := law_Lst (T x)
  rw [sums_Lst T M x l2, e2]
/-! no function is farther than 6 from the linear ones: the squares of the sums -/
def sqI (x : Int) : Int := x * x
theorem sqI_pair (a b : Int) : sqI (a + b) + sqI (a - b) = 2 * sqI a + 2 * sqI b := by
  unfold sqI
  rw [Int.add_mul, Int.mul_add, Int.mul_add, Int.sub_mul, Int.mul_sub, Int.mul_sub, Int.mul_comm b a]
  omega
def ss (M : Nat → Int) : Nat → Int
  | 0 => 0
  | n + 1 => ss M n + sqI (M n)
theorem ss_wsz0 (M : Nat → Int) : ss (wsz M 0) 16 = 2 * ss M 16 := by
  have h0 := sqI_pair (M 0) (M 1)
  have h2 := sqI_pair (M 2) (M 3)
  have h4 := sqI_pair (M 4) (M 5)
  have h6 := sqI_pair (M 6) (M 7)
  have h8 := sqI_pair (M 8) (M 9)
  have h10 := sqI_pair (M 10) (M 11)
  have h12 := sqI_pair (M 12) (M 13)
  have h14 := sqI_pair (M 14) (M 15)
  simp only [ss, wsz, Nat.testBit, Nat.reduceAdd, Nat.reduceSub, Nat.reducePow, Nat.reduceShiftRight, Nat.reduceAnd, Nat.reduceBNe, if_true, if_false, Bool.false_eq_true]
  omega
theorem ss_wsz1 (M : Nat → Int) : ss (wsz M 1) 16 = 2 * ss M 16 := by
  have h0 := sqI_pair (M 0) (M 2)
  have h1 := sqI_pair (M 1) (M 3)
  have h4 := sqI_pair (M 4) (M 6)
  have h5 := sqI_pair (M 5) (M 7)
  have h8 := sqI_pair (M 8) (M 10)
  have h9 := sqI_pair (M 9) (M 11)
  have h12 := sqI_pair (M 12) (M 14)
  have h13 := sqI_pair (M 13) (M 15)
  simp only [ss, wsz, Nat.testBit, Nat.reduceAdd, Nat.reduceSub, Nat.reducePow, Nat.reduceShiftRight, Nat.reduceAnd, Nat.reduceBNe, if_true, if_false, Bool.false_eq_true]
  omega
theorem ss_wsz2 (M : Nat → Int) : ss (wsz M 2) 16 = 2 * ss M 16 := by
  have h0 := sqI_pair (M 0) (M 4)
  have h1 := sqI_pair (M 1) (M 5)
  have h2 := sqI_pair (M 2) (M 6)
  have h3 := sqI_pair (M 3) (M 7)
  have h8 := sqI_pair (M 8) (M 12)
  have h9 := sqI_pair (M 9) (M 13)
  have h10 := sqI_pair (M 10) (M 14)
  have h11 := sqI_pair (M 11) (M 15)
  simp only [ss, wsz, Nat.testBit, Nat.reduceAdd, Nat.reduceSub, Nat.reducePow, Nat.reduceShiftRight, Nat.reduceAnd, Nat.reduceBNe, if_true, if_false, Bool.false_eq_true]
  omega
theorem ss_wsz3 (M : Nat → Int) : ss (wsz M 3) 16 = 2 * ss M 16 := by
  have h0 := sqI_pair (M 0) (M 8)
  have h1 := sqI_pair (M 1) (M 9)
  have h2 := sqI_pair (M 2) (M 10)
  have h3 := sqI_pair (M 3) (M 11)
  have h4 := sqI_pair (M 4) (M 12)
  have h5 := sqI_pair (M 5) (M 13)
  have h6 := sqI_pair (M 6) (M 14)
  have h7 := sqI_pair (M 7) (M 15)
  simp only [ss, wsz, Nat.testBit, Nat.reduceAdd, Nat.reduceSub, Nat.reducePow, Nat.reduceShiftRight, Nat.reduceAnd, Nat.reduceBNe, if_true, if_false, Bool.false_eq_true]
  omega
theorem sg_sq (b : Bool) : sqI (sg b) = 1 := by cases b <;> rfl
theorem ss_sg (e : Nat → Bool) : ss (fun p => sg (e p)) 16 = 16 := by
  simp only [ss, sg_sq]; rfl
theorem ss_cong {M N : Nat → Int} : ∀ {n : Nat}, (∀ k, k < n → M k = N k) → ss M n = ss N n
  | 0, _ => rfl
  | n + 1, h => by simp only [ss]; rw [ss_cong (fun k hk => h k (by omega)), h n (by omega)]
theorem ss_le {M : Nat → Int} : ∀ {n : Nat}, (∀ k, k < n → sqI (M k) ≤ 4) → ss M n ≤ 4 * n
  | 0, _ => Int.le_refl _
  | n + 1, h => by
    have h1 := ss_le (n := n) (fun k hk => h k (by omega))
    have h2 := h n (by omega)
    simp only [ss]
    omega
theorem sq_small {x : Int} (h1 : -2 ≤ x) (h2 : x ≤ 2) : sqI x ≤ 4 := by
  have h : x = -2 ∨ x = -1 ∨ x = 0 ∨ x = 1 ∨ x = 2 := by omega
  rcases h with h | h | h | h | h <;> subst h <;> decide
theorem parseval (t : Int32) : ss (fun i => 16 - 2 * (dd t i : Int)) 16 = 256 := by
  have e : ss (fun i => 16 - 2 * (dd t i : Int)) 16 = ss (wsz (wsz (wsz (wsz (fun p => sg (bt t p)) 0) 1) 2) 3) 16 := ss_cong (fun k hk => by
    rw [walsh _ k hk, sgs_cnt]; rfl)
  rw [e, ss_wsz3, ss_wsz2, ss_wsz1, ss_wsz0, ss_sg]
  rfl
theorem distance_6 {t : Int32} (_ : tb t) : ¬ 6 < fL_distance t := by
  obtain ⟨m, em, hm8, ma, -⟩ := law_Lst t
  rw [em]
  refine nI_nlt (a := 6) (b := m) ?_ (by decide)
  refine Nat.le_of_not_lt (fun h7 => ?_)
  have hp := parseval t
  have h4 : ss (fun i => 16 - 2 * (dd t i : Int)) 16 ≤ 4 * ((16 : Nat) : Int) := ss_le (fun k hk => by
    have h1 := ma (k + 16) (by omega)
    have h2 := ma k (by omega)
    have h3 := dd_not t hk
    exact sq_small (by omega) (by omega))
  omega
/-! a function has distance 0 where its degree is below 2 -/
theorem lin_deg : ∀ i, i < 32 → ¬ 2 ≤ fL_degree (fX1_addHalves (fX1_linearTable (nI i))) := by decide +kernel
def bcq (q : Nat) : Nat := cnt (bt (nI q)) 16
theorem deg_of (g : Int32) : ∃ m, m ≤ 16 ∧ fL_degree g = nI m ∧ ∀ q, q < 16 → bt g q = true → bcq q ≤ m := by
  have hr := lp_holds (fun j (y : Int32) => j ≤ 16 → ∃ m, m ≤ 16 ∧ y = nI m ∧ ∀ q, q < j → bt g q = true → bcq q ≤ m) (sL_degree_4 g) 16 0 0 (fun j a h1 h2 h3 hj => by
    obtain ⟨m, hm, rfl, ha⟩ := h3 (by omega)
    unfold sL_degree_4
    have hb : bcq j ≤ 16 := cnt_le _ 16
    rw [bit_bI (by omega), bits_cnt]
    cases hg : bt g j
    · rw [if_neg (by decide)]
      exact ⟨m, hm, rfl, fun q hq hq2 => by
        rcases Nat.lt_or_ge q j with h | h
        · exact ha q h hq2
        · have : q = j := by omega
          subst this; rw [hg] at hq2; exact absurd hq2 (by decide)⟩
    · rw [if_pos (by decide)]
      by_cases hc : nI (cnt (bt (nI j)) 16) ≤ nI m
      · rw [if_pos hc]
        have hc2 : bcq j ≤ m := (nI_leI (by show bcq j < _; omega) (by omega)).mp hc
        exact ⟨m, hm, rfl, fun q hq hq2 => by
          rcases Nat.lt_or_ge q j with h | h
          · exact ha q h hq2
          · have : q = j := by omega
            subst this; exact hc2⟩
      · rw [if_neg hc]
        have hc2 : ¬ bcq j ≤ m := fun z => hc (nI_le (a := bcq j) z (by omega))
        exact ⟨bcq j, hb, rfl, fun q hq hq2 => by
          rcases Nat.lt_or_ge q j with h | h
          · have := ha q h hq2; omega
          · have : q = j := by omega
            subst this; exact Nat.le_refl _⟩) (fun _ => ⟨0, by decide, rfl, fun q hq => absurd hq (Nat.not_lt_zero q)⟩)
  exact hr (Nat.le_refl _)
theorem bcq_small : ∀ q, q < 16 → bcq q < 2 → q = 0 ∨ q = 1 ∨ q = 2 ∨ q = 4 ∨ q = 8 := by decide +kernel
/-- the set of products of a linear function, and the function's number -/
def gl (a b c d e : Bool) : Int32 := ((((if a then 1 else 0) ||| (if b then 2 else 0)) ||| (if c then 4 else 0)) ||| (if d then 16 else 0)) ||| (if e then 256 else 0)
def gn (a b c d e : Bool) : Nat := (if b then 1 else 0) + (if c then 2 else 0) + (if d then 4 else 0) + (if e then 8 else 0) + (if a then 16 else 0)
theorem gl_bits : ∀ a b c d e : Bool, ∀ i, i < 16 → bt (gl a b c d e) i = (if i = 0 then a else if i = 1 then b else if i = 2 then c else if i = 4 then d else if i = 8 then e else false) := by decide +kernel
theorem gl_num : ∀ a b c d e : Bool, (gl a b c d e).toBitVec.toNat < 65536 := by decide +kernel
theorem gl_lin : ∀ a b c d e : Bool, gn a b c d e < 32 ∧ fL_summed (gl a b c d e) = fX1_linearTable (nI (gn a b c d e)) := by decide +kernel
theorem dd_self : ∀ i, i < 32 → dd (fX1_linearTable (nI i)) i = 0 := by decide +kernel
theorem cnt_zero (s : Nat → Bool) : ∀ n, cnt s n = 0 → ∀ k, k < n → s k = false
  | 0, _, k, hk => absurd hk (Nat.not_lt_zero k)
  | n + 1, h, k, hk => by
    simp only [cnt] at h
    rcases Nat.lt_or_ge k n with h1 | h1
    · exact cnt_zero s n (by omega) k h1
    · have : k = n := by omega
      subst this
      cases hs : s k
      · rfl
      · rw [hs, if_pos rfl] at h; omega
theorem lin_deg_iff {t : Int32} (h : tb t) : (∃ i, i < 32 ∧ dd t i = 0) ↔ ∃ g, g < 2 ∧ fL_degree (fX1_addHalves t) = nI g := by
  obtain ⟨g, hg, eg, ga⟩ := deg_of (fX1_addHalves t)
  constructor
  · rintro ⟨i, hi, e⟩
    have et : t = fX1_linearTable (nI i) := tb_ext h (lin_tb i hi) (fun p hp => by
      have := cnt_zero _ 16 e p hp
      revert this
      show (bt t p ^^ bt (fX1_linearTable (nI i)) p) = false → _
      cases bt t p <;> cases bt (fX1_linearTable (nI i)) p <;> simp)
    have hl := lin_deg i hi
    rw [← et, eg] at hl
    exact ⟨g, Nat.lt_of_not_le (fun z => hl (nI_le (a := 2) z (by omega))), eg⟩
  · rintro ⟨g2, h2, e2⟩
    have hgg : g = g2 := (nI_eq (by omega) (by omega)).mp (eg.symm.trans e2)
    subst hgg
    let q := fX1_addHalves t
    have hq : q = gl (bt q 0) (bt q 1) (bt q 2) (bt q 4) (bt q 8) := by
      refine tb_ext (add_tb h) (tb_dec _ (gl_num _ _ _ _ _)) (fun i hi => ?_)
      rw [gl_bits _ _ _ _ _ i hi]
      by_cases h0 : i = 0
      · subst h0; rfl
      · rw [if_neg h0]
        by_cases h1 : i = 1
        · subst h1; rfl
        · rw [if_neg h1]
          by_cases h3 : i = 2
          · subst h3; rfl
          · rw [if_neg h3]
            by_cases h4 : i = 4
            · subst h4; rfl
            · rw [if_neg h4]
              by_cases h8 : i = 8
              · subst h8; rfl
              · rw [if_neg h8]
                cases hb : bt q i
                · rfl
                · have h5 := ga i hi hb
                  have h6 := bcq_small i hi (by omega)
                  omega
    obtain ⟨l1, l2⟩ := gl_lin (bt q 0) (bt q 1) (bt q 2) (bt q 4) (bt q 8)
    refine ⟨_, l1, ?_⟩
    have e1 := summed_ok h
    have e3 : fL_summed q = fX1_linearTable (nI (gn (bt q 0) (bt q 1) (bt q 2) (bt q 4) (bt q 8))) := (congrArg fL_summed hq).trans l2
    rw [← e1]
    show dd (fL_summed q) _ = 0
    rw [e3]
    exact dd_self _ l1
theorem distance_0 {t : Int32} (h : tb t) : (if fL_distance t = 0 then 1 else 0 : Int32) = (if 2 ≤ fL_degree (fX1_addHalves t) then 0 else 1 : Int32) := by
  obtain ⟨m, em, hm8, ma, k, hk, ek⟩ := law_Lst t
  obtain ⟨g, hg, eg, ga⟩ := deg_of (fX1_addHalves t)
  have hi := lin_deg_iff h
  rw [em, eg]
  by_cases hm : m = 0
  · obtain ⟨g2, h2, e2⟩ := hi.mp ⟨k, hk, by omega⟩
    have hgg : g = g2 := (nI_eq (by omega) (by omega)).mp (eg.symm.trans e2)
    rw [if_pos (by rw [hm]; rfl), if_neg (show ¬ (2 : Int32) ≤ nI g from nI_ge (a := g) (b := 2) (by omega) (by decide))]
  · have h2 : 2 ≤ g := Nat.le_of_not_lt (fun z => by
      obtain ⟨i, h5, h6⟩ := hi.mpr ⟨g, z, eg⟩
      have := ma i h5
      omega)
    rw [if_neg (nI_ne0 (by omega) (by omega)), if_pos (show (2 : Int32) ≤ nI g from nI_le (a := 2) h2 (by omega))]
