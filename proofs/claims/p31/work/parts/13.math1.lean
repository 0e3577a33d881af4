/-! Mathematics 1: numbers by their bits; a loop that gathers bits; popcount. -/
def bt (x : Int32) (i : Nat) : Bool := x.toBitVec.getLsbD i
theorem b_ext {x y : Int32} (h : ∀ i, i < 32 → bt x i = bt y i) : x = y := Int32.toBitVec_inj.mp (BitVec.eq_of_getLsbD_eq (fun i hi => h i hi))
theorem b_or (x y : Int32) (i : Nat) : bt (x ||| y) i = (bt x i || bt y i) := by unfold bt; rw [Int32.toBitVec_or, BitVec.getLsbD_or]
theorem b_and (x y : Int32) (i : Nat) : bt (x &&& y) i = (bt x i && bt y i) := by unfold bt; rw [Int32.toBitVec_and, BitVec.getLsbD_and]
theorem b_xor (x y : Int32) (i : Nat) : bt (x ^^^ y) i = (bt x i ^^ bt y i) := by unfold bt; rw [Int32.toBitVec_xor, BitVec.getLsbD_xor]
theorem b_big {x : Int32} {i : Nat} (h : 32 ≤ i) : bt x i = false := BitVec.getLsbD_of_ge _ _ h
theorem b_0 (i : Nat) : bt 0 i = false := BitVec.getLsbD_zero
theorem s_l : ∀ n, n < 32 → ((nI n &&& 31).toBitVec.smod 32).toNat = n := by decide +kernel
theorem b_shl (n : Nat) (hn : n < 32) (x : Int32) {i : Nat} (hi : i < 32) : bt (x <<< (nI n &&& 31)) i = (decide (n ≤ i) && bt x (i - n)) := by
  unfold bt
  rw [Int32.toBitVec_shiftLeft]
  show (x.toBitVec <<< ((nI n &&& 31).toBitVec.smod 32).toNat).getLsbD i = _
  rw [s_l n hn, BitVec.getLsbD_shiftLeft]
  rcases Nat.lt_or_ge i n with h | h
  · simp [h, Nat.not_le.mpr h]
  · simp [hi, h, Nat.not_lt.mpr h]
theorem b_sshr (n : Nat) (hn : n < 32) (x : Int32) {i : Nat} (hi : i < 32) : bt (x >>> (nI n &&& 31)) i = if n + i < 32 then bt x (n + i) else bt x 31 := by
  unfold bt
  rw [Int32.toBitVec_shiftRight]
  show (x.toBitVec.sshiftRight ((nI n &&& 31).toBitVec.smod 32).toNat).getLsbD i = _
  rw [s_l n hn, BitVec.getLsbD_sshiftRight, BitVec.msb_eq_getLsbD_last]
  simp [hi]
/-- a truth value as a number -/
def bI (b : Bool) : Int32 := if b then 1 else 0
theorem b_1 (i : Nat) : bt 1 i = decide (i = 0) := by
  rcases Nat.lt_or_ge i 32 with h | h
  · exact (by decide +kernel : ∀ i, i < 32 → bt 1 i = decide (i = 0)) i h
  · rw [b_big h, decide_eq_false (by omega)]
theorem b_bI (b : Bool) (i : Nat) : bt (bI b) i = (decide (i = 0) && b) := by
  cases b
  · show bt 0 i = _; rw [b_0, Bool.and_false]
  · show bt 1 i = _; rw [b_1, Bool.and_true]
/-- the bit j of a number, as the programs take it -/
theorem bit_bI {j : Nat} (hj : j < 32) (x : Int32) : (x >>> (nI j &&& 31)) &&& 1 = bI (bt x j) := by
  apply b_ext
  intro i hi
  rw [b_and, b_1, b_bI, b_sshr j hj x hi]
  by_cases h : i = 0
  · subst h; simp [hj]
  · simp [h]
theorem fX1_bit_bI {j : Nat} (hj : j < 32) (x : Int32) : fX1_bit x (nI j) = bI (bt x j) := bit_bI hj x
theorem bI_1 (b : Bool) : (bI b = 1) ↔ b = true := by cases b <;> decide
theorem bI_0 (b : Bool) : (bI b = 0) ↔ b = false := by cases b <;> decide
theorem bI_and1 (b : Bool) : bI b &&& 1 = bI b := by cases b <;> decide
theorem bI_xor (a b : Bool) : bI a ^^^ bI b = bI (a ^^ b) := by cases a <;> cases b <;> decide
theorem bI_inj {a b : Bool} : bI a = bI b ↔ a = b := by cases a <;> cases b <;> decide
/-- the tables: 16 bits -/
def tb (x : Int32) : Prop := ∀ i, 16 ≤ i → bt x i = false
theorem b_nI (n i : Nat) : bt (nI n) i = (decide (i < 32) && n.testBit i) := by
  unfold bt nI
  show (BitVec.ofNat 32 n).getLsbD i = _
  rw [BitVec.getLsbD_ofNat]
theorem tb_nI {n : Nat} (h : n < 65536) : tb (nI n) := by
  intro i hi
  rw [b_nI]
  have : n.testBit i = false := Nat.testBit_lt_two_pow (Nat.lt_of_lt_of_le h (by
    have : (2:Nat)^16 ≤ 2^i := Nat.pow_le_pow_right (by decide) hi
    exact this))
  rw [this, Bool.and_false]
theorem tb_of {x : Int32} (h : tb x) : ∃ n, n < 65536 ∧ x = nI n := by
  refine ⟨x.toBitVec.toNat, ?_, ?_⟩
  · exact Nat.lt_pow_two_of_testBit (n := 16) _ (fun i hi => h i hi)
  · apply Int32.toBitVec_inj.mp
    show _ = BitVec.ofNat 32 _
    simp
theorem tb_ext {x y : Int32} (hx : tb x) (hy : tb y) (h : ∀ i, i < 16 → bt x i = bt y i) : x = y := b_ext (fun i _ => by
  rcases Nat.lt_or_ge i 16 with h1 | h1
  · exact h i h1
  · rw [hx i h1, hy i h1])
theorem tb_xor {x y : Int32} (hx : tb x) (hy : tb y) : tb (x ^^^ y) := fun i hi => by rw [b_xor, hx i hi, hy i hi]; rfl
theorem tb_or {x y : Int32} (hx : tb x) (hy : tb y) : tb (x ||| y) := fun i hi => by rw [b_or, hx i hi, hy i hi]; rfl
theorem tb_and {x : Int32} (hx : tb x) (y : Int32) : tb (x &&& y) := fun i hi => by rw [b_and, hx i hi]; rfl
theorem tb_and' {y : Int32} (x : Int32) (hy : tb y) : tb (x &&& y) := fun i hi => by rw [b_and, hy i hi, Bool.and_false]
theorem tb_0 : tb 0 := fun i _ => b_0 i
theorem tb_all : tb 65535 := tb_nI (n := 65535) (by decide)
theorem tb_VT (i : Nat) : tb (VT i) := by
  match i with
  | 0 => exact tb_nI (n := 43690) (by decide)
  | 1 => exact tb_nI (n := 52428) (by decide)
  | 2 => exact tb_nI (n := 61680) (by decide)
  | i + 3 => exact tb_nI (n := 65280) (by decide)
/-! loops -/
theorem lp_succ {σ : Type} (f : Nat → σ → σ) : ∀ (n i : Nat) (a : σ), lp f (n + 1) i a = f (i + n) (lp f n i a)
  | 0, i, a => rfl
  | n + 1, i, a => by
    show lp f (n + 1) (i + 1) (f i a) = f (i + (n + 1)) (lp f n (i + 1) (f i a))
    rw [lp_succ f n (i + 1) (f i a), Nat.add_right_comm, Nat.add_assoc]
theorem lp_add {σ : Type} (f : Nat → σ → σ) : ∀ (m n i : Nat) (a : σ), lp f (m + n) i a = lp f n (i + m) (lp f m i a)
  | 0, n, i, a => by rw [Nat.zero_add]; rfl
  | m + 1, n, i, a => by
    rw [Nat.add_right_comm]
    show lp f (m + n) (i + 1) (f i a) = lp f n (i + (m + 1)) (lp f m (i + 1) (f i a))
    rw [lp_add f m n (i + 1) (f i a), Nat.add_right_comm, Nat.add_assoc]
/-- two loops side by side: what holds of the pair -/
theorem lp_rel {σ τ : Type} (P : Nat → σ → τ → Prop) (f : Nat → σ → σ) (g : Nat → τ → τ) : ∀ (n i : Nat) (a : σ) (b : τ), (∀ j a b, i ≤ j → j < i + n → P j a b → P (j + 1) (f j a) (g j b)) → P i a b → P (i + n) (lp f n i a) (lp g n i b)
  | 0, i, a, b, _, h => h
  | n + 1, i, a, b, hs, h => by
    have := lp_rel P f g n (i + 1) (f i a) (g i b) (fun j a b h1 h2 h3 => hs j a b (by omega) (by omega) h3) (hs i a b (Nat.le_refl _) (by omega) h)
    rw [Nat.add_right_comm, Nat.add_assoc] at this
    exact this
theorem lp_cong {σ : Type} {f g : Nat → σ → σ} {n i : Nat} (a : σ) (h : ∀ j a, i ≤ j → j < i + n → f j a = g j a) : lp f n i a = lp g n i a :=
  lp_rel (fun _ x y => x = y) f g n i a a (fun j a b h1 h2 h3 => by subst h3; exact h j a h1 h2) rfl
theorem lp_holds {σ : Type} (P : Nat → σ → Prop) (f : Nat → σ → σ) (n i : Nat) (a : σ) (h : ∀ j a, i ≤ j → j < i + n → P j a → P (j + 1) (f j a)) (h0 : P i a) : P (i + n) (lp f n i a) :=
  lp_rel (fun j x (_ : σ) => P j x) f f n i a a (fun j a _ h1 h2 h3 => h j a h1 h2 h3) h0
/-- a loop that gathers bits -/
theorem lp_bits (s : Nat → Bool) (f : Nat → Int32 → Int32) (hf : ∀ j a, j < 16 → f j a = (a ||| (bI (s j) <<< (nI j &&& 31)))) : tb (lp f 16 0 0) ∧ ∀ i, i < 16 → bt (lp f 16 0 0) i = s i := by
  have := lp_holds (fun j (x : Int32) => j ≤ 16 → ∀ i, i < 32 → bt x i = (decide (i < j) && s i)) f 16 0 0 (fun j a h1 h2 h3 hj i hi => by
    rw [hf j a (by omega), b_or, h3 (by omega) i hi, b_shl j (by omega) _ hi, b_bI]
    rcases Nat.lt_trichotomy i j with h | h | h
    · have e1 : decide (i < j) = true := decide_eq_true h
      have e2 : decide (j ≤ i) = false := decide_eq_false (by omega)
      have e3 : decide (i < j + 1) = true := decide_eq_true (by omega)
      rw [e1, e2, e3]; simp
    · subst h; simp
    · have e1 : decide (i < j) = false := decide_eq_false (by omega)
      have e2 : decide (i - j = 0) = false := decide_eq_false (by omega)
      have e3 : decide (i < j + 1) = false := decide_eq_false (by omega)
      rw [e1, e2, e3]; simp) (fun _ i _ => by rw [b_0]; simp)
  rw [Nat.zero_add] at this
  have h := this (Nat.le_refl _)
  refine ⟨fun i hi => ?_, fun i hi => ?_⟩
  · rcases Nat.lt_or_ge i 32 with h1 | h1
    · rw [h i h1, decide_eq_false (by omega), Bool.false_and]
    · exact b_big h1
  · rw [h i (by omega), decide_eq_true hi, Bool.true_and]
/-! Mathematics 2: the number of bits that are set, told in two ways. -/
def cnt (s : Nat → Bool) : Nat → Nat
  | 0 => 0
  | n + 1 => cnt s n + (if s n then 1 else 0)
theorem cnt_le (s : Nat → Bool) : ∀ n, cnt s n ≤ n
  | 0 => Nat.le_refl _
  | n + 1 => by have := cnt_le s n; simp only [cnt]; split <;> omega
theorem cnt_cong {s t : Nat → Bool} : ∀ {n : Nat}, (∀ k, k < n → s k = t k) → cnt s n = cnt t n
  | 0, _ => rfl
  | n + 1, h => by simp only [cnt]; rw [cnt_cong (fun k hk => h k (by omega)), h n (by omega)]
theorem bI_nI (b : Bool) : bI b = nI (if b then 1 else 0) := by cases b <;> rfl
theorem bits_cnt (t : Int32) : fL_bits t = nI (cnt (bt t) 16) := by
  have := lp_holds (fun j (x : Int32) => j ≤ 16 → x = nI (cnt (bt t) j)) (sL_bits_4 t) 16 0 0 (fun j a h1 h2 h3 hj => by
    show a + ((t >>> ((nI j) &&& 31)) &&& 1) = _
    rw [h3 (by omega), bit_bI (by omega), bI_nI, nI_add]
    rfl) (fun _ => rfl)
  exact this (by decide)
def sw1 (n : Nat) : Nat := Nat.sub n (Nat.land (Nat.shiftRight n 1) 1431655765)
def sw2 (n : Nat) : Nat := Nat.add (Nat.land n 858993459) (Nat.land (Nat.shiftRight n 2) 858993459)
def sw3 (n : Nat) : Nat := Nat.land (Nat.add n (Nat.shiftRight n 4)) 252645135
def sw4 (n : Nat) : Nat := Nat.add n (Nat.shiftRight n 8)
def sw5 (n : Nat) : Nat := Nat.add n (Nat.shiftRight n 16)
def swF (n : Nat) : Nat :=
  let a := Nat.sub n (Nat.land (Nat.shiftRight n 1) 1431655765)
  let b := Nat.add (Nat.land a 858993459) (Nat.land (Nat.shiftRight a 2) 858993459)
  let c := Nat.land (Nat.add b (Nat.shiftRight b 4)) 252645135
  let d := Nat.add c (Nat.shiftRight c 8)
  Nat.land (Nat.add d (Nat.shiftRight d 16)) 63
def sw (n : Nat) : Nat := Nat.land (sw5 (sw4 (sw3 (sw2 (sw1 n))))) 63
def pc8 : Nat → Nat → Nat
  | 0, _ => 0
  | k + 1, n => Nat.add (Nat.mod n 2) (pc8 k (Nat.div n 2))
def chk2 (a : Nat) (pa : Nat) : Nat → Bool
  | 0 => true
  | b + 1 => match Nat.beq (swF (Nat.add (Nat.mul a 256) b)) (Nat.add pa (pc8 8 b)) with | true => chk2 a pa b | false => false
def chk1 : Nat → Bool
  | 0 => true
  | a + 1 => match chk2 a (pc8 8 a) 256 with | true => chk1 a | false => false
set_option maxRecDepth 100000 in
theorem chk_all : chk1 256 = true := by decide +kernel
theorem chk2_of (a pa : Nat) : ∀ n, chk2 a pa n = true → ∀ b, b < n → sw (a * 256 + b) = pa + pc8 8 b
  | 0, _, b, hb => absurd hb (Nat.not_lt_zero b)
  | n + 1, h, b, hb => by
    rw [chk2] at h
    split at h
    · rename_i hq
      rcases Nat.lt_or_ge b n with h1 | h1
      · exact chk2_of a pa n h b h1
      · have : b = n := by omega
        subst this
        exact Nat.eq_of_beq_eq_true hq
    · exact absurd h (by decide)
theorem chk1_of : ∀ n, chk1 n = true → ∀ a, a < n → ∀ b, b < 256 → sw (a * 256 + b) = pc8 8 a + pc8 8 b
  | 0, _, a, ha => absurd ha (Nat.not_lt_zero a)
  | n + 1, h, a, ha => by
    rw [chk1] at h
    split at h
    · rename_i hq
      rcases Nat.lt_or_ge a n with h1 | h1
      · exact chk1_of n h a h1
      · have : a = n := by omega
        subst this
        exact chk2_of a _ 256 hq
    · exact absurd h (by decide)
theorem tbit (n k : Nat) : (if n.testBit k then 1 else 0) = n / 2 ^ k % 2 := by
  rw [Nat.testBit_eq_decide_div_mod_eq]
  rcases Nat.mod_two_eq_zero_or_one (n / 2 ^ k) with h | h <;> rw [h] <;> rfl
theorem pc8_zero (n : Nat) : pc8 0 n = 0 := rfl
theorem pc8_succ (k n : Nat) : pc8 (k + 1) n = n % 2 + pc8 k (n / 2) := rfl
theorem cnt_pc8 (n : Nat) : cnt (fun i => n.testBit i) 16 = pc8 8 (n / 256) + pc8 8 (n % 256) := by
  simp only [cnt, tbit]
  have h0 : n % 256 % 2 = n % 2 := by omega
  have h1 : n % 256 / 2 % 2 = n / 2 % 2 := by omega
  have h2 : n % 256 / 4 % 2 = n / 4 % 2 := by omega
  have h3 : n % 256 / 8 % 2 = n / 8 % 2 := by omega
  have h4 : n % 256 / 16 % 2 = n / 16 % 2 := by omega
  have h5 : n % 256 / 32 % 2 = n / 32 % 2 := by omega
  have h6 : n % 256 / 64 % 2 = n / 64 % 2 := by omega
  have h7 : n % 256 / 128 % 2 = n / 128 % 2 := by omega
  simp only [pc8_succ, pc8_zero, Nat.reducePow, Nat.div_one, Nat.zero_add, Nat.add_zero, Nat.div_div_eq_div_mul, Nat.reduceMul, h0, h1, h2, h3, h4, h5, h6, h7]
  generalize n % 2 = a0
  generalize n / 2 % 2 = a1
  generalize n / 4 % 2 = a2
  generalize n / 8 % 2 = a3
  generalize n / 16 % 2 = a4
  generalize n / 32 % 2 = a5
  generalize n / 64 % 2 = a6
  generalize n / 128 % 2 = a7
  generalize n / 256 % 2 = a8
  generalize n / 512 % 2 = a9
  generalize n / 1024 % 2 = a10
  generalize n / 2048 % 2 = a11
  generalize n / 4096 % 2 = a12
  generalize n / 8192 % 2 = a13
  generalize n / 16384 % 2 = a14
  generalize n / 32768 % 2 = a15
  omega
theorem nx_and (a b : Nat) : nI a &&& nI b = nI (a &&& b) := by
  apply Int32.toBitVec_inj.1
  show BitVec.ofNat 32 a &&& BitVec.ofNat 32 b = BitVec.ofNat 32 (a &&& b)
  apply BitVec.eq_of_getLsbD_eq
  intro i hi
  simp [hi]
theorem nx_cnt : ∀ j, j < 32 → ((nI j).toUInt32 &&& Int32.toUInt32 31).toNat % 32 = j := by decide +kernel
theorem nx_ush {k j : Nat} (hk : k < 2 ^ 31) (hj : j < 32) : ((nI k).toUInt32 >>> ((nI j).toUInt32 &&& Int32.toUInt32 31)).toInt32 = nI (k >>> j) := by
  have hs : k >>> j ≤ k := by
    rw [Nat.shiftRight_eq_div_pow]
    exact Nat.div_le_self _ _
  apply Int32.toBitVec_inj.1
  apply BitVec.eq_of_toNat_eq
  show ((nI k).toUInt32 >>> ((nI j).toUInt32 &&& Int32.toUInt32 31)).toNat = (BitVec.ofNat 32 (k >>> j)).toNat
  rw [UInt32.toNat_shiftRight, nx_cnt j hj, BitVec.toNat_ofNat, Nat.mod_eq_of_lt (by omega)]
  show (BitVec.ofNat 32 k).toNat >>> j = _
  rw [BitVec.toNat_ofNat, Nat.mod_eq_of_lt (by omega)]
theorem bitCount_sw {n : Nat} (h : n < 65536) : fJ6_bitCount_0f7a4 (nI n) = nI (sw n) := by
  have e1 : sJ6_bitCount_0f7a4_9 (nI n) = nI (sw1 n) := by
    show nI n - ((((nI n).toUInt32 >>> ((nI 1).toUInt32 &&& Int32.toUInt32 31)).toInt32) &&& nI 1431655765) = _
    rw [nx_ush (by omega) (by decide), nx_and, pk_sub]
    · rfl
    · exact Nat.le_trans Nat.and_le_left (by rw [Nat.shiftRight_eq_div_pow]; exact Nat.div_le_self _ _)
  have l1 : sw1 n < 65536 := Nat.lt_of_le_of_lt (Nat.sub_le _ _) h
  have e2 : sJ6_bitCount_0f7a4_23 (nI (sw1 n)) = nI (sw2 (sw1 n)) := by
    show (nI (sw1 n) &&& nI 858993459) + ((((nI (sw1 n)).toUInt32 >>> ((nI 2).toUInt32 &&& Int32.toUInt32 31)).toInt32) &&& nI 858993459) = _
    rw [nx_ush (by omega) (by decide), nx_and, nx_and, nI_add]
    rfl
  have l2 : sw2 (sw1 n) < 131072 := by
    have a1 : sw1 n &&& 858993459 ≤ sw1 n := Nat.and_le_left
    have a2 : (sw1 n >>> 2) &&& 858993459 ≤ sw1 n >>> 2 := Nat.and_le_left
    have a3 : sw1 n >>> 2 ≤ sw1 n := by rw [Nat.shiftRight_eq_div_pow]; exact Nat.div_le_self _ _
    show (sw1 n &&& 858993459) + ((sw1 n >>> 2) &&& 858993459) < _
    omega
  generalize hb : sw2 (sw1 n) = b at *
  have e3 : sJ6_bitCount_0f7a4_33 (nI b) = nI (sw3 b) := by
    show (nI b + (((nI b).toUInt32 >>> ((nI 4).toUInt32 &&& Int32.toUInt32 31)).toInt32)) &&& nI 252645135 = _
    rw [nx_ush (by omega) (by decide), nI_add, nx_and]
    rfl
  have l3 : sw3 b < 262144 := by
    have a1 : (b + (b >>> 4)) &&& 252645135 ≤ b + (b >>> 4) := Nat.and_le_left
    have a3 : b >>> 4 ≤ b := by rw [Nat.shiftRight_eq_div_pow]; exact Nat.div_le_self _ _
    show (b + (b >>> 4)) &&& 252645135 < _
    omega
  generalize hc : sw3 b = c at *
  have e4 : sJ6_bitCount_0f7a4_40 (nI c) = nI (sw4 c) := by
    show nI c + (((nI c).toUInt32 >>> ((nI 8).toUInt32 &&& Int32.toUInt32 31)).toInt32) = _
    rw [nx_ush (by omega) (by decide), nI_add]
    rfl
  have l4 : sw4 c < 524288 := by
    have a3 : c >>> 8 ≤ c := by rw [Nat.shiftRight_eq_div_pow]; exact Nat.div_le_self _ _
    show c + (c >>> 8) < _
    omega
  generalize hd : sw4 c = d at *
  have e5 : sJ6_bitCount_0f7a4_47 (nI d) = nI (sw5 d) := by
    show nI d + (((nI d).toUInt32 >>> ((nI 16).toUInt32 &&& Int32.toUInt32 31)).toInt32) = _
    rw [nx_ush (by omega) (by decide), nI_add]
    rfl
  show (sJ6_bitCount_0f7a4_47 (sJ6_bitCount_0f7a4_40 (sJ6_bitCount_0f7a4_33 (sJ6_bitCount_0f7a4_23 (sJ6_bitCount_0f7a4_9 (nI n)))))) &&& nI 63 = _
  rw [e1, e2, e3, e4, e5, nx_and, sw, hb, hc, hd]
  rfl
theorem bitCount_bits {n : Nat} (h : n < 65536) : fJ6_bitCount_0f7a4 (nI n) = fL_bits (nI n) := by
  have e : sw n = cnt (fun i => n.testBit i) 16 := by
    rw [cnt_pc8, ← chk1_of 256 chk_all (n / 256) (by omega) (n % 256) (Nat.mod_lt _ (by decide)), Nat.div_add_mod']
  rw [bitCount_sw h, bits_cnt, e, cnt_cong (t := bt (nI n)) (fun k hk => by rw [b_nI, decide_eq_true (by omega), Bool.true_and])]
theorem bitCount_tb {x : Int32} (h : tb x) : fJ6_bitCount_0f7a4 x = fL_bits x := by
  obtain ⟨n, hn, rfl⟩ := tb_of h
  exact bitCount_bits hn
/-! Mathematics 3: the products of a table, told in three ways; the degree. -/
/-- the sum (1 if an odd number is 1) of n truth values -/
def xs (s : Nat → Bool) : Nat → Bool
  | 0 => false
  | n + 1 => xs s n ^^ s n
theorem xs_cong {s t : Nat → Bool} : ∀ {n : Nat}, (∀ k, k < n → s k = t k) → xs s n = xs t n
  | 0, _ => rfl
  | n + 1, h => by simp only [xs]; rw [xs_cong (fun k hk => h k (by omega)), h n (by omega)]
theorem xs_xor (s t : Nat → Bool) : ∀ n, xs (fun i => s i ^^ t i) n = (xs s n ^^ xs t n)
  | 0 => rfl
  | n + 1 => by
    simp only [xs]; rw [xs_xor s t n]
    cases xs s n <;> cases xs t n <;> cases s n <;> cases t n <;> rfl
theorem xs_zero {s : Nat → Bool} (m : Nat) : ∀ n, (∀ k, m ≤ k → k < m + n → s k = false) → xs s (m + n) = xs s m
  | 0, _ => rfl
  | n + 1, h => by
    show (xs s (m + n) ^^ s (m + n)) = _
    rw [xs_zero m n (fun k h1 h2 => h k h1 (by omega)), h (m + n) (by omega) (by omega), Bool.xor_false]
/-- whether all variables of the point i are in the product j -/
def isb (i j : Nat) : Bool := decide ((nI i) &&& ((nI j) ^^^ (-1)) = 0)
/-- the product j is in the set -/
def pr (s : Nat → Bool) (j : Nat) : Bool := xs (fun i => isb i j && s i) 16
theorem pr_cong {s t : Nat → Bool} (h : ∀ k, k < 16 → s k = t k) (j : Nat) : pr s j = pr t j := xs_cong (fun k hk => by rw [h k hk])
theorem pr_xor (s t : Nat → Bool) (j : Nat) : pr (fun i => s i ^^ t i) j = (pr s j ^^ pr t j) := by
  unfold pr
  rw [← xs_xor]
  exact xs_cong (fun k _ => by show (isb k j && (s k ^^ t k)) = _; cases isb k j <;> cases s k <;> cases t k <;> rfl)
theorem bt0_add (x y : Int32) : bt (x + y) 0 = (bt x 0 ^^ bt y 0) := by
  unfold bt
  rw [Int32.toBitVec_add, BitVec.getLsbD_add (by decide)]
  simp [BitVec.carry, Nat.mod_one]
theorem and1_bI (x : Int32) : x &&& 1 = bI (bt x 0) := by
  apply b_ext
  intro i hi
  rw [b_and, b_1, b_bI]
  by_cases h : i = 0
  · subst h; simp
  · simp [h]
/-- the sums that a method of the class makes -/
theorem sumBelow_pr (t : Int32) {j : Nat} (hj : j < 16) : fX1_sumBelow t j = bI (pr (bt t) j) := by
  have := lp_holds (fun n (x : Int32) => n ≤ 16 → x = bI (xs (fun i => isb i j && bt t i) n)) (sX1_sumBelow_4 t j) (j + 1) 0 0 (fun n a h1 h2 h3 hn => by
    show (if ((nI n) &&& ((nI j) ^^^ (-1))) = 0 then (a ^^^ (fX1_bit t (nI n))) else a) = bI (xs _ n ^^ (isb n j && bt t n))
    unfold isb
    by_cases hc : (nI n) &&& ((nI j) ^^^ (-1)) = 0
    · rw [if_pos hc, decide_eq_true hc, h3 (by omega), fX1_bit_bI (by omega), bI_xor, Bool.true_and]; rfl
    · rw [if_neg hc, decide_eq_false hc, h3 (by omega), Bool.false_and, Bool.xor_false]; rfl) (fun _ => rfl)
  rw [Nat.zero_add] at this
  have h := this (by omega)
  unfold fX1_sumBelow pr
  rw [h]
  congr 1
  have hz := xs_zero (s := fun i => isb i j && bt t i) (j + 1) (15 - j) (fun k h1 h2 => by
    have : isb k j = false := (by decide +kernel : ∀ j, j < 16 → ∀ k, k < 16 → j < k → isb k j = false) j hj k (by omega) (by omega)
    simp only [this, Bool.false_and])
  rw [show j + 1 + (15 - j) = 16 by omega] at hz
  exact hz.symm
theorem add_step (i : Nat) (hi : i < 4) (x y : Int32) : sX1_addHalves_4 i (x ^^^ y) = sX1_addHalves_4 i x ^^^ sX1_addHalves_4 i y := by
  have hs : (((1 : Int32) <<< ((nI i) &&& 31)) &&& 31) = (nI (2 ^ i) &&& 31) := (by decide +kernel : ∀ i, i < 4 → (((1 : Int32) <<< ((nI i) &&& 31)) &&& 31) = (nI (2 ^ i) &&& 31)) i hi
  have h2 : 2 ^ i < 32 := (by decide : ∀ i, i < 4 → 2 ^ i < 32) i hi
  unfold sX1_addHalves_4
  rw [hs]
  apply b_ext
  intro j hj
  simp only [b_xor, b_shl _ h2 _ hj, b_and]
  generalize decide (2 ^ i ≤ j) = d
  generalize (bt (VT i) (j - 2 ^ i) ^^ bt (-1) (j - 2 ^ i)) = e
  cases bt x j <;> cases bt y j <;> cases bt x (j - 2 ^ i) <;> cases bt y (j - 2 ^ i) <;> cases d <;> cases e <;> rfl
theorem add_xor (x y : Int32) : fX1_addHalves (x ^^^ y) = fX1_addHalves x ^^^ fX1_addHalves y := by
  show sX1_addHalves_4 3 (sX1_addHalves_4 2 (sX1_addHalves_4 1 (sX1_addHalves_4 0 _))) = sX1_addHalves_4 3 (sX1_addHalves_4 2 (sX1_addHalves_4 1 (sX1_addHalves_4 0 _))) ^^^ sX1_addHalves_4 3 (sX1_addHalves_4 2 (sX1_addHalves_4 1 (sX1_addHalves_4 0 _)))
  rw [add_step 0 (by decide), add_step 1 (by decide), add_step 2 (by decide), add_step 3 (by decide)]
theorem lin_ext (F G : Int32 → Int32) (hF : ∀ x y, F (x ^^^ y) = F x ^^^ F y) (hG : ∀ x y, G (x ^^^ y) = G x ^^^ G y) (h0 : F 0 = G 0) (hb : ∀ k, k < 16 → F (nI (2 ^ k)) = G (nI (2 ^ k))) : ∀ k, k ≤ 16 → ∀ x : Int32, (∀ i, k ≤ i → bt x i = false) → F x = G x
  | 0, _, x, h => by
    have : x = 0 := b_ext (fun i _ => by rw [h i (Nat.zero_le _), b_0])
    rw [this]; exact h0
  | k + 1, hk, x, h => by
    by_cases hx : bt x k = true
    · have e : x = (x ^^^ nI (2 ^ k)) ^^^ nI (2 ^ k) := b_ext (fun i _ => by rw [b_xor, b_xor]; cases bt x i <;> cases bt (nI (2 ^ k)) i <;> rfl)
      rw [e, hF, hG, hb k (by omega), lin_ext F G hF hG h0 hb k (by omega) (x ^^^ nI (2 ^ k)) (fun i hi => by
        rw [b_xor, b_nI, Nat.testBit_two_pow]
        by_cases hik : i = k
        · subst hik; rw [hx, decide_eq_true (by omega : i < 32)]; simp
        · rw [h i (by omega)]
          have h8 : decide (k = i) = false := decide_eq_false (fun h9 => hik h9.symm)
          rw [h8]; simp)]
    · exact lin_ext F G hF hG h0 hb k (by omega) x (fun i hi => by
        rcases Nat.eq_or_lt_of_le hi with h1 | h1
        · subst h1; cases hx2 : bt x k with
          | false => rfl
          | true => exact absurd hx2 hx
        · exact h i h1)
/-! Mathematics 4: fixing a variable; self-dual and monotone functions. -/
/-- the point p with the variable v set to c -/
def pw (p v : Nat) (c : Bool) : Nat := if p.testBit v then (if c then p else p - 2 ^ v) else (if c then p + 2 ^ v else p)
theorem pw_lt : ∀ p, p < 16 → ∀ v, v < 4 → ∀ c, pw p v c < 16 := by decide +kernel
theorem hf_tab : ∀ v, v < 4 → ∀ p, p < 16 → (bt (VT v) p = true ∧ bt (VT v) (2 ^ v + p) = false ∧ pw p v true = p ∧ 2 ^ v ≤ p ∧ bt (VT v) (p - 2 ^ v) = false ∧ pw p v false = p - 2 ^ v) ∨ (bt (VT v) p = false ∧ bt (VT v) (2 ^ v + p) = true ∧ pw p v true = 2 ^ v + p ∧ (2 ^ v ≤ p → bt (VT v) (p - 2 ^ v) = true) ∧ pw p v false = p) := by decide +kernel
theorem hf_high : ∀ v, v < 4 → ∀ p, 16 ≤ p → p < 32 → 16 ≤ p - 2 ^ v ∨ bt (VT v) (p - 2 ^ v) = true := by
  intro v hv p h1 h2
  exact (by decide +kernel : ∀ v, v < 4 → ∀ p, p < 32 → 16 ≤ p → 16 ≤ p - 2 ^ v ∨ bt (VT v) (p - 2 ^ v) = true) v hv p h2 h1
theorem hf_sh : ∀ v, v < 4 → (((1 : Int32) <<< ((nI v) &&& 31)) &&& 31) = (nI (2 ^ v) &&& 31) := by decide +kernel
theorem hf_p2 : ∀ v, v < 4 → 2 ^ v ≤ 8 := by decide
theorem bm1 {i : Nat} (h : i < 32) : bt (-1) i = true := (by decide +kernel : ∀ i, i < 32 → bt (-1) i = true) i h
theorem half_1 {t : Int32} (h : tb t) {v : Nat} (hv : v < 4) {b : Int32} (hb : ¬ b = 0) : tb (fX1_half t (nI v) b) ∧ ∀ p, p < 16 → bt (fX1_half t (nI v) b) p = bt t (pw p v true) := by
  have h8 := hf_p2 v hv
  have h9 : 0 < 2 ^ v := Nat.two_pow_pos v
  unfold fX1_half
  rw [if_neg hb, nI_clamp (by omega), hf_sh v hv]
  have ht : tb (t &&& VT v) := tb_and h _
  refine ⟨tb_or ht (fun i hi => ?_), fun p hp => ?_⟩
  · rcases Nat.lt_or_ge i 32 with h1 | h1
    · rw [b_sshr _ (by omega) _ h1, ht 31 (by omega)]
      split
      · exact ht _ (by omega)
      · rfl
    · exact b_big h1
  · rw [b_or, b_sshr _ (by omega) _ (by omega), if_pos (by omega), b_and, b_and]
    rcases hf_tab v hv p hp with ⟨a1, a2, a3, _⟩ | ⟨a1, a2, a3, _⟩
    · rw [a1, a2, a3]; simp
    · rw [a1, a2, a3]; simp
theorem half_0 {t : Int32} (h : tb t) {v : Nat} (hv : v < 4) : tb (fX1_half t (nI v) 0) ∧ ∀ p, p < 16 → bt (fX1_half t (nI v) 0) p = bt t (pw p v false) := by
  have h8 := hf_p2 v hv
  have h9 : 0 < 2 ^ v := Nat.two_pow_pos v
  unfold fX1_half
  rw [if_pos rfl, nI_clamp (by omega), hf_sh v hv]
  have ht : tb (t &&& (VT v ^^^ (-1))) := tb_and h _
  refine ⟨tb_or ht (fun i hi => ?_), fun p hp => ?_⟩
  · rcases Nat.lt_or_ge i 32 with h1 | h1
    · rw [b_shl _ (by omega) _ h1]
      rcases hf_high v hv i hi h1 with h2 | h2
      · rw [ht _ h2, Bool.and_false]
      · rw [b_and, b_xor, h2, bm1 (by omega)]; simp
    · exact b_big h1
  · rw [b_or, b_shl _ (by omega) _ (by omega), b_and, b_and, b_xor, b_xor, bm1 (by omega), bm1 (by omega)]
    rcases hf_tab v hv p hp with ⟨a1, _, _, a2, a3, a4⟩ | ⟨a1, _, _, a2, a3⟩
    · rw [a1, a3, a4, decide_eq_true a2]; simp
    · rw [a1, a3]
      by_cases hq : 2 ^ v ≤ p
      · rw [a2 hq]; simp
      · rw [decide_eq_false hq]; simp
/-! all and some -/
def al (s : Nat → Bool) : Nat → Nat → Bool
  | 0, _ => true
  | n + 1, i => s i && al s n (i + 1)
theorem al_iff (s : Nat → Bool) : ∀ n i, al s n i = true ↔ ∀ j, i ≤ j → j < i + n → s j = true
  | 0, i => ⟨fun _ j h1 h2 => by omega, fun _ => rfl⟩
  | n + 1, i => by
    rw [al, Bool.and_eq_true, al_iff s n (i + 1)]
    constructor
    · rintro ⟨h1, h2⟩ j h3 h4
      rcases Nat.eq_or_lt_of_le h3 with h5 | h5
      · subst h5; exact h1
      · exact h2 j (by omega) (by omega)
    · intro h
      exact ⟨h i (Nat.le_refl _) (by omega), fun j h1 h2 => h j (by omega) (by omega)⟩
theorem al_cong {s t : Nat → Bool} : ∀ {n i : Nat}, (∀ j, i ≤ j → j < i + n → s j = t j) → al s n i = al t n i
  | 0, _, _ => rfl
  | n + 1, i, h => by rw [al, al, h i (Nat.le_refl _) (by omega), al_cong (fun j h1 h2 => h j (by omega) (by omega))]
theorem bool_iff {a b : Bool} (h : a = true ↔ b = true) : a = b := by
  cases a <;> cases b <;> simp_all
theorem sticky (s : Nat → Bool) (f : Nat → Int32 → Int32) : ∀ n i, (∀ j a, i ≤ j → j < i + n → f j a = if a = 0 then 0 else bI (s j)) → lp f n i 0 = 0 ∧ lp f n i 1 = bI (al s n i)
  | 0, _, _ => ⟨rfl, rfl⟩
  | n + 1, i, h => by
    have hr := sticky s f n (i + 1) (fun j a h1 h2 => h j a (by omega) (by omega))
    constructor
    · show lp f n (i + 1) (f i 0) = 0
      rw [h i 0 (Nat.le_refl _) (by omega), if_pos rfl, hr.1]
    · show lp f n (i + 1) (f i 1) = bI (s i && al s n (i + 1))
      rw [h i 1 (Nat.le_refl _) (by omega), if_neg (by decide)]
      cases hs : s i
      · exact hr.1
      · exact hr.2
/-! self-dual -/
theorem rev_ix : ∀ i, i < 16 → (15 - nI i) = nI (15 - i) := by decide +kernel
theorem opposite_al (t : Int32) : ∀ n i, i + n = 16 → tX1_hasOppositeEnds_2 t n i () = bI (al (fun j => bt t j != bt t (15 - j)) n i)
  | 0, _, _ => rfl
  | n + 1, i, h => by
    rw [tX1_hasOppositeEnds_2, al, rev_ix i (by omega), fX1_bit_bI (by omega), fX1_bit_bI (by omega), opposite_al t n (i + 1) (by omega)]
    by_cases hc : bI (bt t i) = bI (bt t (15 - i))
    · rw [if_pos hc]
      rw [bI_inj] at hc
      rw [hc]; simp; rfl
    · rw [if_neg hc]
      rw [bI_inj] at hc
      have : (bt t i != bt t (15 - i)) = true := by revert hc; cases bt t i <;> cases bt t (15 - i) <;> decide
      rw [this, Bool.true_and]
/-- where the variable v is 1 the value is at least what it is where v is 0 -/
def vup (t : Int32) (v : Nat) : Bool := al (fun p => ! bt t (pw p v false) || bt t (pw p v true)) 16 0
theorem never_step {t : Int32} (h : tb t) {v : Nat} (hv : v < 4) : ((fX1_half t (nI v) 0) &&& ((fX1_half t (nI v) 1) ^^^ (-1))) = 0 ↔ vup t v = true := by
  have h1 := half_1 h hv (b := 1) (by decide)
  have h0 := half_0 h hv
  unfold vup
  rw [al_iff]
  constructor
  · intro he j _ hj
    have := congrArg (fun x => bt x j) he
    simp only [b_and, b_xor, b_0, bm1 (show j < 32 by omega), h1.2 j (by omega), h0.2 j (by omega)] at this
    revert this
    cases bt t (pw j v false) <;> cases bt t (pw j v true) <;> simp
  · intro ha
    refine tb_ext (tb_and h0.1 _) tb_0 (fun i hi => ?_)
    have := ha i (Nat.zero_le _) (by omega)
    rw [b_and, b_xor, b_0, bm1 (by omega), h1.2 i hi, h0.2 i hi]
    revert this
    cases bt t (pw i v false) <;> cases bt t (pw i v true) <;> simp
theorem never_al {t : Int32} (h : tb t) : ∀ n i, i + n = 4 → tX1_neverFalls_2 t n i () = bI (al (vup t) n i)
  | 0, _, _ => rfl
  | n + 1, i, hi => by
    rw [tX1_neverFalls_2, al, never_al h n (i + 1) (by omega)]
    by_cases hc : ((fX1_half t (nI i) 0) &&& ((fX1_half t (nI i) 1) ^^^ (-1))) = 0
    · rw [if_pos hc, (never_step h (by omega)).mp hc, Bool.true_and]
    · rw [if_neg hc]
      cases hv : vup t i
      · rfl
      · exact absurd ((never_step h (by omega)).mpr hv) hc
/-! the classes -/
def clI (a b c d e : Bool) : Int32 := ((((bI a) ||| (if b then 2 else 0)) ||| (if c then 4 else 0)) ||| (if d then 8 else 0)) ||| (if e then 16 else 0)
def clN (a b c d e : Bool) : Nat := (if a then 1 else 0) + (if b then 2 else 0) + (if c then 4 else 0) + (if d then 8 else 0) + (if e then 16 else 0)
theorem cl_step : ∀ s, s < 32 → ∀ a b c d e : Bool, (nI s &&& clI a b c d e) = nI (s &&& clN a b c d e) ∧ (s &&& clN a b c d e) < 32 ∧
    (((((nI (31 - s) ||| bI (! a)) ||| (if b then 0 else 2)) ||| (if c then 0 else 4)) ||| (if d then 0 else 8)) ||| (if e then 0 else 16) : Int32) = nI (31 - (s &&& clN a b c d e)) := by decide +kernel
theorem if_lt_le {α : Type} (x y : Int32) (u v : α) : (if x < y then u else v) = if y ≤ x then v else u := by
  by_cases h : x < y
  · rw [if_pos h, if_neg (by rw [Int32.le_iff_toInt_le]; rw [Int32.lt_iff_toInt_lt] at h; omega)]
  · rw [if_neg h, if_pos (by rw [Int32.le_iff_toInt_le]; rw [Int32.lt_iff_toInt_lt] at h; omega)]
theorem tb_dec (x : Int32) (h : x.toBitVec.toNat < 65536) : tb x := by
  intro i hi
  unfold bt
  rw [BitVec.getLsbD]
  exact Nat.testBit_lt_two_pow (Nat.lt_of_lt_of_le h (show (2:Nat)^16 ≤ 2^i from Nat.pow_le_pow_right (by decide) hi))
theorem lin_tb : ∀ i, i < 32 → tb (fX1_linearTable (nI i)) := fun i hi => tb_dec _ ((by decide +kernel : ∀ i, i < 32 → (fX1_linearTable (nI i)).toBitVec.toNat < 65536) i hi)
/-! Mathematics 6: the distance to the linear functions, by sums. -/
theorem wv_tab : ∀ v, v < 4 → ∀ p, p < 16 → (decide ((nI p &&& nI (2 ^ v)) = 0) = ! p.testBit v) ∧ (p.testBit v = true → 2 ^ v ≤ p ∧ (p - 2 ^ v).testBit v = false) ∧ (p.testBit v = false → p + 2 ^ v < 16 ∧ (p + 2 ^ v).testBit v = true) := by decide +kernel
/-- the sums and differences of pairs -/
def wst (M : Nat → Int32) (v p : Nat) : Int32 := if p.testBit v then M (p - 2 ^ v) - M p else M p + M (p + 2 ^ v)
theorem sumPairs_wst (M : Nat → Int32) (v : Nat) (hv : v < 4) : ∀ p, p < 16 → fX1_sumPairs M (2 ^ v) p = wst M v p := by
  have h8 := hf_p2 v hv
  have h9 : 0 < 2 ^ v := Nat.two_pow_pos v
  have hr := lp_holds (fun j (a : Nat → Int32) => ∀ p, p < 16 → a p = if p.testBit v then (if p < j + 2 ^ v then M (p - 2 ^ v) - M p else M p) else (if p < j then M p + M (p + 2 ^ v) else M p)) (sX1_sumPairs_6 (2 ^ v)) (16 - 2 ^ v) 0 M (fun j a h1 h2 h3 p hp => by
    have hj : j < 16 := by omega
    obtain ⟨c1, c2, c3⟩ := wv_tab v hv j hj
    obtain ⟨p1, p2, p3⟩ := wv_tab v hv p hp
    unfold sX1_sumPairs_6
    cases ht : j.testBit v
    · rw [ht, Bool.not_false] at c1
      rw [if_pos (of_decide_eq_true c1)]
      obtain ⟨d1, d2⟩ := c3 ht
      have ej := h3 j hj
      rw [ht, if_neg (by decide), if_neg (by omega)] at ej
      have ek := h3 (j + 2 ^ v) d1
      rw [d2, if_pos rfl, if_neg (by omega)] at ek
      rw [ej, ek]
      unfold upd
      by_cases e1 : p = j + 2 ^ v
      · subst e1
        rw [if_pos rfl, d2, if_pos rfl, if_pos (by omega), Nat.add_sub_cancel]
      · rw [if_neg e1]
        by_cases e2 : p = j
        · subst e2
          rw [if_pos rfl, ht, if_neg (by decide), if_pos (by omega)]
        · rw [if_neg e2, h3 p hp]
          cases hb : p.testBit v
          · simp only [Bool.false_eq_true, if_false]
            by_cases e3 : p < j
            · rw [if_pos e3, if_pos (by omega)]
            · rw [if_neg e3, if_neg (by omega)]
          · simp only [if_true]
            by_cases e3 : p < j + 2 ^ v
            · rw [if_pos e3, if_pos (by omega)]
            · rw [if_neg e3, if_neg (by omega)]
    · rw [ht, Bool.not_true] at c1
      rw [if_neg (of_decide_eq_false c1), h3 p hp]
      cases hb : p.testBit v
      · simp only [Bool.false_eq_true, if_false]
        have e2 : p ≠ j := fun h => by rw [h, ht] at hb; exact absurd hb (by decide)
        by_cases e3 : p < j
        · rw [if_pos e3, if_pos (by omega)]
        · rw [if_neg e3, if_neg (by omega)]
      · simp only [if_true]
        have e2 : p ≠ j + 2 ^ v := fun h => by
          have := (p2 hb).2
          rw [h, Nat.add_sub_cancel, ht] at this
          exact absurd this (by decide)
        by_cases e3 : p < j + 2 ^ v
        · rw [if_pos e3, if_pos (by omega)]
        · rw [if_neg e3, if_neg (by omega)]) (fun p hp => by
    obtain ⟨p1, p2, p3⟩ := wv_tab v hv p hp
    cases hb : p.testBit v
    · rw [if_neg (by decide), if_neg (by omega)]
    · rw [if_pos rfl]
      have := (p2 hb).1
      split <;> first | rfl | omega)
  intro p hp
  obtain ⟨p1, p2, p3⟩ := wv_tab v hv p hp
  have := hr p hp
  unfold wst
  show lp (sX1_sumPairs_6 (2 ^ v)) (16 - 2 ^ v) 0 M p = _
  rw [this]
  cases hb : p.testBit v
  · rw [if_neg (by decide), if_pos (by have := (p3 hb).1; omega), if_neg (by decide)]
  · rw [if_pos rfl, if_pos (by omega), if_pos rfl]
/-! Mathematics 7: the distance by sums is the distance by trying. -/
theorem oI_add (a b : Int) : Int32.ofInt a + Int32.ofInt b = Int32.ofInt (a + b) := (Int32.ofInt_add a b).symm
theorem oI_sub (a b : Int) : Int32.ofInt a - Int32.ofInt b = Int32.ofInt (a - b) := (Int32.ofInt_sub a b).symm
theorem oI_nI (n : Nat) : Int32.ofInt (n : Int) = nI n := rfl
/-- 1 for 0, -1 for 1 -/
def sg (b : Bool) : Int := if b then -1 else 1
theorem sg_xor_true (b : Bool) : sg (b ^^ true) = - sg b := by cases b <;> rfl
theorem sg_not (b : Bool) : sg (! b) = - sg b := by cases b <;> rfl
theorem sg_xor_false (b : Bool) : sg (b ^^ false) = sg b := by cases b <;> rfl
def sgs (b : Nat → Bool) : Nat → Int
  | 0 => 0
  | n + 1 => sgs b n + sg (b n)
theorem sgs_cnt (b : Nat → Bool) : ∀ n, sgs b n = (n : Int) - 2 * (cnt b n : Int)
  | 0 => rfl
  | n + 1 => by
    simp only [sgs, cnt]
    rw [sgs_cnt b n]
    cases hb : b n
    · simp only [sg, Bool.false_eq_true, if_false]; omega
    · simp only [sg, if_true]; omega
theorem cnt_not (b : Nat → Bool) : ∀ n, cnt (fun i => ! b i) n + cnt b n = n
  | 0 => rfl
  | n + 1 => by
    have := cnt_not b n
    simp only [cnt]
    have hb : b n = false ∨ b n = true := by cases b n <;> simp
    rcases hb with hb | hb
    · simp only [hb, Bool.not_false, if_true, Bool.false_eq_true, if_false]; omega
    · simp only [hb, Bool.not_true, if_true, Bool.false_eq_true, if_false]; omega
def wsz (M : Nat → Int) (v p : Nat) : Int := if p.testBit v then M (p - 2 ^ v) - M p else M p + M (p + 2 ^ v)
theorem wsz_ok {F : Nat → Int32} {M : Nat → Int} (h : ∀ p, p < 16 → F p = Int32.ofInt (M p)) (v : Nat) (hv : v < 4) : ∀ p, p < 16 → fX1_sumPairs F (2 ^ v) p = Int32.ofInt (wsz M v p) := by
  intro p hp
  obtain ⟨p1, p2, p3⟩ := wv_tab v hv p hp
  rw [sumPairs_wst F v hv p hp]
  unfold wst wsz
  cases hb : p.testBit v
  · simp only [Bool.false_eq_true, if_false]
    rw [h p hp, h _ (p3 hb).1, oI_add]
  · simp only [if_true]
    rw [h p hp, h _ (Nat.lt_of_le_of_lt (Nat.sub_le _ _) hp), oI_sub]
/-- the linear function of the number i -/
def lin (i p : Nat) : Bool := bt (fX1_linearTable (nI i)) p
theorem lin_not : ∀ i, i < 16 → ∀ p, p < 16 → lin (i + 16) p = ! lin i p := by decide +kernel
/-- the parity of the variables that i and p share -/
def pari (i p : Nat) : Bool := (i.testBit 0 && p.testBit 0) ^^ (i.testBit 1 && p.testBit 1) ^^ (i.testBit 2 && p.testBit 2) ^^ (i.testBit 3 && p.testBit 3)
theorem lin_pari : ∀ i, i < 16 → ∀ p, p < 16 → lin i p = pari i p := by decide +kernel
theorem sgs_cong {s t : Nat → Bool} : ∀ {n : Nat}, (∀ k, k < n → s k = t k) → sgs s n = sgs t n
  | 0, _ => rfl
  | n + 1, h => by simp only [sgs]; rw [sgs_cong (fun k hk => h k (by omega)), h n (by omega)]
theorem walsh (e : Nat → Bool) : ∀ i, i < 16 → wsz (wsz (wsz (wsz (fun p => sg (e p)) 0) 1) 2) 3 i = sgs (fun p => e p ^^ lin i p) 16 := by
  intro i hi
  rw [sgs_cong (t := fun p => e p ^^ pari i p) (fun k hk => by show (e k ^^ lin i k) = (e k ^^ pari i k); rw [lin_pari i hi k hk])]
  have hc : i = 0 ∨ i = 1 ∨ i = 2 ∨ i = 3 ∨ i = 4 ∨ i = 5 ∨ i = 6 ∨ i = 7 ∨ i = 8 ∨ i = 9 ∨ i = 10 ∨ i = 11 ∨ i = 12 ∨ i = 13 ∨ i = 14 ∨ i = 15 := by omega
  rcases hc with h | h | h | h | h | h | h | h | h | h | h | h | h | h | h | h
  all_goals subst h
  all_goals simp only [wsz, sgs, pari, Nat.testBit, Nat.reduceAdd, Nat.reduceSub, Nat.reducePow, Nat.reduceShiftRight, Nat.reduceAnd, Nat.reduceBNe, Bool.and_true, Bool.and_false, Bool.true_and, Bool.false_and, Bool.xor_true, Bool.xor_false, Bool.true_xor, Bool.false_xor, Bool.not_true, Bool.not_false, if_true, if_false, Bool.false_eq_true, sg_xor_true, sg_xor_false, sg_not]
  all_goals omega
/-- at how many points a function differs from the linear one of the number u -/
def dd (t : Int32) (u : Nat) : Nat := cnt (fun p => bt t p ^^ lin u p) 16
theorem dd_le (t : Int32) (u : Nat) : dd t u ≤ 16 := cnt_le _ 16
theorem dd_bits {t : Int32} {u : Nat} : fL_bits (t ^^^ fX1_linearTable (nI u)) = nI (dd t u) := by
  rw [bits_cnt]
  unfold dd lin
  rw [cnt_cong (t := fun p => bt t p ^^ bt (fX1_linearTable (nI u)) p) (fun k _ => b_xor _ _ _)]
theorem dd_not (t : Int32) {u : Nat} (hu : u < 16) : dd t (u + 16) + dd t u = 16 := by
  unfold dd
  rw [cnt_cong (s := fun p => bt t p ^^ lin (u + 16) p) (t := fun p => ! (bt t p ^^ lin u p)) (fun k hk => by
    show (bt t k ^^ lin (u + 16) k) = ! (bt t k ^^ lin u k)
    rw [lin_not u hu k hk]
    cases bt t k <;> cases lin u k <;> rfl)]
  exact cnt_not _ 16
def ab (d : Nat) : Nat := if d ≤ 8 then 16 - 2 * d else 2 * d - 16
theorem ab_ok : ∀ d : Nat, d < 17 → (if 0 ≤ Int32.ofInt (16 - 2 * (d : Int)) then Int32.ofInt (16 - 2 * (d : Int)) else 0 - Int32.ofInt (16 - 2 * (d : Int))) = nI (ab d) := by decide +kernel
theorem ab_le (d : Nat) (h : d ≤ 16) : ab d ≤ 16 := by unfold ab; split <;> omega
theorem half_nI : ∀ m, m < 17 → (16 - nI (16 - 2 * m)) / 2 = (if m ≤ 8 then nI m else (16 - nI 0) / 2) := by decide +kernel
