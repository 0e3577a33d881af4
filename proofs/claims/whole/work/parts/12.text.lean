theorem kX2_hi : ∀ i, i < 16 → 0 < i → ¬ ((nI i >>> ((3 : Int32) &&& 31)) &&& 1 = 0 ∧ (nI i >>> (((3 : Int32) + (-1)) &&& 31)) &&& 1 = 0 ∧ (nI i >>> ((((3 : Int32) + (-1)) + (-1)) &&& 31)) &&& 1 = 0 ∧ (nI i >>> (((((3 : Int32) + (-1)) + (-1)) + (-1)) &&& 31)) &&& 1 = 0) := by decide +kernel
theorem kX2_hiv {x : Int32} (h : vp_in x 16) (h0 : ¬ x = 0) : ¬ ((x >>> ((3 : Int32) &&& 31)) &&& 1 = 0 ∧ (x >>> (((3 : Int32) + (-1)) &&& 31)) &&& 1 = 0 ∧ (x >>> ((((3 : Int32) + (-1)) + (-1)) &&& 31)) &&& 1 = 0 ∧ (x >>> (((((3 : Int32) + (-1)) + (-1)) + (-1)) &&& 31)) &&& 1 = 0) := by
  obtain ⟨i, hi, rfl⟩ := vp_in_of h (by decide)
  exact kX2_hi i hi (Nat.pos_of_ne_zero (fun z => h0 (by rw [z]; rfl)))
theorem kX2_pl0 : ∀ i, i < 16 → ∀ j, j < 4 → 0 < (nI i ||| ((1 : Int32) <<< (nI j &&& 31))).toNatClampNeg ∧ (nI i ||| ((1 : Int32) <<< (nI j &&& 31))).toNatClampNeg < 16 ∧ (nI i ||| ((1 : Int32) <<< (nI j &&& 31))) = nI (nI i ||| ((1 : Int32) <<< (nI j &&& 31))).toNatClampNeg := by decide +kernel
theorem kX2_lo : ∀ i, i < 16 → ¬ (if nI i = 0 then 0 else (fX2_highest (nI i)) + 1) < (0 : Int32) := by decide +kernel
theorem kX2_pl {t x : Int32} (ht : vp_in t 16) (h : ¬ (fX2_in x (if t = 0 then 0 else ((fX2_highest t) + 1) : Int32) 3) = 0) : 0 < (t ||| ((1 : Int32) <<< (x &&& 31))).toNatClampNeg ∧ (t ||| ((1 : Int32) <<< (x &&& 31))).toNatClampNeg < 16 ∧ (t ||| ((1 : Int32) <<< (x &&& 31))) = nI (t ||| ((1 : Int32) <<< (x &&& 31))).toNatClampNeg := by
  obtain ⟨i, hi, rfl⟩ := vp_in_of ht (by decide)
  obtain ⟨h1, h2⟩ := kin_lo h
  have h3 := kX2_lo i hi
  have hx : vp_in x 4 := by
    rw [vp_in_iff]
    rw [Int32.lt_iff_toInt_lt] at h1 h2 h3
    have e0 : (0 : Int32).toInt = 0 := rfl
    have e3 : (3 : Int32).toInt = 3 := rfl
    omega
  obtain ⟨j, hj, rfl⟩ := vp_in_of hx (by decide)
  exact kX2_pl0 i hi j hj
def sX2_canCome_4 (o : Int32) (le : Nat) (i1 : Nat) (a1 : Int32) : Int32 := (if a1 = 0 then (if (if ((nI i1) &&& (nI le)) = (nI le) then (if (((nI i1) &&& ((nI le) ^^^ (-1))) &&& (((1 : Int32) <<< (((if (fX2_bits (nI le)) = 0 then (-1) else (fX2_highest (nI le)) : Int32) + 1) &&& 31)) - 1)) = 0 then 1 else 0) else 0 : Int32) = 0 then 0 else (if (fX2_has o (nI i1)) = 0 then 1 else 0)) else 1 : Int32)
def fX2_canCome (o : Int32) (le : Nat) : Int32 := (lp (sX2_canCome_4 o le) (16 - le) le 0)
theorem ite_of {α : Type} {c : Prop} [Decidable c] {x y : α} (P : α → Prop) (hx : P x) (hy : P y) : P (if c then x else y) := by
  by_cases h : c
  · rw [if_pos h]; exact hx
  · rw [if_neg h]; exact hy
theorem or01 {c : Prop} [Decidable c] {x y : Int32} (hx : x = 0 ∨ x = 1) (hy : y = 0 ∨ y = 1) : (if c then x else y) = 0 ∨ (if c then x else y) = 1 := by
  by_cases h : c
  · rw [if_pos h]; exact hx
  · rw [if_neg h]; exact hy
theorem bX2_canCome_4 (o : Int32) (le : Nat) : ∀ i a, (a = 0 ∨ a = 1) → (sX2_canCome_4 o le i a = 0 ∨ sX2_canCome_4 o le i a = 1) := by
  intro i a ha
  unfold sX2_canCome_4
  exact or01 (or01 (Or.inl rfl) (or01 (Or.inr rfl) (Or.inl rfl))) (Or.inr rfl)
set_option maxHeartbeats 4000000 in
set_option maxRecDepth 100000 in
theorem c_X2_canCome (l : Launch) (D : va_G) (q : Nat → Nat) (cq : Nat → ClassId) (T : Nat → Int32) (R : Nat → Int32) (S : Nat → Int32) (X : Nat → Int32) (n : Int32) (h : Int32) (k : Int32) (th : Int32) (a : Int32) (o : Int32) (le : Nat) (hle : le < 16) (hl0 : 0 < le) : Met l yX2_canCome wsX2_canCome ({ frames := 1, cells := 0, slots := 0, locals := 22 }) (va_Pc [.ref (q 0), .int (nI le)] (fun U => va_P D vwCl (wM q cq T R S X n h k th a o) U.heap ∧ va_K D vwCl (tyM cq) U ∧ env0 U)) (vp_Si (fun r9 => r9 = (fX2_canCome o le))) 0 0 (fun _ => False) := by
  refine Met.ofW (cc := cX2_canCome) (maxL := 7) (ret := (some .boolean)) (by decide) rfl ?_
  intro p e s m args below meth c s₁ B hml hv
  obtain ⟨rfl, hP, hK, hE⟩ := hv
  have hx := B.exec
  have hb := B.bytes
  have hr := B.returns
  have hts := atoms_spec (ws := wsX2_canCome) B.pre
  have hown : s.vm.findClass RX2 = some m.cls := findClass_of_methodNamed B.named
  have hlocks := B.notSynchronized
  have hS : va_S (fun _ => False) s.heap s.heap [] := va_S.rf
  have hP : va_P D vwCl (wM q cq T R S X n h k th a o) s.heap := hP
  have hl := lv_entry ([.ref (q 0), .int (nI le)]) (n := 7) (Nat.le_of_ble_eq_true rfl)
  rw [lg_entry_eq]
  generalize (lg_sl ([.ref (q 0), .int (nI le)]) ++ List.replicate (7 - (lg_sl ([.ref (q 0), .int (nI le)])).length) Slot.unset).toArray = ls at hl ⊢
  have hl : lv_has ls 7 [(0, .ref (q 0)), (1, .int (nI le))] := hl
  refine lv_iconst (v := 0) hx hb dX2_canCome_0 (by decide) ?_
  refine lv_istore_n (lv' := [(2, .int 0), (0, .ref (q 0)), (1, .int (nI le))]) hx hb dX2_canCome_1 rfl hl (by decide) rfl (fun ls hl => ?_)
  refine lv_iload_n hx hb dX2_canCome_2 rfl (lv_at hl 2 rfl) ?_
  refine lv_istore_n (lv' := [(3, .int (nI le)), (2, .int 0), (0, .ref (q 0)), (1, .int (nI le))]) hx hb dX2_canCome_3 rfl hl (by decide) rfl (fun ls hl => ?_)
  obtain ⟨F1, hF1⟩ : ∃ z9, z9 = (lp (sX2_canCome_4 o le) (16 - le) le 0) := ⟨_, rfl⟩
  refine vz_cut (fun H1 l1 g1 => ∃ (n1 i1 : Nat) (a1 : Int32) (ls : Array Slot), i1 + n1 = 16 ∧ lp (sX2_canCome_4 o le) n1 i1 a1 = F1 ∧ lv_has ls 7 [(3, .int (nI i1)), (2, .int a1), (0, .ref (q 0)), (1, .int (nI le))] ∧ (s.heap = H1 ∧ [] = l1) ∧ g1 = F0 m 4 ls []) (fun hj => hj _ _ _ ⟨16 - le, le, 0, ls, (by omega), hF1.symm, lv_sub hl [0, 1, 2, 3] rfl, ⟨rfl, rfl⟩, rfl⟩) ?_
  rintro H1 l1 g1 ⟨n1, i1, a1, ls, hi1, hf1, hl, ⟨rfl, rfl⟩, rfl⟩
  revert i1 a1 ls
  induction n1 with
  | zero =>
    intro i1 a1 ls hi1 hf1 hl
    obtain rfl : 16 = i1 := by omega
    have hf1 : F1 = a1 := hf1.symm
    subst hf1
    refine lv_iload_n hx hb dX2_canCome_4 rfl (lv_at hl 0 rfl) ?_
    refine lv_bipush (v := 16) hx hb dX2_canCome_5 (by decide) ?_
    refine lv_icmp_ge (tgt := 91) hx hb dX2_canCome_7 (by decide) (fun c_1 => ?_) (fun c_1 => ?_)
    · refine lv_iload_n hx hb dX2_canCome_91 rfl (lv_at hl 1 rfl) ?_
      exact W.zret (v := F1) hx hb hr (by rw [hF1]; exact nar_b (lp_b (bX2_canCome_4 _ _) _ _ 0 (Or.inl rfl))) (fun t9 ht hW => ⟨F1, rfl, (by first | ((rw [fX2_canCome]); (try rw [← hF1]); first | done | rfl) | rfl), ht⟩) (fun q h => nomatch h) dX2_canCome_92
    · exact absurd (nI_le (a := 16) (b := 16) (by omega) (by omega)) c_1
  | succ n1 ih1 =>
    intro i1 a1 ls hi1 hf1 hl
    refine lv_iload_n hx hb dX2_canCome_4 rfl (lv_at hl 0 rfl) ?_
    refine lv_bipush (v := 16) hx hb dX2_canCome_5 (by decide) ?_
    refine lv_icmp_ge (tgt := 91) hx hb dX2_canCome_7 (by decide) (fun c_2 => ?_) (fun c_2 => ?_)
    · exact absurd c_2 (nI_ge (a := i1) (b := 16) (by omega) (by omega))
    · refine lv_iload_n hx hb dX2_canCome_10 rfl (lv_at hl 0 rfl) ?_
      refine lv_iload_n hx hb dX2_canCome_11 rfl (lv_at hl 3 rfl) ?_
      refine lv_iconst (v := (-1)) hx hb dX2_canCome_12 (by decide) ?_
      refine lv_ixor hx hb dX2_canCome_13 ?_
      refine lv_iand hx hb dX2_canCome_14 ?_
      refine lv_istore (lv' := [(4, .int ((nI i1) &&& ((nI le) ^^^ (-1)))), (3, .int (nI i1)), (2, .int a1), (0, .ref (q 0)), (1, .int (nI le))]) hx hb dX2_canCome_15 hl (by decide) rfl (fun ls hl => ?_)
      refine lv_iload_n hx hb dX2_canCome_17 rfl (lv_at hl 4 rfl) ?_
      refine vp_callSi (va_Run.run (va_runS (As := [.int (nI le)]) (rest := []) ⟨hx, hb, hml, hown, hts⟩ (c_X2_bits l (nI le)) (va_cwS 1 hts gX2_canCome_X2_bits rfl rfl rfl (by decide +kernel) ⟨Nat.le_of_ble_eq_true rfl, Nat.le_of_ble_eq_true rfl⟩) ⟨fun _ _ _ _ z => z, fun _ _ _ => ⟨rfl, trivial⟩⟩ rfl rfl hl.1 rfl (lv_room (Nat.le_of_ble_eq_true rfl)) dX2_canCome_18 ⟨(Nat.zero_le _), (Nat.zero_le _)⟩)) (fun r9 hr => ?_)
      subst hr
      refine vz_cut (fun H1 l1 g1 => ∃ (x1_0 : Int32) (ls : Array Slot), x1_0 = (if (fX2_bits (nI le)) = 0 then (-1) else (fX2_highest (nI le)) : Int32) ∧ lv_has ls 7 [(4, .int ((nI i1) &&& ((nI le) ^^^ (-1)))), (3, .int (nI i1)), (2, .int a1), (0, .ref (q 0)), (1, .int (nI le))] ∧ (s.heap = H1 ∧ [] = l1) ∧ g1 = F0 m 32 ls [.int x1_0]) (fun hj1 => ?_) ?_
      · refine lv_if_ne (tgt := 28) hx hb dX2_canCome_21 (by decide) (fun c_3 => ?_) (fun c_3 => ?_)
        · refine lv_iload_n hx hb dX2_canCome_28 rfl (lv_at hl 4 rfl) ?_
          refine vp_callSi (va_Run.run (va_runS (As := [.int (nI le)]) (rest := []) ⟨hx, hb, hml, hown, hts⟩ (c_X2_highest l (nI le) (kX2_hi le hle hl0)) (va_cwS 1 hts gX2_canCome_X2_highest rfl rfl rfl (by decide +kernel) ⟨Nat.le_of_ble_eq_true rfl, Nat.le_of_ble_eq_true rfl⟩) ⟨fun _ _ _ _ z => z, fun _ _ _ => ⟨rfl, trivial⟩⟩ rfl rfl hl.1 rfl (lv_room (Nat.le_of_ble_eq_true rfl)) dX2_canCome_29 ⟨(Nat.zero_le _), (Nat.zero_le _)⟩)) (fun r9 hr => ?_)
          subst hr
          exact hj1 _ _ _ ⟨(fX2_highest (nI le)), ls, (by (rw [if_neg c_3]); first | done | rfl), lv_sub hl [0, 1, 2, 3, 4] rfl, ⟨rfl, rfl⟩, rfl⟩
        · refine lv_iconst (v := (-1)) hx hb dX2_canCome_24 (by decide) ?_
          refine lv_goto (tgt := 32) hx hb dX2_canCome_25 (by decide) ?_
          exact hj1 _ _ _ ⟨(-1), ls, (by (rw [if_pos c_3]); first | done | rfl), lv_sub hl [0, 1, 2, 3, 4] rfl, ⟨rfl, rfl⟩, rfl⟩
      rintro H1 l1 g1 ⟨x1_0, ls, ex1_0, hl, ⟨rfl, rfl⟩, rfl⟩
      subst ex1_0
      refine lv_istore (lv' := [(5, .int (if (fX2_bits (nI le)) = 0 then (-1) else (fX2_highest (nI le)) : Int32)), (4, .int ((nI i1) &&& ((nI le) ^^^ (-1)))), (3, .int (nI i1)), (2, .int a1), (0, .ref (q 0)), (1, .int (nI le))]) hx hb dX2_canCome_32 hl (by decide) rfl (fun ls hl => ?_)
      refine lv_iload_n hx hb dX2_canCome_34 rfl (lv_at hl 2 rfl) ?_
      refine lv_iload_n hx hb dX2_canCome_35 rfl (lv_at hl 5 rfl) ?_
      refine lv_iand hx hb dX2_canCome_36 ?_
      refine lv_iload_n hx hb dX2_canCome_37 rfl (lv_at hl 5 rfl) ?_
      refine vz_cut (fun H1 l1 g1 => ∃ (x2_0 : Int32) (ls : Array Slot), x2_0 = (if ((nI i1) &&& (nI le)) = (nI le) then (if (((nI i1) &&& ((nI le) ^^^ (-1))) &&& (((1 : Int32) <<< (((if (fX2_bits (nI le)) = 0 then (-1) else (fX2_highest (nI le)) : Int32) + 1) &&& 31)) - 1)) = 0 then 1 else 0) else 0 : Int32) ∧ lv_has ls 7 [(5, .int (if (fX2_bits (nI le)) = 0 then (-1) else (fX2_highest (nI le)) : Int32)), (4, .int ((nI i1) &&& ((nI le) ^^^ (-1)))), (3, .int (nI i1)), (2, .int a1), (0, .ref (q 0)), (1, .int (nI le))] ∧ (s.heap = H1 ∧ [] = l1) ∧ g1 = F0 m 60 ls [.int x2_0]) (fun hj2 => ?_) ?_
      · refine lv_icmp_ne (tgt := 59) hx hb dX2_canCome_38 (by decide) (fun c_4 => ?_) (fun c_4 => ?_)
        · refine lv_iconst (v := 0) hx hb dX2_canCome_59 (by decide) ?_
          exact hj2 _ _ _ ⟨0, ls, (by (rw [if_neg c_4]); first | done | rfl), lv_sub hl [0, 1, 2, 3, 4, 5] rfl, ⟨rfl, rfl⟩, rfl⟩
        · refine lv_iload hx hb dX2_canCome_41 (lv_at hl 1 rfl) ?_
          refine lv_iconst (v := 1) hx hb dX2_canCome_43 (by decide) ?_
          refine lv_iload hx hb dX2_canCome_44 (lv_at hl 0 rfl) ?_
          refine lv_iconst (v := 1) hx hb dX2_canCome_46 (by decide) ?_
          refine lv_iadd hx hb dX2_canCome_47 ?_
          refine lv_ishl hx hb dX2_canCome_48 ?_
          refine lv_iconst (v := 1) hx hb dX2_canCome_49 (by decide) ?_
          refine lv_isub hx hb dX2_canCome_50 ?_
          refine lv_iand hx hb dX2_canCome_51 ?_
          refine lv_if_ne (tgt := 59) hx hb dX2_canCome_52 (by decide) (fun c_5 => ?_) (fun c_5 => ?_)
          · refine lv_iconst (v := 0) hx hb dX2_canCome_59 (by decide) ?_
            exact hj2 _ _ _ ⟨0, ls, (by (rw [if_pos c_4, if_neg c_5]); first | done | rfl), lv_sub hl [0, 1, 2, 3, 4, 5] rfl, ⟨rfl, rfl⟩, rfl⟩
          · refine lv_iconst (v := 1) hx hb dX2_canCome_55 (by decide) ?_
            refine lv_goto (tgt := 60) hx hb dX2_canCome_56 (by decide) ?_
            exact hj2 _ _ _ ⟨1, ls, (by (rw [if_pos c_4, if_pos c_5]); first | done | rfl), lv_sub hl [0, 1, 2, 3, 4, 5] rfl, ⟨rfl, rfl⟩, rfl⟩
      rintro H1 l1 g1 ⟨x2_0, ls, ex2_0, hl, ⟨rfl, rfl⟩, rfl⟩
      subst ex2_0
      refine lv_istore (lv' := [(6, .int (if ((nI i1) &&& (nI le)) = (nI le) then (if (((nI i1) &&& ((nI le) ^^^ (-1))) &&& (((1 : Int32) <<< (((if (fX2_bits (nI le)) = 0 then (-1) else (fX2_highest (nI le)) : Int32) + 1) &&& 31)) - 1)) = 0 then 1 else 0) else 0 : Int32)), (5, .int (if (fX2_bits (nI le)) = 0 then (-1) else (fX2_highest (nI le)) : Int32)), (4, .int ((nI i1) &&& ((nI le) ^^^ (-1)))), (3, .int (nI i1)), (2, .int a1), (0, .ref (q 0)), (1, .int (nI le))]) hx hb dX2_canCome_60 hl (by decide) rfl (fun ls hl => ?_)
      refine lv_iload_n hx hb dX2_canCome_62 rfl (lv_at hl 4 rfl) ?_
      refine vz_cut (fun H1 l1 g1 => ∃ (x3_0 : Int32) (ls : Array Slot), x3_0 = (if a1 = 0 then (if (if ((nI i1) &&& (nI le)) = (nI le) then (if (((nI i1) &&& ((nI le) ^^^ (-1))) &&& (((1 : Int32) <<< (((if (fX2_bits (nI le)) = 0 then (-1) else (fX2_highest (nI le)) : Int32) + 1) &&& 31)) - 1)) = 0 then 1 else 0) else 0 : Int32) = 0 then 0 else (if (fX2_has o (nI i1)) = 0 then 1 else 0)) else 1 : Int32) ∧ lv_has ls 7 [(6, .int (if ((nI i1) &&& (nI le)) = (nI le) then (if (((nI i1) &&& ((nI le) ^^^ (-1))) &&& (((1 : Int32) <<< (((if (fX2_bits (nI le)) = 0 then (-1) else (fX2_highest (nI le)) : Int32) + 1) &&& 31)) - 1)) = 0 then 1 else 0) else 0 : Int32)), (5, .int (if (fX2_bits (nI le)) = 0 then (-1) else (fX2_highest (nI le)) : Int32)), (4, .int ((nI i1) &&& ((nI le) ^^^ (-1)))), (3, .int (nI i1)), (2, .int a1), (0, .ref (q 0)), (1, .int (nI le))] ∧ (s.heap = H1 ∧ [] = l1) ∧ g1 = F0 m 84 ls [.int x3_0]) (fun hj3 => ?_) ?_
      · refine lv_if_ne (tgt := 79) hx hb dX2_canCome_63 (by decide) (fun c_6 => ?_) (fun c_6 => ?_)
        · refine lv_iconst (v := 1) hx hb dX2_canCome_79 (by decide) ?_
          refine lv_goto (tgt := 84) hx hb dX2_canCome_80 (by decide) ?_
          exact hj3 _ _ _ ⟨1, ls, (by (rw [if_neg c_6]); first | done | rfl), lv_sub hl [0, 1, 2, 3, 4, 5, 6] rfl, ⟨rfl, rfl⟩, rfl⟩
        · refine lv_iload hx hb dX2_canCome_66 (lv_at hl 0 rfl) ?_
          refine lv_if_eq (tgt := 83) hx hb dX2_canCome_68 (by decide) (fun c_7 => ?_) (fun c_7 => ?_)
          · refine lv_iconst (v := 0) hx hb dX2_canCome_83 (by decide) ?_
            exact hj3 _ _ _ ⟨0, ls, (by (rw [if_pos c_6, if_pos c_7]); first | done | rfl), lv_sub hl [0, 1, 2, 3, 4, 5, 6] rfl, ⟨rfl, rfl⟩, rfl⟩
          · refine lv_aload_n hx hb dX2_canCome_71 rfl (lv_at hl 5 rfl) ?_
            refine lv_iload_n hx hb dX2_canCome_72 rfl (lv_at hl 3 rfl) ?_
            have hPc := hP.sub (ws' := (wM q cq T R S X n h k th a o)) [0, 1, 2, 3, 4] rfl
            have hKc := hK.sub (tys' := (tyM cq)) [0, 1, 2, 3] rfl
            refine vp_callSi (va_Run.run (va_runV (As := [.int (nI i1)]) (rest := []) ⟨hx, hb, hml, hown, hts⟩ (c_X2_has l D q cq T R S X n h k th a o (nI i1)) (cwV 1 hts gX2_canCome_X2_has rfl rfl rfl (by decide +kernel) ⟨Nat.le_of_ble_eq_true rfl, Nat.le_of_ble_eq_true rfl⟩) ⟨fun a U g mk z => ⟨z.1, z.2.1, va_K.moved (u := U) (U := U.calling g mk a) (Vm.Alike.refl U.vm) z.2.2.1, z.2.2.2.blind g mk a⟩, va_recv hKc hPc (ci := 2) (q0 := 0) rfl rfl, fun U hU hW => ⟨rfl, by rw [hU]; exact hPc, va_K.moved hW.alike hKc, hE.at0 hS hU hW⟩⟩ rfl rfl hl.1 rfl (lv_room (Nat.le_of_ble_eq_true rfl)) dX2_canCome_73 ⟨(Nat.zero_le _), (Nat.zero_le _)⟩)) (fun r9 hr => ?_)
            subst hr
            refine lv_if_ne (tgt := 83) hx hb dX2_canCome_76 (by decide) (fun c_8 => ?_) (fun c_8 => ?_)
            · refine lv_iconst (v := 0) hx hb dX2_canCome_83 (by decide) ?_
              exact hj3 _ _ _ ⟨0, ls, (by (rw [if_pos c_6, if_neg c_7, if_neg c_8]); first | done | rfl), lv_sub hl [0, 1, 2, 3, 4, 5, 6] rfl, ⟨rfl, rfl⟩, rfl⟩
            · refine lv_iconst (v := 1) hx hb dX2_canCome_79 (by decide) ?_
              refine lv_goto (tgt := 84) hx hb dX2_canCome_80 (by decide) ?_
              exact hj3 _ _ _ ⟨1, ls, (by (rw [if_pos c_6, if_neg c_7, if_pos c_8]); first | done | rfl), lv_sub hl [0, 1, 2, 3, 4, 5, 6] rfl, ⟨rfl, rfl⟩, rfl⟩
      rintro H1 l1 g1 ⟨x3_0, ls, ex3_0, hl, ⟨rfl, rfl⟩, rfl⟩
      subst ex3_0
      refine lv_istore_n (lv' := [(2, .int (if a1 = 0 then (if (if ((nI i1) &&& (nI le)) = (nI le) then (if (((nI i1) &&& ((nI le) ^^^ (-1))) &&& (((1 : Int32) <<< (((if (fX2_bits (nI le)) = 0 then (-1) else (fX2_highest (nI le)) : Int32) + 1) &&& 31)) - 1)) = 0 then 1 else 0) else 0 : Int32) = 0 then 0 else (if (fX2_has o (nI i1)) = 0 then 1 else 0)) else 1 : Int32)), (6, .int (if ((nI i1) &&& (nI le)) = (nI le) then (if (((nI i1) &&& ((nI le) ^^^ (-1))) &&& (((1 : Int32) <<< (((if (fX2_bits (nI le)) = 0 then (-1) else (fX2_highest (nI le)) : Int32) + 1) &&& 31)) - 1)) = 0 then 1 else 0) else 0 : Int32)), (5, .int (if (fX2_bits (nI le)) = 0 then (-1) else (fX2_highest (nI le)) : Int32)), (4, .int ((nI i1) &&& ((nI le) ^^^ (-1)))), (3, .int (nI i1)), (0, .ref (q 0)), (1, .int (nI le))]) hx hb dX2_canCome_84 rfl hl (by decide) rfl (fun ls hl => ?_)
      refine lv_iinc (v := (nI (i1 + 1))) (lv' := [(3, .int (nI (i1 + 1))), (2, .int (if a1 = 0 then (if (if ((nI i1) &&& (nI le)) = (nI le) then (if (((nI i1) &&& ((nI le) ^^^ (-1))) &&& (((1 : Int32) <<< (((if (fX2_bits (nI le)) = 0 then (-1) else (fX2_highest (nI le)) : Int32) + 1) &&& 31)) - 1)) = 0 then 1 else 0) else 0 : Int32) = 0 then 0 else (if (fX2_has o (nI i1)) = 0 then 1 else 0)) else 1 : Int32)), (6, .int (if ((nI i1) &&& (nI le)) = (nI le) then (if (((nI i1) &&& ((nI le) ^^^ (-1))) &&& (((1 : Int32) <<< (((if (fX2_bits (nI le)) = 0 then (-1) else (fX2_highest (nI le)) : Int32) + 1) &&& 31)) - 1)) = 0 then 1 else 0) else 0 : Int32)), (5, .int (if (fX2_bits (nI le)) = 0 then (-1) else (fX2_highest (nI le)) : Int32)), (4, .int ((nI i1) &&& ((nI le) ^^^ (-1)))), (0, .ref (q 0)), (1, .int (nI le))]) hx hb dX2_canCome_85 hl (k := 4) rfl (by first | exact nI_add _ _ | rfl) (by decide) rfl (fun ls hl => ?_)
      refine lv_goto (tgt := 4) hx hb dX2_canCome_88 (by decide) ?_
      exact ih1 (i1 + 1) (if a1 = 0 then (if (if ((nI i1) &&& (nI le)) = (nI le) then (if (((nI i1) &&& ((nI le) ^^^ (-1))) &&& (((1 : Int32) <<< (((if (fX2_bits (nI le)) = 0 then (-1) else (fX2_highest (nI le)) : Int32) + 1) &&& 31)) - 1)) = 0 then 1 else 0) else 0 : Int32) = 0 then 0 else (if (fX2_has o (nI i1)) = 0 then 1 else 0)) else 1 : Int32) ls (by omega) ((congrArg (lp (sX2_canCome_4 o le) n1 (i1 + 1)) (show (if a1 = 0 then (if (if ((nI i1) &&& (nI le)) = (nI le) then (if (((nI i1) &&& ((nI le) ^^^ (-1))) &&& (((1 : Int32) <<< (((if (fX2_bits (nI le)) = 0 then (-1) else (fX2_highest (nI le)) : Int32) + 1) &&& 31)) - 1)) = 0 then 1 else 0) else 0 : Int32) = 0 then 0 else (if (fX2_has o (nI i1)) = 0 then 1 else 0)) else 1 : Int32) = (sX2_canCome_4 o le) i1 a1 from by first | ((rw [sX2_canCome_4]); first | done | rfl) | rfl)).trans hf1) (lv_sub hl [0, 1, 5, 6] rfl)
theorem kX2_or0 {t : Int32} (h : vp_in t 16) : vp_in (t ||| 0) 16 := by
  rw [Int32.or_zero]; exact h
theorem kX2_has0 (o x : Int32) : True := trivial
theorem in_X2_product_X2 : ∀ w ∈ wsX20, w ∈ wsX2_product := by decide +kernel
def tX2_product_49 (X : Nat → Int32) (k : Nat) (o : Int32) : Nat → Nat → Int32 × Int32 × Nat → Int32 × Nat
  | 0, _, a1 => if a1.1 = 0 then ((-1), a1.2.2) else (a1.1, a1.2.2)
  | n1 + 1, i1, a1 => if a1.2.1 = 0 then (if a1.1 = 0 then ((-1), a1.2.2) else (a1.1, a1.2.2)) else (if (nI k) ≤ (nI a1.2.2) then (if a1.1 = 0 then ((-1), a1.2.2) else (a1.1, a1.2.2)) else (if (fX2_in ((X a1.2.2) - 97) (if a1.1 = 0 then 0 else ((fX2_highest a1.1) + 1) : Int32) 3) = 0 then tX2_product_49 X k o n1 (i1 + 1) ((a1.1 ||| 0), 0, (a1.2.2 + 0)) else (if (fX2_canCome o ((a1.1 ||| ((1 : Int32) <<< (((X a1.2.2) - 97) &&& 31))).toNatClampNeg)) = 0 then tX2_product_49 X k o n1 (i1 + 1) ((a1.1 ||| 0), 0, (a1.2.2 + 0)) else tX2_product_49 X k o n1 (i1 + 1) ((a1.1 ||| ((1 : Int32) <<< (((X a1.2.2) - 97) &&& 31))), 1, (a1.2.2 + 1)))))
def fX2_product (X : Nat → Int32) (k : Nat) (a : Nat) (o : Int32) : Int32 × Nat := if (nI k) ≤ (nI a) then tX2_product_49 X k o (k - a + 1) 0 (0, 1, a) else (if (X a) = 49 then (if (fX2_has o 0) = 0 then (0, (a + 1)) else tX2_product_49 X k o (k - a + 1) 0 (0, 1, a)) else tX2_product_49 X k o (k - a + 1) 0 (0, 1, a))
set_option maxHeartbeats 4000000 in
set_option maxRecDepth 100000 in
theorem c_X2_product (l : Launch) (D : va_G) (q : Nat → Nat) (cq : Nat → ClassId) (sz : Nat) (T : Nat → Int32) (R : Nat → Int32) (S : Nat → Int32) (X : Nat → Int32) (n : Int32) (h : Int32) (k : Nat) (th : Int32) (a : Nat) (o : Int32) (ha9 : a ≤ k) (hk9 : k ≤ 80) : Met l yX2_product wsX2_product ({ frames := 2, cells := 0, slots := 0, locals := 48 }) (va_Pc [.ref (q 0)] (fun U => U.heap.size = sz ∧ va_P D vwCl (wM q cq T R S X n h (nI k) th (nI a) o) U.heap ∧ va_K D vwCl (tyM cq) U ∧ va_D (fun _ => True) (wM q cq T R S X n h (nI k) th (nI a) o) ∧ envE (va_A (wM q cq T R S X n h (nI k) th (nI a) o) sz) U)) (va_Qi (fun r9 (_ : Unit) => r9 = (fX2_product X k a o).1) (fun _ t9 => va_P D vwCl (wM q cq T R S X n h (nI k) th (nI (fX2_product X k a o).2) o) t9.heap ∧ va_D (va_A (wM q cq T R S X n h (nI k) th (nI a) o) sz) (wM q cq T R S X n h (nI k) th (nI (fX2_product X k a o).2) o)) (va_A (wM q cq T R S X n h (nI k) th (nI a) o) sz)) 0 0 (va_A (wM q cq T R S X n h (nI k) th (nI a) o) sz) := by
  refine Met.ofW (cc := cX2_product) (maxL := 4) (ret := (some .int)) (by decide) rfl ?_
  intro p e s m args below meth c s₁ B hml hv
  obtain ⟨rfl, hsz, hP, hK, hD0, hE⟩ := hv
  have hx := B.exec
  have hb := B.bytes
  have hr := B.returns
  have hts := atoms_spec (ws := wsX2_product) B.pre
  have hown : s.vm.findClass RX2 = some m.cls := findClass_of_methodNamed B.named
  have hlocks := B.notSynchronized
  subst hsz
  have hD := hD0.self (sz := s.heap.size)
  generalize hAe : va_A (wM q cq T R S X n h (nI k) th (nI a) o) s.heap.size = A at hD hE ⊢
  have hA : ∀ q : Nat, s.heap.size ≤ q → A q := fun q h => by rw [← hAe]; exact Or.inr h
  have hS : va_S A s.heap s.heap [] := va_S.rf
  have hP : va_P D vwCl (wM q cq T R S X n h (nI k) th (nI a) o) s.heap := hP
  have hl := lv_entry ([.ref (q 0)]) (n := 4) (Nat.le_of_ble_eq_true rfl)
  rw [lg_entry_eq]
  generalize (lg_sl ([.ref (q 0)]) ++ List.replicate (4 - (lg_sl ([.ref (q 0)])).length) Slot.unset).toArray = ls at hl ⊢
  have hl : lv_has ls 4 [(0, .ref (q 0))] := hl
  refine lv_aload_n hx hb dX2_product_0 rfl (lv_at hl 0 rfl) ?_
  refine va_get (D := D) (ci := 2) (v := .int (nI a)) (C := RX2) (T := TX2) (N := 10) hx hb hts in_X2_product_X2 hown hK hP 0 rfl rfl 8 (by decide) (hts (.fieldLink RX2 82 "ZhegalkinBenchModel" "at" "I") (List.mem_of_getElem? (i := 1) rfl)) (fun _ h9 => h9) rfl dX2_product_1 ?_
  refine lv_aload_n hx hb dX2_product_4 rfl (lv_at hl 0 rfl) ?_
  refine va_get (D := D) (ci := 2) (v := .int (nI k)) (C := RX2) (T := TX2) (N := 10) hx hb hts in_X2_product_X2 hown hK hP 0 rfl rfl 6 (by decide) (hts (.fieldLink RX2 73 "ZhegalkinBenchModel" "typed" "I") (List.mem_of_getElem? (i := 2) rfl)) (fun _ h9 => h9) rfl dX2_product_5 ?_
  refine lv_icmp_ge (tgt := 45) hx hb dX2_product_8 (by decide) (fun c_1 => ?_) (fun c_1 => ?_)
  · refine lv_iconst (v := 0) hx hb dX2_product_45 (by decide) ?_
    refine lv_istore_n (lv' := [(1, .int 0), (0, .ref (q 0))]) hx hb dX2_product_46 rfl hl (by decide) rfl (fun ls hl => ?_)
    refine lv_iconst (v := 1) hx hb dX2_product_47 (by decide) ?_
    refine lv_istore_n (lv' := [(2, .int 1), (1, .int 0), (0, .ref (q 0))]) hx hb dX2_product_48 rfl hl (by decide) rfl (fun ls hl => ?_)
    have hfo1 : tX2_product_49 X k o (k - a + 1) 0 (0, 1, a) = (fX2_product X k a o) := Eq.symm (by first | ((rw [fX2_product, if_pos c_1]); first | done | rfl) | rfl)
    refine vz_cut (fun H1 l1 g1 => ∃ (n1 i1 : Nat) (a1 : Int32 × Int32 × Nat) (ls : Array Slot), i1 + n1 = k - a + 1 ∧ tX2_product_49 X k o n1 i1 a1 = tX2_product_49 X k o (k - a + 1) 0 (0, 1, a) ∧ vp_in a1.1 16 ∧ (a1.2.1 = 0 ∨ (a1.2.1 = 1 ∧ a1.2.2 = a + i1)) ∧ a1.2.2 ≤ k ∧ lv_has ls 4 [(1, .int a1.1), (2, .int a1.2.1), (0, .ref (q 0))] ∧ va_P D vwCl (wM q cq T R S X n h (nI k) th (nI a1.2.2) o) H1 ∧ va_D A (wM q cq T R S X n h (nI k) th (nI a1.2.2) o) ∧ va_S A s.heap H1 l1 ∧ g1 = F0 m 49 ls []) (fun hj => hj _ _ _ ⟨k - a + 1, 0, (0, 1, a), ls, (by omega), rfl, (vp_in_nI (n := 0) (by decide) (by decide)), (Or.inr ⟨rfl, rfl⟩), ha9, lv_sub hl [1, 0, 2] rfl, hP, hD, hS, rfl⟩) ?_
    rintro H locs g1 ⟨n1, i1, a1, ls, hi1, hf1, hv1_0, hv1_1, hv1_2, hl, hP, hD, hS, rfl⟩
    revert H locs i1 a1 ls
    induction n1 with
    | zero =>
      intro H locs i1 a1 ls hi1 hf1 hv1_0 hv1_1 hv1_2 hl hP hD hS
      obtain rfl : k - a + 1 = i1 := by omega
      refine lv_iload_n hx hb dX2_product_49 rfl (lv_at hl 1 rfl) ?_
      refine lv_if_eq (tgt := 152) hx hb dX2_product_50 (by decide) (fun c_2 => ?_) (fun c_2 => ?_)
      · refine lv_iload_n hx hb dX2_product_152 rfl (lv_at hl 0 rfl) ?_
        refine lv_if_ne (tgt := 160) hx hb dX2_product_153 (by decide) (fun c_3 => ?_) (fun c_3 => ?_)
        · refine lv_iload_n hx hb dX2_product_160 rfl (lv_at hl 0 rfl) ?_
          have hq : (fX2_product X k a o) = (a1.1, a1.2.2) := Eq.symm ((show (a1.1, a1.2.2) = tX2_product_49 X k o 0 (k - a + 1) a1 from by first | (symm; (rw [tX2_product_49, if_neg c_3]); first | done | rfl) | rfl).trans (hf1.trans hfo1))
          exact W.iret (v := a1.1) hx hb hr (fun t9 ht hW => ⟨⟨a1.1, (), rfl, by rw [hq], by rw [hq]; exact ⟨by rw [ht]; exact hP, hD⟩⟩, hS.F ht⟩) hS.2.2 dX2_product_161
        · refine lv_iconst (v := (-1)) hx hb dX2_product_156 (by decide) ?_
          refine lv_goto (tgt := 161) hx hb dX2_product_157 (by decide) ?_
          have hq : (fX2_product X k a o) = ((-1), a1.2.2) := Eq.symm ((show ((-1), a1.2.2) = tX2_product_49 X k o 0 (k - a + 1) a1 from by first | (symm; (rw [tX2_product_49, if_pos c_3]); first | done | rfl) | rfl).trans (hf1.trans hfo1))
          exact W.iret (v := (-1)) hx hb hr (fun t9 ht hW => ⟨⟨(-1), (), rfl, by rw [hq], by rw [hq]; exact ⟨by rw [ht]; exact hP, hD⟩⟩, hS.F ht⟩) hS.2.2 dX2_product_161
      · exact absurd (hv1_1.elim id (fun z => absurd z.2 (by omega))) c_2
    | succ n1 ih1 =>
      intro H locs i1 a1 ls hi1 hf1 hv1_0 hv1_1 hv1_2 hl hP hD hS
      refine lv_iload_n hx hb dX2_product_49 rfl (lv_at hl 1 rfl) ?_
      refine lv_if_eq (tgt := 152) hx hb dX2_product_50 (by decide) (fun c_4 => ?_) (fun c_4 => ?_)
      · refine lv_iload_n hx hb dX2_product_152 rfl (lv_at hl 0 rfl) ?_
        refine lv_if_ne (tgt := 160) hx hb dX2_product_153 (by decide) (fun c_5 => ?_) (fun c_5 => ?_)
        · refine lv_iload_n hx hb dX2_product_160 rfl (lv_at hl 0 rfl) ?_
          have hq : (fX2_product X k a o) = (a1.1, a1.2.2) := Eq.symm ((show (a1.1, a1.2.2) = tX2_product_49 X k o (n1 + 1) i1 a1 from by first | (symm; (rw [tX2_product_49, if_pos c_4, if_neg c_5]); first | done | rfl) | rfl).trans (hf1.trans hfo1))
          exact W.iret (v := a1.1) hx hb hr (fun t9 ht hW => ⟨⟨a1.1, (), rfl, by rw [hq], by rw [hq]; exact ⟨by rw [ht]; exact hP, hD⟩⟩, hS.F ht⟩) hS.2.2 dX2_product_161
        · refine lv_iconst (v := (-1)) hx hb dX2_product_156 (by decide) ?_
          refine lv_goto (tgt := 161) hx hb dX2_product_157 (by decide) ?_
          have hq : (fX2_product X k a o) = ((-1), a1.2.2) := Eq.symm ((show ((-1), a1.2.2) = tX2_product_49 X k o (n1 + 1) i1 a1 from by first | (symm; (rw [tX2_product_49, if_pos c_4, if_pos c_5]); first | done | rfl) | rfl).trans (hf1.trans hfo1))
          exact W.iret (v := (-1)) hx hb hr (fun t9 ht hW => ⟨⟨(-1), (), rfl, by rw [hq], by rw [hq]; exact ⟨by rw [ht]; exact hP, hD⟩⟩, hS.F ht⟩) hS.2.2 dX2_product_161
      · have hw1 : a1.2.2 = a + i1 := (hv1_1.resolve_left c_4).2
        refine lv_aload_n hx hb dX2_product_53 rfl (lv_at hl 2 rfl) ?_
        refine va_get (D := D) (ci := 2) (v := .int (nI a1.2.2)) (C := RX2) (T := TX2) (N := 10) hx hb hts in_X2_product_X2 hown hK hP 0 rfl rfl 8 (by decide) (hts (.fieldLink RX2 82 "ZhegalkinBenchModel" "at" "I") (List.mem_of_getElem? (i := 1) rfl)) (fun _ h9 => h9) rfl dX2_product_54 ?_
        refine lv_aload_n hx hb dX2_product_57 rfl (lv_at hl 2 rfl) ?_
        refine va_get (D := D) (ci := 2) (v := .int (nI k)) (C := RX2) (T := TX2) (N := 10) hx hb hts in_X2_product_X2 hown hK hP 0 rfl rfl 6 (by decide) (hts (.fieldLink RX2 73 "ZhegalkinBenchModel" "typed" "I") (List.mem_of_getElem? (i := 2) rfl)) (fun _ h9 => h9) rfl dX2_product_58 ?_
        refine lv_icmp_ge (tgt := 152) hx hb dX2_product_61 (by decide) (fun c_6 => ?_) (fun c_6 => ?_)
        · refine lv_iload_n hx hb dX2_product_152 rfl (lv_at hl 0 rfl) ?_
          refine lv_if_ne (tgt := 160) hx hb dX2_product_153 (by decide) (fun c_7 => ?_) (fun c_7 => ?_)
          · refine lv_iload_n hx hb dX2_product_160 rfl (lv_at hl 0 rfl) ?_
            have hq : (fX2_product X k a o) = (a1.1, a1.2.2) := Eq.symm ((show (a1.1, a1.2.2) = tX2_product_49 X k o (n1 + 1) i1 a1 from by first | (symm; (rw [tX2_product_49, if_neg c_4, if_pos c_6, if_neg c_7]); first | done | rfl) | rfl).trans (hf1.trans hfo1))
            exact W.iret (v := a1.1) hx hb hr (fun t9 ht hW => ⟨⟨a1.1, (), rfl, by rw [hq], by rw [hq]; exact ⟨by rw [ht]; exact hP, hD⟩⟩, hS.F ht⟩) hS.2.2 dX2_product_161
          · refine lv_iconst (v := (-1)) hx hb dX2_product_156 (by decide) ?_
            refine lv_goto (tgt := 161) hx hb dX2_product_157 (by decide) ?_
            have hq : (fX2_product X k a o) = ((-1), a1.2.2) := Eq.symm ((show ((-1), a1.2.2) = tX2_product_49 X k o (n1 + 1) i1 a1 from by first | (symm; (rw [tX2_product_49, if_neg c_4, if_pos c_6, if_pos c_7]); first | done | rfl) | rfl).trans (hf1.trans hfo1))
            exact W.iret (v := (-1)) hx hb hr (fun t9 ht hW => ⟨⟨(-1), (), rfl, by rw [hq], by rw [hq]; exact ⟨by rw [ht]; exact hP, hD⟩⟩, hS.F ht⟩) hS.2.2 dX2_product_161
        · have hlt : a1.2.2 < k := Nat.lt_of_not_le (fun q9 => c_6 (nI_le (a := k) (b := a1.2.2) q9 (by omega)))
          refine lv_aload_n hx hb dX2_product_64 rfl (lv_at hl 2 rfl) ?_
          refine va_get (D := D) (ci := 2) (v := .ref (q 4)) (C := RX2) (T := TX2) (N := 10) hx hb hts in_X2_product_X2 hown hK hP 0 rfl rfl 5 (by decide) (hts (.fieldLink RX2 19 "ZhegalkinBenchModel" "text" "[I") (List.mem_of_getElem? (i := 3) rfl)) (fun _ h9 => h9) rfl dX2_product_65 ?_
          refine lv_aload_n hx hb dX2_product_68 rfl (lv_at hl 2 rfl) ?_
          refine va_get (D := D) (ci := 2) (v := .int (nI a1.2.2)) (C := RX2) (T := TX2) (N := 10) hx hb hts in_X2_product_X2 hown hK hP 0 rfl rfl 8 (by decide) (hts (.fieldLink RX2 82 "ZhegalkinBenchModel" "at" "I") (List.mem_of_getElem? (i := 1) rfl)) (fun _ h9 => h9) rfl dX2_product_69 ?_
          refine vz_iald hx hb hK hP 4 3 rfl rfl a1.2.2 (by omega) (by decide) dX2_product_72 ?_
          refine lv_bipush (v := 97) hx hb dX2_product_73 (by decide) ?_
          refine lv_isub hx hb dX2_product_75 ?_
          refine lv_istore_n (lv' := [(3, .int ((X a1.2.2) - 97)), (1, .int a1.1), (2, .int a1.2.1), (0, .ref (q 0))]) hx hb dX2_product_76 rfl hl (by decide) rfl (fun ls hl => ?_)
          refine lv_iload_n hx hb dX2_product_77 rfl (lv_at hl 0 rfl) ?_
          refine lv_iload_n hx hb dX2_product_78 rfl (lv_at hl 1 rfl) ?_
          refine vz_cut (fun H1 l1 g1 => ∃ (x1_0 : Int32) (ls : Array Slot), x1_0 = (if a1.1 = 0 then 0 else ((fX2_highest a1.1) + 1) : Int32) ∧ lv_has ls 4 [(3, .int ((X a1.2.2) - 97)), (1, .int a1.1), (2, .int a1.2.1), (0, .ref (q 0))] ∧ (H = H1 ∧ locs = l1) ∧ g1 = F0 m 92 ls [.int x1_0, .int ((X a1.2.2) - 97)]) (fun hj1 => ?_) ?_
          · refine lv_if_ne (tgt := 86) hx hb dX2_product_79 (by decide) (fun c_8 => ?_) (fun c_8 => ?_)
            · refine lv_iload_n hx hb dX2_product_86 rfl (lv_at hl 1 rfl) ?_
              refine vp_callSi (va_Run.run (va_runS (As := [.int a1.1]) (rest := [.int ((X a1.2.2) - 97)]) ⟨hx, hb, hml, hown, hts⟩ (c_X2_highest l a1.1 (kX2_hiv hv1_0 c_8)) (va_cwS 1 hts gX2_product_X2_highest rfl rfl rfl (by decide +kernel) ⟨Nat.le_of_ble_eq_true rfl, Nat.le_of_ble_eq_true rfl⟩) ⟨fun _ _ _ _ z => z, fun _ _ _ => ⟨rfl, trivial⟩⟩ rfl rfl hl.1 rfl (lv_room (Nat.le_of_ble_eq_true rfl)) dX2_product_87 ⟨(Nat.zero_le _), (Nat.zero_le _)⟩)) (fun r9 hr => ?_)
              subst hr
              refine lv_iconst (v := 1) hx hb dX2_product_90 (by decide) ?_
              refine lv_iadd hx hb dX2_product_91 ?_
              exact hj1 _ _ _ ⟨((fX2_highest a1.1) + 1), ls, (by (rw [if_neg c_8]); first | done | rfl), lv_sub hl [0, 1, 2, 3] rfl, ⟨rfl, rfl⟩, rfl⟩
            · refine lv_iconst (v := 0) hx hb dX2_product_82 (by decide) ?_
              refine lv_goto (tgt := 92) hx hb dX2_product_83 (by decide) ?_
              exact hj1 _ _ _ ⟨0, ls, (by (rw [if_pos c_8]); first | done | rfl), lv_sub hl [0, 1, 2, 3] rfl, ⟨rfl, rfl⟩, rfl⟩
          rintro H1 l1 g1 ⟨x1_0, ls, ex1_0, hl, ⟨rfl, rfl⟩, rfl⟩
          subst ex1_0
          refine lv_iconst (v := 3) hx hb dX2_product_92 (by decide) ?_
          refine vp_callSi (va_Run.run (va_runS (As := [.int ((X a1.2.2) - 97), .int (if a1.1 = 0 then 0 else ((fX2_highest a1.1) + 1) : Int32), .int 3]) (rest := []) ⟨hx, hb, hml, hown, hts⟩ (c_X2_in l ((X a1.2.2) - 97) (if a1.1 = 0 then 0 else ((fX2_highest a1.1) + 1) : Int32) 3) (va_cwS 3 hts gX2_product_X2_in rfl rfl rfl (by decide +kernel) ⟨Nat.le_of_ble_eq_true rfl, Nat.le_of_ble_eq_true rfl⟩) ⟨fun _ _ _ _ z => z, fun _ _ _ => ⟨rfl, trivial⟩⟩ rfl rfl hl.1 rfl (lv_room (Nat.le_of_ble_eq_true rfl)) dX2_product_93 ⟨(Nat.zero_le _), (Nat.zero_le _)⟩)) (fun r9 hr => ?_)
          subst hr
          refine lv_if_eq (tgt := 115) hx hb dX2_product_96 (by decide) (fun c_9 => ?_) (fun c_9 => ?_)
          · refine lv_iconst (v := 0) hx hb dX2_product_115 (by decide) ?_
            refine lv_istore_n (lv' := [(2, .int 0), (3, .int ((X a1.2.2) - 97)), (1, .int a1.1), (0, .ref (q 0))]) hx hb dX2_product_116 rfl hl (by decide) rfl (fun ls hl => ?_)
            refine lv_iload_n hx hb dX2_product_117 rfl (lv_at hl 2 rfl) ?_
            refine lv_iload_n hx hb dX2_product_118 rfl (lv_at hl 0 rfl) ?_
            refine lv_if_eq (tgt := 128) hx hb dX2_product_119 (by decide) (fun c_10 => ?_) (fun c_10 => ?_)
            · refine lv_iconst (v := 0) hx hb dX2_product_128 (by decide) ?_
              refine lv_ior hx hb dX2_product_129 ?_
              refine lv_istore_n (lv' := [(1, .int (a1.1 ||| 0)), (2, .int 0), (3, .int ((X a1.2.2) - 97)), (0, .ref (q 0))]) hx hb dX2_product_130 rfl hl (by decide) rfl (fun ls hl => ?_)
              refine lv_aload_n hx hb dX2_product_131 rfl (lv_at hl 3 rfl) ?_
              refine lv_dup hx hb dX2_product_132 rfl ?_
              refine va_get (D := D) (ci := 2) (v := .int (nI a1.2.2)) (C := RX2) (T := TX2) (N := 10) hx hb hts in_X2_product_X2 hown hK hP 0 rfl rfl 8 (by decide) (hts (.fieldLink RX2 82 "ZhegalkinBenchModel" "at" "I") (List.mem_of_getElem? (i := 1) rfl)) (fun _ h9 => h9) rfl dX2_product_133 ?_
              refine lv_iload_n hx hb dX2_product_136 rfl (lv_at hl 1 rfl) ?_
              refine lv_if_eq (tgt := 144) hx hb dX2_product_137 (by decide) (fun c_11 => ?_) (fun c_11 => ?_)
              · refine lv_iconst (v := 0) hx hb dX2_product_144 (by decide) ?_
                refine lv_iadd hx hb dX2_product_145 ?_
                refine lv_is (nI (a1.2.2 + 0)) (by first | exact nI_add _ _ | rfl) ?_
                refine va_put (D := D) (ci := 2) (v := .int (nI (a1.2.2 + 0))) (ty := .int) (C := RX2) (T := TX2) (N := 10) hx hb hts in_X2_product_X2 tyX2 tyX2_ok nmX2 hown hK hP hD hS 0 rfl rfl 8 (by decide) (hts (.fieldLink RX2 82 "ZhegalkinBenchModel" "at" "I") (List.mem_of_getElem? (i := 1) rfl)) (fun _ h9 => h9) rfl (by decide +kernel) rfl rfl (Nat.le_of_ble_eq_true rfl) dX2_product_146 (fun H locs hP hD hS => ?_)
                have hP : va_P D vwCl (wM q cq T R S X n h (nI k) th (nI (a1.2.2 + 0)) o) H := hP
                have hD : va_D A (wM q cq T R S X n h (nI k) th (nI (a1.2.2 + 0)) o) := hD
                refine lv_goto (tgt := 49) hx hb dX2_product_149 (by decide) ?_
                exact ih1 H locs (i1 + 1) ((a1.1 ||| 0), 0, (a1.2.2 + 0)) ls (by omega) ((show tX2_product_49 X k o n1 (i1 + 1) ((a1.1 ||| 0), 0, (a1.2.2 + 0)) = tX2_product_49 X k o (n1 + 1) i1 a1 from by first | (symm; (rw [tX2_product_49, if_neg c_4, if_neg c_6, if_pos c_9]); first | done | rfl) | rfl).trans hf1) (kX2_or0 hv1_0) (Or.inl rfl) (by dsimp only; omega) (lv_sub hl [0, 1, 3] rfl) hP hD hS
              · exact absurd (by decide) c_11
            · exact absurd (by decide) c_10
          · refine lv_aload_n hx hb dX2_product_99 rfl (lv_at hl 3 rfl) ?_
            refine lv_iload_n hx hb dX2_product_100 rfl (lv_at hl 1 rfl) ?_
            refine lv_iconst (v := 1) hx hb dX2_product_101 (by decide) ?_
            refine lv_iload_n hx hb dX2_product_102 rfl (lv_at hl 0 rfl) ?_
            refine lv_ishl hx hb dX2_product_103 ?_
            refine lv_ior hx hb dX2_product_104 ?_
            have hpl9 := kX2_pl hv1_0 c_9
            refine lv_is (nI (a1.1 ||| ((1 : Int32) <<< (((X a1.2.2) - 97) &&& 31))).toNatClampNeg) hpl9.2.2 ?_
            have hPc := hP.sub (ws' := (wM q cq T R S X n h (nI k) th (nI a1.2.2) o)) [0, 1, 2, 3, 4] rfl
            have hKc := hK.sub (tys' := (tyM cq)) [0, 1, 2, 3] rfl
            refine vp_callSi (va_Run.run (va_runV (As := [.int (nI (a1.1 ||| ((1 : Int32) <<< (((X a1.2.2) - 97) &&& 31))).toNatClampNeg)]) (rest := []) ⟨hx, hb, hml, hown, hts⟩ (c_X2_canCome l D q cq T R S X n h (nI k) th (nI a1.2.2) o ((a1.1 ||| ((1 : Int32) <<< (((X a1.2.2) - 97) &&& 31))).toNatClampNeg) hpl9.2.1 hpl9.1) (cwV 1 hts gX2_product_X2_canCome rfl rfl rfl (by decide +kernel) ⟨Nat.le_of_ble_eq_true rfl, Nat.le_of_ble_eq_true rfl⟩) ⟨fun a U g mk z => ⟨z.1, z.2.1, va_K.moved (u := U) (U := U.calling g mk a) (Vm.Alike.refl U.vm) z.2.2.1, z.2.2.2.blind g mk a⟩, va_recv hKc hPc (ci := 2) (q0 := 0) rfl rfl, fun U hU hW => ⟨rfl, by rw [hU]; exact hPc, va_K.moved hW.alike hKc, hE.at0 hS hU hW⟩⟩ rfl rfl hl.1 rfl (lv_room (Nat.le_of_ble_eq_true rfl)) dX2_product_105 ⟨(Nat.zero_le _), (Nat.zero_le _)⟩)) (fun r9 hr => ?_)
            subst hr
            refine lv_if_eq (tgt := 115) hx hb dX2_product_108 (by decide) (fun c_12 => ?_) (fun c_12 => ?_)
            · refine lv_iconst (v := 0) hx hb dX2_product_115 (by decide) ?_
              refine lv_istore_n (lv' := [(2, .int 0), (3, .int ((X a1.2.2) - 97)), (1, .int a1.1), (0, .ref (q 0))]) hx hb dX2_product_116 rfl hl (by decide) rfl (fun ls hl => ?_)
              refine lv_iload_n hx hb dX2_product_117 rfl (lv_at hl 2 rfl) ?_
              refine lv_iload_n hx hb dX2_product_118 rfl (lv_at hl 0 rfl) ?_
              refine lv_if_eq (tgt := 128) hx hb dX2_product_119 (by decide) (fun c_13 => ?_) (fun c_13 => ?_)
              · refine lv_iconst (v := 0) hx hb dX2_product_128 (by decide) ?_
                refine lv_ior hx hb dX2_product_129 ?_
                refine lv_istore_n (lv' := [(1, .int (a1.1 ||| 0)), (2, .int 0), (3, .int ((X a1.2.2) - 97)), (0, .ref (q 0))]) hx hb dX2_product_130 rfl hl (by decide) rfl (fun ls hl => ?_)
                refine lv_aload_n hx hb dX2_product_131 rfl (lv_at hl 3 rfl) ?_
                refine lv_dup hx hb dX2_product_132 rfl ?_
                refine va_get (D := D) (ci := 2) (v := .int (nI a1.2.2)) (C := RX2) (T := TX2) (N := 10) hx hb hts in_X2_product_X2 hown hK hP 0 rfl rfl 8 (by decide) (hts (.fieldLink RX2 82 "ZhegalkinBenchModel" "at" "I") (List.mem_of_getElem? (i := 1) rfl)) (fun _ h9 => h9) rfl dX2_product_133 ?_
                refine lv_iload_n hx hb dX2_product_136 rfl (lv_at hl 1 rfl) ?_
                refine lv_if_eq (tgt := 144) hx hb dX2_product_137 (by decide) (fun c_14 => ?_) (fun c_14 => ?_)
                · refine lv_iconst (v := 0) hx hb dX2_product_144 (by decide) ?_
                  refine lv_iadd hx hb dX2_product_145 ?_
                  refine lv_is (nI (a1.2.2 + 0)) (by first | exact nI_add _ _ | rfl) ?_
                  refine va_put (D := D) (ci := 2) (v := .int (nI (a1.2.2 + 0))) (ty := .int) (C := RX2) (T := TX2) (N := 10) hx hb hts in_X2_product_X2 tyX2 tyX2_ok nmX2 hown hK hP hD hS 0 rfl rfl 8 (by decide) (hts (.fieldLink RX2 82 "ZhegalkinBenchModel" "at" "I") (List.mem_of_getElem? (i := 1) rfl)) (fun _ h9 => h9) rfl (by decide +kernel) rfl rfl (Nat.le_of_ble_eq_true rfl) dX2_product_146 (fun H locs hP hD hS => ?_)
                  have hP : va_P D vwCl (wM q cq T R S X n h (nI k) th (nI (a1.2.2 + 0)) o) H := hP
                  have hD : va_D A (wM q cq T R S X n h (nI k) th (nI (a1.2.2 + 0)) o) := hD
                  refine lv_goto (tgt := 49) hx hb dX2_product_149 (by decide) ?_
                  exact ih1 H locs (i1 + 1) ((a1.1 ||| 0), 0, (a1.2.2 + 0)) ls (by omega) ((show tX2_product_49 X k o n1 (i1 + 1) ((a1.1 ||| 0), 0, (a1.2.2 + 0)) = tX2_product_49 X k o (n1 + 1) i1 a1 from by first | (symm; (rw [tX2_product_49, if_neg c_4, if_neg c_6, if_neg c_9, if_pos c_12]); first | done | rfl) | rfl).trans hf1) (kX2_or0 hv1_0) (Or.inl rfl) (by dsimp only; omega) (lv_sub hl [0, 1, 3] rfl) hP hD hS
                · exact absurd (by decide) c_14
              · exact absurd (by decide) c_13
            · refine lv_iconst (v := 1) hx hb dX2_product_111 (by decide) ?_
              refine lv_goto (tgt := 116) hx hb dX2_product_112 (by decide) ?_
              refine lv_istore_n (lv' := [(2, .int 1), (3, .int ((X a1.2.2) - 97)), (1, .int a1.1), (0, .ref (q 0))]) hx hb dX2_product_116 rfl hl (by decide) rfl (fun ls hl => ?_)
              refine lv_iload_n hx hb dX2_product_117 rfl (lv_at hl 2 rfl) ?_
              refine lv_iload_n hx hb dX2_product_118 rfl (lv_at hl 0 rfl) ?_
              refine lv_if_eq (tgt := 128) hx hb dX2_product_119 (by decide) (fun c_15 => ?_) (fun c_15 => ?_)
              · exact absurd c_15 (by decide)
              · refine lv_iconst (v := 1) hx hb dX2_product_122 (by decide) ?_
                refine lv_iload_n hx hb dX2_product_123 rfl (lv_at hl 1 rfl) ?_
                refine lv_ishl hx hb dX2_product_124 ?_
                refine lv_goto (tgt := 129) hx hb dX2_product_125 (by decide) ?_
                refine lv_ior hx hb dX2_product_129 ?_
                refine lv_istore_n (lv' := [(1, .int (a1.1 ||| ((1 : Int32) <<< (((X a1.2.2) - 97) &&& 31)))), (2, .int 1), (3, .int ((X a1.2.2) - 97)), (0, .ref (q 0))]) hx hb dX2_product_130 rfl hl (by decide) rfl (fun ls hl => ?_)
                refine lv_aload_n hx hb dX2_product_131 rfl (lv_at hl 3 rfl) ?_
                refine lv_dup hx hb dX2_product_132 rfl ?_
                refine va_get (D := D) (ci := 2) (v := .int (nI a1.2.2)) (C := RX2) (T := TX2) (N := 10) hx hb hts in_X2_product_X2 hown hK hP 0 rfl rfl 8 (by decide) (hts (.fieldLink RX2 82 "ZhegalkinBenchModel" "at" "I") (List.mem_of_getElem? (i := 1) rfl)) (fun _ h9 => h9) rfl dX2_product_133 ?_
                refine lv_iload_n hx hb dX2_product_136 rfl (lv_at hl 1 rfl) ?_
                refine lv_if_eq (tgt := 144) hx hb dX2_product_137 (by decide) (fun c_16 => ?_) (fun c_16 => ?_)
                · exact absurd c_16 (by decide)
                · refine lv_iconst (v := 1) hx hb dX2_product_140 (by decide) ?_
                  refine lv_goto (tgt := 145) hx hb dX2_product_141 (by decide) ?_
                  refine lv_iadd hx hb dX2_product_145 ?_
                  refine lv_is (nI (a1.2.2 + 1)) (by first | exact nI_add _ _ | rfl) ?_
                  refine va_put (D := D) (ci := 2) (v := .int (nI (a1.2.2 + 1))) (ty := .int) (C := RX2) (T := TX2) (N := 10) hx hb hts in_X2_product_X2 tyX2 tyX2_ok nmX2 hown hK hP hD hS 0 rfl rfl 8 (by decide) (hts (.fieldLink RX2 82 "ZhegalkinBenchModel" "at" "I") (List.mem_of_getElem? (i := 1) rfl)) (fun _ h9 => h9) rfl (by decide +kernel) rfl rfl (Nat.le_of_ble_eq_true rfl) dX2_product_146 (fun H locs hP hD hS => ?_)
                  have hP : va_P D vwCl (wM q cq T R S X n h (nI k) th (nI (a1.2.2 + 1)) o) H := hP
                  have hD : va_D A (wM q cq T R S X n h (nI k) th (nI (a1.2.2 + 1)) o) := hD
                  refine lv_goto (tgt := 49) hx hb dX2_product_149 (by decide) ?_
                  exact ih1 H locs (i1 + 1) ((a1.1 ||| ((1 : Int32) <<< (((X a1.2.2) - 97) &&& 31))), 1, (a1.2.2 + 1)) ls (by omega) ((show tX2_product_49 X k o n1 (i1 + 1) ((a1.1 ||| ((1 : Int32) <<< (((X a1.2.2) - 97) &&& 31))), 1, (a1.2.2 + 1)) = tX2_product_49 X k o (n1 + 1) i1 a1 from by first | (symm; (rw [tX2_product_49, if_neg c_4, if_neg c_6, if_neg c_9, if_neg c_12]); first | done | rfl) | rfl).trans hf1) (by dsimp only; rw [hpl9.2.2]; exact vp_in_nI hpl9.2.1 (by decide)) (Or.inr ⟨rfl, by dsimp only; omega⟩) (by dsimp only; omega) (lv_sub hl [0, 1, 3] rfl) hP hD hS
  · have hlt : a < k := Nat.lt_of_not_le (fun q9 => c_1 (nI_le (a := k) (b := a) q9 (by omega)))
    refine lv_aload_n hx hb dX2_product_11 rfl (lv_at hl 0 rfl) ?_
    refine va_get (D := D) (ci := 2) (v := .ref (q 4)) (C := RX2) (T := TX2) (N := 10) hx hb hts in_X2_product_X2 hown hK hP 0 rfl rfl 5 (by decide) (hts (.fieldLink RX2 19 "ZhegalkinBenchModel" "text" "[I") (List.mem_of_getElem? (i := 3) rfl)) (fun _ h9 => h9) rfl dX2_product_12 ?_
    refine lv_aload_n hx hb dX2_product_15 rfl (lv_at hl 0 rfl) ?_
    refine va_get (D := D) (ci := 2) (v := .int (nI a)) (C := RX2) (T := TX2) (N := 10) hx hb hts in_X2_product_X2 hown hK hP 0 rfl rfl 8 (by decide) (hts (.fieldLink RX2 82 "ZhegalkinBenchModel" "at" "I") (List.mem_of_getElem? (i := 1) rfl)) (fun _ h9 => h9) rfl dX2_product_16 ?_
    refine vz_iald hx hb hK hP 4 3 rfl rfl a (by omega) (by decide) dX2_product_19 ?_
    refine lv_bipush (v := 49) hx hb dX2_product_20 (by decide) ?_
    refine lv_icmp_ne (tgt := 45) hx hb dX2_product_22 (by decide) (fun c_17 => ?_) (fun c_17 => ?_)
    · refine lv_iconst (v := 0) hx hb dX2_product_45 (by decide) ?_
      refine lv_istore_n (lv' := [(1, .int 0), (0, .ref (q 0))]) hx hb dX2_product_46 rfl hl (by decide) rfl (fun ls hl => ?_)
      refine lv_iconst (v := 1) hx hb dX2_product_47 (by decide) ?_
      refine lv_istore_n (lv' := [(2, .int 1), (1, .int 0), (0, .ref (q 0))]) hx hb dX2_product_48 rfl hl (by decide) rfl (fun ls hl => ?_)
      have hfo2 : tX2_product_49 X k o (k - a + 1) 0 (0, 1, a) = (fX2_product X k a o) := Eq.symm (by first | ((rw [fX2_product, if_neg c_1, if_neg c_17]); first | done | rfl) | rfl)
      refine vz_cut (fun H1 l1 g1 => ∃ (n2 i2 : Nat) (a2 : Int32 × Int32 × Nat) (ls : Array Slot), i2 + n2 = k - a + 1 ∧ tX2_product_49 X k o n2 i2 a2 = tX2_product_49 X k o (k - a + 1) 0 (0, 1, a) ∧ vp_in a2.1 16 ∧ (a2.2.1 = 0 ∨ (a2.2.1 = 1 ∧ a2.2.2 = a + i2)) ∧ a2.2.2 ≤ k ∧ lv_has ls 4 [(1, .int a2.1), (2, .int a2.2.1), (0, .ref (q 0))] ∧ va_P D vwCl (wM q cq T R S X n h (nI k) th (nI a2.2.2) o) H1 ∧ va_D A (wM q cq T R S X n h (nI k) th (nI a2.2.2) o) ∧ va_S A s.heap H1 l1 ∧ g1 = F0 m 49 ls []) (fun hj => hj _ _ _ ⟨k - a + 1, 0, (0, 1, a), ls, (by omega), rfl, (vp_in_nI (n := 0) (by decide) (by decide)), (Or.inr ⟨rfl, rfl⟩), ha9, lv_sub hl [1, 0, 2] rfl, hP, hD, hS, rfl⟩) ?_
      rintro H locs g1 ⟨n2, i2, a2, ls, hi2, hf2, hv2_0, hv2_1, hv2_2, hl, hP, hD, hS, rfl⟩
      revert H locs i2 a2 ls
      induction n2 with
      | zero =>
        intro H locs i2 a2 ls hi2 hf2 hv2_0 hv2_1 hv2_2 hl hP hD hS
        obtain rfl : k - a + 1 = i2 := by omega
        refine lv_iload_n hx hb dX2_product_49 rfl (lv_at hl 1 rfl) ?_
        refine lv_if_eq (tgt := 152) hx hb dX2_product_50 (by decide) (fun c_18 => ?_) (fun c_18 => ?_)
        · refine lv_iload_n hx hb dX2_product_152 rfl (lv_at hl 0 rfl) ?_
          refine lv_if_ne (tgt := 160) hx hb dX2_product_153 (by decide) (fun c_19 => ?_) (fun c_19 => ?_)
          · refine lv_iload_n hx hb dX2_product_160 rfl (lv_at hl 0 rfl) ?_
            have hq : (fX2_product X k a o) = (a2.1, a2.2.2) := Eq.symm ((show (a2.1, a2.2.2) = tX2_product_49 X k o 0 (k - a + 1) a2 from by first | (symm; (rw [tX2_product_49, if_neg c_19]); first | done | rfl) | rfl).trans (hf2.trans hfo2))
            exact W.iret (v := a2.1) hx hb hr (fun t9 ht hW => ⟨⟨a2.1, (), rfl, by rw [hq], by rw [hq]; exact ⟨by rw [ht]; exact hP, hD⟩⟩, hS.F ht⟩) hS.2.2 dX2_product_161
          · refine lv_iconst (v := (-1)) hx hb dX2_product_156 (by decide) ?_
            refine lv_goto (tgt := 161) hx hb dX2_product_157 (by decide) ?_
            have hq : (fX2_product X k a o) = ((-1), a2.2.2) := Eq.symm ((show ((-1), a2.2.2) = tX2_product_49 X k o 0 (k - a + 1) a2 from by first | (symm; (rw [tX2_product_49, if_pos c_19]); first | done | rfl) | rfl).trans (hf2.trans hfo2))
            exact W.iret (v := (-1)) hx hb hr (fun t9 ht hW => ⟨⟨(-1), (), rfl, by rw [hq], by rw [hq]; exact ⟨by rw [ht]; exact hP, hD⟩⟩, hS.F ht⟩) hS.2.2 dX2_product_161
        · exact absurd (hv2_1.elim id (fun z => absurd z.2 (by omega))) c_18
      | succ n2 ih2 =>
        intro H locs i2 a2 ls hi2 hf2 hv2_0 hv2_1 hv2_2 hl hP hD hS
        refine lv_iload_n hx hb dX2_product_49 rfl (lv_at hl 1 rfl) ?_
        refine lv_if_eq (tgt := 152) hx hb dX2_product_50 (by decide) (fun c_20 => ?_) (fun c_20 => ?_)
        · refine lv_iload_n hx hb dX2_product_152 rfl (lv_at hl 0 rfl) ?_
          refine lv_if_ne (tgt := 160) hx hb dX2_product_153 (by decide) (fun c_21 => ?_) (fun c_21 => ?_)
          · refine lv_iload_n hx hb dX2_product_160 rfl (lv_at hl 0 rfl) ?_
            have hq : (fX2_product X k a o) = (a2.1, a2.2.2) := Eq.symm ((show (a2.1, a2.2.2) = tX2_product_49 X k o (n2 + 1) i2 a2 from by first | (symm; (rw [tX2_product_49, if_pos c_20, if_neg c_21]); first | done | rfl) | rfl).trans (hf2.trans hfo2))
            exact W.iret (v := a2.1) hx hb hr (fun t9 ht hW => ⟨⟨a2.1, (), rfl, by rw [hq], by rw [hq]; exact ⟨by rw [ht]; exact hP, hD⟩⟩, hS.F ht⟩) hS.2.2 dX2_product_161
          · refine lv_iconst (v := (-1)) hx hb dX2_product_156 (by decide) ?_
            refine lv_goto (tgt := 161) hx hb dX2_product_157 (by decide) ?_
            have hq : (fX2_product X k a o) = ((-1), a2.2.2) := Eq.symm ((show ((-1), a2.2.2) = tX2_product_49 X k o (n2 + 1) i2 a2 from by first | (symm; (rw [tX2_product_49, if_pos c_20, if_pos c_21]); first | done | rfl) | rfl).trans (hf2.trans hfo2))
            exact W.iret (v := (-1)) hx hb hr (fun t9 ht hW => ⟨⟨(-1), (), rfl, by rw [hq], by rw [hq]; exact ⟨by rw [ht]; exact hP, hD⟩⟩, hS.F ht⟩) hS.2.2 dX2_product_161
        · have hw1 : a2.2.2 = a + i2 := (hv2_1.resolve_left c_20).2
          refine lv_aload_n hx hb dX2_product_53 rfl (lv_at hl 2 rfl) ?_
          refine va_get (D := D) (ci := 2) (v := .int (nI a2.2.2)) (C := RX2) (T := TX2) (N := 10) hx hb hts in_X2_product_X2 hown hK hP 0 rfl rfl 8 (by decide) (hts (.fieldLink RX2 82 "ZhegalkinBenchModel" "at" "I") (List.mem_of_getElem? (i := 1) rfl)) (fun _ h9 => h9) rfl dX2_product_54 ?_
          refine lv_aload_n hx hb dX2_product_57 rfl (lv_at hl 2 rfl) ?_
          refine va_get (D := D) (ci := 2) (v := .int (nI k)) (C := RX2) (T := TX2) (N := 10) hx hb hts in_X2_product_X2 hown hK hP 0 rfl rfl 6 (by decide) (hts (.fieldLink RX2 73 "ZhegalkinBenchModel" "typed" "I") (List.mem_of_getElem? (i := 2) rfl)) (fun _ h9 => h9) rfl dX2_product_58 ?_
          refine lv_icmp_ge (tgt := 152) hx hb dX2_product_61 (by decide) (fun c_22 => ?_) (fun c_22 => ?_)
          · refine lv_iload_n hx hb dX2_product_152 rfl (lv_at hl 0 rfl) ?_
            refine lv_if_ne (tgt := 160) hx hb dX2_product_153 (by decide) (fun c_23 => ?_) (fun c_23 => ?_)
            · refine lv_iload_n hx hb dX2_product_160 rfl (lv_at hl 0 rfl) ?_
              have hq : (fX2_product X k a o) = (a2.1, a2.2.2) := Eq.symm ((show (a2.1, a2.2.2) = tX2_product_49 X k o (n2 + 1) i2 a2 from by first | (symm; (rw [tX2_product_49, if_neg c_20, if_pos c_22, if_neg c_23]); first | done | rfl) | rfl).trans (hf2.trans hfo2))
              exact W.iret (v := a2.1) hx hb hr (fun t9 ht hW => ⟨⟨a2.1, (), rfl, by rw [hq], by rw [hq]; exact ⟨by rw [ht]; exact hP, hD⟩⟩, hS.F ht⟩) hS.2.2 dX2_product_161
            · refine lv_iconst (v := (-1)) hx hb dX2_product_156 (by decide) ?_
              refine lv_goto (tgt := 161) hx hb dX2_product_157 (by decide) ?_
              have hq : (fX2_product X k a o) = ((-1), a2.2.2) := Eq.symm ((show ((-1), a2.2.2) = tX2_product_49 X k o (n2 + 1) i2 a2 from by first | (symm; (rw [tX2_product_49, if_neg c_20, if_pos c_22, if_pos c_23]); first | done | rfl) | rfl).trans (hf2.trans hfo2))
              exact W.iret (v := (-1)) hx hb hr (fun t9 ht hW => ⟨⟨(-1), (), rfl, by rw [hq], by rw [hq]; exact ⟨by rw [ht]; exact hP, hD⟩⟩, hS.F ht⟩) hS.2.2 dX2_product_161
          · have hlt : a2.2.2 < k := Nat.lt_of_not_le (fun q9 => c_22 (nI_le (a := k) (b := a2.2.2) q9 (by omega)))
            refine lv_aload_n hx hb dX2_product_64 rfl (lv_at hl 2 rfl) ?_
            refine va_get (D := D) (ci := 2) (v := .ref (q 4)) (C := RX2) (T := TX2) (N := 10) hx hb hts in_X2_product_X2 hown hK hP 0 rfl rfl 5 (by decide) (hts (.fieldLink RX2 19 "ZhegalkinBenchModel" "text" "[I") (List.mem_of_getElem? (i := 3) rfl)) (fun _ h9 => h9) rfl dX2_product_65 ?_
            refine lv_aload_n hx hb dX2_product_68 rfl (lv_at hl 2 rfl) ?_
            refine va_get (D := D) (ci := 2) (v := .int (nI a2.2.2)) (C := RX2) (T := TX2) (N := 10) hx hb hts in_X2_product_X2 hown hK hP 0 rfl rfl 8 (by decide) (hts (.fieldLink RX2 82 "ZhegalkinBenchModel" "at" "I") (List.mem_of_getElem? (i := 1) rfl)) (fun _ h9 => h9) rfl dX2_product_69 ?_
            refine vz_iald hx hb hK hP 4 3 rfl rfl a2.2.2 (by omega) (by decide) dX2_product_72 ?_
            refine lv_bipush (v := 97) hx hb dX2_product_73 (by decide) ?_
            refine lv_isub hx hb dX2_product_75 ?_
            refine lv_istore_n (lv' := [(3, .int ((X a2.2.2) - 97)), (1, .int a2.1), (2, .int a2.2.1), (0, .ref (q 0))]) hx hb dX2_product_76 rfl hl (by decide) rfl (fun ls hl => ?_)
            refine lv_iload_n hx hb dX2_product_77 rfl (lv_at hl 0 rfl) ?_
            refine lv_iload_n hx hb dX2_product_78 rfl (lv_at hl 1 rfl) ?_
            refine vz_cut (fun H1 l1 g1 => ∃ (x2_0 : Int32) (ls : Array Slot), x2_0 = (if a2.1 = 0 then 0 else ((fX2_highest a2.1) + 1) : Int32) ∧ lv_has ls 4 [(3, .int ((X a2.2.2) - 97)), (1, .int a2.1), (2, .int a2.2.1), (0, .ref (q 0))] ∧ (H = H1 ∧ locs = l1) ∧ g1 = F0 m 92 ls [.int x2_0, .int ((X a2.2.2) - 97)]) (fun hj2 => ?_) ?_
            · refine lv_if_ne (tgt := 86) hx hb dX2_product_79 (by decide) (fun c_24 => ?_) (fun c_24 => ?_)
              · refine lv_iload_n hx hb dX2_product_86 rfl (lv_at hl 1 rfl) ?_
                refine vp_callSi (va_Run.run (va_runS (As := [.int a2.1]) (rest := [.int ((X a2.2.2) - 97)]) ⟨hx, hb, hml, hown, hts⟩ (c_X2_highest l a2.1 (kX2_hiv hv2_0 c_24)) (va_cwS 1 hts gX2_product_X2_highest rfl rfl rfl (by decide +kernel) ⟨Nat.le_of_ble_eq_true rfl, Nat.le_of_ble_eq_true rfl⟩) ⟨fun _ _ _ _ z => z, fun _ _ _ => ⟨rfl, trivial⟩⟩ rfl rfl hl.1 rfl (lv_room (Nat.le_of_ble_eq_true rfl)) dX2_product_87 ⟨(Nat.zero_le _), (Nat.zero_le _)⟩)) (fun r9 hr => ?_)
                subst hr
                refine lv_iconst (v := 1) hx hb dX2_product_90 (by decide) ?_
                refine lv_iadd hx hb dX2_product_91 ?_
                exact hj2 _ _ _ ⟨((fX2_highest a2.1) + 1), ls, (by (rw [if_neg c_24]); first | done | rfl), lv_sub hl [0, 1, 2, 3] rfl, ⟨rfl, rfl⟩, rfl⟩
              · refine lv_iconst (v := 0) hx hb dX2_product_82 (by decide) ?_
                refine lv_goto (tgt := 92) hx hb dX2_product_83 (by decide) ?_
                exact hj2 _ _ _ ⟨0, ls, (by (rw [if_pos c_24]); first | done | rfl), lv_sub hl [0, 1, 2, 3] rfl, ⟨rfl, rfl⟩, rfl⟩
            rintro H1 l1 g1 ⟨x2_0, ls, ex2_0, hl, ⟨rfl, rfl⟩, rfl⟩
            subst ex2_0
            refine lv_iconst (v := 3) hx hb dX2_product_92 (by decide) ?_
            refine vp_callSi (va_Run.run (va_runS (As := [.int ((X a2.2.2) - 97), .int (if a2.1 = 0 then 0 else ((fX2_highest a2.1) + 1) : Int32), .int 3]) (rest := []) ⟨hx, hb, hml, hown, hts⟩ (c_X2_in l ((X a2.2.2) - 97) (if a2.1 = 0 then 0 else ((fX2_highest a2.1) + 1) : Int32) 3) (va_cwS 3 hts gX2_product_X2_in rfl rfl rfl (by decide +kernel) ⟨Nat.le_of_ble_eq_true rfl, Nat.le_of_ble_eq_true rfl⟩) ⟨fun _ _ _ _ z => z, fun _ _ _ => ⟨rfl, trivial⟩⟩ rfl rfl hl.1 rfl (lv_room (Nat.le_of_ble_eq_true rfl)) dX2_product_93 ⟨(Nat.zero_le _), (Nat.zero_le _)⟩)) (fun r9 hr => ?_)
            subst hr
            refine lv_if_eq (tgt := 115) hx hb dX2_product_96 (by decide) (fun c_25 => ?_) (fun c_25 => ?_)
            · refine lv_iconst (v := 0) hx hb dX2_product_115 (by decide) ?_
              refine lv_istore_n (lv' := [(2, .int 0), (3, .int ((X a2.2.2) - 97)), (1, .int a2.1), (0, .ref (q 0))]) hx hb dX2_product_116 rfl hl (by decide) rfl (fun ls hl => ?_)
              refine lv_iload_n hx hb dX2_product_117 rfl (lv_at hl 2 rfl) ?_
              refine lv_iload_n hx hb dX2_product_118 rfl (lv_at hl 0 rfl) ?_
              refine lv_if_eq (tgt := 128) hx hb dX2_product_119 (by decide) (fun c_26 => ?_) (fun c_26 => ?_)
              · refine lv_iconst (v := 0) hx hb dX2_product_128 (by decide) ?_
                refine lv_ior hx hb dX2_product_129 ?_
                refine lv_istore_n (lv' := [(1, .int (a2.1 ||| 0)), (2, .int 0), (3, .int ((X a2.2.2) - 97)), (0, .ref (q 0))]) hx hb dX2_product_130 rfl hl (by decide) rfl (fun ls hl => ?_)
                refine lv_aload_n hx hb dX2_product_131 rfl (lv_at hl 3 rfl) ?_
                refine lv_dup hx hb dX2_product_132 rfl ?_
                refine va_get (D := D) (ci := 2) (v := .int (nI a2.2.2)) (C := RX2) (T := TX2) (N := 10) hx hb hts in_X2_product_X2 hown hK hP 0 rfl rfl 8 (by decide) (hts (.fieldLink RX2 82 "ZhegalkinBenchModel" "at" "I") (List.mem_of_getElem? (i := 1) rfl)) (fun _ h9 => h9) rfl dX2_product_133 ?_
                refine lv_iload_n hx hb dX2_product_136 rfl (lv_at hl 1 rfl) ?_
                refine lv_if_eq (tgt := 144) hx hb dX2_product_137 (by decide) (fun c_27 => ?_) (fun c_27 => ?_)
                · refine lv_iconst (v := 0) hx hb dX2_product_144 (by decide) ?_
                  refine lv_iadd hx hb dX2_product_145 ?_
                  refine lv_is (nI (a2.2.2 + 0)) (by first | exact nI_add _ _ | rfl) ?_
                  refine va_put (D := D) (ci := 2) (v := .int (nI (a2.2.2 + 0))) (ty := .int) (C := RX2) (T := TX2) (N := 10) hx hb hts in_X2_product_X2 tyX2 tyX2_ok nmX2 hown hK hP hD hS 0 rfl rfl 8 (by decide) (hts (.fieldLink RX2 82 "ZhegalkinBenchModel" "at" "I") (List.mem_of_getElem? (i := 1) rfl)) (fun _ h9 => h9) rfl (by decide +kernel) rfl rfl (Nat.le_of_ble_eq_true rfl) dX2_product_146 (fun H locs hP hD hS => ?_)
                  have hP : va_P D vwCl (wM q cq T R S X n h (nI k) th (nI (a2.2.2 + 0)) o) H := hP
                  have hD : va_D A (wM q cq T R S X n h (nI k) th (nI (a2.2.2 + 0)) o) := hD
                  refine lv_goto (tgt := 49) hx hb dX2_product_149 (by decide) ?_
                  exact ih2 H locs (i2 + 1) ((a2.1 ||| 0), 0, (a2.2.2 + 0)) ls (by omega) ((show tX2_product_49 X k o n2 (i2 + 1) ((a2.1 ||| 0), 0, (a2.2.2 + 0)) = tX2_product_49 X k o (n2 + 1) i2 a2 from by first | (symm; (rw [tX2_product_49, if_neg c_20, if_neg c_22, if_pos c_25]); first | done | rfl) | rfl).trans hf2) (kX2_or0 hv2_0) (Or.inl rfl) (by dsimp only; omega) (lv_sub hl [0, 1, 3] rfl) hP hD hS
                · exact absurd (by decide) c_27
              · exact absurd (by decide) c_26
            · refine lv_aload_n hx hb dX2_product_99 rfl (lv_at hl 3 rfl) ?_
              refine lv_iload_n hx hb dX2_product_100 rfl (lv_at hl 1 rfl) ?_
              refine lv_iconst (v := 1) hx hb dX2_product_101 (by decide) ?_
              refine lv_iload_n hx hb dX2_product_102 rfl (lv_at hl 0 rfl) ?_
              refine lv_ishl hx hb dX2_product_103 ?_
              refine lv_ior hx hb dX2_product_104 ?_
              have hpl9 := kX2_pl hv2_0 c_25
              refine lv_is (nI (a2.1 ||| ((1 : Int32) <<< (((X a2.2.2) - 97) &&& 31))).toNatClampNeg) hpl9.2.2 ?_
              have hPc := hP.sub (ws' := (wM q cq T R S X n h (nI k) th (nI a2.2.2) o)) [0, 1, 2, 3, 4] rfl
              have hKc := hK.sub (tys' := (tyM cq)) [0, 1, 2, 3] rfl
              refine vp_callSi (va_Run.run (va_runV (As := [.int (nI (a2.1 ||| ((1 : Int32) <<< (((X a2.2.2) - 97) &&& 31))).toNatClampNeg)]) (rest := []) ⟨hx, hb, hml, hown, hts⟩ (c_X2_canCome l D q cq T R S X n h (nI k) th (nI a2.2.2) o ((a2.1 ||| ((1 : Int32) <<< (((X a2.2.2) - 97) &&& 31))).toNatClampNeg) hpl9.2.1 hpl9.1) (cwV 1 hts gX2_product_X2_canCome rfl rfl rfl (by decide +kernel) ⟨Nat.le_of_ble_eq_true rfl, Nat.le_of_ble_eq_true rfl⟩) ⟨fun a U g mk z => ⟨z.1, z.2.1, va_K.moved (u := U) (U := U.calling g mk a) (Vm.Alike.refl U.vm) z.2.2.1, z.2.2.2.blind g mk a⟩, va_recv hKc hPc (ci := 2) (q0 := 0) rfl rfl, fun U hU hW => ⟨rfl, by rw [hU]; exact hPc, va_K.moved hW.alike hKc, hE.at0 hS hU hW⟩⟩ rfl rfl hl.1 rfl (lv_room (Nat.le_of_ble_eq_true rfl)) dX2_product_105 ⟨(Nat.zero_le _), (Nat.zero_le _)⟩)) (fun r9 hr => ?_)
              subst hr
              refine lv_if_eq (tgt := 115) hx hb dX2_product_108 (by decide) (fun c_28 => ?_) (fun c_28 => ?_)
              · refine lv_iconst (v := 0) hx hb dX2_product_115 (by decide) ?_
                refine lv_istore_n (lv' := [(2, .int 0), (3, .int ((X a2.2.2) - 97)), (1, .int a2.1), (0, .ref (q 0))]) hx hb dX2_product_116 rfl hl (by decide) rfl (fun ls hl => ?_)
                refine lv_iload_n hx hb dX2_product_117 rfl (lv_at hl 2 rfl) ?_
                refine lv_iload_n hx hb dX2_product_118 rfl (lv_at hl 0 rfl) ?_
                refine lv_if_eq (tgt := 128) hx hb dX2_product_119 (by decide) (fun c_29 => ?_) (fun c_29 => ?_)
                · refine lv_iconst (v := 0) hx hb dX2_product_128 (by decide) ?_
                  refine lv_ior hx hb dX2_product_129 ?_
                  refine lv_istore_n (lv' := [(1, .int (a2.1 ||| 0)), (2, .int 0), (3, .int ((X a2.2.2) - 97)), (0, .ref (q 0))]) hx hb dX2_product_130 rfl hl (by decide) rfl (fun ls hl => ?_)
                  refine lv_aload_n hx hb dX2_product_131 rfl (lv_at hl 3 rfl) ?_
                  refine lv_dup hx hb dX2_product_132 rfl ?_
                  refine va_get (D := D) (ci := 2) (v := .int (nI a2.2.2)) (C := RX2) (T := TX2) (N := 10) hx hb hts in_X2_product_X2 hown hK hP 0 rfl rfl 8 (by decide) (hts (.fieldLink RX2 82 "ZhegalkinBenchModel" "at" "I") (List.mem_of_getElem? (i := 1) rfl)) (fun _ h9 => h9) rfl dX2_product_133 ?_
                  refine lv_iload_n hx hb dX2_product_136 rfl (lv_at hl 1 rfl) ?_
                  refine lv_if_eq (tgt := 144) hx hb dX2_product_137 (by decide) (fun c_30 => ?_) (fun c_30 => ?_)
                  · refine lv_iconst (v := 0) hx hb dX2_product_144 (by decide) ?_
                    refine lv_iadd hx hb dX2_product_145 ?_
                    refine lv_is (nI (a2.2.2 + 0)) (by first | exact nI_add _ _ | rfl) ?_
                    refine va_put (D := D) (ci := 2) (v := .int (nI (a2.2.2 + 0))) (ty := .int) (C := RX2) (T := TX2) (N := 10) hx hb hts in_X2_product_X2 tyX2 tyX2_ok nmX2 hown hK hP hD hS 0 rfl rfl 8 (by decide) (hts (.fieldLink RX2 82 "ZhegalkinBenchModel" "at" "I") (List.mem_of_getElem? (i := 1) rfl)) (fun _ h9 => h9) rfl (by decide +kernel) rfl rfl (Nat.le_of_ble_eq_true rfl) dX2_product_146 (fun H locs hP hD hS => ?_)
                    have hP : va_P D vwCl (wM q cq T R S X n h (nI k) th (nI (a2.2.2 + 0)) o) H := hP
                    have hD : va_D A (wM q cq T R S X n h (nI k) th (nI (a2.2.2 + 0)) o) := hD
                    refine lv_goto (tgt := 49) hx hb dX2_product_149 (by decide) ?_
                    exact ih2 H locs (i2 + 1) ((a2.1 ||| 0), 0, (a2.2.2 + 0)) ls (by omega) ((show tX2_product_49 X k o n2 (i2 + 1) ((a2.1 ||| 0), 0, (a2.2.2 + 0)) = tX2_product_49 X k o (n2 + 1) i2 a2 from by first | (symm; (rw [tX2_product_49, if_neg c_20, if_neg c_22, if_neg c_25, if_pos c_28]); first | done | rfl) | rfl).trans hf2) (kX2_or0 hv2_0) (Or.inl rfl) (by dsimp only; omega) (lv_sub hl [0, 1, 3] rfl) hP hD hS
                  · exact absurd (by decide) c_30
                · exact absurd (by decide) c_29
              · refine lv_iconst (v := 1) hx hb dX2_product_111 (by decide) ?_
                refine lv_goto (tgt := 116) hx hb dX2_product_112 (by decide) ?_
                refine lv_istore_n (lv' := [(2, .int 1), (3, .int ((X a2.2.2) - 97)), (1, .int a2.1), (0, .ref (q 0))]) hx hb dX2_product_116 rfl hl (by decide) rfl (fun ls hl => ?_)
                refine lv_iload_n hx hb dX2_product_117 rfl (lv_at hl 2 rfl) ?_
                refine lv_iload_n hx hb dX2_product_118 rfl (lv_at hl 0 rfl) ?_
                refine lv_if_eq (tgt := 128) hx hb dX2_product_119 (by decide) (fun c_31 => ?_) (fun c_31 => ?_)
                · exact absurd c_31 (by decide)
                · refine lv_iconst (v := 1) hx hb dX2_product_122 (by decide) ?_
                  refine lv_iload_n hx hb dX2_product_123 rfl (lv_at hl 1 rfl) ?_
                  refine lv_ishl hx hb dX2_product_124 ?_
                  refine lv_goto (tgt := 129) hx hb dX2_product_125 (by decide) ?_
                  refine lv_ior hx hb dX2_product_129 ?_
                  refine lv_istore_n (lv' := [(1, .int (a2.1 ||| ((1 : Int32) <<< (((X a2.2.2) - 97) &&& 31)))), (2, .int 1), (3, .int ((X a2.2.2) - 97)), (0, .ref (q 0))]) hx hb dX2_product_130 rfl hl (by decide) rfl (fun ls hl => ?_)
                  refine lv_aload_n hx hb dX2_product_131 rfl (lv_at hl 3 rfl) ?_
                  refine lv_dup hx hb dX2_product_132 rfl ?_
                  refine va_get (D := D) (ci := 2) (v := .int (nI a2.2.2)) (C := RX2) (T := TX2) (N := 10) hx hb hts in_X2_product_X2 hown hK hP 0 rfl rfl 8 (by decide) (hts (.fieldLink RX2 82 "ZhegalkinBenchModel" "at" "I") (List.mem_of_getElem? (i := 1) rfl)) (fun _ h9 => h9) rfl dX2_product_133 ?_
                  refine lv_iload_n hx hb dX2_product_136 rfl (lv_at hl 1 rfl) ?_
                  refine lv_if_eq (tgt := 144) hx hb dX2_product_137 (by decide) (fun c_32 => ?_) (fun c_32 => ?_)
                  · exact absurd c_32 (by decide)
                  · refine lv_iconst (v := 1) hx hb dX2_product_140 (by decide) ?_
                    refine lv_goto (tgt := 145) hx hb dX2_product_141 (by decide) ?_
                    refine lv_iadd hx hb dX2_product_145 ?_
                    refine lv_is (nI (a2.2.2 + 1)) (by first | exact nI_add _ _ | rfl) ?_
                    refine va_put (D := D) (ci := 2) (v := .int (nI (a2.2.2 + 1))) (ty := .int) (C := RX2) (T := TX2) (N := 10) hx hb hts in_X2_product_X2 tyX2 tyX2_ok nmX2 hown hK hP hD hS 0 rfl rfl 8 (by decide) (hts (.fieldLink RX2 82 "ZhegalkinBenchModel" "at" "I") (List.mem_of_getElem? (i := 1) rfl)) (fun _ h9 => h9) rfl (by decide +kernel) rfl rfl (Nat.le_of_ble_eq_true rfl) dX2_product_146 (fun H locs hP hD hS => ?_)
                    have hP : va_P D vwCl (wM q cq T R S X n h (nI k) th (nI (a2.2.2 + 1)) o) H := hP
                    have hD : va_D A (wM q cq T R S X n h (nI k) th (nI (a2.2.2 + 1)) o) := hD
                    refine lv_goto (tgt := 49) hx hb dX2_product_149 (by decide) ?_
                    exact ih2 H locs (i2 + 1) ((a2.1 ||| ((1 : Int32) <<< (((X a2.2.2) - 97) &&& 31))), 1, (a2.2.2 + 1)) ls (by omega) ((show tX2_product_49 X k o n2 (i2 + 1) ((a2.1 ||| ((1 : Int32) <<< (((X a2.2.2) - 97) &&& 31))), 1, (a2.2.2 + 1)) = tX2_product_49 X k o (n2 + 1) i2 a2 from by first | (symm; (rw [tX2_product_49, if_neg c_20, if_neg c_22, if_neg c_25, if_neg c_28]); first | done | rfl) | rfl).trans hf2) (by dsimp only; rw [hpl9.2.2]; exact vp_in_nI hpl9.2.1 (by decide)) (Or.inr ⟨rfl, by dsimp only; omega⟩) (by dsimp only; omega) (lv_sub hl [0, 1, 3] rfl) hP hD hS
    · refine lv_aload_n hx hb dX2_product_25 rfl (lv_at hl 0 rfl) ?_
      refine lv_iconst (v := 0) hx hb dX2_product_26 (by decide) ?_
      have hPc := hP.sub (ws' := (wM q cq T R S X n h (nI k) th (nI a) o)) [0, 1, 2, 3, 4] rfl
      have hKc := hK.sub (tys' := (tyM cq)) [0, 1, 2, 3] rfl
      refine vp_callSi (va_Run.run (va_runV (As := [.int 0]) (rest := []) ⟨hx, hb, hml, hown, hts⟩ (c_X2_has l D q cq T R S X n h (nI k) th (nI a) o 0) (cwV 1 hts gX2_product_X2_has rfl rfl rfl (by decide +kernel) ⟨Nat.le_of_ble_eq_true rfl, Nat.le_of_ble_eq_true rfl⟩) ⟨fun a U g mk z => ⟨z.1, z.2.1, va_K.moved (u := U) (U := U.calling g mk a) (Vm.Alike.refl U.vm) z.2.2.1, z.2.2.2.blind g mk a⟩, va_recv hKc hPc (ci := 2) (q0 := 0) rfl rfl, fun U hU hW => ⟨rfl, by rw [hU]; exact hPc, va_K.moved hW.alike hKc, hE.at0 hS hU hW⟩⟩ rfl rfl hl.1 rfl (lv_room (Nat.le_of_ble_eq_true rfl)) dX2_product_27 ⟨(Nat.zero_le _), (Nat.zero_le _)⟩)) (fun r9 hr => ?_)
      subst hr
      refine lv_if_ne (tgt := 45) hx hb dX2_product_30 (by decide) (fun c_33 => ?_) (fun c_33 => ?_)
      · refine lv_iconst (v := 0) hx hb dX2_product_45 (by decide) ?_
        refine lv_istore_n (lv' := [(1, .int 0), (0, .ref (q 0))]) hx hb dX2_product_46 rfl hl (by decide) rfl (fun ls hl => ?_)
        refine lv_iconst (v := 1) hx hb dX2_product_47 (by decide) ?_
        refine lv_istore_n (lv' := [(2, .int 1), (1, .int 0), (0, .ref (q 0))]) hx hb dX2_product_48 rfl hl (by decide) rfl (fun ls hl => ?_)
        have hfo3 : tX2_product_49 X k o (k - a + 1) 0 (0, 1, a) = (fX2_product X k a o) := Eq.symm (by first | ((rw [fX2_product, if_neg c_1, if_pos c_17, if_neg c_33]); first | done | rfl) | rfl)
        refine vz_cut (fun H1 l1 g1 => ∃ (n3 i3 : Nat) (a3 : Int32 × Int32 × Nat) (ls : Array Slot), i3 + n3 = k - a + 1 ∧ tX2_product_49 X k o n3 i3 a3 = tX2_product_49 X k o (k - a + 1) 0 (0, 1, a) ∧ vp_in a3.1 16 ∧ (a3.2.1 = 0 ∨ (a3.2.1 = 1 ∧ a3.2.2 = a + i3)) ∧ a3.2.2 ≤ k ∧ lv_has ls 4 [(1, .int a3.1), (2, .int a3.2.1), (0, .ref (q 0))] ∧ va_P D vwCl (wM q cq T R S X n h (nI k) th (nI a3.2.2) o) H1 ∧ va_D A (wM q cq T R S X n h (nI k) th (nI a3.2.2) o) ∧ va_S A s.heap H1 l1 ∧ g1 = F0 m 49 ls []) (fun hj => hj _ _ _ ⟨k - a + 1, 0, (0, 1, a), ls, (by omega), rfl, (vp_in_nI (n := 0) (by decide) (by decide)), (Or.inr ⟨rfl, rfl⟩), ha9, lv_sub hl [1, 0, 2] rfl, hP, hD, hS, rfl⟩) ?_
        rintro H locs g1 ⟨n3, i3, a3, ls, hi3, hf3, hv3_0, hv3_1, hv3_2, hl, hP, hD, hS, rfl⟩
        revert H locs i3 a3 ls
        induction n3 with
        | zero =>
          intro H locs i3 a3 ls hi3 hf3 hv3_0 hv3_1 hv3_2 hl hP hD hS
          obtain rfl : k - a + 1 = i3 := by omega
          refine lv_iload_n hx hb dX2_product_49 rfl (lv_at hl 1 rfl) ?_
          refine lv_if_eq (tgt := 152) hx hb dX2_product_50 (by decide) (fun c_34 => ?_) (fun c_34 => ?_)
          · refine lv_iload_n hx hb dX2_product_152 rfl (lv_at hl 0 rfl) ?_
            refine lv_if_ne (tgt := 160) hx hb dX2_product_153 (by decide) (fun c_35 => ?_) (fun c_35 => ?_)
            · refine lv_iload_n hx hb dX2_product_160 rfl (lv_at hl 0 rfl) ?_
              have hq : (fX2_product X k a o) = (a3.1, a3.2.2) := Eq.symm ((show (a3.1, a3.2.2) = tX2_product_49 X k o 0 (k - a + 1) a3 from by first | (symm; (rw [tX2_product_49, if_neg c_35]); first | done | rfl) | rfl).trans (hf3.trans hfo3))
              exact W.iret (v := a3.1) hx hb hr (fun t9 ht hW => ⟨⟨a3.1, (), rfl, by rw [hq], by rw [hq]; exact ⟨by rw [ht]; exact hP, hD⟩⟩, hS.F ht⟩) hS.2.2 dX2_product_161
            · refine lv_iconst (v := (-1)) hx hb dX2_product_156 (by decide) ?_
              refine lv_goto (tgt := 161) hx hb dX2_product_157 (by decide) ?_
              have hq : (fX2_product X k a o) = ((-1), a3.2.2) := Eq.symm ((show ((-1), a3.2.2) = tX2_product_49 X k o 0 (k - a + 1) a3 from by first | (symm; (rw [tX2_product_49, if_pos c_35]); first | done | rfl) | rfl).trans (hf3.trans hfo3))
              exact W.iret (v := (-1)) hx hb hr (fun t9 ht hW => ⟨⟨(-1), (), rfl, by rw [hq], by rw [hq]; exact ⟨by rw [ht]; exact hP, hD⟩⟩, hS.F ht⟩) hS.2.2 dX2_product_161
          · exact absurd (hv3_1.elim id (fun z => absurd z.2 (by omega))) c_34
        | succ n3 ih3 =>
          intro H locs i3 a3 ls hi3 hf3 hv3_0 hv3_1 hv3_2 hl hP hD hS
          refine lv_iload_n hx hb dX2_product_49 rfl (lv_at hl 1 rfl) ?_
          refine lv_if_eq (tgt := 152) hx hb dX2_product_50 (by decide) (fun c_36 => ?_) (fun c_36 => ?_)
          · refine lv_iload_n hx hb dX2_product_152 rfl (lv_at hl 0 rfl) ?_
            refine lv_if_ne (tgt := 160) hx hb dX2_product_153 (by decide) (fun c_37 => ?_) (fun c_37 => ?_)
            · refine lv_iload_n hx hb dX2_product_160 rfl (lv_at hl 0 rfl) ?_
              have hq : (fX2_product X k a o) = (a3.1, a3.2.2) := Eq.symm ((show (a3.1, a3.2.2) = tX2_product_49 X k o (n3 + 1) i3 a3 from by first | (symm; (rw [tX2_product_49, if_pos c_36, if_neg c_37]); first | done | rfl) | rfl).trans (hf3.trans hfo3))
              exact W.iret (v := a3.1) hx hb hr (fun t9 ht hW => ⟨⟨a3.1, (), rfl, by rw [hq], by rw [hq]; exact ⟨by rw [ht]; exact hP, hD⟩⟩, hS.F ht⟩) hS.2.2 dX2_product_161
            · refine lv_iconst (v := (-1)) hx hb dX2_product_156 (by decide) ?_
              refine lv_goto (tgt := 161) hx hb dX2_product_157 (by decide) ?_
              have hq : (fX2_product X k a o) = ((-1), a3.2.2) := Eq.symm ((show ((-1), a3.2.2) = tX2_product_49 X k o (n3 + 1) i3 a3 from by first | (symm; (rw [tX2_product_49, if_pos c_36, if_pos c_37]); first | done | rfl) | rfl).trans (hf3.trans hfo3))
              exact W.iret (v := (-1)) hx hb hr (fun t9 ht hW => ⟨⟨(-1), (), rfl, by rw [hq], by rw [hq]; exact ⟨by rw [ht]; exact hP, hD⟩⟩, hS.F ht⟩) hS.2.2 dX2_product_161
          · have hw1 : a3.2.2 = a + i3 := (hv3_1.resolve_left c_36).2
            refine lv_aload_n hx hb dX2_product_53 rfl (lv_at hl 2 rfl) ?_
            refine va_get (D := D) (ci := 2) (v := .int (nI a3.2.2)) (C := RX2) (T := TX2) (N := 10) hx hb hts in_X2_product_X2 hown hK hP 0 rfl rfl 8 (by decide) (hts (.fieldLink RX2 82 "ZhegalkinBenchModel" "at" "I") (List.mem_of_getElem? (i := 1) rfl)) (fun _ h9 => h9) rfl dX2_product_54 ?_
            refine lv_aload_n hx hb dX2_product_57 rfl (lv_at hl 2 rfl) ?_
            refine va_get (D := D) (ci := 2) (v := .int (nI k)) (C := RX2) (T := TX2) (N := 10) hx hb hts in_X2_product_X2 hown hK hP 0 rfl rfl 6 (by decide) (hts (.fieldLink RX2 73 "ZhegalkinBenchModel" "typed" "I") (List.mem_of_getElem? (i := 2) rfl)) (fun _ h9 => h9) rfl dX2_product_58 ?_
            refine lv_icmp_ge (tgt := 152) hx hb dX2_product_61 (by decide) (fun c_38 => ?_) (fun c_38 => ?_)
            · refine lv_iload_n hx hb dX2_product_152 rfl (lv_at hl 0 rfl) ?_
              refine lv_if_ne (tgt := 160) hx hb dX2_product_153 (by decide) (fun c_39 => ?_) (fun c_39 => ?_)
              · refine lv_iload_n hx hb dX2_product_160 rfl (lv_at hl 0 rfl) ?_
                have hq : (fX2_product X k a o) = (a3.1, a3.2.2) := Eq.symm ((show (a3.1, a3.2.2) = tX2_product_49 X k o (n3 + 1) i3 a3 from by first | (symm; (rw [tX2_product_49, if_neg c_36, if_pos c_38, if_neg c_39]); first | done | rfl) | rfl).trans (hf3.trans hfo3))
                exact W.iret (v := a3.1) hx hb hr (fun t9 ht hW => ⟨⟨a3.1, (), rfl, by rw [hq], by rw [hq]; exact ⟨by rw [ht]; exact hP, hD⟩⟩, hS.F ht⟩) hS.2.2 dX2_product_161
              · refine lv_iconst (v := (-1)) hx hb dX2_product_156 (by decide) ?_
                refine lv_goto (tgt := 161) hx hb dX2_product_157 (by decide) ?_
                have hq : (fX2_product X k a o) = ((-1), a3.2.2) := Eq.symm ((show ((-1), a3.2.2) = tX2_product_49 X k o (n3 + 1) i3 a3 from by first | (symm; (rw [tX2_product_49, if_neg c_36, if_pos c_38, if_pos c_39]); first | done | rfl) | rfl).trans (hf3.trans hfo3))
                exact W.iret (v := (-1)) hx hb hr (fun t9 ht hW => ⟨⟨(-1), (), rfl, by rw [hq], by rw [hq]; exact ⟨by rw [ht]; exact hP, hD⟩⟩, hS.F ht⟩) hS.2.2 dX2_product_161
            · have hlt : a3.2.2 < k := Nat.lt_of_not_le (fun q9 => c_38 (nI_le (a := k) (b := a3.2.2) q9 (by omega)))
              refine lv_aload_n hx hb dX2_product_64 rfl (lv_at hl 2 rfl) ?_
              refine va_get (D := D) (ci := 2) (v := .ref (q 4)) (C := RX2) (T := TX2) (N := 10) hx hb hts in_X2_product_X2 hown hK hP 0 rfl rfl 5 (by decide) (hts (.fieldLink RX2 19 "ZhegalkinBenchModel" "text" "[I") (List.mem_of_getElem? (i := 3) rfl)) (fun _ h9 => h9) rfl dX2_product_65 ?_
              refine lv_aload_n hx hb dX2_product_68 rfl (lv_at hl 2 rfl) ?_
              refine va_get (D := D) (ci := 2) (v := .int (nI a3.2.2)) (C := RX2) (T := TX2) (N := 10) hx hb hts in_X2_product_X2 hown hK hP 0 rfl rfl 8 (by decide) (hts (.fieldLink RX2 82 "ZhegalkinBenchModel" "at" "I") (List.mem_of_getElem? (i := 1) rfl)) (fun _ h9 => h9) rfl dX2_product_69 ?_
              refine vz_iald hx hb hK hP 4 3 rfl rfl a3.2.2 (by omega) (by decide) dX2_product_72 ?_
              refine lv_bipush (v := 97) hx hb dX2_product_73 (by decide) ?_
              refine lv_isub hx hb dX2_product_75 ?_
              refine lv_istore_n (lv' := [(3, .int ((X a3.2.2) - 97)), (1, .int a3.1), (2, .int a3.2.1), (0, .ref (q 0))]) hx hb dX2_product_76 rfl hl (by decide) rfl (fun ls hl => ?_)
              refine lv_iload_n hx hb dX2_product_77 rfl (lv_at hl 0 rfl) ?_
              refine lv_iload_n hx hb dX2_product_78 rfl (lv_at hl 1 rfl) ?_
              refine vz_cut (fun H1 l1 g1 => ∃ (x3_0 : Int32) (ls : Array Slot), x3_0 = (if a3.1 = 0 then 0 else ((fX2_highest a3.1) + 1) : Int32) ∧ lv_has ls 4 [(3, .int ((X a3.2.2) - 97)), (1, .int a3.1), (2, .int a3.2.1), (0, .ref (q 0))] ∧ (H = H1 ∧ locs = l1) ∧ g1 = F0 m 92 ls [.int x3_0, .int ((X a3.2.2) - 97)]) (fun hj3 => ?_) ?_
              · refine lv_if_ne (tgt := 86) hx hb dX2_product_79 (by decide) (fun c_40 => ?_) (fun c_40 => ?_)
                · refine lv_iload_n hx hb dX2_product_86 rfl (lv_at hl 1 rfl) ?_
                  refine vp_callSi (va_Run.run (va_runS (As := [.int a3.1]) (rest := [.int ((X a3.2.2) - 97)]) ⟨hx, hb, hml, hown, hts⟩ (c_X2_highest l a3.1 (kX2_hiv hv3_0 c_40)) (va_cwS 1 hts gX2_product_X2_highest rfl rfl rfl (by decide +kernel) ⟨Nat.le_of_ble_eq_true rfl, Nat.le_of_ble_eq_true rfl⟩) ⟨fun _ _ _ _ z => z, fun _ _ _ => ⟨rfl, trivial⟩⟩ rfl rfl hl.1 rfl (lv_room (Nat.le_of_ble_eq_true rfl)) dX2_product_87 ⟨(Nat.zero_le _), (Nat.zero_le _)⟩)) (fun r9 hr => ?_)
                  subst hr
                  refine lv_iconst (v := 1) hx hb dX2_product_90 (by decide) ?_
                  refine lv_iadd hx hb dX2_product_91 ?_
                  exact hj3 _ _ _ ⟨((fX2_highest a3.1) + 1), ls, (by (rw [if_neg c_40]); first | done | rfl), lv_sub hl [0, 1, 2, 3] rfl, ⟨rfl, rfl⟩, rfl⟩
                · refine lv_iconst (v := 0) hx hb dX2_product_82 (by decide) ?_
                  refine lv_goto (tgt := 92) hx hb dX2_product_83 (by decide) ?_
                  exact hj3 _ _ _ ⟨0, ls, (by (rw [if_pos c_40]); first | done | rfl), lv_sub hl [0, 1, 2, 3] rfl, ⟨rfl, rfl⟩, rfl⟩
              rintro H1 l1 g1 ⟨x3_0, ls, ex3_0, hl, ⟨rfl, rfl⟩, rfl⟩
              subst ex3_0
              refine lv_iconst (v := 3) hx hb dX2_product_92 (by decide) ?_
              refine vp_callSi (va_Run.run (va_runS (As := [.int ((X a3.2.2) - 97), .int (if a3.1 = 0 then 0 else ((fX2_highest a3.1) + 1) : Int32), .int 3]) (rest := []) ⟨hx, hb, hml, hown, hts⟩ (c_X2_in l ((X a3.2.2) - 97) (if a3.1 = 0 then 0 else ((fX2_highest a3.1) + 1) : Int32) 3) (va_cwS 3 hts gX2_product_X2_in rfl rfl rfl (by decide +kernel) ⟨Nat.le_of_ble_eq_true rfl, Nat.le_of_ble_eq_true rfl⟩) ⟨fun _ _ _ _ z => z, fun _ _ _ => ⟨rfl, trivial⟩⟩ rfl rfl hl.1 rfl (lv_room (Nat.le_of_ble_eq_true rfl)) dX2_product_93 ⟨(Nat.zero_le _), (Nat.zero_le _)⟩)) (fun r9 hr => ?_)
              subst hr
              refine lv_if_eq (tgt := 115) hx hb dX2_product_96 (by decide) (fun c_41 => ?_) (fun c_41 => ?_)
              · refine lv_iconst (v := 0) hx hb dX2_product_115 (by decide) ?_
                refine lv_istore_n (lv' := [(2, .int 0), (3, .int ((X a3.2.2) - 97)), (1, .int a3.1), (0, .ref (q 0))]) hx hb dX2_product_116 rfl hl (by decide) rfl (fun ls hl => ?_)
                refine lv_iload_n hx hb dX2_product_117 rfl (lv_at hl 2 rfl) ?_
                refine lv_iload_n hx hb dX2_product_118 rfl (lv_at hl 0 rfl) ?_
                refine lv_if_eq (tgt := 128) hx hb dX2_product_119 (by decide) (fun c_42 => ?_) (fun c_42 => ?_)
                · refine lv_iconst (v := 0) hx hb dX2_product_128 (by decide) ?_
                  refine lv_ior hx hb dX2_product_129 ?_
                  refine lv_istore_n (lv' := [(1, .int (a3.1 ||| 0)), (2, .int 0), (3, .int ((X a3.2.2) - 97)), (0, .ref (q 0))]) hx hb dX2_product_130 rfl hl (by decide) rfl (fun ls hl => ?_)
                  refine lv_aload_n hx hb dX2_product_131 rfl (lv_at hl 3 rfl) ?_
                  refine lv_dup hx hb dX2_product_132 rfl ?_
                  refine va_get (D := D) (ci := 2) (v := .int (nI a3.2.2)) (C := RX2) (T := TX2) (N := 10) hx hb hts in_X2_product_X2 hown hK hP 0 rfl rfl 8 (by decide) (hts (.fieldLink RX2 82 "ZhegalkinBenchModel" "at" "I") (List.mem_of_getElem? (i := 1) rfl)) (fun _ h9 => h9) rfl dX2_product_133 ?_
                  refine lv_iload_n hx hb dX2_product_136 rfl (lv_at hl 1 rfl) ?_
                  refine lv_if_eq (tgt := 144) hx hb dX2_product_137 (by decide) (fun c_43 => ?_) (fun c_43 => ?_)
                  · refine lv_iconst (v := 0) hx hb dX2_product_144 (by decide) ?_
                    refine lv_iadd hx hb dX2_product_145 ?_
                    refine lv_is (nI (a3.2.2 + 0)) (by first | exact nI_add _ _ | rfl) ?_
                    refine va_put (D := D) (ci := 2) (v := .int (nI (a3.2.2 + 0))) (ty := .int) (C := RX2) (T := TX2) (N := 10) hx hb hts in_X2_product_X2 tyX2 tyX2_ok nmX2 hown hK hP hD hS 0 rfl rfl 8 (by decide) (hts (.fieldLink RX2 82 "ZhegalkinBenchModel" "at" "I") (List.mem_of_getElem? (i := 1) rfl)) (fun _ h9 => h9) rfl (by decide +kernel) rfl rfl (Nat.le_of_ble_eq_true rfl) dX2_product_146 (fun H locs hP hD hS => ?_)
                    have hP : va_P D vwCl (wM q cq T R S X n h (nI k) th (nI (a3.2.2 + 0)) o) H := hP
                    have hD : va_D A (wM q cq T R S X n h (nI k) th (nI (a3.2.2 + 0)) o) := hD
                    refine lv_goto (tgt := 49) hx hb dX2_product_149 (by decide) ?_
                    exact ih3 H locs (i3 + 1) ((a3.1 ||| 0), 0, (a3.2.2 + 0)) ls (by omega) ((show tX2_product_49 X k o n3 (i3 + 1) ((a3.1 ||| 0), 0, (a3.2.2 + 0)) = tX2_product_49 X k o (n3 + 1) i3 a3 from by first | (symm; (rw [tX2_product_49, if_neg c_36, if_neg c_38, if_pos c_41]); first | done | rfl) | rfl).trans hf3) (kX2_or0 hv3_0) (Or.inl rfl) (by dsimp only; omega) (lv_sub hl [0, 1, 3] rfl) hP hD hS
                  · exact absurd (by decide) c_43
                · exact absurd (by decide) c_42
              · refine lv_aload_n hx hb dX2_product_99 rfl (lv_at hl 3 rfl) ?_
                refine lv_iload_n hx hb dX2_product_100 rfl (lv_at hl 1 rfl) ?_
                refine lv_iconst (v := 1) hx hb dX2_product_101 (by decide) ?_
                refine lv_iload_n hx hb dX2_product_102 rfl (lv_at hl 0 rfl) ?_
                refine lv_ishl hx hb dX2_product_103 ?_
                refine lv_ior hx hb dX2_product_104 ?_
                have hpl9 := kX2_pl hv3_0 c_41
                refine lv_is (nI (a3.1 ||| ((1 : Int32) <<< (((X a3.2.2) - 97) &&& 31))).toNatClampNeg) hpl9.2.2 ?_
                have hPc := hP.sub (ws' := (wM q cq T R S X n h (nI k) th (nI a3.2.2) o)) [0, 1, 2, 3, 4] rfl
                have hKc := hK.sub (tys' := (tyM cq)) [0, 1, 2, 3] rfl
                refine vp_callSi (va_Run.run (va_runV (As := [.int (nI (a3.1 ||| ((1 : Int32) <<< (((X a3.2.2) - 97) &&& 31))).toNatClampNeg)]) (rest := []) ⟨hx, hb, hml, hown, hts⟩ (c_X2_canCome l D q cq T R S X n h (nI k) th (nI a3.2.2) o ((a3.1 ||| ((1 : Int32) <<< (((X a3.2.2) - 97) &&& 31))).toNatClampNeg) hpl9.2.1 hpl9.1) (cwV 1 hts gX2_product_X2_canCome rfl rfl rfl (by decide +kernel) ⟨Nat.le_of_ble_eq_true rfl, Nat.le_of_ble_eq_true rfl⟩) ⟨fun a U g mk z => ⟨z.1, z.2.1, va_K.moved (u := U) (U := U.calling g mk a) (Vm.Alike.refl U.vm) z.2.2.1, z.2.2.2.blind g mk a⟩, va_recv hKc hPc (ci := 2) (q0 := 0) rfl rfl, fun U hU hW => ⟨rfl, by rw [hU]; exact hPc, va_K.moved hW.alike hKc, hE.at0 hS hU hW⟩⟩ rfl rfl hl.1 rfl (lv_room (Nat.le_of_ble_eq_true rfl)) dX2_product_105 ⟨(Nat.zero_le _), (Nat.zero_le _)⟩)) (fun r9 hr => ?_)
                subst hr
                refine lv_if_eq (tgt := 115) hx hb dX2_product_108 (by decide) (fun c_44 => ?_) (fun c_44 => ?_)
                · refine lv_iconst (v := 0) hx hb dX2_product_115 (by decide) ?_
                  refine lv_istore_n (lv' := [(2, .int 0), (3, .int ((X a3.2.2) - 97)), (1, .int a3.1), (0, .ref (q 0))]) hx hb dX2_product_116 rfl hl (by decide) rfl (fun ls hl => ?_)
                  refine lv_iload_n hx hb dX2_product_117 rfl (lv_at hl 2 rfl) ?_
                  refine lv_iload_n hx hb dX2_product_118 rfl (lv_at hl 0 rfl) ?_
                  refine lv_if_eq (tgt := 128) hx hb dX2_product_119 (by decide) (fun c_45 => ?_) (fun c_45 => ?_)
                  · refine lv_iconst (v := 0) hx hb dX2_product_128 (by decide) ?_
                    refine lv_ior hx hb dX2_product_129 ?_
                    refine lv_istore_n (lv' := [(1, .int (a3.1 ||| 0)), (2, .int 0), (3, .int ((X a3.2.2) - 97)), (0, .ref (q 0))]) hx hb dX2_product_130 rfl hl (by decide) rfl (fun ls hl => ?_)
                    refine lv_aload_n hx hb dX2_product_131 rfl (lv_at hl 3 rfl) ?_
                    refine lv_dup hx hb dX2_product_132 rfl ?_
                    refine va_get (D := D) (ci := 2) (v := .int (nI a3.2.2)) (C := RX2) (T := TX2) (N := 10) hx hb hts in_X2_product_X2 hown hK hP 0 rfl rfl 8 (by decide) (hts (.fieldLink RX2 82 "ZhegalkinBenchModel" "at" "I") (List.mem_of_getElem? (i := 1) rfl)) (fun _ h9 => h9) rfl dX2_product_133 ?_
                    refine lv_iload_n hx hb dX2_product_136 rfl (lv_at hl 1 rfl) ?_
                    refine lv_if_eq (tgt := 144) hx hb dX2_product_137 (by decide) (fun c_46 => ?_) (fun c_46 => ?_)
                    · refine lv_iconst (v := 0) hx hb dX2_product_144 (by decide) ?_
                      refine lv_iadd hx hb dX2_product_145 ?_
                      refine lv_is (nI (a3.2.2 + 0)) (by first | exact nI_add _ _ | rfl) ?_
                      refine va_put (D := D) (ci := 2) (v := .int (nI (a3.2.2 + 0))) (ty := .int) (C := RX2) (T := TX2) (N := 10) hx hb hts in_X2_product_X2 tyX2 tyX2_ok nmX2 hown hK hP hD hS 0 rfl rfl 8 (by decide) (hts (.fieldLink RX2 82 "ZhegalkinBenchModel" "at" "I") (List.mem_of_getElem? (i := 1) rfl)) (fun _ h9 => h9) rfl (by decide +kernel) rfl rfl (Nat.le_of_ble_eq_true rfl) dX2_product_146 (fun H locs hP hD hS => ?_)
                      have hP : va_P D vwCl (wM q cq T R S X n h (nI k) th (nI (a3.2.2 + 0)) o) H := hP
                      have hD : va_D A (wM q cq T R S X n h (nI k) th (nI (a3.2.2 + 0)) o) := hD
                      refine lv_goto (tgt := 49) hx hb dX2_product_149 (by decide) ?_
                      exact ih3 H locs (i3 + 1) ((a3.1 ||| 0), 0, (a3.2.2 + 0)) ls (by omega) ((show tX2_product_49 X k o n3 (i3 + 1) ((a3.1 ||| 0), 0, (a3.2.2 + 0)) = tX2_product_49 X k o (n3 + 1) i3 a3 from by first | (symm; (rw [tX2_product_49, if_neg c_36, if_neg c_38, if_neg c_41, if_pos c_44]); first | done | rfl) | rfl).trans hf3) (kX2_or0 hv3_0) (Or.inl rfl) (by dsimp only; omega) (lv_sub hl [0, 1, 3] rfl) hP hD hS
                    · exact absurd (by decide) c_46
                  · exact absurd (by decide) c_45
                · refine lv_iconst (v := 1) hx hb dX2_product_111 (by decide) ?_
                  refine lv_goto (tgt := 116) hx hb dX2_product_112 (by decide) ?_
                  refine lv_istore_n (lv' := [(2, .int 1), (3, .int ((X a3.2.2) - 97)), (1, .int a3.1), (0, .ref (q 0))]) hx hb dX2_product_116 rfl hl (by decide) rfl (fun ls hl => ?_)
                  refine lv_iload_n hx hb dX2_product_117 rfl (lv_at hl 2 rfl) ?_
                  refine lv_iload_n hx hb dX2_product_118 rfl (lv_at hl 0 rfl) ?_
                  refine lv_if_eq (tgt := 128) hx hb dX2_product_119 (by decide) (fun c_47 => ?_) (fun c_47 => ?_)
                  · exact absurd c_47 (by decide)
                  · refine lv_iconst (v := 1) hx hb dX2_product_122 (by decide) ?_
                    refine lv_iload_n hx hb dX2_product_123 rfl (lv_at hl 1 rfl) ?_
                    refine lv_ishl hx hb dX2_product_124 ?_
                    refine lv_goto (tgt := 129) hx hb dX2_product_125 (by decide) ?_
                    refine lv_ior hx hb dX2_product_129 ?_
                    refine lv_istore_n (lv' := [(1, .int (a3.1 ||| ((1 : Int32) <<< (((X a3.2.2) - 97) &&& 31)))), (2, .int 1), (3, .int ((X a3.2.2) - 97)), (0, .ref (q 0))]) hx hb dX2_product_130 rfl hl (by decide) rfl (fun ls hl => ?_)
                    refine lv_aload_n hx hb dX2_product_131 rfl (lv_at hl 3 rfl) ?_
                    refine lv_dup hx hb dX2_product_132 rfl ?_
                    refine va_get (D := D) (ci := 2) (v := .int (nI a3.2.2)) (C := RX2) (T := TX2) (N := 10) hx hb hts in_X2_product_X2 hown hK hP 0 rfl rfl 8 (by decide) (hts (.fieldLink RX2 82 "ZhegalkinBenchModel" "at" "I") (List.mem_of_getElem? (i := 1) rfl)) (fun _ h9 => h9) rfl dX2_product_133 ?_
                    refine lv_iload_n hx hb dX2_product_136 rfl (lv_at hl 1 rfl) ?_
                    refine lv_if_eq (tgt := 144) hx hb dX2_product_137 (by decide) (fun c_48 => ?_) (fun c_48 => ?_)
                    · exact absurd c_48 (by decide)
                    · refine lv_iconst (v := 1) hx hb dX2_product_140 (by decide) ?_
                      refine lv_goto (tgt := 145) hx hb dX2_product_141 (by decide) ?_
                      refine lv_iadd hx hb dX2_product_145 ?_
                      refine lv_is (nI (a3.2.2 + 1)) (by first | exact nI_add _ _ | rfl) ?_
                      refine va_put (D := D) (ci := 2) (v := .int (nI (a3.2.2 + 1))) (ty := .int) (C := RX2) (T := TX2) (N := 10) hx hb hts in_X2_product_X2 tyX2 tyX2_ok nmX2 hown hK hP hD hS 0 rfl rfl 8 (by decide) (hts (.fieldLink RX2 82 "ZhegalkinBenchModel" "at" "I") (List.mem_of_getElem? (i := 1) rfl)) (fun _ h9 => h9) rfl (by decide +kernel) rfl rfl (Nat.le_of_ble_eq_true rfl) dX2_product_146 (fun H locs hP hD hS => ?_)
                      have hP : va_P D vwCl (wM q cq T R S X n h (nI k) th (nI (a3.2.2 + 1)) o) H := hP
                      have hD : va_D A (wM q cq T R S X n h (nI k) th (nI (a3.2.2 + 1)) o) := hD
                      refine lv_goto (tgt := 49) hx hb dX2_product_149 (by decide) ?_
                      exact ih3 H locs (i3 + 1) ((a3.1 ||| ((1 : Int32) <<< (((X a3.2.2) - 97) &&& 31))), 1, (a3.2.2 + 1)) ls (by omega) ((show tX2_product_49 X k o n3 (i3 + 1) ((a3.1 ||| ((1 : Int32) <<< (((X a3.2.2) - 97) &&& 31))), 1, (a3.2.2 + 1)) = tX2_product_49 X k o (n3 + 1) i3 a3 from by first | (symm; (rw [tX2_product_49, if_neg c_36, if_neg c_38, if_neg c_41, if_neg c_44]); first | done | rfl) | rfl).trans hf3) (by dsimp only; rw [hpl9.2.2]; exact vp_in_nI hpl9.2.1 (by decide)) (Or.inr ⟨rfl, by dsimp only; omega⟩) (by dsimp only; omega) (lv_sub hl [0, 1, 3] rfl) hP hD hS
      · refine lv_aload_n hx hb dX2_product_33 rfl (lv_at hl 0 rfl) ?_
        refine lv_dup hx hb dX2_product_34 rfl ?_
        refine va_get (D := D) (ci := 2) (v := .int (nI a)) (C := RX2) (T := TX2) (N := 10) hx hb hts in_X2_product_X2 hown hK hP 0 rfl rfl 8 (by decide) (hts (.fieldLink RX2 82 "ZhegalkinBenchModel" "at" "I") (List.mem_of_getElem? (i := 1) rfl)) (fun _ h9 => h9) rfl dX2_product_35 ?_
        refine lv_iconst (v := 1) hx hb dX2_product_38 (by decide) ?_
        refine lv_iadd hx hb dX2_product_39 ?_
        refine lv_is (nI (a + 1)) (by first | exact nI_add _ _ | rfl) ?_
        refine va_put (D := D) (ci := 2) (v := .int (nI (a + 1))) (ty := .int) (C := RX2) (T := TX2) (N := 10) hx hb hts in_X2_product_X2 tyX2 tyX2_ok nmX2 hown hK hP hD hS 0 rfl rfl 8 (by decide) (hts (.fieldLink RX2 82 "ZhegalkinBenchModel" "at" "I") (List.mem_of_getElem? (i := 1) rfl)) (fun _ h9 => h9) rfl (by decide +kernel) rfl rfl (Nat.le_of_ble_eq_true rfl) dX2_product_40 (fun H locs hP hD hS => ?_)
        have hP : va_P D vwCl (wM q cq T R S X n h (nI k) th (nI (a + 1)) o) H := hP
        have hD : va_D A (wM q cq T R S X n h (nI k) th (nI (a + 1)) o) := hD
        refine lv_iconst (v := 0) hx hb dX2_product_43 (by decide) ?_
        have hq : (fX2_product X k a o) = (0, (a + 1)) := Eq.symm (by first | ((rw [fX2_product, if_neg c_1, if_pos c_17, if_pos c_33]); first | done | rfl) | rfl)
        exact W.iret (v := 0) hx hb hr (fun t9 ht hW => ⟨⟨0, (), rfl, by rw [hq], by rw [hq]; exact ⟨by rw [ht]; exact hP, hD⟩⟩, hS.F ht⟩) hS.2.2 dX2_product_44
theorem tX2_product_le (X : Nat → Int32) {k : Nat} (hk : k ≤ 80) (o : Int32) : ∀ (n i : Nat) (a : Int32 × Int32 × Nat), a.2.2 ≤ k → a.2.2 ≤ (tX2_product_49 X k o n i a).2 ∧ (tX2_product_49 X k o n i a).2 ≤ k
  | 0, i, a, h => by
    rw [tX2_product_49]
    split <;> exact ⟨Nat.le_refl _, h⟩
  | n + 1, i, a, h => by
    rw [tX2_product_49]
    by_cases h1 : a.2.1 = 0
    · rw [if_pos h1]
      split <;> exact ⟨Nat.le_refl _, h⟩
    · rw [if_neg h1]
      by_cases h2 : nI k ≤ nI a.2.2
      · rw [if_pos h2]
        split <;> exact ⟨Nat.le_refl _, h⟩
      · rw [if_neg h2]
        have h3 : a.2.2 < k := Nat.lt_of_not_le (fun q => h2 (nI_le q (by omega)))
        have hs : ∀ (x y : Int32) (m : Nat), a.2.2 ≤ m → m ≤ k → a.2.2 ≤ (tX2_product_49 X k o n (i + 1) (x, y, m)).2 ∧ (tX2_product_49 X k o n (i + 1) (x, y, m)).2 ≤ k := fun x y m hm hm2 =>
          have z := tX2_product_le X hk o n (i + 1) (x, y, m) hm2
          ⟨Nat.le_trans hm z.1, z.2⟩
        refine ite_of (fun z : Int32 × Nat => a.2.2 ≤ z.2 ∧ z.2 ≤ k) (hs _ _ _ ?_ ?_) (ite_of (fun z : Int32 × Nat => a.2.2 ≤ z.2 ∧ z.2 ≤ k) (hs _ _ _ ?_ ?_) (hs _ _ _ ?_ ?_)) <;> omega
theorem fX2_product_le (X : Nat → Int32) {k a : Nat} (hk : k ≤ 80) (ha : a ≤ k) (o : Int32) : a ≤ (fX2_product X k a o).2 ∧ (fX2_product X k a o).2 ≤ k := by
  have h := tX2_product_le X hk o (k - a + 1) 0 (0, 1, a) ha
  unfold fX2_product
  by_cases h2 : nI k ≤ nI a
  · rw [if_pos h2]; exact h
  · rw [if_neg h2]
    have h3 : a < k := Nat.lt_of_not_le (fun q => h2 (nI_le q (by omega)))
    by_cases h4 : X a = 49
    · rw [if_pos h4]
      split
      · exact ⟨Nat.le_succ a, h3⟩
      · exact h
    · rw [if_neg h4]; exact h
theorem in_X2_reads_X2 : ∀ w ∈ wsX20, w ∈ wsX2_reads := by decide +kernel
def tX2_reads_49 (X : Nat → Int32) (k : Nat) : Nat → Nat → Int32 × Nat × Int32 → Int32 × Nat × Int32
  | 0, _, a1 => if (nI a1.2.1) = (nI k) then (1, a1.2.1, a1.2.2) else (0, a1.2.1, a1.2.2)
  | n1 + 1, i1, a1 => if a1.1 = 0 then (if (nI a1.2.1) = (nI k) then (1, a1.2.1, a1.2.2) else (0, a1.2.1, a1.2.2)) else (if (fX2_product X k a1.2.1 a1.2.2).1 < 0 then (0, ((fX2_product X k a1.2.1 a1.2.2).2), a1.2.2) else (if (fX2_has a1.2.2 ((fX2_product X k a1.2.1 a1.2.2).1)) = 0 then (if (a1.2.2 ||| ((1 : Int32) <<< ((fX2_product X k a1.2.1 a1.2.2).1 &&& 31))) = 65535 then tX2_reads_49 X k n1 (i1 + 1) (0, (((fX2_product X k a1.2.1 a1.2.2).2) + 0), (a1.2.2 ||| ((1 : Int32) <<< ((fX2_product X k a1.2.1 a1.2.2).1 &&& 31)))) else (if (nI k) ≤ (nI (fX2_product X k a1.2.1 a1.2.2).2) then tX2_reads_49 X k n1 (i1 + 1) (0, (((fX2_product X k a1.2.1 a1.2.2).2) + 0), (a1.2.2 ||| ((1 : Int32) <<< ((fX2_product X k a1.2.1 a1.2.2).1 &&& 31)))) else (if (X ((fX2_product X k a1.2.1 a1.2.2).2)) = 43 then tX2_reads_49 X k n1 (i1 + 1) (1, (((fX2_product X k a1.2.1 a1.2.2).2) + 1), (a1.2.2 ||| ((1 : Int32) <<< ((fX2_product X k a1.2.1 a1.2.2).1 &&& 31)))) else tX2_reads_49 X k n1 (i1 + 1) (0, (((fX2_product X k a1.2.1 a1.2.2).2) + 0), (a1.2.2 ||| ((1 : Int32) <<< ((fX2_product X k a1.2.1 a1.2.2).1 &&& 31))))))) else (0, ((fX2_product X k a1.2.1 a1.2.2).2), a1.2.2)))
def fX2_reads (X : Nat → Int32) (k : Nat) : Int32 × Nat × Int32 := if (nI k) ≤ 0 then tX2_reads_49 X k (k + 1) 0 (1, 0, 0) else (if (X 0) = 48 then (if (nI k) = 1 then (1, 1, 0) else (0, 1, 0)) else tX2_reads_49 X k (k + 1) 0 (1, 0, 0))
set_option maxHeartbeats 4000000 in
set_option maxRecDepth 100000 in
theorem c_X2_reads (l : Launch) (D : va_G) (q : Nat → Nat) (cq : Nat → ClassId) (sz : Nat) (T : Nat → Int32) (R : Nat → Int32) (S : Nat → Int32) (X : Nat → Int32) (n : Int32) (h : Int32) (k : Nat) (th : Int32) (a : Nat) (o : Int32) (hk9 : k ≤ 80) : Met l yX2_reads wsX2_reads ({ frames := 3, cells := 0, slots := 0, locals := 71 }) (va_Pc [.ref (q 0)] (fun U => U.heap.size = sz ∧ va_P D vwCl (wM q cq T R S X n h (nI k) th (nI a) o) U.heap ∧ va_K D vwCl (tyM cq) U ∧ va_D (fun _ => True) (wM q cq T R S X n h (nI k) th (nI a) o) ∧ envE (va_A (wM q cq T R S X n h (nI k) th (nI a) o) sz) U)) (va_Qi (fun r9 (_ : Unit) => r9 = (fX2_reads X k).1) (fun _ t9 => va_P D vwCl (wM q cq T R S X n h (nI k) th (nI (fX2_reads X k).2.1) ((fX2_reads X k).2.2)) t9.heap ∧ va_D (va_A (wM q cq T R S X n h (nI k) th (nI a) o) sz) (wM q cq T R S X n h (nI k) th (nI (fX2_reads X k).2.1) ((fX2_reads X k).2.2))) (va_A (wM q cq T R S X n h (nI k) th (nI a) o) sz)) 0 0 (va_A (wM q cq T R S X n h (nI k) th (nI a) o) sz) := by
  refine Met.ofW (cc := cX2_reads) (maxL := 3) (ret := (some .boolean)) (by decide) rfl ?_
  intro p e s m args below meth c s₁ B hml hv
  obtain ⟨rfl, hsz, hP, hK, hD0, hE⟩ := hv
  have hx := B.exec
  have hb := B.bytes
  have hr := B.returns
  have hts := atoms_spec (ws := wsX2_reads) B.pre
  have hown : s.vm.findClass RX2 = some m.cls := findClass_of_methodNamed B.named
  have hlocks := B.notSynchronized
  subst hsz
  have hD := hD0.self (sz := s.heap.size)
  generalize hAe : va_A (wM q cq T R S X n h (nI k) th (nI a) o) s.heap.size = A at hD hE ⊢
  have hA : ∀ q : Nat, s.heap.size ≤ q → A q := fun q h => by rw [← hAe]; exact Or.inr h
  have hS : va_S A s.heap s.heap [] := va_S.rf
  have hP : va_P D vwCl (wM q cq T R S X n h (nI k) th (nI a) o) s.heap := hP
  have hl := lv_entry ([.ref (q 0)]) (n := 3) (Nat.le_of_ble_eq_true rfl)
  rw [lg_entry_eq]
  generalize (lg_sl ([.ref (q 0)]) ++ List.replicate (3 - (lg_sl ([.ref (q 0)])).length) Slot.unset).toArray = ls at hl ⊢
  have hl : lv_has ls 3 [(0, .ref (q 0))] := hl
  refine lv_aload_n hx hb dX2_reads_0 rfl (lv_at hl 0 rfl) ?_
  refine lv_iconst (v := 0) hx hb dX2_reads_1 (by decide) ?_
  refine va_put (D := D) (ci := 2) (v := .int 0) (ty := .int) (C := RX2) (T := TX2) (N := 10) hx hb hts in_X2_reads_X2 tyX2 tyX2_ok nmX2 hown hK hP hD hS 0 rfl rfl 8 (by decide) (hts (.fieldLink RX2 82 "ZhegalkinBenchModel" "at" "I") (List.mem_of_getElem? (i := 1) rfl)) (fun _ h9 => h9) rfl (by decide +kernel) rfl rfl (Nat.le_of_ble_eq_true rfl) dX2_reads_2 (fun H locs hP hD hS => ?_)
  have hP : va_P D vwCl (wM q cq T R S X n h (nI k) th 0 o) H := hP
  have hD : va_D A (wM q cq T R S X n h (nI k) th 0 o) := hD
  refine lv_aload_n hx hb dX2_reads_5 rfl (lv_at hl 0 rfl) ?_
  refine lv_iconst (v := 0) hx hb dX2_reads_6 (by decide) ?_
  refine va_put (D := D) (ci := 2) (v := .int 0) (ty := .int) (C := RX2) (T := TX2) (N := 10) hx hb hts in_X2_reads_X2 tyX2 tyX2_ok nmX2 hown hK hP hD hS 0 rfl rfl 9 (by decide) (hts (.fieldLink RX2 62 "ZhegalkinBenchModel" "told" "I") (List.mem_of_getElem? (i := 2) rfl)) (fun _ h9 => h9) rfl (by decide +kernel) rfl rfl (Nat.le_of_ble_eq_true rfl) dX2_reads_7 (fun H locs hP hD hS => ?_)
  have hP : va_P D vwCl (wM q cq T R S X n h (nI k) th 0 0) H := hP
  have hD : va_D A (wM q cq T R S X n h (nI k) th 0 0) := hD
  refine lv_aload_n hx hb dX2_reads_10 rfl (lv_at hl 0 rfl) ?_
  refine va_get (D := D) (ci := 2) (v := .int (nI k)) (C := RX2) (T := TX2) (N := 10) hx hb hts in_X2_reads_X2 hown hK hP 0 rfl rfl 6 (by decide) (hts (.fieldLink RX2 73 "ZhegalkinBenchModel" "typed" "I") (List.mem_of_getElem? (i := 3) rfl)) (fun _ h9 => h9) rfl dX2_reads_11 ?_
  refine lv_if_le (tgt := 47) hx hb dX2_reads_14 (by decide) (fun c_1 => ?_) (fun c_1 => ?_)
  · refine lv_iconst (v := 1) hx hb dX2_reads_47 (by decide) ?_
    refine lv_istore_n (lv' := [(1, .int 1), (0, .ref (q 0))]) hx hb dX2_reads_48 rfl hl (by decide) rfl (fun ls hl => ?_)
    have hfo1 : tX2_reads_49 X k (k + 1) 0 (1, 0, 0) = (fX2_reads X k) := Eq.symm (by first | ((rw [fX2_reads, if_pos c_1]); first | done | rfl) | rfl)
    refine vz_cut (fun H1 l1 g1 => ∃ (n1 i1 : Nat) (a1 : Int32 × Nat × Int32) (ls : Array Slot), i1 + n1 = k + 1 ∧ tX2_reads_49 X k n1 i1 a1 = tX2_reads_49 X k (k + 1) 0 (1, 0, 0) ∧ (a1.1 = 0 ∨ (a1.1 = 1 ∧ i1 ≤ a1.2.1)) ∧ a1.2.1 ≤ k ∧ lv_has ls 3 [(1, .int a1.1), (0, .ref (q 0))] ∧ va_P D vwCl (wM q cq T R S X n h (nI k) th (nI a1.2.1) a1.2.2) H1 ∧ va_D A (wM q cq T R S X n h (nI k) th (nI a1.2.1) a1.2.2) ∧ va_S A s.heap H1 l1 ∧ g1 = F0 m 49 ls []) (fun hj => hj _ _ _ ⟨k + 1, 0, (1, 0, 0), ls, (by omega), rfl, (Or.inr ⟨rfl, Nat.le_refl 0⟩), (Nat.zero_le k), lv_sub hl [0, 1] rfl, hP, hD, hS, rfl⟩) ?_
    rintro H locs g1 ⟨n1, i1, a1, ls, hi1, hf1, hv1_0, hv1_1, hl, hP, hD, hS, rfl⟩
    revert H locs i1 a1 ls
    induction n1 with
    | zero =>
      intro H locs i1 a1 ls hi1 hf1 hv1_0 hv1_1 hl hP hD hS
      obtain rfl : k + 1 = i1 := by omega
      refine lv_iload_n hx hb dX2_reads_49 rfl (lv_at hl 0 rfl) ?_
      refine lv_if_eq (tgt := 145) hx hb dX2_reads_50 (by decide) (fun c_2 => ?_) (fun c_2 => ?_)
      · refine lv_aload_n hx hb dX2_reads_145 rfl (lv_at hl 1 rfl) ?_
        refine va_get (D := D) (ci := 2) (v := .int (nI a1.2.1)) (C := RX2) (T := TX2) (N := 10) hx hb hts in_X2_reads_X2 hown hK hP 0 rfl rfl 8 (by decide) (hts (.fieldLink RX2 82 "ZhegalkinBenchModel" "at" "I") (List.mem_of_getElem? (i := 1) rfl)) (fun _ h9 => h9) rfl dX2_reads_146 ?_
        refine lv_aload_n hx hb dX2_reads_149 rfl (lv_at hl 1 rfl) ?_
        refine va_get (D := D) (ci := 2) (v := .int (nI k)) (C := RX2) (T := TX2) (N := 10) hx hb hts in_X2_reads_X2 hown hK hP 0 rfl rfl 6 (by decide) (hts (.fieldLink RX2 73 "ZhegalkinBenchModel" "typed" "I") (List.mem_of_getElem? (i := 3) rfl)) (fun _ h9 => h9) rfl dX2_reads_150 ?_
        refine lv_icmp_ne (tgt := 160) hx hb dX2_reads_153 (by decide) (fun c_3 => ?_) (fun c_3 => ?_)
        · refine lv_iconst (v := 0) hx hb dX2_reads_160 (by decide) ?_
          have hq : (fX2_reads X k) = (0, a1.2.1, a1.2.2) := Eq.symm ((show (0, a1.2.1, a1.2.2) = tX2_reads_49 X k 0 (k + 1) a1 from by first | (symm; (rw [tX2_reads_49, if_neg c_3]); first | done | rfl) | rfl).trans (hf1.trans hfo1))
          exact W.zret (v := 0) hx hb hr rfl (fun t9 ht hW => ⟨⟨0, (), rfl, by rw [hq], by rw [hq]; exact ⟨by rw [ht]; exact hP, hD⟩⟩, hS.F ht⟩) hS.2.2 dX2_reads_161
        · refine lv_iconst (v := 1) hx hb dX2_reads_156 (by decide) ?_
          refine lv_goto (tgt := 161) hx hb dX2_reads_157 (by decide) ?_
          have hq : (fX2_reads X k) = (1, a1.2.1, a1.2.2) := Eq.symm ((show (1, a1.2.1, a1.2.2) = tX2_reads_49 X k 0 (k + 1) a1 from by first | (symm; (rw [tX2_reads_49, if_pos c_3]); first | done | rfl) | rfl).trans (hf1.trans hfo1))
          exact W.zret (v := 1) hx hb hr rfl (fun t9 ht hW => ⟨⟨1, (), rfl, by rw [hq], by rw [hq]; exact ⟨by rw [ht]; exact hP, hD⟩⟩, hS.F ht⟩) hS.2.2 dX2_reads_161
      · exact absurd (hv1_0.elim id (fun z => absurd z.2 (by omega))) c_2
    | succ n1 ih1 =>
      intro H locs i1 a1 ls hi1 hf1 hv1_0 hv1_1 hl hP hD hS
      refine lv_iload_n hx hb dX2_reads_49 rfl (lv_at hl 0 rfl) ?_
      refine lv_if_eq (tgt := 145) hx hb dX2_reads_50 (by decide) (fun c_4 => ?_) (fun c_4 => ?_)
      · refine lv_aload_n hx hb dX2_reads_145 rfl (lv_at hl 1 rfl) ?_
        refine va_get (D := D) (ci := 2) (v := .int (nI a1.2.1)) (C := RX2) (T := TX2) (N := 10) hx hb hts in_X2_reads_X2 hown hK hP 0 rfl rfl 8 (by decide) (hts (.fieldLink RX2 82 "ZhegalkinBenchModel" "at" "I") (List.mem_of_getElem? (i := 1) rfl)) (fun _ h9 => h9) rfl dX2_reads_146 ?_
        refine lv_aload_n hx hb dX2_reads_149 rfl (lv_at hl 1 rfl) ?_
        refine va_get (D := D) (ci := 2) (v := .int (nI k)) (C := RX2) (T := TX2) (N := 10) hx hb hts in_X2_reads_X2 hown hK hP 0 rfl rfl 6 (by decide) (hts (.fieldLink RX2 73 "ZhegalkinBenchModel" "typed" "I") (List.mem_of_getElem? (i := 3) rfl)) (fun _ h9 => h9) rfl dX2_reads_150 ?_
        refine lv_icmp_ne (tgt := 160) hx hb dX2_reads_153 (by decide) (fun c_5 => ?_) (fun c_5 => ?_)
        · refine lv_iconst (v := 0) hx hb dX2_reads_160 (by decide) ?_
          have hq : (fX2_reads X k) = (0, a1.2.1, a1.2.2) := Eq.symm ((show (0, a1.2.1, a1.2.2) = tX2_reads_49 X k (n1 + 1) i1 a1 from by first | (symm; (rw [tX2_reads_49, if_pos c_4, if_neg c_5]); first | done | rfl) | rfl).trans (hf1.trans hfo1))
          exact W.zret (v := 0) hx hb hr rfl (fun t9 ht hW => ⟨⟨0, (), rfl, by rw [hq], by rw [hq]; exact ⟨by rw [ht]; exact hP, hD⟩⟩, hS.F ht⟩) hS.2.2 dX2_reads_161
        · refine lv_iconst (v := 1) hx hb dX2_reads_156 (by decide) ?_
          refine lv_goto (tgt := 161) hx hb dX2_reads_157 (by decide) ?_
          have hq : (fX2_reads X k) = (1, a1.2.1, a1.2.2) := Eq.symm ((show (1, a1.2.1, a1.2.2) = tX2_reads_49 X k (n1 + 1) i1 a1 from by first | (symm; (rw [tX2_reads_49, if_pos c_4, if_pos c_5]); first | done | rfl) | rfl).trans (hf1.trans hfo1))
          exact W.zret (v := 1) hx hb hr rfl (fun t9 ht hW => ⟨⟨1, (), rfl, by rw [hq], by rw [hq]; exact ⟨by rw [ht]; exact hP, hD⟩⟩, hS.F ht⟩) hS.2.2 dX2_reads_161
      · have hp9 := fX2_product_le X (k := k) (a := a1.2.1) hk9 hv1_1 a1.2.2
        have hw1 : i1 ≤ a1.2.1 := (hv1_0.resolve_left c_4).2
        refine lv_aload_n hx hb dX2_reads_53 rfl (lv_at hl 1 rfl) ?_
        have hPc := hP.sub (ws' := (wM q cq T R S X n h (nI k) th (nI a1.2.1) a1.2.2)) [0, 1, 2, 3, 4] rfl
        have hKc := hK.sub (tys' := (tyM cq)) [0, 1, 2, 3] rfl
        have hDc := hD.sub (ws' := (wM q cq T R S X n h (nI k) th (nI a1.2.1) a1.2.2)) [0, 1, 2, 3, 4] (by decide) rfl
        have hFc := va_free (wc := (wM q cq T R S X n h (nI k) th (nI a1.2.1) a1.2.2)) hD hS hA [0, 1, 2, 3, 4] rfl
        refine va_calli (va_runV (As := []) (rest := []) ⟨hx, hb, hml, hown, hts⟩ (c_X2_product l D q cq H.size T R S X n h k th a1.2.1 a1.2.2 (by omega) (by omega)) (cwV 0 hts gX2_reads_X2_product rfl rfl rfl (by decide +kernel) ⟨Nat.le_of_ble_eq_true rfl, Nat.le_of_ble_eq_true rfl⟩) ⟨fun a U g mk z => ⟨z.1, z.2.1, z.2.2.1, va_K.moved (u := U) (U := U.calling g mk a) (Vm.Alike.refl U.vm) z.2.2.2.1, z.2.2.2.2.1, z.2.2.2.2.2.blind g mk a⟩, va_recv hKc hPc (ci := 2) (q0 := 0) rfl rfl, fun U hU hW => ⟨rfl, by rw [hU], by rw [hU]; exact hPc, va_K.moved hW.alike hKc, hDc.weaken (fun _ _ _ _ => trivial), hE.at hS hU hW hFc⟩⟩ rfl rfl hl.1 rfl (lv_room (Nat.le_of_ble_eq_true rfl)) dX2_reads_54 ⟨(Nat.zero_le _), (Nat.zero_le _)⟩) hS (fun q _ h => hFc q h) hFc (fun r9 u9 t8 H1 locs ht hvm hw hB hz1 hk1 hS => ?_)
        obtain ⟨hP1, hD1⟩ := hB
        rw [ht] at hP1
        obtain ⟨hP, hD⟩ := va_join (wr := []) (w1 := (wM q cq T R S X n h (nI k) th (nI (fX2_product X k a1.2.1 a1.2.2).2) a1.2.2)) hP hD [0, 1, 2, 3, 4] [] rfl rfl (by decide) (by decide) hk1 hFc hP1 hD1
        have hP := hP.sub (ws' := (wM q cq T R S X n h (nI k) th (nI (fX2_product X k a1.2.1 a1.2.2).2) a1.2.2)) [0, 1, 2, 3, 4] rfl
        have hD := hD.sub (ws' := (wM q cq T R S X n h (nI k) th (nI (fX2_product X k a1.2.1 a1.2.2).2) a1.2.2)) [0, 1, 2, 3, 4] (by decide) rfl
        generalize H1 = H at hP hS ⊢
        obtain rfl := hw
        refine lv_istore_n (lv' := [(2, .int (fX2_product X k a1.2.1 a1.2.2).1), (1, .int a1.1), (0, .ref (q 0))]) hx hb dX2_reads_57 rfl hl (by decide) rfl (fun ls hl => ?_)
        refine lv_iload_n hx hb dX2_reads_58 rfl (lv_at hl 0 rfl) ?_
        refine lv_if_lt (tgt := 70) hx hb dX2_reads_59 (by decide) (fun c_6 => ?_) (fun c_6 => ?_)
        · refine lv_iconst (v := 0) hx hb dX2_reads_70 (by decide) ?_
          have hq : (fX2_reads X k) = (0, ((fX2_product X k a1.2.1 a1.2.2).2), a1.2.2) := Eq.symm ((show (0, ((fX2_product X k a1.2.1 a1.2.2).2), a1.2.2) = tX2_reads_49 X k (n1 + 1) i1 a1 from by first | (symm; (rw [tX2_reads_49, if_neg c_4, if_pos c_6]); first | done | rfl) | rfl).trans (hf1.trans hfo1))
          exact W.zret (v := 0) hx hb hr rfl (fun t9 ht hW => ⟨⟨0, (), rfl, by rw [hq], by rw [hq]; exact ⟨by rw [ht]; exact hP, hD⟩⟩, hS.F ht⟩) hS.2.2 dX2_reads_71
        · refine lv_aload_n hx hb dX2_reads_62 rfl (lv_at hl 2 rfl) ?_
          refine lv_iload_n hx hb dX2_reads_63 rfl (lv_at hl 0 rfl) ?_
          have hPc := hP.sub (ws' := (wM q cq T R S X n h (nI k) th (nI (fX2_product X k a1.2.1 a1.2.2).2) a1.2.2)) [0, 1, 2, 3, 4] rfl
          have hKc := hK.sub (tys' := (tyM cq)) [0, 1, 2, 3] rfl
          refine vp_callSi (va_Run.run (va_runV (As := [.int (fX2_product X k a1.2.1 a1.2.2).1]) (rest := []) ⟨hx, hb, hml, hown, hts⟩ (c_X2_has l D q cq T R S X n h (nI k) th (nI (fX2_product X k a1.2.1 a1.2.2).2) a1.2.2 ((fX2_product X k a1.2.1 a1.2.2).1)) (cwV 1 hts gX2_reads_X2_has rfl rfl rfl (by decide +kernel) ⟨Nat.le_of_ble_eq_true rfl, Nat.le_of_ble_eq_true rfl⟩) ⟨fun a U g mk z => ⟨z.1, z.2.1, va_K.moved (u := U) (U := U.calling g mk a) (Vm.Alike.refl U.vm) z.2.2.1, z.2.2.2.blind g mk a⟩, va_recv hKc hPc (ci := 2) (q0 := 0) rfl rfl, fun U hU hW => ⟨rfl, by rw [hU]; exact hPc, va_K.moved hW.alike hKc, hE.at0 hS hU hW⟩⟩ rfl rfl hl.1 rfl (lv_room (Nat.le_of_ble_eq_true rfl)) dX2_reads_64 ⟨(Nat.zero_le _), (Nat.zero_le _)⟩)) (fun r9 hr => ?_)
          subst hr
          refine lv_if_eq (tgt := 72) hx hb dX2_reads_67 (by decide) (fun c_7 => ?_) (fun c_7 => ?_)
          · refine lv_aload_n hx hb dX2_reads_72 rfl (lv_at hl 2 rfl) ?_
            refine lv_dup hx hb dX2_reads_73 rfl ?_
            refine va_get (D := D) (ci := 2) (v := .int a1.2.2) (C := RX2) (T := TX2) (N := 10) hx hb hts in_X2_reads_X2 hown hK hP 0 rfl rfl 9 (by decide) (hts (.fieldLink RX2 62 "ZhegalkinBenchModel" "told" "I") (List.mem_of_getElem? (i := 2) rfl)) (fun _ h9 => h9) rfl dX2_reads_74 ?_
            refine lv_iconst (v := 1) hx hb dX2_reads_77 (by decide) ?_
            refine lv_iload_n hx hb dX2_reads_78 rfl (lv_at hl 0 rfl) ?_
            refine lv_ishl hx hb dX2_reads_79 ?_
            refine lv_ior hx hb dX2_reads_80 ?_
            refine va_put (D := D) (ci := 2) (v := .int (a1.2.2 ||| ((1 : Int32) <<< ((fX2_product X k a1.2.1 a1.2.2).1 &&& 31)))) (ty := .int) (C := RX2) (T := TX2) (N := 10) hx hb hts in_X2_reads_X2 tyX2 tyX2_ok nmX2 hown hK hP hD hS 0 rfl rfl 9 (by decide) (hts (.fieldLink RX2 62 "ZhegalkinBenchModel" "told" "I") (List.mem_of_getElem? (i := 2) rfl)) (fun _ h9 => h9) rfl (by decide +kernel) rfl rfl (Nat.le_of_ble_eq_true rfl) dX2_reads_81 (fun H locs hP hD hS => ?_)
            have hP : va_P D vwCl (wM q cq T R S X n h (nI k) th (nI (fX2_product X k a1.2.1 a1.2.2).2) (a1.2.2 ||| ((1 : Int32) <<< ((fX2_product X k a1.2.1 a1.2.2).1 &&& 31)))) H := hP
            have hD : va_D A (wM q cq T R S X n h (nI k) th (nI (fX2_product X k a1.2.1 a1.2.2).2) (a1.2.2 ||| ((1 : Int32) <<< ((fX2_product X k a1.2.1 a1.2.2).1 &&& 31)))) := hD
            refine lv_aload_n hx hb dX2_reads_84 rfl (lv_at hl 2 rfl) ?_
            refine va_get (D := D) (ci := 2) (v := .int (a1.2.2 ||| ((1 : Int32) <<< ((fX2_product X k a1.2.1 a1.2.2).1 &&& 31)))) (C := RX2) (T := TX2) (N := 10) hx hb hts in_X2_reads_X2 hown hK hP 0 rfl rfl 9 (by decide) (hts (.fieldLink RX2 62 "ZhegalkinBenchModel" "told" "I") (List.mem_of_getElem? (i := 2) rfl)) (fun _ h9 => h9) rfl dX2_reads_85 ?_
            refine lv_ldc (v := 65535) hx hb hown (hts (.constant RX2 26 (65535)) (List.mem_of_getElem? (i := 5) rfl)) dX2_reads_88 ?_
            refine lv_icmp_eq (tgt := 122) hx hb dX2_reads_90 (by decide) (fun c_8 => ?_) (fun c_8 => ?_)
            · refine lv_iconst (v := 0) hx hb dX2_reads_122 (by decide) ?_
              refine lv_istore_n (lv' := [(1, .int 0), (2, .int (fX2_product X k a1.2.1 a1.2.2).1), (0, .ref (q 0))]) hx hb dX2_reads_123 rfl hl (by decide) rfl (fun ls hl => ?_)
              refine lv_aload_n hx hb dX2_reads_124 rfl (lv_at hl 2 rfl) ?_
              refine lv_dup hx hb dX2_reads_125 rfl ?_
              refine va_get (D := D) (ci := 2) (v := .int (nI (fX2_product X k a1.2.1 a1.2.2).2)) (C := RX2) (T := TX2) (N := 10) hx hb hts in_X2_reads_X2 hown hK hP 0 rfl rfl 8 (by decide) (hts (.fieldLink RX2 82 "ZhegalkinBenchModel" "at" "I") (List.mem_of_getElem? (i := 1) rfl)) (fun _ h9 => h9) rfl dX2_reads_126 ?_
              refine lv_iload_n hx hb dX2_reads_129 rfl (lv_at hl 0 rfl) ?_
              refine lv_if_eq (tgt := 137) hx hb dX2_reads_130 (by decide) (fun c_9 => ?_) (fun c_9 => ?_)
              · refine lv_iconst (v := 0) hx hb dX2_reads_137 (by decide) ?_
                refine lv_iadd hx hb dX2_reads_138 ?_
                refine lv_is (nI (((fX2_product X k a1.2.1 a1.2.2).2) + 0)) (by first | exact nI_add _ _ | rfl) ?_
                refine va_put (D := D) (ci := 2) (v := .int (nI (((fX2_product X k a1.2.1 a1.2.2).2) + 0))) (ty := .int) (C := RX2) (T := TX2) (N := 10) hx hb hts in_X2_reads_X2 tyX2 tyX2_ok nmX2 hown hK hP hD hS 0 rfl rfl 8 (by decide) (hts (.fieldLink RX2 82 "ZhegalkinBenchModel" "at" "I") (List.mem_of_getElem? (i := 1) rfl)) (fun _ h9 => h9) rfl (by decide +kernel) rfl rfl (Nat.le_of_ble_eq_true rfl) dX2_reads_139 (fun H locs hP hD hS => ?_)
                have hP : va_P D vwCl (wM q cq T R S X n h (nI k) th (nI (((fX2_product X k a1.2.1 a1.2.2).2) + 0)) (a1.2.2 ||| ((1 : Int32) <<< ((fX2_product X k a1.2.1 a1.2.2).1 &&& 31)))) H := hP
                have hD : va_D A (wM q cq T R S X n h (nI k) th (nI (((fX2_product X k a1.2.1 a1.2.2).2) + 0)) (a1.2.2 ||| ((1 : Int32) <<< ((fX2_product X k a1.2.1 a1.2.2).1 &&& 31)))) := hD
                refine lv_goto (tgt := 49) hx hb dX2_reads_142 (by decide) ?_
                exact ih1 H locs (i1 + 1) (0, (((fX2_product X k a1.2.1 a1.2.2).2) + 0), (a1.2.2 ||| ((1 : Int32) <<< ((fX2_product X k a1.2.1 a1.2.2).1 &&& 31)))) ls (by omega) ((show tX2_reads_49 X k n1 (i1 + 1) (0, (((fX2_product X k a1.2.1 a1.2.2).2) + 0), (a1.2.2 ||| ((1 : Int32) <<< ((fX2_product X k a1.2.1 a1.2.2).1 &&& 31)))) = tX2_reads_49 X k (n1 + 1) i1 a1 from by first | (symm; (rw [tX2_reads_49, if_neg c_4, if_neg c_6, if_pos c_7, if_pos c_8]); first | done | rfl) | rfl).trans hf1) (Or.inl rfl) (by dsimp only; omega) (lv_sub hl [0, 2] rfl) hP hD hS
              · exact absurd (by decide) c_9
            · refine lv_aload_n hx hb dX2_reads_93 rfl (lv_at hl 2 rfl) ?_
              refine va_get (D := D) (ci := 2) (v := .int (nI (fX2_product X k a1.2.1 a1.2.2).2)) (C := RX2) (T := TX2) (N := 10) hx hb hts in_X2_reads_X2 hown hK hP 0 rfl rfl 8 (by decide) (hts (.fieldLink RX2 82 "ZhegalkinBenchModel" "at" "I") (List.mem_of_getElem? (i := 1) rfl)) (fun _ h9 => h9) rfl dX2_reads_94 ?_
              refine lv_aload_n hx hb dX2_reads_97 rfl (lv_at hl 2 rfl) ?_
              refine va_get (D := D) (ci := 2) (v := .int (nI k)) (C := RX2) (T := TX2) (N := 10) hx hb hts in_X2_reads_X2 hown hK hP 0 rfl rfl 6 (by decide) (hts (.fieldLink RX2 73 "ZhegalkinBenchModel" "typed" "I") (List.mem_of_getElem? (i := 3) rfl)) (fun _ h9 => h9) rfl dX2_reads_98 ?_
              refine lv_icmp_ge (tgt := 122) hx hb dX2_reads_101 (by decide) (fun c_10 => ?_) (fun c_10 => ?_)
              · refine lv_iconst (v := 0) hx hb dX2_reads_122 (by decide) ?_
                refine lv_istore_n (lv' := [(1, .int 0), (2, .int (fX2_product X k a1.2.1 a1.2.2).1), (0, .ref (q 0))]) hx hb dX2_reads_123 rfl hl (by decide) rfl (fun ls hl => ?_)
                refine lv_aload_n hx hb dX2_reads_124 rfl (lv_at hl 2 rfl) ?_
                refine lv_dup hx hb dX2_reads_125 rfl ?_
                refine va_get (D := D) (ci := 2) (v := .int (nI (fX2_product X k a1.2.1 a1.2.2).2)) (C := RX2) (T := TX2) (N := 10) hx hb hts in_X2_reads_X2 hown hK hP 0 rfl rfl 8 (by decide) (hts (.fieldLink RX2 82 "ZhegalkinBenchModel" "at" "I") (List.mem_of_getElem? (i := 1) rfl)) (fun _ h9 => h9) rfl dX2_reads_126 ?_
                refine lv_iload_n hx hb dX2_reads_129 rfl (lv_at hl 0 rfl) ?_
                refine lv_if_eq (tgt := 137) hx hb dX2_reads_130 (by decide) (fun c_11 => ?_) (fun c_11 => ?_)
                · refine lv_iconst (v := 0) hx hb dX2_reads_137 (by decide) ?_
                  refine lv_iadd hx hb dX2_reads_138 ?_
                  refine lv_is (nI (((fX2_product X k a1.2.1 a1.2.2).2) + 0)) (by first | exact nI_add _ _ | rfl) ?_
                  refine va_put (D := D) (ci := 2) (v := .int (nI (((fX2_product X k a1.2.1 a1.2.2).2) + 0))) (ty := .int) (C := RX2) (T := TX2) (N := 10) hx hb hts in_X2_reads_X2 tyX2 tyX2_ok nmX2 hown hK hP hD hS 0 rfl rfl 8 (by decide) (hts (.fieldLink RX2 82 "ZhegalkinBenchModel" "at" "I") (List.mem_of_getElem? (i := 1) rfl)) (fun _ h9 => h9) rfl (by decide +kernel) rfl rfl (Nat.le_of_ble_eq_true rfl) dX2_reads_139 (fun H locs hP hD hS => ?_)
                  have hP : va_P D vwCl (wM q cq T R S X n h (nI k) th (nI (((fX2_product X k a1.2.1 a1.2.2).2) + 0)) (a1.2.2 ||| ((1 : Int32) <<< ((fX2_product X k a1.2.1 a1.2.2).1 &&& 31)))) H := hP
                  have hD : va_D A (wM q cq T R S X n h (nI k) th (nI (((fX2_product X k a1.2.1 a1.2.2).2) + 0)) (a1.2.2 ||| ((1 : Int32) <<< ((fX2_product X k a1.2.1 a1.2.2).1 &&& 31)))) := hD
                  refine lv_goto (tgt := 49) hx hb dX2_reads_142 (by decide) ?_
                  exact ih1 H locs (i1 + 1) (0, (((fX2_product X k a1.2.1 a1.2.2).2) + 0), (a1.2.2 ||| ((1 : Int32) <<< ((fX2_product X k a1.2.1 a1.2.2).1 &&& 31)))) ls (by omega) ((show tX2_reads_49 X k n1 (i1 + 1) (0, (((fX2_product X k a1.2.1 a1.2.2).2) + 0), (a1.2.2 ||| ((1 : Int32) <<< ((fX2_product X k a1.2.1 a1.2.2).1 &&& 31)))) = tX2_reads_49 X k (n1 + 1) i1 a1 from by first | (symm; (rw [tX2_reads_49, if_neg c_4, if_neg c_6, if_pos c_7, if_neg c_8, if_pos c_10]); first | done | rfl) | rfl).trans hf1) (Or.inl rfl) (by dsimp only; omega) (lv_sub hl [0, 2] rfl) hP hD hS
                · exact absurd (by decide) c_11
              · have hlt : (fX2_product X k a1.2.1 a1.2.2).2 < k := Nat.lt_of_not_le (fun q9 => c_10 (nI_le (a := k) (b := (fX2_product X k a1.2.1 a1.2.2).2) q9 (by omega)))
                refine lv_aload_n hx hb dX2_reads_104 rfl (lv_at hl 2 rfl) ?_
                refine va_get (D := D) (ci := 2) (v := .ref (q 4)) (C := RX2) (T := TX2) (N := 10) hx hb hts in_X2_reads_X2 hown hK hP 0 rfl rfl 5 (by decide) (hts (.fieldLink RX2 19 "ZhegalkinBenchModel" "text" "[I") (List.mem_of_getElem? (i := 4) rfl)) (fun _ h9 => h9) rfl dX2_reads_105 ?_
                refine lv_aload_n hx hb dX2_reads_108 rfl (lv_at hl 2 rfl) ?_
                refine va_get (D := D) (ci := 2) (v := .int (nI (fX2_product X k a1.2.1 a1.2.2).2)) (C := RX2) (T := TX2) (N := 10) hx hb hts in_X2_reads_X2 hown hK hP 0 rfl rfl 8 (by decide) (hts (.fieldLink RX2 82 "ZhegalkinBenchModel" "at" "I") (List.mem_of_getElem? (i := 1) rfl)) (fun _ h9 => h9) rfl dX2_reads_109 ?_
                refine vz_iald hx hb hK hP 4 3 rfl rfl ((fX2_product X k a1.2.1 a1.2.2).2) (by omega) (by decide) dX2_reads_112 ?_
                refine lv_bipush (v := 43) hx hb dX2_reads_113 (by decide) ?_
                refine lv_icmp_ne (tgt := 122) hx hb dX2_reads_115 (by decide) (fun c_12 => ?_) (fun c_12 => ?_)
                · refine lv_iconst (v := 0) hx hb dX2_reads_122 (by decide) ?_
                  refine lv_istore_n (lv' := [(1, .int 0), (2, .int (fX2_product X k a1.2.1 a1.2.2).1), (0, .ref (q 0))]) hx hb dX2_reads_123 rfl hl (by decide) rfl (fun ls hl => ?_)
                  refine lv_aload_n hx hb dX2_reads_124 rfl (lv_at hl 2 rfl) ?_
                  refine lv_dup hx hb dX2_reads_125 rfl ?_
                  refine va_get (D := D) (ci := 2) (v := .int (nI (fX2_product X k a1.2.1 a1.2.2).2)) (C := RX2) (T := TX2) (N := 10) hx hb hts in_X2_reads_X2 hown hK hP 0 rfl rfl 8 (by decide) (hts (.fieldLink RX2 82 "ZhegalkinBenchModel" "at" "I") (List.mem_of_getElem? (i := 1) rfl)) (fun _ h9 => h9) rfl dX2_reads_126 ?_
                  refine lv_iload_n hx hb dX2_reads_129 rfl (lv_at hl 0 rfl) ?_
                  refine lv_if_eq (tgt := 137) hx hb dX2_reads_130 (by decide) (fun c_13 => ?_) (fun c_13 => ?_)
                  · refine lv_iconst (v := 0) hx hb dX2_reads_137 (by decide) ?_
                    refine lv_iadd hx hb dX2_reads_138 ?_
                    refine lv_is (nI (((fX2_product X k a1.2.1 a1.2.2).2) + 0)) (by first | exact nI_add _ _ | rfl) ?_
                    refine va_put (D := D) (ci := 2) (v := .int (nI (((fX2_product X k a1.2.1 a1.2.2).2) + 0))) (ty := .int) (C := RX2) (T := TX2) (N := 10) hx hb hts in_X2_reads_X2 tyX2 tyX2_ok nmX2 hown hK hP hD hS 0 rfl rfl 8 (by decide) (hts (.fieldLink RX2 82 "ZhegalkinBenchModel" "at" "I") (List.mem_of_getElem? (i := 1) rfl)) (fun _ h9 => h9) rfl (by decide +kernel) rfl rfl (Nat.le_of_ble_eq_true rfl) dX2_reads_139 (fun H locs hP hD hS => ?_)
                    have hP : va_P D vwCl (wM q cq T R S X n h (nI k) th (nI (((fX2_product X k a1.2.1 a1.2.2).2) + 0)) (a1.2.2 ||| ((1 : Int32) <<< ((fX2_product X k a1.2.1 a1.2.2).1 &&& 31)))) H := hP
                    have hD : va_D A (wM q cq T R S X n h (nI k) th (nI (((fX2_product X k a1.2.1 a1.2.2).2) + 0)) (a1.2.2 ||| ((1 : Int32) <<< ((fX2_product X k a1.2.1 a1.2.2).1 &&& 31)))) := hD
                    refine lv_goto (tgt := 49) hx hb dX2_reads_142 (by decide) ?_
                    exact ih1 H locs (i1 + 1) (0, (((fX2_product X k a1.2.1 a1.2.2).2) + 0), (a1.2.2 ||| ((1 : Int32) <<< ((fX2_product X k a1.2.1 a1.2.2).1 &&& 31)))) ls (by omega) ((show tX2_reads_49 X k n1 (i1 + 1) (0, (((fX2_product X k a1.2.1 a1.2.2).2) + 0), (a1.2.2 ||| ((1 : Int32) <<< ((fX2_product X k a1.2.1 a1.2.2).1 &&& 31)))) = tX2_reads_49 X k (n1 + 1) i1 a1 from by first | (symm; (rw [tX2_reads_49, if_neg c_4, if_neg c_6, if_pos c_7, if_neg c_8, if_neg c_10, if_neg c_12]); first | done | rfl) | rfl).trans hf1) (Or.inl rfl) (by dsimp only; omega) (lv_sub hl [0, 2] rfl) hP hD hS
                  · exact absurd (by decide) c_13
                · refine lv_iconst (v := 1) hx hb dX2_reads_118 (by decide) ?_
                  refine lv_goto (tgt := 123) hx hb dX2_reads_119 (by decide) ?_
                  refine lv_istore_n (lv' := [(1, .int 1), (2, .int (fX2_product X k a1.2.1 a1.2.2).1), (0, .ref (q 0))]) hx hb dX2_reads_123 rfl hl (by decide) rfl (fun ls hl => ?_)
                  refine lv_aload_n hx hb dX2_reads_124 rfl (lv_at hl 2 rfl) ?_
                  refine lv_dup hx hb dX2_reads_125 rfl ?_
                  refine va_get (D := D) (ci := 2) (v := .int (nI (fX2_product X k a1.2.1 a1.2.2).2)) (C := RX2) (T := TX2) (N := 10) hx hb hts in_X2_reads_X2 hown hK hP 0 rfl rfl 8 (by decide) (hts (.fieldLink RX2 82 "ZhegalkinBenchModel" "at" "I") (List.mem_of_getElem? (i := 1) rfl)) (fun _ h9 => h9) rfl dX2_reads_126 ?_
                  refine lv_iload_n hx hb dX2_reads_129 rfl (lv_at hl 0 rfl) ?_
                  refine lv_if_eq (tgt := 137) hx hb dX2_reads_130 (by decide) (fun c_14 => ?_) (fun c_14 => ?_)
                  · exact absurd c_14 (by decide)
                  · refine lv_iconst (v := 1) hx hb dX2_reads_133 (by decide) ?_
                    refine lv_goto (tgt := 138) hx hb dX2_reads_134 (by decide) ?_
                    refine lv_iadd hx hb dX2_reads_138 ?_
                    refine lv_is (nI (((fX2_product X k a1.2.1 a1.2.2).2) + 1)) (by first | exact nI_add _ _ | rfl) ?_
                    refine va_put (D := D) (ci := 2) (v := .int (nI (((fX2_product X k a1.2.1 a1.2.2).2) + 1))) (ty := .int) (C := RX2) (T := TX2) (N := 10) hx hb hts in_X2_reads_X2 tyX2 tyX2_ok nmX2 hown hK hP hD hS 0 rfl rfl 8 (by decide) (hts (.fieldLink RX2 82 "ZhegalkinBenchModel" "at" "I") (List.mem_of_getElem? (i := 1) rfl)) (fun _ h9 => h9) rfl (by decide +kernel) rfl rfl (Nat.le_of_ble_eq_true rfl) dX2_reads_139 (fun H locs hP hD hS => ?_)
                    have hP : va_P D vwCl (wM q cq T R S X n h (nI k) th (nI (((fX2_product X k a1.2.1 a1.2.2).2) + 1)) (a1.2.2 ||| ((1 : Int32) <<< ((fX2_product X k a1.2.1 a1.2.2).1 &&& 31)))) H := hP
                    have hD : va_D A (wM q cq T R S X n h (nI k) th (nI (((fX2_product X k a1.2.1 a1.2.2).2) + 1)) (a1.2.2 ||| ((1 : Int32) <<< ((fX2_product X k a1.2.1 a1.2.2).1 &&& 31)))) := hD
                    refine lv_goto (tgt := 49) hx hb dX2_reads_142 (by decide) ?_
                    exact ih1 H locs (i1 + 1) (1, (((fX2_product X k a1.2.1 a1.2.2).2) + 1), (a1.2.2 ||| ((1 : Int32) <<< ((fX2_product X k a1.2.1 a1.2.2).1 &&& 31)))) ls (by omega) ((show tX2_reads_49 X k n1 (i1 + 1) (1, (((fX2_product X k a1.2.1 a1.2.2).2) + 1), (a1.2.2 ||| ((1 : Int32) <<< ((fX2_product X k a1.2.1 a1.2.2).1 &&& 31)))) = tX2_reads_49 X k (n1 + 1) i1 a1 from by first | (symm; (rw [tX2_reads_49, if_neg c_4, if_neg c_6, if_pos c_7, if_neg c_8, if_neg c_10, if_pos c_12]); first | done | rfl) | rfl).trans hf1) (Or.inr ⟨rfl, by dsimp only; omega⟩) (by dsimp only; omega) (lv_sub hl [0, 2] rfl) hP hD hS
          · refine lv_iconst (v := 0) hx hb dX2_reads_70 (by decide) ?_
            have hq : (fX2_reads X k) = (0, ((fX2_product X k a1.2.1 a1.2.2).2), a1.2.2) := Eq.symm ((show (0, ((fX2_product X k a1.2.1 a1.2.2).2), a1.2.2) = tX2_reads_49 X k (n1 + 1) i1 a1 from by first | (symm; (rw [tX2_reads_49, if_neg c_4, if_neg c_6, if_neg c_7]); first | done | rfl) | rfl).trans (hf1.trans hfo1))
            exact W.zret (v := 0) hx hb hr rfl (fun t9 ht hW => ⟨⟨0, (), rfl, by rw [hq], by rw [hq]; exact ⟨by rw [ht]; exact hP, hD⟩⟩, hS.F ht⟩) hS.2.2 dX2_reads_71
  · refine lv_aload_n hx hb dX2_reads_17 rfl (lv_at hl 0 rfl) ?_
    refine va_get (D := D) (ci := 2) (v := .ref (q 4)) (C := RX2) (T := TX2) (N := 10) hx hb hts in_X2_reads_X2 hown hK hP 0 rfl rfl 5 (by decide) (hts (.fieldLink RX2 19 "ZhegalkinBenchModel" "text" "[I") (List.mem_of_getElem? (i := 4) rfl)) (fun _ h9 => h9) rfl dX2_reads_18 ?_
    refine lv_iconst (v := 0) hx hb dX2_reads_21 (by decide) ?_
    refine vz_iald hx hb hK hP 4 3 rfl rfl 0 (by omega) (by decide) dX2_reads_22 ?_
    refine lv_bipush (v := 48) hx hb dX2_reads_23 (by decide) ?_
    refine lv_icmp_ne (tgt := 47) hx hb dX2_reads_25 (by decide) (fun c_15 => ?_) (fun c_15 => ?_)
    · refine lv_iconst (v := 1) hx hb dX2_reads_47 (by decide) ?_
      refine lv_istore_n (lv' := [(1, .int 1), (0, .ref (q 0))]) hx hb dX2_reads_48 rfl hl (by decide) rfl (fun ls hl => ?_)
      have hfo2 : tX2_reads_49 X k (k + 1) 0 (1, 0, 0) = (fX2_reads X k) := Eq.symm (by first | ((rw [fX2_reads, if_neg c_1, if_neg c_15]); first | done | rfl) | rfl)
      refine vz_cut (fun H1 l1 g1 => ∃ (n2 i2 : Nat) (a2 : Int32 × Nat × Int32) (ls : Array Slot), i2 + n2 = k + 1 ∧ tX2_reads_49 X k n2 i2 a2 = tX2_reads_49 X k (k + 1) 0 (1, 0, 0) ∧ (a2.1 = 0 ∨ (a2.1 = 1 ∧ i2 ≤ a2.2.1)) ∧ a2.2.1 ≤ k ∧ lv_has ls 3 [(1, .int a2.1), (0, .ref (q 0))] ∧ va_P D vwCl (wM q cq T R S X n h (nI k) th (nI a2.2.1) a2.2.2) H1 ∧ va_D A (wM q cq T R S X n h (nI k) th (nI a2.2.1) a2.2.2) ∧ va_S A s.heap H1 l1 ∧ g1 = F0 m 49 ls []) (fun hj => hj _ _ _ ⟨k + 1, 0, (1, 0, 0), ls, (by omega), rfl, (Or.inr ⟨rfl, Nat.le_refl 0⟩), (Nat.zero_le k), lv_sub hl [0, 1] rfl, hP, hD, hS, rfl⟩) ?_
      rintro H locs g1 ⟨n2, i2, a2, ls, hi2, hf2, hv2_0, hv2_1, hl, hP, hD, hS, rfl⟩
      revert H locs i2 a2 ls
      induction n2 with
      | zero =>
        intro H locs i2 a2 ls hi2 hf2 hv2_0 hv2_1 hl hP hD hS
        obtain rfl : k + 1 = i2 := by omega
        refine lv_iload_n hx hb dX2_reads_49 rfl (lv_at hl 0 rfl) ?_
        refine lv_if_eq (tgt := 145) hx hb dX2_reads_50 (by decide) (fun c_16 => ?_) (fun c_16 => ?_)
        · refine lv_aload_n hx hb dX2_reads_145 rfl (lv_at hl 1 rfl) ?_
          refine va_get (D := D) (ci := 2) (v := .int (nI a2.2.1)) (C := RX2) (T := TX2) (N := 10) hx hb hts in_X2_reads_X2 hown hK hP 0 rfl rfl 8 (by decide) (hts (.fieldLink RX2 82 "ZhegalkinBenchModel" "at" "I") (List.mem_of_getElem? (i := 1) rfl)) (fun _ h9 => h9) rfl dX2_reads_146 ?_
          refine lv_aload_n hx hb dX2_reads_149 rfl (lv_at hl 1 rfl) ?_
          refine va_get (D := D) (ci := 2) (v := .int (nI k)) (C := RX2) (T := TX2) (N := 10) hx hb hts in_X2_reads_X2 hown hK hP 0 rfl rfl 6 (by decide) (hts (.fieldLink RX2 73 "ZhegalkinBenchModel" "typed" "I") (List.mem_of_getElem? (i := 3) rfl)) (fun _ h9 => h9) rfl dX2_reads_150 ?_
          refine lv_icmp_ne (tgt := 160) hx hb dX2_reads_153 (by decide) (fun c_17 => ?_) (fun c_17 => ?_)
          · refine lv_iconst (v := 0) hx hb dX2_reads_160 (by decide) ?_
            have hq : (fX2_reads X k) = (0, a2.2.1, a2.2.2) := Eq.symm ((show (0, a2.2.1, a2.2.2) = tX2_reads_49 X k 0 (k + 1) a2 from by first | (symm; (rw [tX2_reads_49, if_neg c_17]); first | done | rfl) | rfl).trans (hf2.trans hfo2))
            exact W.zret (v := 0) hx hb hr rfl (fun t9 ht hW => ⟨⟨0, (), rfl, by rw [hq], by rw [hq]; exact ⟨by rw [ht]; exact hP, hD⟩⟩, hS.F ht⟩) hS.2.2 dX2_reads_161
          · refine lv_iconst (v := 1) hx hb dX2_reads_156 (by decide) ?_
            refine lv_goto (tgt := 161) hx hb dX2_reads_157 (by decide) ?_
            have hq : (fX2_reads X k) = (1, a2.2.1, a2.2.2) := Eq.symm ((show (1, a2.2.1, a2.2.2) = tX2_reads_49 X k 0 (k + 1) a2 from by first | (symm; (rw [tX2_reads_49, if_pos c_17]); first | done | rfl) | rfl).trans (hf2.trans hfo2))
            exact W.zret (v := 1) hx hb hr rfl (fun t9 ht hW => ⟨⟨1, (), rfl, by rw [hq], by rw [hq]; exact ⟨by rw [ht]; exact hP, hD⟩⟩, hS.F ht⟩) hS.2.2 dX2_reads_161
        · exact absurd (hv2_0.elim id (fun z => absurd z.2 (by omega))) c_16
      | succ n2 ih2 =>
        intro H locs i2 a2 ls hi2 hf2 hv2_0 hv2_1 hl hP hD hS
        refine lv_iload_n hx hb dX2_reads_49 rfl (lv_at hl 0 rfl) ?_
        refine lv_if_eq (tgt := 145) hx hb dX2_reads_50 (by decide) (fun c_18 => ?_) (fun c_18 => ?_)
        · refine lv_aload_n hx hb dX2_reads_145 rfl (lv_at hl 1 rfl) ?_
          refine va_get (D := D) (ci := 2) (v := .int (nI a2.2.1)) (C := RX2) (T := TX2) (N := 10) hx hb hts in_X2_reads_X2 hown hK hP 0 rfl rfl 8 (by decide) (hts (.fieldLink RX2 82 "ZhegalkinBenchModel" "at" "I") (List.mem_of_getElem? (i := 1) rfl)) (fun _ h9 => h9) rfl dX2_reads_146 ?_
          refine lv_aload_n hx hb dX2_reads_149 rfl (lv_at hl 1 rfl) ?_
          refine va_get (D := D) (ci := 2) (v := .int (nI k)) (C := RX2) (T := TX2) (N := 10) hx hb hts in_X2_reads_X2 hown hK hP 0 rfl rfl 6 (by decide) (hts (.fieldLink RX2 73 "ZhegalkinBenchModel" "typed" "I") (List.mem_of_getElem? (i := 3) rfl)) (fun _ h9 => h9) rfl dX2_reads_150 ?_
          refine lv_icmp_ne (tgt := 160) hx hb dX2_reads_153 (by decide) (fun c_19 => ?_) (fun c_19 => ?_)
          · refine lv_iconst (v := 0) hx hb dX2_reads_160 (by decide) ?_
            have hq : (fX2_reads X k) = (0, a2.2.1, a2.2.2) := Eq.symm ((show (0, a2.2.1, a2.2.2) = tX2_reads_49 X k (n2 + 1) i2 a2 from by first | (symm; (rw [tX2_reads_49, if_pos c_18, if_neg c_19]); first | done | rfl) | rfl).trans (hf2.trans hfo2))
            exact W.zret (v := 0) hx hb hr rfl (fun t9 ht hW => ⟨⟨0, (), rfl, by rw [hq], by rw [hq]; exact ⟨by rw [ht]; exact hP, hD⟩⟩, hS.F ht⟩) hS.2.2 dX2_reads_161
          · refine lv_iconst (v := 1) hx hb dX2_reads_156 (by decide) ?_
            refine lv_goto (tgt := 161) hx hb dX2_reads_157 (by decide) ?_
            have hq : (fX2_reads X k) = (1, a2.2.1, a2.2.2) := Eq.symm ((show (1, a2.2.1, a2.2.2) = tX2_reads_49 X k (n2 + 1) i2 a2 from by first | (symm; (rw [tX2_reads_49, if_pos c_18, if_pos c_19]); first | done | rfl) | rfl).trans (hf2.trans hfo2))
            exact W.zret (v := 1) hx hb hr rfl (fun t9 ht hW => ⟨⟨1, (), rfl, by rw [hq], by rw [hq]; exact ⟨by rw [ht]; exact hP, hD⟩⟩, hS.F ht⟩) hS.2.2 dX2_reads_161
        · have hp9 := fX2_product_le X (k := k) (a := a2.2.1) hk9 hv2_1 a2.2.2
          have hw1 : i2 ≤ a2.2.1 := (hv2_0.resolve_left c_18).2
          refine lv_aload_n hx hb dX2_reads_53 rfl (lv_at hl 1 rfl) ?_
          have hPc := hP.sub (ws' := (wM q cq T R S X n h (nI k) th (nI a2.2.1) a2.2.2)) [0, 1, 2, 3, 4] rfl
          have hKc := hK.sub (tys' := (tyM cq)) [0, 1, 2, 3] rfl
          have hDc := hD.sub (ws' := (wM q cq T R S X n h (nI k) th (nI a2.2.1) a2.2.2)) [0, 1, 2, 3, 4] (by decide) rfl
          have hFc := va_free (wc := (wM q cq T R S X n h (nI k) th (nI a2.2.1) a2.2.2)) hD hS hA [0, 1, 2, 3, 4] rfl
          refine va_calli (va_runV (As := []) (rest := []) ⟨hx, hb, hml, hown, hts⟩ (c_X2_product l D q cq H.size T R S X n h k th a2.2.1 a2.2.2 (by omega) (by omega)) (cwV 0 hts gX2_reads_X2_product rfl rfl rfl (by decide +kernel) ⟨Nat.le_of_ble_eq_true rfl, Nat.le_of_ble_eq_true rfl⟩) ⟨fun a U g mk z => ⟨z.1, z.2.1, z.2.2.1, va_K.moved (u := U) (U := U.calling g mk a) (Vm.Alike.refl U.vm) z.2.2.2.1, z.2.2.2.2.1, z.2.2.2.2.2.blind g mk a⟩, va_recv hKc hPc (ci := 2) (q0 := 0) rfl rfl, fun U hU hW => ⟨rfl, by rw [hU], by rw [hU]; exact hPc, va_K.moved hW.alike hKc, hDc.weaken (fun _ _ _ _ => trivial), hE.at hS hU hW hFc⟩⟩ rfl rfl hl.1 rfl (lv_room (Nat.le_of_ble_eq_true rfl)) dX2_reads_54 ⟨(Nat.zero_le _), (Nat.zero_le _)⟩) hS (fun q _ h => hFc q h) hFc (fun r9 u9 t8 H1 locs ht hvm hw hB hz1 hk1 hS => ?_)
          obtain ⟨hP1, hD1⟩ := hB
          rw [ht] at hP1
          obtain ⟨hP, hD⟩ := va_join (wr := []) (w1 := (wM q cq T R S X n h (nI k) th (nI (fX2_product X k a2.2.1 a2.2.2).2) a2.2.2)) hP hD [0, 1, 2, 3, 4] [] rfl rfl (by decide) (by decide) hk1 hFc hP1 hD1
          have hP := hP.sub (ws' := (wM q cq T R S X n h (nI k) th (nI (fX2_product X k a2.2.1 a2.2.2).2) a2.2.2)) [0, 1, 2, 3, 4] rfl
          have hD := hD.sub (ws' := (wM q cq T R S X n h (nI k) th (nI (fX2_product X k a2.2.1 a2.2.2).2) a2.2.2)) [0, 1, 2, 3, 4] (by decide) rfl
          generalize H1 = H at hP hS ⊢
          obtain rfl := hw
          refine lv_istore_n (lv' := [(2, .int (fX2_product X k a2.2.1 a2.2.2).1), (1, .int a2.1), (0, .ref (q 0))]) hx hb dX2_reads_57 rfl hl (by decide) rfl (fun ls hl => ?_)
          refine lv_iload_n hx hb dX2_reads_58 rfl (lv_at hl 0 rfl) ?_
          refine lv_if_lt (tgt := 70) hx hb dX2_reads_59 (by decide) (fun c_20 => ?_) (fun c_20 => ?_)
          · refine lv_iconst (v := 0) hx hb dX2_reads_70 (by decide) ?_
            have hq : (fX2_reads X k) = (0, ((fX2_product X k a2.2.1 a2.2.2).2), a2.2.2) := Eq.symm ((show (0, ((fX2_product X k a2.2.1 a2.2.2).2), a2.2.2) = tX2_reads_49 X k (n2 + 1) i2 a2 from by first | (symm; (rw [tX2_reads_49, if_neg c_18, if_pos c_20]); first | done | rfl) | rfl).trans (hf2.trans hfo2))
            exact W.zret (v := 0) hx hb hr rfl (fun t9 ht hW => ⟨⟨0, (), rfl, by rw [hq], by rw [hq]; exact ⟨by rw [ht]; exact hP, hD⟩⟩, hS.F ht⟩) hS.2.2 dX2_reads_71
          · refine lv_aload_n hx hb dX2_reads_62 rfl (lv_at hl 2 rfl) ?_
            refine lv_iload_n hx hb dX2_reads_63 rfl (lv_at hl 0 rfl) ?_
            have hPc := hP.sub (ws' := (wM q cq T R S X n h (nI k) th (nI (fX2_product X k a2.2.1 a2.2.2).2) a2.2.2)) [0, 1, 2, 3, 4] rfl
            have hKc := hK.sub (tys' := (tyM cq)) [0, 1, 2, 3] rfl
            refine vp_callSi (va_Run.run (va_runV (As := [.int (fX2_product X k a2.2.1 a2.2.2).1]) (rest := []) ⟨hx, hb, hml, hown, hts⟩ (c_X2_has l D q cq T R S X n h (nI k) th (nI (fX2_product X k a2.2.1 a2.2.2).2) a2.2.2 ((fX2_product X k a2.2.1 a2.2.2).1)) (cwV 1 hts gX2_reads_X2_has rfl rfl rfl (by decide +kernel) ⟨Nat.le_of_ble_eq_true rfl, Nat.le_of_ble_eq_true rfl⟩) ⟨fun a U g mk z => ⟨z.1, z.2.1, va_K.moved (u := U) (U := U.calling g mk a) (Vm.Alike.refl U.vm) z.2.2.1, z.2.2.2.blind g mk a⟩, va_recv hKc hPc (ci := 2) (q0 := 0) rfl rfl, fun U hU hW => ⟨rfl, by rw [hU]; exact hPc, va_K.moved hW.alike hKc, hE.at0 hS hU hW⟩⟩ rfl rfl hl.1 rfl (lv_room (Nat.le_of_ble_eq_true rfl)) dX2_reads_64 ⟨(Nat.zero_le _), (Nat.zero_le _)⟩)) (fun r9 hr => ?_)
            subst hr
            refine lv_if_eq (tgt := 72) hx hb dX2_reads_67 (by decide) (fun c_21 => ?_) (fun c_21 => ?_)
            · refine lv_aload_n hx hb dX2_reads_72 rfl (lv_at hl 2 rfl) ?_
              refine lv_dup hx hb dX2_reads_73 rfl ?_
              refine va_get (D := D) (ci := 2) (v := .int a2.2.2) (C := RX2) (T := TX2) (N := 10) hx hb hts in_X2_reads_X2 hown hK hP 0 rfl rfl 9 (by decide) (hts (.fieldLink RX2 62 "ZhegalkinBenchModel" "told" "I") (List.mem_of_getElem? (i := 2) rfl)) (fun _ h9 => h9) rfl dX2_reads_74 ?_
              refine lv_iconst (v := 1) hx hb dX2_reads_77 (by decide) ?_
              refine lv_iload_n hx hb dX2_reads_78 rfl (lv_at hl 0 rfl) ?_
              refine lv_ishl hx hb dX2_reads_79 ?_
              refine lv_ior hx hb dX2_reads_80 ?_
              refine va_put (D := D) (ci := 2) (v := .int (a2.2.2 ||| ((1 : Int32) <<< ((fX2_product X k a2.2.1 a2.2.2).1 &&& 31)))) (ty := .int) (C := RX2) (T := TX2) (N := 10) hx hb hts in_X2_reads_X2 tyX2 tyX2_ok nmX2 hown hK hP hD hS 0 rfl rfl 9 (by decide) (hts (.fieldLink RX2 62 "ZhegalkinBenchModel" "told" "I") (List.mem_of_getElem? (i := 2) rfl)) (fun _ h9 => h9) rfl (by decide +kernel) rfl rfl (Nat.le_of_ble_eq_true rfl) dX2_reads_81 (fun H locs hP hD hS => ?_)
              have hP : va_P D vwCl (wM q cq T R S X n h (nI k) th (nI (fX2_product X k a2.2.1 a2.2.2).2) (a2.2.2 ||| ((1 : Int32) <<< ((fX2_product X k a2.2.1 a2.2.2).1 &&& 31)))) H := hP
              have hD : va_D A (wM q cq T R S X n h (nI k) th (nI (fX2_product X k a2.2.1 a2.2.2).2) (a2.2.2 ||| ((1 : Int32) <<< ((fX2_product X k a2.2.1 a2.2.2).1 &&& 31)))) := hD
              refine lv_aload_n hx hb dX2_reads_84 rfl (lv_at hl 2 rfl) ?_
              refine va_get (D := D) (ci := 2) (v := .int (a2.2.2 ||| ((1 : Int32) <<< ((fX2_product X k a2.2.1 a2.2.2).1 &&& 31)))) (C := RX2) (T := TX2) (N := 10) hx hb hts in_X2_reads_X2 hown hK hP 0 rfl rfl 9 (by decide) (hts (.fieldLink RX2 62 "ZhegalkinBenchModel" "told" "I") (List.mem_of_getElem? (i := 2) rfl)) (fun _ h9 => h9) rfl dX2_reads_85 ?_
              refine lv_ldc (v := 65535) hx hb hown (hts (.constant RX2 26 (65535)) (List.mem_of_getElem? (i := 5) rfl)) dX2_reads_88 ?_
              refine lv_icmp_eq (tgt := 122) hx hb dX2_reads_90 (by decide) (fun c_22 => ?_) (fun c_22 => ?_)
              · refine lv_iconst (v := 0) hx hb dX2_reads_122 (by decide) ?_
                refine lv_istore_n (lv' := [(1, .int 0), (2, .int (fX2_product X k a2.2.1 a2.2.2).1), (0, .ref (q 0))]) hx hb dX2_reads_123 rfl hl (by decide) rfl (fun ls hl => ?_)
                refine lv_aload_n hx hb dX2_reads_124 rfl (lv_at hl 2 rfl) ?_
                refine lv_dup hx hb dX2_reads_125 rfl ?_
                refine va_get (D := D) (ci := 2) (v := .int (nI (fX2_product X k a2.2.1 a2.2.2).2)) (C := RX2) (T := TX2) (N := 10) hx hb hts in_X2_reads_X2 hown hK hP 0 rfl rfl 8 (by decide) (hts (.fieldLink RX2 82 "ZhegalkinBenchModel" "at" "I") (List.mem_of_getElem? (i := 1) rfl)) (fun _ h9 => h9) rfl dX2_reads_126 ?_
                refine lv_iload_n hx hb dX2_reads_129 rfl (lv_at hl 0 rfl) ?_
                refine lv_if_eq (tgt := 137) hx hb dX2_reads_130 (by decide) (fun c_23 => ?_) (fun c_23 => ?_)
                · refine lv_iconst (v := 0) hx hb dX2_reads_137 (by decide) ?_
                  refine lv_iadd hx hb dX2_reads_138 ?_
                  refine lv_is (nI (((fX2_product X k a2.2.1 a2.2.2).2) + 0)) (by first | exact nI_add _ _ | rfl) ?_
                  refine va_put (D := D) (ci := 2) (v := .int (nI (((fX2_product X k a2.2.1 a2.2.2).2) + 0))) (ty := .int) (C := RX2) (T := TX2) (N := 10) hx hb hts in_X2_reads_X2 tyX2 tyX2_ok nmX2 hown hK hP hD hS 0 rfl rfl 8 (by decide) (hts (.fieldLink RX2 82 "ZhegalkinBenchModel" "at" "I") (List.mem_of_getElem? (i := 1) rfl)) (fun _ h9 => h9) rfl (by decide +kernel) rfl rfl (Nat.le_of_ble_eq_true rfl) dX2_reads_139 (fun H locs hP hD hS => ?_)
                  have hP : va_P D vwCl (wM q cq T R S X n h (nI k) th (nI (((fX2_product X k a2.2.1 a2.2.2).2) + 0)) (a2.2.2 ||| ((1 : Int32) <<< ((fX2_product X k a2.2.1 a2.2.2).1 &&& 31)))) H := hP
                  have hD : va_D A (wM q cq T R S X n h (nI k) th (nI (((fX2_product X k a2.2.1 a2.2.2).2) + 0)) (a2.2.2 ||| ((1 : Int32) <<< ((fX2_product X k a2.2.1 a2.2.2).1 &&& 31)))) := hD
                  refine lv_goto (tgt := 49) hx hb dX2_reads_142 (by decide) ?_
                  exact ih2 H locs (i2 + 1) (0, (((fX2_product X k a2.2.1 a2.2.2).2) + 0), (a2.2.2 ||| ((1 : Int32) <<< ((fX2_product X k a2.2.1 a2.2.2).1 &&& 31)))) ls (by omega) ((show tX2_reads_49 X k n2 (i2 + 1) (0, (((fX2_product X k a2.2.1 a2.2.2).2) + 0), (a2.2.2 ||| ((1 : Int32) <<< ((fX2_product X k a2.2.1 a2.2.2).1 &&& 31)))) = tX2_reads_49 X k (n2 + 1) i2 a2 from by first | (symm; (rw [tX2_reads_49, if_neg c_18, if_neg c_20, if_pos c_21, if_pos c_22]); first | done | rfl) | rfl).trans hf2) (Or.inl rfl) (by dsimp only; omega) (lv_sub hl [0, 2] rfl) hP hD hS
                · exact absurd (by decide) c_23
              · refine lv_aload_n hx hb dX2_reads_93 rfl (lv_at hl 2 rfl) ?_
                refine va_get (D := D) (ci := 2) (v := .int (nI (fX2_product X k a2.2.1 a2.2.2).2)) (C := RX2) (T := TX2) (N := 10) hx hb hts in_X2_reads_X2 hown hK hP 0 rfl rfl 8 (by decide) (hts (.fieldLink RX2 82 "ZhegalkinBenchModel" "at" "I") (List.mem_of_getElem? (i := 1) rfl)) (fun _ h9 => h9) rfl dX2_reads_94 ?_
                refine lv_aload_n hx hb dX2_reads_97 rfl (lv_at hl 2 rfl) ?_
                refine va_get (D := D) (ci := 2) (v := .int (nI k)) (C := RX2) (T := TX2) (N := 10) hx hb hts in_X2_reads_X2 hown hK hP 0 rfl rfl 6 (by decide) (hts (.fieldLink RX2 73 "ZhegalkinBenchModel" "typed" "I") (List.mem_of_getElem? (i := 3) rfl)) (fun _ h9 => h9) rfl dX2_reads_98 ?_
                refine lv_icmp_ge (tgt := 122) hx hb dX2_reads_101 (by decide) (fun c_24 => ?_) (fun c_24 => ?_)
                · refine lv_iconst (v := 0) hx hb dX2_reads_122 (by decide) ?_
                  refine lv_istore_n (lv' := [(1, .int 0), (2, .int (fX2_product X k a2.2.1 a2.2.2).1), (0, .ref (q 0))]) hx hb dX2_reads_123 rfl hl (by decide) rfl (fun ls hl => ?_)
                  refine lv_aload_n hx hb dX2_reads_124 rfl (lv_at hl 2 rfl) ?_
                  refine lv_dup hx hb dX2_reads_125 rfl ?_
                  refine va_get (D := D) (ci := 2) (v := .int (nI (fX2_product X k a2.2.1 a2.2.2).2)) (C := RX2) (T := TX2) (N := 10) hx hb hts in_X2_reads_X2 hown hK hP 0 rfl rfl 8 (by decide) (hts (.fieldLink RX2 82 "ZhegalkinBenchModel" "at" "I") (List.mem_of_getElem? (i := 1) rfl)) (fun _ h9 => h9) rfl dX2_reads_126 ?_
                  refine lv_iload_n hx hb dX2_reads_129 rfl (lv_at hl 0 rfl) ?_
                  refine lv_if_eq (tgt := 137) hx hb dX2_reads_130 (by decide) (fun c_25 => ?_) (fun c_25 => ?_)
                  · refine lv_iconst (v := 0) hx hb dX2_reads_137 (by decide) ?_
                    refine lv_iadd hx hb dX2_reads_138 ?_
                    refine lv_is (nI (((fX2_product X k a2.2.1 a2.2.2).2) + 0)) (by first | exact nI_add _ _ | rfl) ?_
                    refine va_put (D := D) (ci := 2) (v := .int (nI (((fX2_product X k a2.2.1 a2.2.2).2) + 0))) (ty := .int) (C := RX2) (T := TX2) (N := 10) hx hb hts in_X2_reads_X2 tyX2 tyX2_ok nmX2 hown hK hP hD hS 0 rfl rfl 8 (by decide) (hts (.fieldLink RX2 82 "ZhegalkinBenchModel" "at" "I") (List.mem_of_getElem? (i := 1) rfl)) (fun _ h9 => h9) rfl (by decide +kernel) rfl rfl (Nat.le_of_ble_eq_true rfl) dX2_reads_139 (fun H locs hP hD hS => ?_)
                    have hP : va_P D vwCl (wM q cq T R S X n h (nI k) th (nI (((fX2_product X k a2.2.1 a2.2.2).2) + 0)) (a2.2.2 ||| ((1 : Int32) <<< ((fX2_product X k a2.2.1 a2.2.2).1 &&& 31)))) H := hP
                    have hD : va_D A (wM q cq T R S X n h (nI k) th (nI (((fX2_product X k a2.2.1 a2.2.2).2) + 0)) (a2.2.2 ||| ((1 : Int32) <<< ((fX2_product X k a2.2.1 a2.2.2).1 &&& 31)))) := hD
                    refine lv_goto (tgt := 49) hx hb dX2_reads_142 (by decide) ?_
                    exact ih2 H locs (i2 + 1) (0, (((fX2_product X k a2.2.1 a2.2.2).2) + 0), (a2.2.2 ||| ((1 : Int32) <<< ((fX2_product X k a2.2.1 a2.2.2).1 &&& 31)))) ls (by omega) ((show tX2_reads_49 X k n2 (i2 + 1) (0, (((fX2_product X k a2.2.1 a2.2.2).2) + 0), (a2.2.2 ||| ((1 : Int32) <<< ((fX2_product X k a2.2.1 a2.2.2).1 &&& 31)))) = tX2_reads_49 X k (n2 + 1) i2 a2 from by first | (symm; (rw [tX2_reads_49, if_neg c_18, if_neg c_20, if_pos c_21, if_neg c_22, if_pos c_24]); first | done | rfl) | rfl).trans hf2) (Or.inl rfl) (by dsimp only; omega) (lv_sub hl [0, 2] rfl) hP hD hS
                  · exact absurd (by decide) c_25
                · have hlt : (fX2_product X k a2.2.1 a2.2.2).2 < k := Nat.lt_of_not_le (fun q9 => c_24 (nI_le (a := k) (b := (fX2_product X k a2.2.1 a2.2.2).2) q9 (by omega)))
                  refine lv_aload_n hx hb dX2_reads_104 rfl (lv_at hl 2 rfl) ?_
                  refine va_get (D := D) (ci := 2) (v := .ref (q 4)) (C := RX2) (T := TX2) (N := 10) hx hb hts in_X2_reads_X2 hown hK hP 0 rfl rfl 5 (by decide) (hts (.fieldLink RX2 19 "ZhegalkinBenchModel" "text" "[I") (List.mem_of_getElem? (i := 4) rfl)) (fun _ h9 => h9) rfl dX2_reads_105 ?_
                  refine lv_aload_n hx hb dX2_reads_108 rfl (lv_at hl 2 rfl) ?_
                  refine va_get (D := D) (ci := 2) (v := .int (nI (fX2_product X k a2.2.1 a2.2.2).2)) (C := RX2) (T := TX2) (N := 10) hx hb hts in_X2_reads_X2 hown hK hP 0 rfl rfl 8 (by decide) (hts (.fieldLink RX2 82 "ZhegalkinBenchModel" "at" "I") (List.mem_of_getElem? (i := 1) rfl)) (fun _ h9 => h9) rfl dX2_reads_109 ?_
                  refine vz_iald hx hb hK hP 4 3 rfl rfl ((fX2_product X k a2.2.1 a2.2.2).2) (by omega) (by decide) dX2_reads_112 ?_
                  refine lv_bipush (v := 43) hx hb dX2_reads_113 (by decide) ?_
                  refine lv_icmp_ne (tgt := 122) hx hb dX2_reads_115 (by decide) (fun c_26 => ?_) (fun c_26 => ?_)
                  · refine lv_iconst (v := 0) hx hb dX2_reads_122 (by decide) ?_
                    refine lv_istore_n (lv' := [(1, .int 0), (2, .int (fX2_product X k a2.2.1 a2.2.2).1), (0, .ref (q 0))]) hx hb dX2_reads_123 rfl hl (by decide) rfl (fun ls hl => ?_)
                    refine lv_aload_n hx hb dX2_reads_124 rfl (lv_at hl 2 rfl) ?_
                    refine lv_dup hx hb dX2_reads_125 rfl ?_
                    refine va_get (D := D) (ci := 2) (v := .int (nI (fX2_product X k a2.2.1 a2.2.2).2)) (C := RX2) (T := TX2) (N := 10) hx hb hts in_X2_reads_X2 hown hK hP 0 rfl rfl 8 (by decide) (hts (.fieldLink RX2 82 "ZhegalkinBenchModel" "at" "I") (List.mem_of_getElem? (i := 1) rfl)) (fun _ h9 => h9) rfl dX2_reads_126 ?_
                    refine lv_iload_n hx hb dX2_reads_129 rfl (lv_at hl 0 rfl) ?_
                    refine lv_if_eq (tgt := 137) hx hb dX2_reads_130 (by decide) (fun c_27 => ?_) (fun c_27 => ?_)
                    · refine lv_iconst (v := 0) hx hb dX2_reads_137 (by decide) ?_
                      refine lv_iadd hx hb dX2_reads_138 ?_
                      refine lv_is (nI (((fX2_product X k a2.2.1 a2.2.2).2) + 0)) (by first | exact nI_add _ _ | rfl) ?_
                      refine va_put (D := D) (ci := 2) (v := .int (nI (((fX2_product X k a2.2.1 a2.2.2).2) + 0))) (ty := .int) (C := RX2) (T := TX2) (N := 10) hx hb hts in_X2_reads_X2 tyX2 tyX2_ok nmX2 hown hK hP hD hS 0 rfl rfl 8 (by decide) (hts (.fieldLink RX2 82 "ZhegalkinBenchModel" "at" "I") (List.mem_of_getElem? (i := 1) rfl)) (fun _ h9 => h9) rfl (by decide +kernel) rfl rfl (Nat.le_of_ble_eq_true rfl) dX2_reads_139 (fun H locs hP hD hS => ?_)
                      have hP : va_P D vwCl (wM q cq T R S X n h (nI k) th (nI (((fX2_product X k a2.2.1 a2.2.2).2) + 0)) (a2.2.2 ||| ((1 : Int32) <<< ((fX2_product X k a2.2.1 a2.2.2).1 &&& 31)))) H := hP
                      have hD : va_D A (wM q cq T R S X n h (nI k) th (nI (((fX2_product X k a2.2.1 a2.2.2).2) + 0)) (a2.2.2 ||| ((1 : Int32) <<< ((fX2_product X k a2.2.1 a2.2.2).1 &&& 31)))) := hD
                      refine lv_goto (tgt := 49) hx hb dX2_reads_142 (by decide) ?_
                      exact ih2 H locs (i2 + 1) (0, (((fX2_product X k a2.2.1 a2.2.2).2) + 0), (a2.2.2 ||| ((1 : Int32) <<< ((fX2_product X k a2.2.1 a2.2.2).1 &&& 31)))) ls (by omega) ((show tX2_reads_49 X k n2 (i2 + 1) (0, (((fX2_product X k a2.2.1 a2.2.2).2) + 0), (a2.2.2 ||| ((1 : Int32) <<< ((fX2_product X k a2.2.1 a2.2.2).1 &&& 31)))) = tX2_reads_49 X k (n2 + 1) i2 a2 from by first | (symm; (rw [tX2_reads_49, if_neg c_18, if_neg c_20, if_pos c_21, if_neg c_22, if_neg c_24, if_neg c_26]); first | done | rfl) | rfl).trans hf2) (Or.inl rfl) (by dsimp only; omega) (lv_sub hl [0, 2] rfl) hP hD hS
                    · exact absurd (by decide) c_27
                  · refine lv_iconst (v := 1) hx hb dX2_reads_118 (by decide) ?_
                    refine lv_goto (tgt := 123) hx hb dX2_reads_119 (by decide) ?_
                    refine lv_istore_n (lv' := [(1, .int 1), (2, .int (fX2_product X k a2.2.1 a2.2.2).1), (0, .ref (q 0))]) hx hb dX2_reads_123 rfl hl (by decide) rfl (fun ls hl => ?_)
                    refine lv_aload_n hx hb dX2_reads_124 rfl (lv_at hl 2 rfl) ?_
                    refine lv_dup hx hb dX2_reads_125 rfl ?_
                    refine va_get (D := D) (ci := 2) (v := .int (nI (fX2_product X k a2.2.1 a2.2.2).2)) (C := RX2) (T := TX2) (N := 10) hx hb hts in_X2_reads_X2 hown hK hP 0 rfl rfl 8 (by decide) (hts (.fieldLink RX2 82 "ZhegalkinBenchModel" "at" "I") (List.mem_of_getElem? (i := 1) rfl)) (fun _ h9 => h9) rfl dX2_reads_126 ?_
                    refine lv_iload_n hx hb dX2_reads_129 rfl (lv_at hl 0 rfl) ?_
                    refine lv_if_eq (tgt := 137) hx hb dX2_reads_130 (by decide) (fun c_28 => ?_) (fun c_28 => ?_)
                    · exact absurd c_28 (by decide)
                    · refine lv_iconst (v := 1) hx hb dX2_reads_133 (by decide) ?_
                      refine lv_goto (tgt := 138) hx hb dX2_reads_134 (by decide) ?_
                      refine lv_iadd hx hb dX2_reads_138 ?_
                      refine lv_is (nI (((fX2_product X k a2.2.1 a2.2.2).2) + 1)) (by first | exact nI_add _ _ | rfl) ?_
                      refine va_put (D := D) (ci := 2) (v := .int (nI (((fX2_product X k a2.2.1 a2.2.2).2) + 1))) (ty := .int) (C := RX2) (T := TX2) (N := 10) hx hb hts in_X2_reads_X2 tyX2 tyX2_ok nmX2 hown hK hP hD hS 0 rfl rfl 8 (by decide) (hts (.fieldLink RX2 82 "ZhegalkinBenchModel" "at" "I") (List.mem_of_getElem? (i := 1) rfl)) (fun _ h9 => h9) rfl (by decide +kernel) rfl rfl (Nat.le_of_ble_eq_true rfl) dX2_reads_139 (fun H locs hP hD hS => ?_)
                      have hP : va_P D vwCl (wM q cq T R S X n h (nI k) th (nI (((fX2_product X k a2.2.1 a2.2.2).2) + 1)) (a2.2.2 ||| ((1 : Int32) <<< ((fX2_product X k a2.2.1 a2.2.2).1 &&& 31)))) H := hP
                      have hD : va_D A (wM q cq T R S X n h (nI k) th (nI (((fX2_product X k a2.2.1 a2.2.2).2) + 1)) (a2.2.2 ||| ((1 : Int32) <<< ((fX2_product X k a2.2.1 a2.2.2).1 &&& 31)))) := hD
                      refine lv_goto (tgt := 49) hx hb dX2_reads_142 (by decide) ?_
                      exact ih2 H locs (i2 + 1) (1, (((fX2_product X k a2.2.1 a2.2.2).2) + 1), (a2.2.2 ||| ((1 : Int32) <<< ((fX2_product X k a2.2.1 a2.2.2).1 &&& 31)))) ls (by omega) ((show tX2_reads_49 X k n2 (i2 + 1) (1, (((fX2_product X k a2.2.1 a2.2.2).2) + 1), (a2.2.2 ||| ((1 : Int32) <<< ((fX2_product X k a2.2.1 a2.2.2).1 &&& 31)))) = tX2_reads_49 X k (n2 + 1) i2 a2 from by first | (symm; (rw [tX2_reads_49, if_neg c_18, if_neg c_20, if_pos c_21, if_neg c_22, if_neg c_24, if_pos c_26]); first | done | rfl) | rfl).trans hf2) (Or.inr ⟨rfl, by dsimp only; omega⟩) (by dsimp only; omega) (lv_sub hl [0, 2] rfl) hP hD hS
            · refine lv_iconst (v := 0) hx hb dX2_reads_70 (by decide) ?_
              have hq : (fX2_reads X k) = (0, ((fX2_product X k a2.2.1 a2.2.2).2), a2.2.2) := Eq.symm ((show (0, ((fX2_product X k a2.2.1 a2.2.2).2), a2.2.2) = tX2_reads_49 X k (n2 + 1) i2 a2 from by first | (symm; (rw [tX2_reads_49, if_neg c_18, if_neg c_20, if_neg c_21]); first | done | rfl) | rfl).trans (hf2.trans hfo2))
              exact W.zret (v := 0) hx hb hr rfl (fun t9 ht hW => ⟨⟨0, (), rfl, by rw [hq], by rw [hq]; exact ⟨by rw [ht]; exact hP, hD⟩⟩, hS.F ht⟩) hS.2.2 dX2_reads_71
    · refine lv_aload_n hx hb dX2_reads_28 rfl (lv_at hl 0 rfl) ?_
      refine lv_iconst (v := 1) hx hb dX2_reads_29 (by decide) ?_
      refine va_put (D := D) (ci := 2) (v := .int 1) (ty := .int) (C := RX2) (T := TX2) (N := 10) hx hb hts in_X2_reads_X2 tyX2 tyX2_ok nmX2 hown hK hP hD hS 0 rfl rfl 8 (by decide) (hts (.fieldLink RX2 82 "ZhegalkinBenchModel" "at" "I") (List.mem_of_getElem? (i := 1) rfl)) (fun _ h9 => h9) rfl (by decide +kernel) rfl rfl (Nat.le_of_ble_eq_true rfl) dX2_reads_30 (fun H locs hP hD hS => ?_)
      have hP : va_P D vwCl (wM q cq T R S X n h (nI k) th 1 0) H := hP
      have hD : va_D A (wM q cq T R S X n h (nI k) th 1 0) := hD
      refine lv_aload_n hx hb dX2_reads_33 rfl (lv_at hl 0 rfl) ?_
      refine va_get (D := D) (ci := 2) (v := .int (nI k)) (C := RX2) (T := TX2) (N := 10) hx hb hts in_X2_reads_X2 hown hK hP 0 rfl rfl 6 (by decide) (hts (.fieldLink RX2 73 "ZhegalkinBenchModel" "typed" "I") (List.mem_of_getElem? (i := 3) rfl)) (fun _ h9 => h9) rfl dX2_reads_34 ?_
      refine lv_iconst (v := 1) hx hb dX2_reads_37 (by decide) ?_
      refine lv_icmp_ne (tgt := 45) hx hb dX2_reads_38 (by decide) (fun c_29 => ?_) (fun c_29 => ?_)
      · refine lv_iconst (v := 0) hx hb dX2_reads_45 (by decide) ?_
        have hq : (fX2_reads X k) = (0, 1, 0) := Eq.symm (by first | ((rw [fX2_reads, if_neg c_1, if_pos c_15, if_neg c_29]); first | done | rfl) | rfl)
        exact W.zret (v := 0) hx hb hr rfl (fun t9 ht hW => ⟨⟨0, (), rfl, by rw [hq], by rw [hq]; exact ⟨by rw [ht]; exact hP, hD⟩⟩, hS.F ht⟩) hS.2.2 dX2_reads_46
      · refine lv_iconst (v := 1) hx hb dX2_reads_41 (by decide) ?_
        refine lv_goto (tgt := 46) hx hb dX2_reads_42 (by decide) ?_
        have hq : (fX2_reads X k) = (1, 1, 0) := Eq.symm (by first | ((rw [fX2_reads, if_neg c_1, if_pos c_15, if_pos c_29]); first | done | rfl) | rfl)
        exact W.zret (v := 1) hx hb hr rfl (fun t9 ht hW => ⟨⟨1, (), rfl, by rw [hq], by rw [hq]; exact ⟨by rw [ht]; exact hP, hD⟩⟩, hS.F ht⟩) hS.2.2 dX2_reads_46
