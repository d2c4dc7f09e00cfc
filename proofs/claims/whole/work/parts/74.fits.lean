theorem allB_s (n : Nat) (p : Nat → Bool) : allB (n + 1) p = (allB n p && p n) := by
  unfold allB
  rw [List.range_succ, List.all_append]
  simp
/-- all that is seen is so by these numbers -/
def sOK (d : Nat) (a : Nat → Int64) (R : Nat → Int32) (n : Nat) : Bool := allB n (fun k => decide (V d a (R (k * 3)).toInt64 (R (k * 3 + 1)).toInt64 = (R (k * 3 + 2)).toInt64))
theorem sOK_R {d : Nat} {a : Nat → Int64} {R R' : Nat → Int32} {n : Nat} (h : ∀ j, j < n * 3 → R j = R' j) : sOK d a R n = sOK d a R' n := by
  rw [Bool.eq_iff_iff]
  unfold sOK
  rw [allB_iff, allB_iff]
  constructor
  · intro q j hj
    rw [← h (j * 3) (by omega), ← h (j * 3 + 1) (by omega), ← h (j * 3 + 2) (by omega)]
    exact q j hj
  · intro q j hj
    rw [h (j * 3) (by omega), h (j * 3 + 1) (by omega), h (j * 3 + 2) (by omega)]
    exact q j hj
/-- the number tried at turn t -/
def av (t : Nat) : Int32 := nn 99 - nn t
theorem av_toInt {t : Nat} (h : t < 1000) : (av t).toInt = 99 - (t : Int) := by
  unfold av
  rw [Int32.toInt_sub, nn_toInt (by omega), nn_toInt (by omega)]
  apply Int.bmod_eq_of_le <;> omega
theorem av_s (t : Nat) : av t + (-1) = av (t + 1) := by
  unfold av
  rw [← nn_s t, Int32.sub_eq_add_neg, Int32.sub_eq_add_neg, Int32.neg_add, Int32.add_assoc, Int32.sub_eq_add_neg]
theorem av_lt {t : Nat} (h : t < 1000) : av t < -99 ↔ 198 < t := by
  rw [i32_lt, av_toInt h]
  show 99 - (t : Int) < -99 ↔ _
  omega
/-- how many fit, and the least of these, after so many -/
def fF (d : Nat) (a : Nat → Int64) (R : Nat → Int32) (n i : Nat) : Nat → Int32 × Int32
  | 0 => (0, 0)
  | t + 1 => if sOK d (up1 a i (av t).toInt64) R n = true then ((fF d a R n i t).1 + 1, av t + 100) else fF d a R n i t
def jI (I : Nat → Nat → Int32) (i : Nat) : Nat → Nat → Nat → Int32
  | 0 => I
  | t + 1 => up1 I 28 (up1 (I 28) i (av t))
def jL (L : Nat → Nat → Int64) (i : Nat) : Nat → Nat → Nat → Int64
  | 0 => L
  | t + 1 => up1 L 63 (up1 (L 63) i (av t).toInt64)
theorem jI_s (I : Nat → Nat → Int32) (i t : Nat) : up1 (jI I i t) 28 (up1 (jI I i t 28) i (av t)) = jI I i (t + 1) := by
  cases t with
  | zero => rfl
  | succ t =>
    show up1 (up1 I 28 (up1 (I 28) i (av t))) 28 (up1 ((up1 I 28 (up1 (I 28) i (av t))) 28) i (av (t + 1))) = up1 I 28 (up1 (I 28) i (av (t + 1)))
    rw [up1_up1, up1_s, up1_up1]
theorem jL_s (L : Nat → Nat → Int64) (i t : Nat) : up1 (jL L i t) 63 (up1 (jL L i t 63) i (av t).toInt64) = jL L i (t + 1) := by
  cases t with
  | zero => rfl
  | succ t =>
    show up1 (up1 L 63 (up1 (L 63) i (av t).toInt64)) 63 (up1 ((up1 L 63 (up1 (L 63) i (av t).toInt64)) 63) i (av (t + 1)).toInt64) = up1 L 63 (up1 (L 63) i (av (t + 1)).toInt64)
    rw [up1_up1, up1_s, up1_up1]
theorem jL_b (L : Nat → Nat → Int64) (i t : Nat) : up1 (jL L i t) 63 (up1 (jL L i t 63) i (L 63 i)) = L := by
  cases t with
  | zero =>
    show up1 L 63 (up1 (L 63) i (L 63 i)) = L
    rw [up1_id, up1_id]
  | succ t =>
    show up1 (up1 L 63 (up1 (L 63) i (av t).toInt64)) 63 (up1 ((up1 L 63 (up1 (L 63) i (av t).toInt64)) 63) i (L 63 i)) = L
    rw [up1_up1, up1_s, up1_up1, up1_id, up1_id]
theorem jI_n (I : Nat → Nat → Int32) (i t : Nat) {r : Nat} (h : r ≠ 28) : jI I i t r = I r := by
  cases t with
  | zero => rfl
  | succ t => exact up1_n _ _ h
section FI
variable (I : Nat → Nat → Int32) (L : Nat → Nat → Int64)
theorem isAsSeen_27 {d : Nat} (hd : 2 ≤ d ∧ d ≤ 4) {a : Nat → Int64} (hA : AC 27 I d a) {n : Nat} (hn : n ≤ 4) (e8 : I 8 0 = nn n) : fX9_isAsSeen 1 27 (mk I L) = some (if sOK d a (I 9) n = true then 1 else 0, mk I L) := by
  unfold fX9_isAsSeen
  have hat : ∀ x y, fX2_at 27 x y (mk I L) = some (V d a x y, mk I L) := fun x y => by
    rw [at_27 I L d hd hA.1, V_congr (a := cf I 27) (b := a) (fun j hj => hA.2 j (by omega))]
  refine (lp_findi (s := fun k => (nn k, mk I L)) (x := some ((1 : Int32), mk I L)) (y := some ((0 : Int32), mk I L)) rfl n (fun k => decide (V d a (I 9 (k * 3)).toInt64 (I 9 (k * 3 + 1)).toInt64 = (I 9 (k * 3 + 2)).toInt64)) ?_ ?_ ?_ (FU_gt (by omega))).trans ?_
  rotate_left 3
  · unfold sOK
    split <;> rfl
  · intro k hk hP c
    replace hP := of_decide_eq_true hP
    simp only [kd_1, gI_1, pI_1, gR_1_0, gR_1_1, gR_1_3, gR_1_4, gR_1_5, gR_1_6, gR_1_7, gR_1_8, ln_49, xR_49, kd_2, gI_2, pI_2, gR_2_0, gR_2_1, gR_2_2, gR_2_3, kd_8, gI_8, pI_8, gR_8_1, ln_9, xI_9, yI_9, Option.bind_some, e8, nn_le (show n < 2147483648 by omega) (show k < 2147483648 by omega), show ¬ n ≤ k by omega, if_false, kd_27, if_true, rfirst_8 I L k n hk hn e8, rsecond_8 I L k n hk hn e8, rthird_8 I L k n hk hn e8, hat, lg_cmp_eq, hP, nm, nn_s]
  · intro k hk hP _ c
    replace hP := of_decide_eq_false hP
    simp only [kd_1, gI_1, pI_1, gR_1_0, gR_1_1, gR_1_3, gR_1_4, gR_1_5, gR_1_6, gR_1_7, gR_1_8, ln_49, xR_49, kd_2, gI_2, pI_2, gR_2_0, gR_2_1, gR_2_2, gR_2_3, kd_8, gI_8, pI_8, gR_8_1, ln_9, xI_9, yI_9, Option.bind_some, e8, nn_le (show n < 2147483648 by omega) (show k < 2147483648 by omega), show ¬ n ≤ k by omega, if_false, kd_27, if_true, rfirst_8 I L k n hk hn e8, rsecond_8 I L k n hk hn e8, rthird_8 I L k n hk hn e8, hat, lg_cmp_eq, hP]
  · intro c
    simp only [kd_1, gI_1, pI_1, gR_1_0, gR_1_1, gR_1_3, gR_1_4, gR_1_5, gR_1_6, gR_1_7, gR_1_8, ln_49, xR_49, kd_2, gI_2, pI_2, gR_2_0, gR_2_1, gR_2_2, gR_2_3, kd_8, gI_8, pI_8, gR_8_1, ln_9, xI_9, yI_9, Option.bind_some, e8, nn_le (show n < 2147483648 by omega) (show n < 2147483648 by omega), Nat.le_refl, if_true]
theorem fits_C {d : Nat} {a : Nat → Int64} (hA : AC 4 I d a) (hd : 2 ≤ d ∧ d ≤ 4) {n : Nat} (hn : n ≤ 4) (e8 : I 8 0 = nn n) (i w : Int32) (hi : 0 ≤ i.toInt ∧ i.toInt ≤ d) (hw : 0 ≤ w.toInt ∧ w.toInt ≤ 1) : ∃ I', fX9_fits 1 i w (mk I L) = some (if w = 0 then (fF d a (I 9) n i.toNatClampNeg 199).1 else (fF d a (I 9) n i.toNatClampNeg 199).2, mk I' L) ∧ Ch [27, 28] [] [] I L I' L := by
  have e4 : (I 4 0).toInt = d := by rw [hA.1, nn_toInt (by omega)]
  have hi5 : 0 ≤ i.toInt ∧ i.toInt ≤ (d : Int) ∧ i.toInt < 5 := by omega
  have hin := nat_toInt hi.1
  let I1 := up1 (up1 I 27 (up1 (I 27) 0 (I 4 0))) 28 (fun k => if k < 5 then I 5 k else I 28 k)
  have h27 : ∀ t, (jI I1 i.toNatClampNeg t) 27 0 = nn d := fun t => by
    rw [jI_n _ _ _ (by decide)]
    show up1 (up1 I 27 _) 28 _ 27 0 = _
    rw [up1_n _ _ (by decide), up1_s, up1_s]
    exact hA.1
  have h28 : ∀ t j, j < 5 → ((jI I1 i.toNatClampNeg (t + 1)) 28 j).toInt64 = up1 a i.toNatClampNeg (av t).toInt64 j := fun t j hj => by
    show (up1 I1 28 (up1 (I1 28) i.toNatClampNeg (av t)) 28 j).toInt64 = _
    rw [up1_s]
    simp only [up1_e]
    split
    · rfl
    · show (up1 (up1 I 27 _) 28 (fun k => if k < 5 then I 5 k else I 28 k) 28 j).toInt64 = _
      rw [up1_s, if_pos hj]
      exact hA.2 j hj
  have h8 : ∀ t, (jI I1 i.toNatClampNeg t) 8 = I 8 := fun t => by
    rw [jI_n _ _ _ (by decide)]
    show up1 (up1 I 27 _) 28 _ 8 = _
    rw [up1_n _ _ (by decide), up1_n _ _ (by decide)]
  have h9 : ∀ t, (jI I1 i.toNatClampNeg t) 9 = I 9 := fun t => by
    rw [jI_n _ _ _ (by decide)]
    show up1 (up1 I 27 _) 28 _ 9 = _
    rw [up1_n _ _ (by decide), up1_n _ _ (by decide)]
  refine ⟨jI I1 i.toNatClampNeg 199, ?_, ⟨fun r hr h0 => ?_, fun k hk => ?_, fun _ _ => rfl⟩⟩
  rotate_left
  · rw [jI_n _ _ _ (fun e => hr (by simp [e]))]
    show up1 (up1 I 27 _) 28 _ r = _
    rw [up1_n _ _ (fun e => hr (by simp [e])), up1_n _ _ (fun e => hr (by simp [e]))]
  · rw [jI_n _ _ _ (by decide)]
    show up1 (up1 I 27 _) 28 _ 62 k = _
    rw [up1_n _ _ (by decide), up1_n _ _ (by decide)]
  unfold fX9_fits
  simp only [kd_1, gI_1, pI_1, gR_1_0, gR_1_1, gR_1_3, gR_1_4, gR_1_5, gR_1_6, gR_1_7, gR_1_8, ln_49, xR_49, kd_2, gI_2, pI_2, gR_2_0, gR_2_1, gR_2_2, gR_2_3, kd_3, gI_3, pI_3, gR_3_0, kd_4, if_true, has_4, e4, if_pos hi5, Option.bind_some, one0, if_false, between_s, Int32.reduceToInt, if_pos hw, gR_26_0, kd_27, fcopy_4_27]
  refine lp_for' (fun t => ((fF d a (I 9) n i.toNatClampNeg t).1, (fF d a (I 9) n i.toNatClampNeg t).2, av t, mk (jI I1 i.toNatClampNeg t) L)) rfl 199 (fun t ht k => ?_) (fun k => ?_) (FU_gt (by omega))
  · have hset : fX2_set 27 i (av t) (mk (jI I1 i.toNatClampNeg t) L) = some ((), mk (jI I1 i.toNatClampNeg (t + 1)) L) := by
      rw [set_27, h27, nn_toInt (by omega), if_pos hi5, jI_s]
    have hs : fX9_isAsSeen 1 27 (mk (jI I1 i.toNatClampNeg (t + 1)) L) = some (if sOK d (up1 a i.toNatClampNeg (av t).toInt64) (I 9) n = true then 1 else 0, mk (jI I1 i.toNatClampNeg (t + 1)) L) := by
      rw [isAsSeen_27 (jI I1 i.toNatClampNeg (t + 1)) L hd ⟨h27 (t + 1), h28 t⟩ hn (by rw [h8]; exact e8), h9]
    simp only [av_lt (show t < 1000 by omega), if_neg (show ¬ 198 < t by omega), kd_27, kd_1, if_true, hset, hs, Option.bind_some, ite10, nm, av_s, fF]
    split <;> rfl
  · simp only [av_lt (show 199 < 1000 by omega), if_pos (show 198 < 199 by omega)]
    split <;> rfl
theorem and_bit {b c : Bool} {x : Int32} (h : x = if c = true then 1 else 0) : (if b = true then (1 : Int32) else 0) &&& x = if (b && c) = true then 1 else 0 := by
  subst h
  cases b <;> cases c <;> decide
theorem fits_M {d : Nat} {a : Nat → Int64} (hA : AM I L d a) (hd : 2 ≤ d ∧ d ≤ 4) {n : Nat} (hn : n ≤ 4) (e8 : I 62 5 = nn n) (i w : Int32) (hi : 0 ≤ i.toInt ∧ i.toInt ≤ d) (hw : 0 ≤ w.toInt ∧ w.toInt ≤ 1) : fX10_fits 62 i w (mk I L) = some (if w = 0 then (fF d a (I 64) n i.toNatClampNeg 199).1 else (fF d a (I 64) n i.toNatClampNeg 199).2, mk I L) := by
  have e4 : (I 62 0).toInt = d := by rw [hA.1, nn_toInt (by omega)]
  have hin := nat_toInt hi.1
  have hi5 : i.toNatClampNeg < 5 := by omega
  have hneg : ¬ i < 0 := by rw [i32_lt]; simp; omega
  have h63 : ∀ t j, j < 5 → (jL L i.toNatClampNeg (t + 1)) 63 j = up1 a i.toNatClampNeg (av t).toInt64 j := fun t j hj => by
    show up1 L 63 (up1 (L 63) i.toNatClampNeg (av t).toInt64) 63 j = _
    rw [up1_s]
    simp only [up1_e]
    split
    · rfl
    · exact hA.2 j hj
  unfold fX10_fits
  simp only [kd_62, if_true, isNumber_s, e4, if_pos hi, Option.bind_some, one0, if_false, in_s, i64_of32, Int64.reduceToInt, if_pos hw, gR_62_1, xJ_63, hi5, hneg, not_false_eq_true, and_self]
  refine lp_for' (fun t => ((fF d a (I 64) n i.toNatClampNeg t).1, (fF d a (I 64) n i.toNatClampNeg t).2, av t, mk I (jL L i.toNatClampNeg t))) rfl 199 (fun t ht k => ?_) (fun k => ?_) (FU_gt (by omega))
  · have hat : ∀ x y, fX10_valueAt 62 x y (mk I (jL L i.toNatClampNeg (t + 1))) = some (V d (up1 a i.toNatClampNeg (av t).toInt64) x y, mk I (jL L i.toNatClampNeg (t + 1))) := fun x y => by
      rw [valueAt_s I _ d hd hA.1, V_congr (b := up1 a i.toNatClampNeg (av t).toInt64) (fun j hj => h63 t j (by omega))]
    simp only [av_lt (show t < 1000 by omega), if_neg (show ¬ 198 < t by omega), gR_62_1, yJ_63, hi5, hneg, not_false_eq_true, and_self, if_true, Option.bind_some, jL_s]
    refine lp_for' (fun q => ((if sOK d (up1 a i.toNatClampNeg (av t).toInt64) (I 64) q = true then 1 else 0), nn q, mk I (jL L i.toNatClampNeg (t + 1)))) rfl n (fun q hq k2 => ?_) (fun k2 => ?_) (FU_gt (by omega))
    · simp only [kd_62, gI_62, pI_62, gR_62_1, gR_62_4, gR_62_6, gR_62_8, gR_62_10, gR_62_11, gR_62_12, gR_62_14, gR_62_16, gR_62_17, gR_62_18, gR_62_20, gR_62_21, gR_62_22, gR_62_23, gR_62_24, gR_62_28, gR_62_31, gR_62_32, gR_62_33, gR_62_34, gR_62_35, gR_62_37, gR_62_38, gJ_62, pJ_62, ln_63, xJ_63, yJ_63, ln_64, xI_64, yI_64, ln_65, xI_65, yI_65, ln_66, xI_66, yI_66, ln_67, xJ_67, yJ_67, ln_68, xJ_68, yJ_68, ln_69, xI_69, yI_69, ln_70, xI_70, yI_70, ln_71, xI_71, yI_71, ln_72, xI_72, yI_72, ln_73, xI_73, yI_73, ln_74, xI_74, yI_74, ln_75, xI_75, yI_75, ln_76, xJ_76, yJ_76, ln_77, xJ_77, yJ_77, ln_78, xI_78, yI_78, ln_79, xI_79, yI_79, ln_80, xI_80, yI_80, ln_81, xJ_81, yJ_81, ln_82, xI_82, yI_82, ln_83, xI_83, yI_83, ln_84, xJ_84, yJ_84, ln_85, xJ_85, yJ_85, ln_86, xI_86, yI_86, Option.bind_some, e8, nn_le (show n < 2147483648 by omega) (show q < 2147483648 by omega), show ¬ n ≤ q by omega, if_false, nn_3m, nn_p1, nn_p2, nn_lt0 (q * 3) (by omega), nn_nat (show q * 3 < 2147483648 by omega), show q * 3 < 12 by omega, not_false_eq_true, and_self, if_true, nn_lt0 (q * 3 + 1) (by omega), nn_nat (show q * 3 + 1 < 2147483648 by omega), show q * 3 + 1 < 12 by omega, not_false_eq_true, and_self, if_true, nn_lt0 (q * 3 + 2) (by omega), nn_nat (show q * 3 + 2 < 2147483648 by omega), show q * 3 + 2 < 12 by omega, not_false_eq_true, and_self, if_true, hat, lg_cmp_eq, nm, nn_s]
      by_cases hv : V d (up1 a i.toNatClampNeg (av t).toInt64) (I 64 (q * 3)).toInt64 (I 64 (q * 3 + 1)).toInt64 = (I 64 (q * 3 + 2)).toInt64
      · rw [if_pos hv, and_bit (x := 1) (c := true) rfl]
        unfold sOK
        rw [allB_s, decide_eq_true hv]
      · rw [if_neg hv, and_bit (x := 0) (c := false) rfl]
        unfold sOK
        rw [allB_s, decide_eq_false hv]
    · simp only [kd_62, gI_62, pI_62, gR_62_1, gR_62_4, gR_62_6, gR_62_8, gR_62_10, gR_62_11, gR_62_12, gR_62_14, gR_62_16, gR_62_17, gR_62_18, gR_62_20, gR_62_21, gR_62_22, gR_62_23, gR_62_24, gR_62_28, gR_62_31, gR_62_32, gR_62_33, gR_62_34, gR_62_35, gR_62_37, gR_62_38, gJ_62, pJ_62, ln_63, xJ_63, yJ_63, ln_64, xI_64, yI_64, ln_65, xI_65, yI_65, ln_66, xI_66, yI_66, ln_67, xJ_67, yJ_67, ln_68, xJ_68, yJ_68, ln_69, xI_69, yI_69, ln_70, xI_70, yI_70, ln_71, xI_71, yI_71, ln_72, xI_72, yI_72, ln_73, xI_73, yI_73, ln_74, xI_74, yI_74, ln_75, xI_75, yI_75, ln_76, xJ_76, yJ_76, ln_77, xJ_77, yJ_77, ln_78, xI_78, yI_78, ln_79, xI_79, yI_79, ln_80, xI_80, yI_80, ln_81, xJ_81, yJ_81, ln_82, xI_82, yI_82, ln_83, xI_83, yI_83, ln_84, xJ_84, yJ_84, ln_85, xJ_85, yJ_85, ln_86, xI_86, yI_86, Option.bind_some, e8, nn_le (show n < 2147483648 by omega) (show n < 2147483648 by omega), Nat.le_refl, if_true, jn, nm, ite10, av_s, fF]
      split <;> simp only [Int32.add_zero]
  · simp only [av_lt (show 199 < 1000 by omega), if_pos (show 198 < 199 by omega), gR_62_1, yJ_63, hi5, hneg, not_false_eq_true, and_self, if_true, Option.bind_some, jL_b]
    split <;> rfl
theorem fF_R {d : Nat} {a : Nat → Int64} {R R' : Nat → Int32} {n i : Nat} (h : ∀ j, j < n * 3 → R j = R' j) : ∀ t, fF d a R n i t = fF d a R' n i t
  | 0 => rfl
  | t + 1 => by
    show (if sOK d (up1 a i (av t).toInt64) R n = true then ((fF d a R n i t).1 + 1, av t + 100) else fF d a R n i t) = _
    rw [fF_R h t, sOK_R h]
    rfl
theorem pair_fits (i w : Int32) (N : RelN I L) (S : RelS I) : Both (fX9_fits 1 i w) (fX10_fits 62 i w) I L (fun I' L' => Ch [27, 28] [] [] I L I' L') := by
  obtain ⟨d, a, hC, hM, hV⟩ := N
  have hd := hV.1
  obtain ⟨n, hn, e8, e5, he⟩ := S
  have e4 : (I 4 0).toInt = d := by rw [hC.1, nn_toInt (by omega)]
  have e62 : (I 62 0).toInt = d := by rw [hM.1, nn_toInt (by omega)]
  by_cases hi : 0 ≤ i.toInt ∧ i.toInt ≤ d
  rotate_left
  · refine ⟨-1, I, L, I, L, ?_, ?_, Ch.rf I L⟩
    · unfold fX9_fits
      simp only [kd_1, gI_1, pI_1, gR_1_0, gR_1_1, gR_1_3, gR_1_4, gR_1_5, gR_1_6, gR_1_7, gR_1_8, ln_49, xR_49, kd_2, gI_2, pI_2, gR_2_0, gR_2_1, gR_2_2, gR_2_3, kd_3, gI_3, pI_3, gR_3_0, kd_4, if_true, has_4, e4, if_neg (show ¬ (0 ≤ i.toInt ∧ i.toInt ≤ (d : Int) ∧ i.toInt < 5) by omega), Option.bind_some]
    · unfold fX10_fits
      simp only [kd_62, if_true, isNumber_s, e62, if_neg hi, Option.bind_some]
  by_cases hw : 0 ≤ w.toInt ∧ w.toInt ≤ 1
  rotate_left
  · refine ⟨-1, I, L, I, L, ?_, ?_, Ch.rf I L⟩
    · unfold fX9_fits
      simp only [kd_1, gI_1, pI_1, gR_1_0, gR_1_1, gR_1_3, gR_1_4, gR_1_5, gR_1_6, gR_1_7, gR_1_8, ln_49, xR_49, kd_2, gI_2, pI_2, gR_2_0, gR_2_1, gR_2_2, gR_2_3, kd_3, gI_3, pI_3, gR_3_0, kd_4, if_true, has_4, e4, if_pos (show 0 ≤ i.toInt ∧ i.toInt ≤ (d : Int) ∧ i.toInt < 5 by omega), Option.bind_some, one0, if_false, between_s, Int32.reduceToInt, if_neg hw]
    · unfold fX10_fits
      simp only [kd_62, if_true, isNumber_s, e62, if_pos hi, Option.bind_some, one0, if_false, in_s, i64_of32, Int64.reduceToInt, if_neg hw]
  obtain ⟨I1, h1, h2⟩ := fits_C I L hC hd hn e8 i w hi hw
  have h3 := fits_M I1 L (hM.ch h2 (by decide) (by decide)) hd hn (by rw [h2.2.1 5 (by decide)]; exact e5) i w hi hw
  rw [h2.1 64 (by decide) (by decide), fF_R (R' := I 9) (fun j hj => he j (by omega))] at h3
  exact ⟨_, I1, L, I1, L, h1, h3, h2⟩
end FI
