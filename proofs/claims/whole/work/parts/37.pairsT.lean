def RelT (I : Nat → Nat → Int32) (L : Nat → Nat → Int64) : Prop := ∀ t, t < 6 → ∃ n, n ≤ 60 ∧ I (50 + 2 * t) 2 = nn n ∧ I 83 t = nn n ∧ I 82 t = I (50 + 2 * t) 0 ∧ (-1 ≤ (I (50 + 2 * t) 0).toInt ∧ (I (50 + 2 * t) 0).toInt ≤ 4) ∧ (I (50 + 2 * t) 0 = -1 → n = 0) ∧ ∀ j, j < 60 → L 84 (60 * t + j) = L (51 + 2 * t) j
def TS' : List Nat := [50, 52, 54, 56, 58, 60, 82, 83]
def TT' : List Nat := [51, 53, 55, 57, 59, 61, 84]
theorem TS_in {t : Nat} (h : t < 6) : 50 + 2 * t ∈ TS' := by rcases t6 h with rfl | rfl | rfl | rfl | rfl | rfl <;> decide
theorem TT_in {t : Nat} (h : t < 6) : 51 + 2 * t ∈ TT' := by rcases t6 h with rfl | rfl | rfl | rfl | rfl | rfl <;> decide
theorem t_ex {a : Int32} (h : 0 ≤ a.toInt ∧ a.toInt ≤ 5) : ∃ t, t < 6 ∧ a = nn t := by
  obtain ⟨k, hk, e⟩ := i32_ex h.1
  refine ⟨k, ?_, e⟩
  have h2 := h.2
  rw [e, nn_toInt hk] at h2
  omega
theorem nn_sub1 {n : Nat} (h : n < 2147483648) : (nn n - 1).toInt = (n : Int) - 1 := by
  rw [Int32.toInt_sub, nn_toInt h, show (1 : Int32).toInt = 1 by decide]
  apply Int.bmod_eq_of_le <;> omega
theorem nn_60 (k : Nat) : 60 * nn k = nn (60 * k) := nn_mul 60 k
def low (s : Int32) (v : Int64) : Int64 := if s = 0 then v.toInt32.toInt8.toInt32.toInt64 else if s = 1 then v.toInt32.toInt16.toInt32.toInt64 else if s = 2 then v.toInt32.toInt64 else if s = 3 then v else if lg_cmp v 0 = 0 then 0 else 1
theorem held_s (s : Int32) (v : Int64) (h : Mem) : fX10_held s v h = some (low s v, h) := by
  unfold fX10_held low
  repeat' split
  all_goals rfl
section PT
variable (I : Nat → Nat → Int32) (L : Nat → Nat → Int64)
theorem isTape_s (a : Int32) (h : Mem) : fX10_isTape a h = some (if 0 ≤ a.toInt ∧ a.toInt ≤ 5 then 1 else 0, h) := by
  unfold fX10_isTape
  simp only [in_s, Option.bind_some, b01, i64_of32, Int64.reduceToInt, if_true]
theorem tp_not {a : Int32} (h : ¬ (0 ≤ a.toInt ∧ a.toInt ≤ 5)) : fX9_tapeAt 1 a (mk I L) = some (0, mk I L) := by
  unfold fX9_tapeAt
  simp only [kd_1, gI_1, pI_1, gR_1_0, gR_1_1, gR_1_3, gR_1_4, gR_1_5, gR_1_6, gR_1_7, gR_1_8, ln_49, xR_49, ln_49, Option.bind_some]
  by_cases h1 : a < 0
  · rw [if_pos h1]
  · rw [if_neg h1, if_pos]
    rw [i32_lt] at h1
    simp at h1
    rw [i32_le]
    simp
    omega
theorem tp_low {t : Nat} (ht : t < 6) (hs : -1 ≤ (I (50 + 2 * t) 0).toInt ∧ (I (50 + 2 * t) 0).toInt ≤ 4) (h0 : ¬ I (50 + 2 * t) 0 = -1) (v : Int64) : fX7_lowestBits (50 + 2 * t) v (mk I L) = some (low (I (50 + 2 * t) 0) v, mk I L) := by
  unfold fX7_lowestBits
  simp only [tp_gI I L ht, Option.bind_some]
  generalize I (50 + 2 * t) 0 = s at hs h0 ⊢
  rcases (show s.toInt = -1 ∨ s.toInt = 0 ∨ s.toInt = 1 ∨ s.toInt = 2 ∨ s.toInt = 3 ∨ s.toInt = 4 by omega) with h | h | h | h | h | h
  · exact absurd (i32_eq.mpr h) h0
  · rw [show s = 0 from i32_eq.mpr h]
    rfl
  · rw [show s = 1 from i32_eq.mpr h]
    rfl
  · rw [show s = 2 from i32_eq.mpr h]
    rfl
  · rw [show s = 3 from i32_eq.mpr h]
    rfl
  · rw [show s = 4 from i32_eq.mpr h]
    unfold low
    simp only [show ¬ (4 : Int32) = 0 by decide, show ¬ (4 : Int32) = 1 by decide, show ¬ (4 : Int32) = 2 by decide, show ¬ (4 : Int32) = 3 by decide, if_false, if_true]
    split <;> rfl
theorem pair_peek (a i : Int32) (R : RelT I L) : BothL (fX9_peek 1 a i) (fX10_peek 62 a i) I L (fun I' L' => I' = I ∧ L' = L) := by
  unfold fX9_peek fX10_peek BothL
  simp only [isTape_s, Option.bind_some, ite10]
  by_cases ha : 0 ≤ a.toInt ∧ a.toInt ≤ 5
  rotate_left
  · exact ⟨-9223372036854775808, I, L, I, L, by simp only [kd_1, gI_1, pI_1, gR_1_0, gR_1_1, gR_1_3, gR_1_4, gR_1_5, gR_1_6, gR_1_7, gR_1_8, ln_49, xR_49, if_true, tp_not I L ha, Option.bind_some], by rw [if_neg ha], rfl, rfl⟩
  obtain ⟨t, ht, e⟩ := t_ex ha
  obtain ⟨n, hn, e1, e2, e3, e4, e5, e6⟩ := R t ht
  have hcl : (fun (h : Mem) => if mKd h 1 = 9 then (fX9_tapeAt 1 a h).bind (fun ((v2, h1) : Nat × Mem) => if v2 = 0 then some ((-9223372036854775808 : Int64), h1) else if mKd h1 v2 = 7 then (fX7_has v2 i h1).bind (fun ((v4, h3) : Int32 × Mem) => if v4 = 0 then some ((-9223372036854775808 : Int64), h3) else if mKd h3 v2 = 7 then (fX7_get v2 i h3).bind (fun ((v6, h5) : Int64 × Mem) => some ((v6 : Int64), h5)) else none) else none) else none) (mk I L) = some (if 0 ≤ i.toInt ∧ i.toInt < n then L (51 + 2 * t) i.toNatClampNeg else -9223372036854775808, mk I L) := by
    simp only [kd_1, gI_1, pI_1, gR_1_0, gR_1_1, gR_1_3, gR_1_4, gR_1_5, gR_1_6, gR_1_7, gR_1_8, ln_49, xR_49, if_true, tp_at I L ht a e, Option.bind_some, show ¬ 50 + 2 * t = 0 by omega, if_false, tp_kd I L ht, tp_has I L ht hn e1, tp_get I L ht hn e1, ite10]
    by_cases h : 0 ≤ i.toInt ∧ i.toInt < n
    · simp only [if_pos h]
    · simp only [if_neg h]
  refine ⟨_, I, L, I, L, hcl, ?_, rfl, rfl⟩
  rw [if_pos ha]
  subst e
  simp only [kd_62, gI_62, pI_62, gR_62_1, gR_62_4, gR_62_6, gR_62_8, gR_62_10, gR_62_11, gR_62_12, gR_62_14, gR_62_16, gR_62_17, gR_62_18, gR_62_20, gR_62_21, gR_62_22, gR_62_23, gR_62_24, gR_62_28, gR_62_31, gR_62_32, gR_62_33, gR_62_34, gR_62_35, gR_62_37, gR_62_38, gJ_62, pJ_62, ln_63, xJ_63, yJ_63, ln_64, xI_64, yI_64, ln_65, xI_65, yI_65, ln_66, xI_66, yI_66, ln_67, xJ_67, yJ_67, ln_68, xJ_68, yJ_68, ln_69, xI_69, yI_69, ln_70, xI_70, yI_70, ln_71, xI_71, yI_71, ln_72, xI_72, yI_72, ln_73, xI_73, yI_73, ln_74, xI_74, yI_74, ln_75, xI_75, yI_75, ln_76, xJ_76, yJ_76, ln_77, xJ_77, yJ_77, ln_78, xI_78, yI_78, ln_79, xI_79, yI_79, ln_80, xI_80, yI_80, ln_81, xJ_81, yJ_81, ln_82, xI_82, yI_82, ln_83, xI_83, yI_83, ln_84, xJ_84, yJ_84, ln_85, xJ_85, yJ_85, ln_86, xI_86, yI_86, Option.bind_some, in_s, nn_lt0 (t) (by omega), nn_nat (show t < 2147483648 by omega), show t < 6 by omega, not_false_eq_true, and_self, if_true, e2, i64_of32, nn_sub1 (show n < 2147483648 by omega), Int64.reduceToInt, ite10]
  by_cases h : 0 ≤ i.toInt ∧ i.toInt < n
  · obtain ⟨j, hj, e⟩ := i32_ex h.1
    subst e
    rw [nn_toInt hj] at h
    rw [nn_toInt hj, nn_nat hj, if_pos (show 0 ≤ (j : Int) ∧ (j : Int) ≤ (n : Int) - 1 by omega), if_pos h]
    simp only [nn_60, nn_add, nn_lt0 (60 * t + j) (by omega), nn_nat (show 60 * t + j < 2147483648 by omega), show 60 * t + j < 360 by omega, not_false_eq_true, and_self, if_true, Option.bind_some, e6 j (by omega)]
  · rw [if_neg (show ¬ (0 ≤ i.toInt ∧ i.toInt ≤ (n : Int) - 1) by omega), if_neg h]
theorem pair_item (a i : Int32) (v : Int64) (R : RelT I L) : Both (fX9_item 1 a i v) (fX10_item 62 a i v) I L (fun I' L' => RelT I' L' ∧ Ch TS' [] TT' I L I' L') := by
  unfold fX9_item fX10_item Both
  simp only [isTape_s, Option.bind_some, ite10]
  by_cases ha : 0 ≤ a.toInt ∧ a.toInt ≤ 5
  rotate_left
  · exact ⟨-1, I, L, I, L, by simp only [kd_1, gI_1, pI_1, gR_1_0, gR_1_1, gR_1_3, gR_1_4, gR_1_5, gR_1_6, gR_1_7, gR_1_8, ln_49, xR_49, if_true, tp_not I L ha, Option.bind_some], by rw [if_neg ha], R, Ch.rf I L⟩
  obtain ⟨t, ht, e⟩ := t_ex ha
  obtain ⟨n, hn, e1, e2, e3, e4, e5, e6⟩ := R t ht
  have e7 : (0 ≤ I 82 t) ↔ ¬ I (50 + 2 * t) 0 = -1 := by
    rw [e3, i32_le, i32_eq, show (0 : Int32).toInt = 0 by decide, show (-1 : Int32).toInt = -1 by decide]
    omega
  simp only [kd_1, gI_1, pI_1, gR_1_0, gR_1_1, gR_1_3, gR_1_4, gR_1_5, gR_1_6, gR_1_7, gR_1_8, ln_49, xR_49, if_true, tp_at I L ht a e, Option.bind_some, show ¬ 50 + 2 * t = 0 by omega, if_false, tp_kd I L ht, tp_holds I L ht, tp_has I L ht hn e1]
  simp only [if_pos ha]
  subst e
  by_cases hs : I (50 + 2 * t) 0 = -1
  · refine ⟨-11, I, L, I, L, ?_, ?_, R, Ch.rf I L⟩
    · simp only [if_pos hs, one0, if_false]
    · simp only [kd_62, gI_62, pI_62, gR_62_1, gR_62_4, gR_62_6, gR_62_8, gR_62_10, gR_62_11, gR_62_12, gR_62_14, gR_62_16, gR_62_17, gR_62_18, gR_62_20, gR_62_21, gR_62_22, gR_62_23, gR_62_24, gR_62_28, gR_62_31, gR_62_32, gR_62_33, gR_62_34, gR_62_35, gR_62_37, gR_62_38, gJ_62, pJ_62, ln_63, xJ_63, yJ_63, ln_64, xI_64, yI_64, ln_65, xI_65, yI_65, ln_66, xI_66, yI_66, ln_67, xJ_67, yJ_67, ln_68, xJ_68, yJ_68, ln_69, xI_69, yI_69, ln_70, xI_70, yI_70, ln_71, xI_71, yI_71, ln_72, xI_72, yI_72, ln_73, xI_73, yI_73, ln_74, xI_74, yI_74, ln_75, xI_75, yI_75, ln_76, xJ_76, yJ_76, ln_77, xJ_77, yJ_77, ln_78, xI_78, yI_78, ln_79, xI_79, yI_79, ln_80, xI_80, yI_80, ln_81, xJ_81, yJ_81, ln_82, xI_82, yI_82, ln_83, xI_83, yI_83, ln_84, xJ_84, yJ_84, ln_85, xJ_85, yJ_85, ln_86, xI_86, yI_86, Option.bind_some, nn_lt0 (t) (by omega), nn_nat (show t < 2147483648 by omega), show t < 6 by omega, not_false_eq_true, and_self, if_true, if_neg (show ¬ 0 ≤ I 82 t from fun h => e7.mp h hs)]
  by_cases h : 0 ≤ i.toInt ∧ i.toInt < n
  rotate_left
  · refine ⟨-13, I, L, I, L, ?_, ?_, R, Ch.rf I L⟩
    · simp only [if_neg hs, if_true, if_neg h]
    · simp only [kd_62, gI_62, pI_62, gR_62_1, gR_62_4, gR_62_6, gR_62_8, gR_62_10, gR_62_11, gR_62_12, gR_62_14, gR_62_16, gR_62_17, gR_62_18, gR_62_20, gR_62_21, gR_62_22, gR_62_23, gR_62_24, gR_62_28, gR_62_31, gR_62_32, gR_62_33, gR_62_34, gR_62_35, gR_62_37, gR_62_38, gJ_62, pJ_62, ln_63, xJ_63, yJ_63, ln_64, xI_64, yI_64, ln_65, xI_65, yI_65, ln_66, xI_66, yI_66, ln_67, xJ_67, yJ_67, ln_68, xJ_68, yJ_68, ln_69, xI_69, yI_69, ln_70, xI_70, yI_70, ln_71, xI_71, yI_71, ln_72, xI_72, yI_72, ln_73, xI_73, yI_73, ln_74, xI_74, yI_74, ln_75, xI_75, yI_75, ln_76, xJ_76, yJ_76, ln_77, xJ_77, yJ_77, ln_78, xI_78, yI_78, ln_79, xI_79, yI_79, ln_80, xI_80, yI_80, ln_81, xJ_81, yJ_81, ln_82, xI_82, yI_82, ln_83, xI_83, yI_83, ln_84, xJ_84, yJ_84, ln_85, xJ_85, yJ_85, ln_86, xI_86, yI_86, Option.bind_some, nn_lt0 (t) (by omega), nn_nat (show t < 2147483648 by omega), show t < 6 by omega, not_false_eq_true, and_self, if_true, if_pos (e7.mpr hs), in_s, e2, i64_of32, nn_sub1 (show n < 2147483648 by omega), Int64.reduceToInt, ite10, if_neg (show ¬ (0 ≤ i.toInt ∧ i.toInt ≤ (n : Int) - 1) by omega)]
  obtain ⟨j, hj, e⟩ := i32_ex h.1
  subst e
  rw [nn_toInt hj] at h
  let w := low (I (50 + 2 * t) 0) v
  let L1 := up1 L (51 + 2 * t) (up1 (L (51 + 2 * t)) j w)
  have hset : fX7_set (50 + 2 * t) (nn j) v (mk I L) = some ((), mk I L1) := by
    unfold fX7_set
    simp only [tp_kd I L ht, if_true, tp_has I L ht hn e1, tp_gR I L ht, Option.bind_some, ite10, nn_toInt hj, if_pos h, tp_low I L ht e4 hs, tp_yJ I L ht, nn_lt0 (j) (by omega), nn_nat (show j < 2147483648 by omega), show j < 60 by omega, not_false_eq_true, and_self, if_true]
    rfl
  refine ⟨1, I, L1, I, up1 L1 84 (up1 (L1 84) (60 * t + j) w), ?_, ?_, fun t' ht' => ?_, ⟨fun _ _ _ => rfl, fun _ _ => rfl, fun r hr => ?_⟩⟩
  · simp only [if_neg hs, if_true, nn_toInt hj, if_pos h, one0, if_false, hset, Option.bind_some]
  · simp only [kd_62, gI_62, pI_62, gR_62_1, gR_62_4, gR_62_6, gR_62_8, gR_62_10, gR_62_11, gR_62_12, gR_62_14, gR_62_16, gR_62_17, gR_62_18, gR_62_20, gR_62_21, gR_62_22, gR_62_23, gR_62_24, gR_62_28, gR_62_31, gR_62_32, gR_62_33, gR_62_34, gR_62_35, gR_62_37, gR_62_38, gJ_62, pJ_62, ln_63, xJ_63, yJ_63, ln_64, xI_64, yI_64, ln_65, xI_65, yI_65, ln_66, xI_66, yI_66, ln_67, xJ_67, yJ_67, ln_68, xJ_68, yJ_68, ln_69, xI_69, yI_69, ln_70, xI_70, yI_70, ln_71, xI_71, yI_71, ln_72, xI_72, yI_72, ln_73, xI_73, yI_73, ln_74, xI_74, yI_74, ln_75, xI_75, yI_75, ln_76, xJ_76, yJ_76, ln_77, xJ_77, yJ_77, ln_78, xI_78, yI_78, ln_79, xI_79, yI_79, ln_80, xI_80, yI_80, ln_81, xJ_81, yJ_81, ln_82, xI_82, yI_82, ln_83, xI_83, yI_83, ln_84, xJ_84, yJ_84, ln_85, xJ_85, yJ_85, ln_86, xI_86, yI_86, Option.bind_some, nn_lt0 (t) (by omega), nn_nat (show t < 2147483648 by omega), show t < 6 by omega, not_false_eq_true, and_self, if_true, if_pos (e7.mpr hs), in_s, e2, i64_of32, nn_toInt hj, nn_sub1 (show n < 2147483648 by omega), Int64.reduceToInt, ite10, if_pos (show 0 ≤ (j : Int) ∧ (j : Int) ≤ (n : Int) - 1 by omega), held_s, nn_60, nn_add, nn_lt0 (60 * t + j) (by omega), nn_nat (show 60 * t + j < 2147483648 by omega), show 60 * t + j < 360 by omega, not_false_eq_true, and_self, if_true]
    rw [e3]
  · obtain ⟨m, hm, f1, f2, f3, f4, f5, f6⟩ := R t' ht'
    refine ⟨m, hm, f1, f2, f3, f4, f5, fun q hq => ?_⟩
    rw [up1_s, up1_n _ _ (show 51 + 2 * t' ≠ 84 by omega)]
    have h84 : L1 84 = L 84 := up1_n _ _ (show 84 ≠ 51 + 2 * t by omega)
    rw [h84]
    by_cases htt : t' = t
    · subst htt
      rw [show L1 (51 + 2 * t') = up1 (L (51 + 2 * t')) j w from up1_s _ _ _]
      simp only [up1_e, show (60 * t' + q = 60 * t' + j) = (q = j) from propext ⟨fun h => by omega, fun h => by omega⟩, f6 q hq]
    · rw [show L1 (51 + 2 * t') = L (51 + 2 * t') from up1_n _ _ (by omega), up1_n _ _ (show 60 * t' + q ≠ 60 * t + j by omega)]
      exact f6 q hq
  · rw [up1_n _ _ (fun e => hr (by rw [e]; decide))]
    exact up1_n _ _ (fun e => hr (by rw [e]; exact TT_in ht))
end PT
