def RelM (I : Nat → Nat → Int32) : Prop := I 62 2 = I 3 1 ∧ -9999 ≤ (I 3 1).toInt ∧ (I 3 1).toInt ≤ 9999
def RelB (I : Nat → Nat → Int32) : Prop := I 62 3 = I 3 2 ∧ 1 ≤ (I 3 2).toInt ∧ (I 3 2).toInt ≤ 40
def RelS (I : Nat → Nat → Int32) : Prop := ∃ n, n ≤ 4 ∧ I 8 0 = nn n ∧ I 62 5 = nn n ∧ ∀ j, j < 12 → I 64 j = I 9 j
def EvOK (w n : Int32) : Prop := (0 ≤ w.toInt ∧ w.toInt ≤ 2) ∧ (w.toInt = 1 → 0 ≤ n.toInt ∧ n.toInt < 5)
def RelE (I : Nat → Nat → Int32) : Prop := ∃ n, n ≤ 8 ∧ I 10 0 = nn n ∧ I 62 7 = nn n ∧ ∀ k, k < 8 → I 65 (2 * k) = I 11 (k * 3) ∧ I 65 (2 * k + 1) = I 11 (k * 3 + 1) ∧ EvOK (I 11 (k * 3)) (I 11 (k * 3 + 1))
def RelK (I : Nat → Nat → Int32) : Prop := ∃ n, n ≤ 8 ∧ I 12 0 = nn n ∧ I 62 9 = nn n ∧ ∀ k, k < 8 → I 66 (2 * k) = I 13 (k * 3) ∧ I 66 (2 * k + 1) = I 13 (k * 3 + 1)
def RelX (I : Nat → Nat → Int32) : Prop := ∃ n, n ≤ 100 ∧ I 45 0 = nn n ∧ I 62 29 = nn n ∧ ∀ j, j < 100 → I 79 j = I 48 j ∧ 0 ≤ (I 48 j).toInt ∧ (I 48 j).toInt ≤ 127
theorem nn_2m (k : Nat) : 2 * nn k = nn (2 * k) := nn_mul 2 k
theorem nn_3m (k : Nat) : 3 * nn k = nn (k * 3) := by rw [Nat.mul_comm]; exact nn_mul 3 k
theorem nn_p1 (k : Nat) : nn k + 1 = nn (k + 1) := nn_add k 1
theorem nn_p2 (k : Nat) : nn k + 2 = nn (k + 2) := nn_add k 2
theorem nn_eq {a b : Nat} (h1 : a < 2147483648) (h2 : b < 2147483648) : nn a = nn b ↔ a = b := by
  rw [i32_eq, nn_toInt h1, nn_toInt h2]
  omega
section PS
variable (I : Nat → Nat → Int32) (L : Nat → Nat → Int64)
theorem pair_equal (v : Int32) (R : RelM I) : Both (fX9_equal 1 v) (fX10_equal 62 v) I L (fun I' L' => RelM I' ∧ Ch [3] [2] [] I L I' L' ∧ I' 3 2 = I 3 2) := by
  by_cases h : -9999 ≤ v.toInt ∧ v.toInt ≤ 9999
  · have hf := equal_C I L v
    rw [if_pos h] at hf
    have hg := equal_M (up1 I 3 (up1 (I 3) 1 v)) L v
    rw [if_pos h] at hg
    refine Both_of hf hg ?_ ⟨⟨?_, ?_⟩, ((ChI I L [3] [2] [] (by simp) (by decide)).tr (ChK _ L [3] [2] [] (by simp))).mono (by simp) (by simp) (by simp), ?_⟩
    · rw [up1_n _ _ (by decide), R.1]
    · rw [up1_s, up1_s, up1_n _ _ (by decide), up1_s, up1_s]
    · rw [up1_n _ _ (by decide), up1_s, up1_s]
      exact h
    · rw [up1_n _ _ (by decide), up1_s, up1_n _ _ (by decide)]
  · exact ⟨-2, I, L, I, L, by rw [equal_C, if_neg h], by rw [equal_M, if_neg h], R, Ch.rf I L, rfl⟩
theorem pair_window (v : Int32) (R : RelB I) : Both (fX9_window 1 v) (fX10_window 62 v) I L (fun I' L' => RelB I' ∧ Ch [3] [3] [] I L I' L' ∧ I' 3 1 = I 3 1) := by
  by_cases h : 1 ≤ v.toInt ∧ v.toInt ≤ 40
  · have hf := window_C I L v
    rw [if_pos h] at hf
    have hg := window_M (up1 I 3 (up1 (I 3) 2 v)) L v
    rw [if_pos h] at hg
    refine Both_of hf hg ?_ ⟨⟨?_, ?_⟩, ((ChI I L [3] [3] [] (by simp) (by decide)).tr (ChK _ L [3] [3] [] (by simp))).mono (by simp) (by simp) (by simp), ?_⟩
    · rw [up1_n _ _ (by decide), R.1]
    · rw [up1_s, up1_s, up1_n _ _ (by decide), up1_s, up1_s]
    · rw [up1_n _ _ (by decide), up1_s, up1_s]
      exact h
    · rw [up1_n _ _ (by decide), up1_s, up1_n _ _ (by decide)]
  · exact ⟨-2, I, L, I, L, by rw [window_C, if_neg h], by rw [window_M, if_neg h], R, Ch.rf I L, rfl⟩
theorem l64_32 (x : Int32) : x.toInt64.toInt32 = x := by
  rw [i32_eq, Int64.toInt_toInt32, i64_of32]
  have := x.le_toInt
  have := x.toInt_lt
  apply Int.bmod_eq_of_le <;> omega
theorem pair_of (i : Int32) (R : RelN I L) : Both (fX9_of 1 i) (fX10_of 62 i) I L (fun I' L' => I' = I ∧ L' = L) := by
  obtain ⟨d, a, hC, hM, hV⟩ := R
  have hd := hV.1
  have e4 : (I 4 0).toInt = d := by rw [hC.1, nn_toInt (by omega)]
  have e62 : (I 62 0).toInt = d := by rw [hM.1, nn_toInt (by omega)]
  unfold fX9_of fX10_of
  by_cases h : 0 ≤ i.toInt ∧ i.toInt ≤ d
  · have hn := nat_toInt h.1
    refine ⟨I 5 i.toNatClampNeg + 100, I, L, I, L, ?_, ?_, rfl, rfl⟩
    · simp only [kd_1, gI_1, pI_1, gR_1_0, gR_1_1, gR_1_3, gR_1_4, gR_1_5, gR_1_6, gR_1_7, gR_1_8, ln_49, xR_49, kd_2, gI_2, pI_2, gR_2_0, gR_2_1, gR_2_2, gR_2_3, kd_3, gI_3, pI_3, gR_3_0, kd_4, gI_4, pI_4, gR_4_1, gR_4_2, gR_4_3, ln_5, xI_5, yI_5, ln_6, xJ_6, yJ_6, ln_7, xJ_7, yJ_7, if_true, has_4, get_4, Option.bind_some, ite10, e4, if_pos (show 0 ≤ i.toInt ∧ i.toInt ≤ (d : Int) ∧ i.toInt < 5 by omega), one0, if_false]
    · simp only [kd_62, if_true, isNumber_s, Option.bind_some, ite10, e62, if_pos h, one0, if_false, gR_62_1, xJ_63, show i.toNatClampNeg < 5 by omega, show ¬ i < 0 by rw [i32_lt]; simp; omega, not_false_eq_true, and_self]
      rw [hM.2 _ (by omega), ← (show (I 5 i.toNatClampNeg).toInt64 = a i.toNatClampNeg from hC.2 _ (by omega)), l64_32]
  · refine ⟨-1, I, L, I, L, ?_, ?_, rfl, rfl⟩
    · simp only [kd_1, gI_1, pI_1, gR_1_0, gR_1_1, gR_1_3, gR_1_4, gR_1_5, gR_1_6, gR_1_7, gR_1_8, ln_49, xR_49, kd_2, gI_2, pI_2, gR_2_0, gR_2_1, gR_2_2, gR_2_3, kd_3, gI_3, pI_3, gR_3_0, kd_4, gI_4, pI_4, gR_4_1, gR_4_2, gR_4_3, ln_5, xI_5, yI_5, ln_6, xJ_6, yJ_6, ln_7, xJ_7, yJ_7, if_true, has_4, Option.bind_some, ite10, e4, if_neg (show ¬ (0 ≤ i.toInt ∧ i.toInt ≤ (d : Int) ∧ i.toInt < 5) by omega)]
    · simp only [kd_62, if_true, isNumber_s, Option.bind_some, ite10, e62, if_neg h]
theorem pair_see (x y v : Int32) (R : RelS I) : Both (fX9_see 1 x y v) (fX10_see 62 x y v) I L (fun I' L' => RelS I' ∧ Ch [8, 9, 64] [5] [] I L I' L') := by
  obtain ⟨k, hk, e8, e62, he⟩ := R
  unfold fX9_see fX10_see Both
  by_cases hx : x = -100
  · simp only [hx, if_true, kd_1, gI_1, pI_1, gR_1_0, gR_1_1, gR_1_3, gR_1_4, gR_1_5, gR_1_6, gR_1_7, gR_1_8, ln_49, xR_49, kd_2, gI_2, pI_2, gR_2_0, gR_2_1, gR_2_2, gR_2_3, rempty_8, Option.bind_some]
    refine ⟨0, up1 I 8 (up1 (I 8) 0 0), L, up1 (up1 I 8 (up1 (I 8) 0 0)) 62 (up1 ((up1 I 8 (up1 (I 8) 0 0)) 62) 5 0), L, rfl, by simp only [pI_62, Option.bind_some], ⟨0, by omega, ?_, ?_, fun j hj => ?_⟩, ?_⟩
    · rw [up1_n _ _ (by decide), up1_s, up1_s]
      rfl
    · rw [up1_s, up1_s]
      rfl
    · rw [up1_n _ _ (by decide), up1_n _ _ (by decide), up1_n _ _ (by decide), up1_n _ _ (by decide)]
      exact he j hj
    · exact ((ChI I L [8, 9, 64] [5] [] (by simp) (by decide)).tr (ChK _ L [8, 9, 64] [5] [] (by simp))).mono (by simp) (by simp) (by simp)
  simp only [hx, if_false, between_s, in_s, i64_of32, Int64.reduceToInt, Int32.reduceToInt, Option.bind_some, ite10]
  by_cases h1 : -9 ≤ x.toInt ∧ x.toInt ≤ 9
  rotate_left
  · exact ⟨-2, I, L, I, L, by simp only [if_neg h1], by simp only [if_neg h1], ⟨k, hk, e8, e62, he⟩, Ch.rf I L⟩
  by_cases h2 : -9 ≤ y.toInt ∧ y.toInt ≤ 9
  rotate_left
  · exact ⟨-2, I, L, I, L, by simp only [if_pos h1, if_neg h2], by simp only [if_pos h1, if_neg h2], ⟨k, hk, e8, e62, he⟩, Ch.rf I L⟩
  by_cases h3 : -9999 ≤ v.toInt ∧ v.toInt ≤ 9999
  rotate_left
  · exact ⟨-2, I, L, I, L, by simp only [if_pos h1, if_pos h2, if_neg h3], by simp only [if_pos h1, if_pos h2, if_neg h3], ⟨k, hk, e8, e62, he⟩, Ch.rf I L⟩
  simp only [if_pos h1, if_pos h2, if_pos h3, kd_1, gI_1, pI_1, gR_1_0, gR_1_1, gR_1_3, gR_1_4, gR_1_5, gR_1_6, gR_1_7, gR_1_8, ln_49, xR_49, kd_2, gI_2, pI_2, gR_2_0, gR_2_1, gR_2_2, gR_2_3, kd_8, if_true, radd_8 I L x y v k hk e8, Option.bind_some]
  by_cases h4 : k = 4
  · simp only [h4, if_true, Option.bind_some]
    refine ⟨-4, I, L, I, L, rfl, ?_, ⟨k, hk, e8, e62, he⟩, Ch.rf I L⟩
    simp only [gI_62, Option.bind_some, e62, h4]
    rfl
  · simp only [h4, if_false, Option.bind_some]
    have q4 : ¬ nn k = 4 := fun h => h4 ((nn_eq (b := 4) (by omega) (by omega)).mp h)
    refine ⟨nn (k + 1), _, _, up1 (up1 (up1 (up1 I 9 (up1 (up1 (up1 (I 9) (k * 3) x) (k * 3 + 1) y) (k * 3 + 2) v)) 8 (up1 (I 8) 0 (nn (k + 1)))) 64 (up1 (up1 (up1 (I 64) (k * 3) x) (k * 3 + 1) y) (k * 3 + 2) v)) 62 (up1 (I 62) 5 (nn (k + 1))), L, rfl, ?_, ⟨k + 1, by omega, ?_, ?_, fun j hj => ?_⟩, ?_⟩
    · simp only [kd_62, gI_62, pI_62, gR_62_1, gR_62_4, gR_62_6, gR_62_8, gR_62_10, gR_62_11, gR_62_12, gR_62_14, gR_62_16, gR_62_17, gR_62_18, gR_62_20, gR_62_21, gR_62_22, gR_62_23, gR_62_24, gR_62_28, gR_62_31, gR_62_32, gR_62_33, gR_62_34, gR_62_35, gR_62_37, gR_62_38, gJ_62, pJ_62, ln_63, xJ_63, yJ_63, ln_64, xI_64, yI_64, ln_65, xI_65, yI_65, ln_66, xI_66, yI_66, ln_67, xJ_67, yJ_67, ln_68, xJ_68, yJ_68, ln_69, xI_69, yI_69, ln_70, xI_70, yI_70, ln_71, xI_71, yI_71, ln_72, xI_72, yI_72, ln_73, xI_73, yI_73, ln_74, xI_74, yI_74, ln_75, xI_75, yI_75, ln_76, xJ_76, yJ_76, ln_77, xJ_77, yJ_77, ln_78, xI_78, yI_78, ln_79, xI_79, yI_79, ln_80, xI_80, yI_80, ln_81, xJ_81, yJ_81, ln_82, xI_82, yI_82, ln_83, xI_83, yI_83, ln_84, xJ_84, yJ_84, ln_85, xJ_85, yJ_85, ln_86, xI_86, yI_86, Option.bind_some, up1_e, Nat.reduceEqDiff, reduceIte, e62, q4, if_false, nn_3m, nn_p1, nn_p2, nn_lt0 (k * 3) (by omega), nn_nat (show k * 3 < 2147483648 by omega), show k * 3 < 12 by omega, not_false_eq_true, and_self, if_true, nn_lt0 (k * 3 + 1) (by omega), nn_nat (show k * 3 + 1 < 2147483648 by omega), show k * 3 + 1 < 12 by omega, not_false_eq_true, and_self, if_true, nn_lt0 (k * 3 + 2) (by omega), nn_nat (show k * 3 + 2 < 2147483648 by omega), show k * 3 + 2 < 12 by omega, not_false_eq_true, and_self, if_true, up1_up1]
    · rw [up1_n _ _ (by decide), up1_n _ _ (by decide), up1_s, up1_s]
    · rw [up1_s, up1_s]
    · simp only [up1_e, Nat.reduceEqDiff, reduceIte, he j hj]
    · refine ⟨fun r hr h0 => ?_, fun q hq => ?_, fun _ _ => rfl⟩
      · rw [up1_n _ _ h0, up1_n _ _ (fun e => hr (by simp [e])), up1_n _ _ (fun e => hr (by simp [e])), up1_n _ _ (fun e => hr (by simp [e]))]
      · rw [up1_s, up1_n _ _ (fun e => hq (by simp [e]))]
end PS
