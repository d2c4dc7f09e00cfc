/-- the byte at a place of a text of n bytes -/
def nx (X : Nat → Int32) (n p : Nat) : Int32 := if p < n then X p else -1
def isD (b : Int32) : Bool := decide (48 ≤ b.toInt ∧ b.toInt ≤ 57)
/-- what the first e digits from p on make -/
def dval (X : Nat → Int32) (n p : Nat) : Nat → Int32
  | 0 => 0
  | e + 1 => dval X n p e * 10 + nx X n (p + e) - 48
def dcount (X : Nat → Int32) (n p : Nat) : Nat := ff (fun e => isD (nx X n (p + e))) 4
theorem isD_lt {X : Nat → Int32} {n p : Nat} (h : isD (nx X n p) = true) : p < n := by
  unfold isD nx at h
  by_cases h1 : p < n
  · exact h1
  · rw [if_neg h1] at h
    exact absurd h (by decide)
section TX
variable (I : Nat → Nat → Int32) (L : Nat → Nat → Int64)
theorem pair_feed (v : Int32) (R : RelX I) : Both (fX9_feed 1 v) (fX10_feed 62 v) I L (fun I' L' => RelX I' ∧ Ch [45, 48, 79] [29] [] I L I' L') := by
  obtain ⟨n, hn, e1, e2, he⟩ := R
  unfold fX9_feed fX10_feed fX5_add Both
  simp only [between_s, in_s, i64_of32, Int64.reduceToInt, Int32.reduceToInt, Option.bind_some, ite10]
  by_cases h1 : 0 ≤ v.toInt ∧ v.toInt ≤ 127
  rotate_left
  · exact ⟨-2, I, L, I, L, by simp only [if_neg h1], by simp only [if_neg h1], ⟨n, hn, e1, e2, he⟩, Ch.rf I L⟩
  simp only [if_pos h1, kd_1, gI_1, pI_1, gR_1_0, gR_1_1, gR_1_3, gR_1_4, gR_1_5, gR_1_6, gR_1_7, gR_1_8, ln_49, xR_49, kd_45, gI_45, pI_45, gR_45_1, gR_45_2, ln_48, xI_48, yI_48, kd_62, gI_62, pI_62, gR_62_1, gR_62_4, gR_62_6, gR_62_8, gR_62_10, gR_62_11, gR_62_12, gR_62_14, gR_62_16, gR_62_17, gR_62_18, gR_62_20, gR_62_21, gR_62_22, gR_62_23, gR_62_24, gR_62_28, gR_62_31, gR_62_32, gR_62_33, gR_62_34, gR_62_35, gR_62_37, gR_62_38, gJ_62, pJ_62, ln_63, xJ_63, yJ_63, ln_64, xI_64, yI_64, ln_65, xI_65, yI_65, ln_66, xI_66, yI_66, ln_67, xJ_67, yJ_67, ln_68, xJ_68, yJ_68, ln_69, xI_69, yI_69, ln_70, xI_70, yI_70, ln_71, xI_71, yI_71, ln_72, xI_72, yI_72, ln_73, xI_73, yI_73, ln_74, xI_74, yI_74, ln_75, xI_75, yI_75, ln_76, xJ_76, yJ_76, ln_77, xJ_77, yJ_77, ln_78, xI_78, yI_78, ln_79, xI_79, yI_79, ln_80, xI_80, yI_80, ln_81, xJ_81, yJ_81, ln_82, xI_82, yI_82, ln_83, xI_83, yI_83, ln_84, xJ_84, yJ_84, ln_85, xJ_85, yJ_85, ln_86, xI_86, yI_86, if_true, Option.bind_some, e1, nn_lt0 n (by omega), if_false]
  by_cases h4 : n = 100
  · refine ⟨-4, I, L, I, L, ?_, ?_, ⟨n, hn, e1, e2, he⟩, Ch.rf I L⟩
    · rw [if_neg (fun h => by have := (nn_lt (n := 100) (by omega) (by omega)).mp h; omega)]
      simp only [Option.bind_some, if_true]
    · rw [e2, h4]
      rfl
  · have q1 : nn n < 100 := (nn_lt (n := 100) (by omega) (by omega)).mpr (by omega)
    have q2 : ¬ nn n = 100 := fun h => h4 ((nn_eq (b := 100) (by omega) (by omega)).mp h)
    refine ⟨nn (n + 1), up1 (up1 I 48 (up1 (I 48) n v)) 45 (up1 (I 45) 0 (nn (n + 1))), L, up1 (up1 (up1 (up1 I 48 (up1 (I 48) n v)) 45 (up1 (I 45) 0 (nn (n + 1)))) 79 (up1 (I 79) n v)) 62 (up1 (I 62) 29 (nn (n + 1))), L, ?_, ?_, ⟨n + 1, by omega, ?_, ?_, fun j hj => ?_⟩, ?_⟩
    · simp only [if_pos q1, nn_lt0 (n) (by omega), nn_nat (show n < 2147483648 by omega), show n < 100 by omega, not_false_eq_true, and_self, if_true, Option.bind_some, kd_1, gI_1, pI_1, gR_1_0, gR_1_1, gR_1_3, gR_1_4, gR_1_5, gR_1_6, gR_1_7, gR_1_8, ln_49, xR_49, kd_45, gI_45, pI_45, gR_45_1, gR_45_2, ln_48, xI_48, yI_48, up1_e, Nat.reduceEqDiff, reduceIte, e1, nn_s, one0, if_false]
    · simp only [Option.bind_some, kd_62, gI_62, pI_62, gR_62_1, gR_62_4, gR_62_6, gR_62_8, gR_62_10, gR_62_11, gR_62_12, gR_62_14, gR_62_16, gR_62_17, gR_62_18, gR_62_20, gR_62_21, gR_62_22, gR_62_23, gR_62_24, gR_62_28, gR_62_31, gR_62_32, gR_62_33, gR_62_34, gR_62_35, gR_62_37, gR_62_38, gJ_62, pJ_62, ln_63, xJ_63, yJ_63, ln_64, xI_64, yI_64, ln_65, xI_65, yI_65, ln_66, xI_66, yI_66, ln_67, xJ_67, yJ_67, ln_68, xJ_68, yJ_68, ln_69, xI_69, yI_69, ln_70, xI_70, yI_70, ln_71, xI_71, yI_71, ln_72, xI_72, yI_72, ln_73, xI_73, yI_73, ln_74, xI_74, yI_74, ln_75, xI_75, yI_75, ln_76, xJ_76, yJ_76, ln_77, xJ_77, yJ_77, ln_78, xI_78, yI_78, ln_79, xI_79, yI_79, ln_80, xI_80, yI_80, ln_81, xJ_81, yJ_81, ln_82, xI_82, yI_82, ln_83, xI_83, yI_83, ln_84, xJ_84, yJ_84, ln_85, xJ_85, yJ_85, ln_86, xI_86, yI_86, up1_e, Nat.reduceEqDiff, reduceIte, e2, q2, if_false, nn_lt0 (n) (by omega), nn_nat (show n < 2147483648 by omega), show n < 100 by omega, not_false_eq_true, and_self, if_true, nn_s, up1_up1]
    · simp only [up1_e, Nat.reduceEqDiff, reduceIte]
    · simp only [up1_e, Nat.reduceEqDiff, reduceIte]
    · simp only [up1_e, Nat.reduceEqDiff, reduceIte]
      by_cases hj1 : j = n
      · simp only [hj1, if_true, true_and]
        exact h1
      · simp only [hj1, if_false]
        exact he j hj
    · refine ⟨fun r hr h0 => ?_, fun q hq => ?_, fun _ _ => rfl⟩
      · rw [up1_n _ _ h0, up1_n _ _ (fun e => hr (by simp [e])), up1_n _ _ (fun e => hr (by simp [e])), up1_n _ _ (fun e => hr (by simp [e]))]
      · rw [up1_s, up1_n _ _ (fun e => hq (by simp [e]))]
theorem next_s (n p : Nat) (hn : n ≤ 100) (hp : p < 100000) (e1 : I 45 0 = nn n) (e2 : I 45 3 = nn p) : fX5_next 45 (mk I L) = some (nx (I 48) n p, mk I L) := by
  unfold fX5_next nx
  simp only [kd_45, gI_45, pI_45, gR_45_1, gR_45_2, ln_48, xI_48, yI_48, Option.bind_some, e1, e2, nn_lt0 p (by omega), if_false, nn_le (show n < 2147483648 by omega) (show p < 2147483648 by omega)]
  by_cases h : p < n
  · have h1 : ¬ (100 : Int32) ≤ nn p := fun h => by
      have := (nn_le (m := 100) (by omega) (by omega)).mp h
      omega
    simp only [if_neg (show ¬ n ≤ p by omega), if_neg h1, nn_lt0 (p) (by omega), nn_nat (show p < 2147483648 by omega), show p < 100 by omega, not_false_eq_true, and_self, if_true, if_pos h, Option.bind_some]
  · simp only [if_pos (show n ≤ p by omega), if_neg h]
theorem here_s (n p : Nat) (hn : n ≤ 100) (hp : p < 100000) (e1 : I 62 29 = nn n) (e2 : I 62 30 = nn p) : fX10_here 62 (mk I L) = some (nx (I 79) n p, mk I L) := by
  unfold fX10_here nx
  simp only [kd_62, gI_62, pI_62, gR_62_1, gR_62_4, gR_62_6, gR_62_8, gR_62_10, gR_62_11, gR_62_12, gR_62_14, gR_62_16, gR_62_17, gR_62_18, gR_62_20, gR_62_21, gR_62_22, gR_62_23, gR_62_24, gR_62_28, gR_62_31, gR_62_32, gR_62_33, gR_62_34, gR_62_35, gR_62_37, gR_62_38, gJ_62, pJ_62, ln_63, xJ_63, yJ_63, ln_64, xI_64, yI_64, ln_65, xI_65, yI_65, ln_66, xI_66, yI_66, ln_67, xJ_67, yJ_67, ln_68, xJ_68, yJ_68, ln_69, xI_69, yI_69, ln_70, xI_70, yI_70, ln_71, xI_71, yI_71, ln_72, xI_72, yI_72, ln_73, xI_73, yI_73, ln_74, xI_74, yI_74, ln_75, xI_75, yI_75, ln_76, xJ_76, yJ_76, ln_77, xJ_77, yJ_77, ln_78, xI_78, yI_78, ln_79, xI_79, yI_79, ln_80, xI_80, yI_80, ln_81, xJ_81, yJ_81, ln_82, xI_82, yI_82, ln_83, xI_83, yI_83, ln_84, xJ_84, yJ_84, ln_85, xJ_85, yJ_85, ln_86, xI_86, yI_86, Option.bind_some, e1, e2, nn_le (show n < 2147483648 by omega) (show p < 2147483648 by omega)]
  by_cases h : p < n
  · simp only [if_neg (show ¬ n ≤ p by omega), nn_lt0 (p) (by omega), nn_nat (show p < 2147483648 by omega), show p < 100 by omega, not_false_eq_true, and_self, if_true, if_pos h, Option.bind_some]
  · simp only [if_pos (show n ≤ p by omega), if_neg h]
theorem atDigit_s (n p : Nat) (hn : n ≤ 100) (hp : p < 100000) (e1 : I 45 0 = nn n) (e2 : I 45 3 = nn p) : fX5_isAtDigit 45 (mk I L) = some (if isD (nx (I 48) n p) = true then 1 else 0, mk I L) := by
  unfold fX5_isAtDigit isD
  simp only [kd_45, if_true, next_s I L n p hn hp e1 e2, Option.bind_some, i32_lt, Int32.reduceToInt, decide_eq_true_iff]
  repeat' split
  all_goals first | rfl | (exfalso; omega)
theorem isDigit_s (n p : Nat) (hn : n ≤ 100) (hp : p < 100000) (e1 : I 62 29 = nn n) (e2 : I 62 30 = nn p) : fX10_isDigit 62 (mk I L) = some (if isD (nx (I 79) n p) = true then 1 else 0, mk I L) := by
  unfold fX10_isDigit isD
  simp only [kd_62, if_true, here_s I L n p hn hp e1 e2, Option.bind_some, in_s, i64_of32, Int64.reduceToInt, b01, decide_eq_true_iff]
end TX
