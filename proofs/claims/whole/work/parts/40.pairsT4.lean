/-- a stretch of a row, put elsewhere in it -/
def sh (A : Nat → Int64) (f g c : Nat) : Nat → Int64 := fun k => if g ≤ k ∧ k < g + c then A (f + (k - g)) else A k
section PW
variable (I : Nat → Nat → Int32) (L : Nat → Nat → Int64)
theorem shift_loop {t s p q c : Nat} (ht : t < 6) (hs : s < 6) (h1 : p + c ≤ 60) (h2 : q + c ≤ 60) : lpF (fun k19 ((v17, h18) : Int32 × Mem) =>
              if nn c ≤ v17 then
               some ((nn c : Int32), h18)
              else
               jn (fun (v21 : Int32) =>
                (gR 10 h18 62 35).bind fun v24 =>
                (gR 10 h18 62 35).bind fun v25 =>
                (xJ h18 v25 (((60 * nn t) + nn p) + v21)).bind fun v26 =>
                (yJ h18 v24 (((60 * nn s) + nn q) + v21) v26).bind fun h27 =>
                nm (v17 + 1 : Int32) fun v28 =>
                k19 (v28, h27)) (fun k22 =>
                if nn q ≤ nn p then
                 k22 v17
                else
                 k22 ((nn c - 1) - v17))) FU (0, mk I L) = some (nn c, mk I (up1 L 84 (sh (L 84) (60 * t + p) (60 * s + q) c))) := by
  by_cases hpq : q ≤ p
  · have g1 : nn q ≤ nn p := (nn_le (by omega) (by omega)).mpr hpq
    refine lp_for' (fun e => (nn e, mk I (up1 L 84 (sh (L 84) (60 * t + p) (60 * s + q) e)))) ?_ c (fun e he k => ?_) (fun k => ?_) (FU_gt (by omega))
    · have e0 : sh (L 84) (60 * t + p) (60 * s + q) 0 = L 84 := funext fun k => if_neg (by omega)
      show (0, mk I L) = (nn 0, mk I (up1 L 84 (sh (L 84) (60 * t + p) (60 * s + q) 0)))
      rw [e0, up1_id]
      rfl
    · have g2 : ¬ nn c ≤ nn e := fun h => by
        have := (nn_le (by omega) (by omega)).mp h
        omega
      have g3 : sh (L 84) (60 * t + p) (60 * s + q) e (60 * t + p + e) = L 84 (60 * t + p + e) := if_neg (by omega)
      have g4 : up1 (sh (L 84) (60 * t + p) (60 * s + q) e) (60 * s + q + e) (L 84 (60 * t + p + e)) = sh (L 84) (60 * t + p) (60 * s + q) (e + 1) := by
        funext k
        unfold sh
        rw [up1_e]
        by_cases h3 : k = 60 * s + q + e
        · rw [if_pos h3, if_pos (by omega), show 60 * t + p + (k - (60 * s + q)) = 60 * t + p + e by omega]
        · rw [if_neg h3]
          by_cases h4 : 60 * s + q ≤ k ∧ k < 60 * s + q + e
          · rw [if_pos h4, if_pos (by omega)]
          · rw [if_neg h4, if_neg (by omega)]
      simp only [if_neg g2, jn, if_pos g1, gR_62_35, xJ_84, yJ_84, Option.bind_some, nn_60, nn_add, nn_lt0 (60 * t + p + e) (by omega), nn_nat (show 60 * t + p + e < 2147483648 by omega), show 60 * t + p + e < 360 by omega, not_false_eq_true, and_self, if_true, nn_lt0 (60 * s + q + e) (by omega), nn_nat (show 60 * s + q + e < 2147483648 by omega), show 60 * s + q + e < 360 by omega, not_false_eq_true, and_self, if_true, up1_s, up1_up1, g3, g4, nm, nn_s]
    · show (if nn c ≤ nn c then _ else _) = _
      rw [if_pos ((nn_le (by omega) (by omega)).mpr (Nat.le_refl c))]
  · have g1 : ¬ nn q ≤ nn p := fun h => hpq ((nn_le (by omega) (by omega)).mp h)
    refine lp_for' (fun e => (nn e, mk I (up1 L 84 (fun k => if 60 * s + q + (c - e) ≤ k ∧ k < 60 * s + q + c then L 84 (60 * t + p + (k - (60 * s + q))) else L 84 k)))) ?_ c (fun e he k => ?_) (fun k => ?_) (FU_gt (by omega))
    · have e0 : (fun k => if 60 * s + q + (c - 0) ≤ k ∧ k < 60 * s + q + c then L 84 (60 * t + p + (k - (60 * s + q))) else L 84 k) = L 84 := funext fun k => if_neg (by omega)
      show (0, mk I L) = (nn 0, mk I (up1 L 84 (fun k => if 60 * s + q + (c - 0) ≤ k ∧ k < 60 * s + q + c then L 84 (60 * t + p + (k - (60 * s + q))) else L 84 k)))
      rw [e0, up1_id]
      rfl
    · have g2 : ¬ nn c ≤ nn e := fun h => by
        have := (nn_le (by omega) (by omega)).mp h
        omega
      obtain ⟨m, hm⟩ : ∃ m, m = c - 1 - e := ⟨_, rfl⟩
      have g5 : nn c - 1 - nn e = nn m := by
        rw [show nn c - 1 = nn (c - 1) from nn_sub (b := 1) (by omega), nn_sub (by omega), hm]
      have g3 : (if 60 * s + q + (c - e) ≤ 60 * t + p + m ∧ 60 * t + p + m < 60 * s + q + c then L 84 (60 * t + p + (60 * t + p + m - (60 * s + q))) else L 84 (60 * t + p + m)) = L 84 (60 * t + p + m) := if_neg (by omega)
      have g4 : up1 (fun k => if 60 * s + q + (c - e) ≤ k ∧ k < 60 * s + q + c then L 84 (60 * t + p + (k - (60 * s + q))) else L 84 k) (60 * s + q + m) (L 84 (60 * t + p + m)) = (fun k => if 60 * s + q + (c - (e + 1)) ≤ k ∧ k < 60 * s + q + c then L 84 (60 * t + p + (k - (60 * s + q))) else L 84 k) := by
        funext k
        rw [up1_e]
        by_cases h3 : k = 60 * s + q + m
        · rw [if_pos h3, if_pos (by omega), show 60 * t + p + (k - (60 * s + q)) = 60 * t + p + m by omega]
        · rw [if_neg h3]
          by_cases h4 : 60 * s + q + (c - e) ≤ k ∧ k < 60 * s + q + c
          · rw [if_pos h4, if_pos (by omega)]
          · rw [if_neg h4, if_neg (by omega)]
      simp only [if_neg g2, jn, if_neg g1, g5, gR_62_35, xJ_84, yJ_84, Option.bind_some, nn_60, nn_add, nn_lt0 (60 * t + p + m) (by omega), nn_nat (show 60 * t + p + m < 2147483648 by omega), show 60 * t + p + m < 360 by omega, not_false_eq_true, and_self, if_true, nn_lt0 (60 * s + q + m) (by omega), nn_nat (show 60 * s + q + m < 2147483648 by omega), show 60 * s + q + m < 360 by omega, not_false_eq_true, and_self, if_true, up1_s, up1_up1, g3, g4, nm, nn_s]
    · show (if nn c ≤ nn c then _ else _) = _
      rw [if_pos ((nn_le (by omega) (by omega)).mpr (Nat.le_refl c)), Nat.sub_self]
      rfl
theorem there_s {t n : Nat} (ht : t < 6) (hn : n ≤ 60) (e : I 83 t = nn n) (i m : Int32) : fX10_areThere 62 (nn t) i m (mk I L) = some (if 0 ≤ i.toInt ∧ i.toInt + m.toInt ≤ n then 1 else 0, mk I L) := by
  unfold fX10_areThere
  by_cases h1 : 0 ≤ i.toInt
  rotate_left
  · rw [if_pos (by rw [i32_lt]; simp; omega), if_neg (by omega)]
  rw [if_neg (by rw [i32_lt]; simp; omega)]
  simp only [kd_62, gI_62, pI_62, gR_62_1, gR_62_4, gR_62_6, gR_62_8, gR_62_10, gR_62_11, gR_62_12, gR_62_14, gR_62_16, gR_62_17, gR_62_18, gR_62_20, gR_62_21, gR_62_22, gR_62_23, gR_62_24, gR_62_28, gR_62_31, gR_62_32, gR_62_33, gR_62_34, gR_62_35, gR_62_37, gR_62_38, gJ_62, pJ_62, ln_63, xJ_63, yJ_63, ln_64, xI_64, yI_64, ln_65, xI_65, yI_65, ln_66, xI_66, yI_66, ln_67, xJ_67, yJ_67, ln_68, xJ_68, yJ_68, ln_69, xI_69, yI_69, ln_70, xI_70, yI_70, ln_71, xI_71, yI_71, ln_72, xI_72, yI_72, ln_73, xI_73, yI_73, ln_74, xI_74, yI_74, ln_75, xI_75, yI_75, ln_76, xJ_76, yJ_76, ln_77, xJ_77, yJ_77, ln_78, xI_78, yI_78, ln_79, xI_79, yI_79, ln_80, xI_80, yI_80, ln_81, xJ_81, yJ_81, ln_82, xI_82, yI_82, ln_83, xI_83, yI_83, ln_84, xJ_84, yJ_84, ln_85, xJ_85, yJ_85, ln_86, xI_86, yI_86, Option.bind_some, nn_lt0 (t) (by omega), nn_nat (show t < 2147483648 by omega), show t < 6 by omega, not_false_eq_true, and_self, if_true, e, i32_lt]
  have h3 : (nn n - i).toInt = n - i.toInt := by
    rw [Int32.toInt_sub, nn_toInt (by omega)]
    have := i.toInt_lt
    apply Int.bmod_eq_of_le <;> omega
  rw [h3]
  by_cases h4 : i.toInt + m.toInt ≤ n
  · rw [if_neg (by omega), if_pos ⟨h1, h4⟩]
  · rw [if_pos (by omega), if_neg (by omega)]
theorem pair_shift (a i b j m : Int32) (R : RelT I L) : Both (fX9_shift 1 a i b j m) (fX10_shift 62 a i b j m) I L (fun I' L' => RelT I' L' ∧ Ch TS' [] TT' I L I' L') := by
  unfold fX9_shift fX10_shift Both
  simp only [isTape_s, Option.bind_some, ite10]
  by_cases ha : 0 ≤ a.toInt ∧ a.toInt ≤ 5
  rotate_left
  · refine ⟨-1, I, L, I, L, ?_, by rw [if_neg ha], R, Ch.rf I L⟩
    simp only [kd_1, gI_1, pI_1, gR_1_0, gR_1_1, gR_1_3, gR_1_4, gR_1_5, gR_1_6, gR_1_7, gR_1_8, ln_49, xR_49, if_true, tp_not I L ha, Option.bind_some]
    by_cases hb : 0 ≤ b.toInt ∧ b.toInt ≤ 5
    · obtain ⟨s, hs, e⟩ := t_ex hb
      simp only [tp_at I L hs b e, Option.bind_some, show ¬ 50 + 2 * s = 0 by omega, if_false]
    · simp only [tp_not I L hb, Option.bind_some, if_true]
  obtain ⟨t, ht, et⟩ := t_ex ha
  by_cases hb : 0 ≤ b.toInt ∧ b.toInt ≤ 5
  rotate_left
  · refine ⟨-1, I, L, I, L, ?_, by rw [if_pos ha, if_neg hb], R, Ch.rf I L⟩
    simp only [kd_1, gI_1, pI_1, gR_1_0, gR_1_1, gR_1_3, gR_1_4, gR_1_5, gR_1_6, gR_1_7, gR_1_8, ln_49, xR_49, if_true, tp_at I L ht a et, Option.bind_some, show ¬ 50 + 2 * t = 0 by omega, if_false, tp_not I L hb]
  obtain ⟨s, hs, es⟩ := t_ex hb
  obtain ⟨n, hn, e1, e2, e3, e4, e5, e6⟩ := R t ht
  obtain ⟨k, hk, f1, f2, f3, f4, f5, f6⟩ := R s hs
  simp only [kd_1, gI_1, pI_1, gR_1_0, gR_1_1, gR_1_3, gR_1_4, gR_1_5, gR_1_6, gR_1_7, gR_1_8, ln_49, xR_49, if_true, tp_at I L ht a et, tp_at I L hs b es, Option.bind_some, show ¬ 50 + 2 * t = 0 by omega, show ¬ 50 + 2 * s = 0 by omega, if_false, tp_kd I L ht, tp_kd I L hs, tp_holds I L ht, tp_holds I L hs, tp_gI I L ht, tp_gI I L hs, tp_hasAll I L ht hn e1, tp_hasAll I L hs hk f1, tp_gR I L ht, tp_gR I L hs, if_pos ha, if_pos hb]
  subst et es
  by_cases h1 : I (50 + 2 * t) 0 = -1
  · refine ⟨-11, I, L, I, L, by simp only [if_pos h1, one0, if_false], ?_, R, Ch.rf I L⟩
    simp only [kd_62, gI_62, pI_62, gR_62_1, gR_62_4, gR_62_6, gR_62_8, gR_62_10, gR_62_11, gR_62_12, gR_62_14, gR_62_16, gR_62_17, gR_62_18, gR_62_20, gR_62_21, gR_62_22, gR_62_23, gR_62_24, gR_62_28, gR_62_31, gR_62_32, gR_62_33, gR_62_34, gR_62_35, gR_62_37, gR_62_38, gJ_62, pJ_62, ln_63, xJ_63, yJ_63, ln_64, xI_64, yI_64, ln_65, xI_65, yI_65, ln_66, xI_66, yI_66, ln_67, xJ_67, yJ_67, ln_68, xJ_68, yJ_68, ln_69, xI_69, yI_69, ln_70, xI_70, yI_70, ln_71, xI_71, yI_71, ln_72, xI_72, yI_72, ln_73, xI_73, yI_73, ln_74, xI_74, yI_74, ln_75, xI_75, yI_75, ln_76, xJ_76, yJ_76, ln_77, xJ_77, yJ_77, ln_78, xI_78, yI_78, ln_79, xI_79, yI_79, ln_80, xI_80, yI_80, ln_81, xJ_81, yJ_81, ln_82, xI_82, yI_82, ln_83, xI_83, yI_83, ln_84, xJ_84, yJ_84, ln_85, xJ_85, yJ_85, ln_86, xI_86, yI_86, Option.bind_some, nn_lt0 (t) (by omega), nn_nat (show t < 2147483648 by omega), show t < 6 by omega, not_false_eq_true, and_self, if_true, e3, h1, show (-1 : Int32) < 0 by decide]
  have q1 : ¬ I (50 + 2 * t) 0 < 0 := by
    rw [i32_lt, show (0 : Int32).toInt = 0 by decide]
    intro h
    exact h1 (i32_eq.mpr (by rw [show (-1 : Int32).toInt = -1 by decide]; omega))
  by_cases h2 : I (50 + 2 * s) 0 = -1
  · refine ⟨-11, I, L, I, L, by simp only [if_neg h1, if_pos h2, one0, if_false, if_true], ?_, R, Ch.rf I L⟩
    simp only [kd_62, gI_62, pI_62, gR_62_1, gR_62_4, gR_62_6, gR_62_8, gR_62_10, gR_62_11, gR_62_12, gR_62_14, gR_62_16, gR_62_17, gR_62_18, gR_62_20, gR_62_21, gR_62_22, gR_62_23, gR_62_24, gR_62_28, gR_62_31, gR_62_32, gR_62_33, gR_62_34, gR_62_35, gR_62_37, gR_62_38, gJ_62, pJ_62, ln_63, xJ_63, yJ_63, ln_64, xI_64, yI_64, ln_65, xI_65, yI_65, ln_66, xI_66, yI_66, ln_67, xJ_67, yJ_67, ln_68, xJ_68, yJ_68, ln_69, xI_69, yI_69, ln_70, xI_70, yI_70, ln_71, xI_71, yI_71, ln_72, xI_72, yI_72, ln_73, xI_73, yI_73, ln_74, xI_74, yI_74, ln_75, xI_75, yI_75, ln_76, xJ_76, yJ_76, ln_77, xJ_77, yJ_77, ln_78, xI_78, yI_78, ln_79, xI_79, yI_79, ln_80, xI_80, yI_80, ln_81, xJ_81, yJ_81, ln_82, xI_82, yI_82, ln_83, xI_83, yI_83, ln_84, xJ_84, yJ_84, ln_85, xJ_85, yJ_85, ln_86, xI_86, yI_86, Option.bind_some, nn_lt0 (t) (by omega), nn_nat (show t < 2147483648 by omega), show t < 6 by omega, not_false_eq_true, and_self, if_true, nn_lt0 (s) (by omega), nn_nat (show s < 2147483648 by omega), show s < 6 by omega, not_false_eq_true, and_self, if_true, e3, f3, h2, if_neg q1]
    rw [if_neg (by decide)]
  have q2 : 0 ≤ I (50 + 2 * s) 0 := by
    rw [i32_le, show (0 : Int32).toInt = 0 by decide]
    have : ¬ (I (50 + 2 * s) 0).toInt = -1 := fun h => h2 (i32_eq.mpr h)
    omega
  by_cases h3 : I (50 + 2 * t) 0 = I (50 + 2 * s) 0
  rotate_left
  · refine ⟨-12, I, L, I, L, by simp only [if_neg h1, if_neg h2, if_true, if_neg h3], ?_, R, Ch.rf I L⟩
    simp only [kd_62, gI_62, pI_62, gR_62_1, gR_62_4, gR_62_6, gR_62_8, gR_62_10, gR_62_11, gR_62_12, gR_62_14, gR_62_16, gR_62_17, gR_62_18, gR_62_20, gR_62_21, gR_62_22, gR_62_23, gR_62_24, gR_62_28, gR_62_31, gR_62_32, gR_62_33, gR_62_34, gR_62_35, gR_62_37, gR_62_38, gJ_62, pJ_62, ln_63, xJ_63, yJ_63, ln_64, xI_64, yI_64, ln_65, xI_65, yI_65, ln_66, xI_66, yI_66, ln_67, xJ_67, yJ_67, ln_68, xJ_68, yJ_68, ln_69, xI_69, yI_69, ln_70, xI_70, yI_70, ln_71, xI_71, yI_71, ln_72, xI_72, yI_72, ln_73, xI_73, yI_73, ln_74, xI_74, yI_74, ln_75, xI_75, yI_75, ln_76, xJ_76, yJ_76, ln_77, xJ_77, yJ_77, ln_78, xI_78, yI_78, ln_79, xI_79, yI_79, ln_80, xI_80, yI_80, ln_81, xJ_81, yJ_81, ln_82, xI_82, yI_82, ln_83, xI_83, yI_83, ln_84, xJ_84, yJ_84, ln_85, xJ_85, yJ_85, ln_86, xI_86, yI_86, Option.bind_some, nn_lt0 (t) (by omega), nn_nat (show t < 2147483648 by omega), show t < 6 by omega, not_false_eq_true, and_self, if_true, nn_lt0 (s) (by omega), nn_nat (show s < 2147483648 by omega), show s < 6 by omega, not_false_eq_true, and_self, if_true, e3, f3, if_neg q1, if_pos q2, if_neg h3]
  simp only [if_neg h1, if_neg h2, if_true, if_pos h3]
  by_cases hm : 0 ≤ m.toInt
  rotate_left
  · refine ⟨-13, I, L, I, L, by simp only [if_neg (show ¬ (0 ≤ i.toInt ∧ 0 ≤ m.toInt ∧ i.toInt + m.toInt ≤ n) by omega), if_true], ?_, R, Ch.rf I L⟩
    simp only [kd_62, gI_62, pI_62, gR_62_1, gR_62_4, gR_62_6, gR_62_8, gR_62_10, gR_62_11, gR_62_12, gR_62_14, gR_62_16, gR_62_17, gR_62_18, gR_62_20, gR_62_21, gR_62_22, gR_62_23, gR_62_24, gR_62_28, gR_62_31, gR_62_32, gR_62_33, gR_62_34, gR_62_35, gR_62_37, gR_62_38, gJ_62, pJ_62, ln_63, xJ_63, yJ_63, ln_64, xI_64, yI_64, ln_65, xI_65, yI_65, ln_66, xI_66, yI_66, ln_67, xJ_67, yJ_67, ln_68, xJ_68, yJ_68, ln_69, xI_69, yI_69, ln_70, xI_70, yI_70, ln_71, xI_71, yI_71, ln_72, xI_72, yI_72, ln_73, xI_73, yI_73, ln_74, xI_74, yI_74, ln_75, xI_75, yI_75, ln_76, xJ_76, yJ_76, ln_77, xJ_77, yJ_77, ln_78, xI_78, yI_78, ln_79, xI_79, yI_79, ln_80, xI_80, yI_80, ln_81, xJ_81, yJ_81, ln_82, xI_82, yI_82, ln_83, xI_83, yI_83, ln_84, xJ_84, yJ_84, ln_85, xJ_85, yJ_85, ln_86, xI_86, yI_86, Option.bind_some, nn_lt0 (t) (by omega), nn_nat (show t < 2147483648 by omega), show t < 6 by omega, not_false_eq_true, and_self, if_true, nn_lt0 (s) (by omega), nn_nat (show s < 2147483648 by omega), show s < 6 by omega, not_false_eq_true, and_self, if_true, e3, f3, if_neg q1, if_pos q2, if_pos h3]
    rw [if_pos (by rw [i32_lt]; simp; omega)]
  have q3 : ¬ m < 0 := by rw [i32_lt]; simp; omega
  by_cases hi : 0 ≤ i.toInt ∧ i.toInt + m.toInt ≤ n
  rotate_left
  · refine ⟨-13, I, L, I, L, by simp only [if_neg (show ¬ (0 ≤ i.toInt ∧ 0 ≤ m.toInt ∧ i.toInt + m.toInt ≤ n) by omega), if_true], ?_, R, Ch.rf I L⟩
    simp only [kd_62, gI_62, pI_62, gR_62_1, gR_62_4, gR_62_6, gR_62_8, gR_62_10, gR_62_11, gR_62_12, gR_62_14, gR_62_16, gR_62_17, gR_62_18, gR_62_20, gR_62_21, gR_62_22, gR_62_23, gR_62_24, gR_62_28, gR_62_31, gR_62_32, gR_62_33, gR_62_34, gR_62_35, gR_62_37, gR_62_38, gJ_62, pJ_62, ln_63, xJ_63, yJ_63, ln_64, xI_64, yI_64, ln_65, xI_65, yI_65, ln_66, xI_66, yI_66, ln_67, xJ_67, yJ_67, ln_68, xJ_68, yJ_68, ln_69, xI_69, yI_69, ln_70, xI_70, yI_70, ln_71, xI_71, yI_71, ln_72, xI_72, yI_72, ln_73, xI_73, yI_73, ln_74, xI_74, yI_74, ln_75, xI_75, yI_75, ln_76, xJ_76, yJ_76, ln_77, xJ_77, yJ_77, ln_78, xI_78, yI_78, ln_79, xI_79, yI_79, ln_80, xI_80, yI_80, ln_81, xJ_81, yJ_81, ln_82, xI_82, yI_82, ln_83, xI_83, yI_83, ln_84, xJ_84, yJ_84, ln_85, xJ_85, yJ_85, ln_86, xI_86, yI_86, Option.bind_some, nn_lt0 (t) (by omega), nn_nat (show t < 2147483648 by omega), show t < 6 by omega, not_false_eq_true, and_self, if_true, nn_lt0 (s) (by omega), nn_nat (show s < 2147483648 by omega), show s < 6 by omega, not_false_eq_true, and_self, if_true, e3, f3, if_neg q1, if_pos q2, if_pos h3, if_neg q3, there_s I L ht hn e2, if_neg hi]
  by_cases hj : 0 ≤ j.toInt ∧ j.toInt + m.toInt ≤ k
  rotate_left
  · refine ⟨-13, I, L, I, L, by simp only [if_pos (show 0 ≤ i.toInt ∧ 0 ≤ m.toInt ∧ i.toInt + m.toInt ≤ n by omega), one0, if_false, if_neg (show ¬ (0 ≤ j.toInt ∧ 0 ≤ m.toInt ∧ j.toInt + m.toInt ≤ k) by omega), if_true], ?_, R, Ch.rf I L⟩
    simp only [kd_62, gI_62, pI_62, gR_62_1, gR_62_4, gR_62_6, gR_62_8, gR_62_10, gR_62_11, gR_62_12, gR_62_14, gR_62_16, gR_62_17, gR_62_18, gR_62_20, gR_62_21, gR_62_22, gR_62_23, gR_62_24, gR_62_28, gR_62_31, gR_62_32, gR_62_33, gR_62_34, gR_62_35, gR_62_37, gR_62_38, gJ_62, pJ_62, ln_63, xJ_63, yJ_63, ln_64, xI_64, yI_64, ln_65, xI_65, yI_65, ln_66, xI_66, yI_66, ln_67, xJ_67, yJ_67, ln_68, xJ_68, yJ_68, ln_69, xI_69, yI_69, ln_70, xI_70, yI_70, ln_71, xI_71, yI_71, ln_72, xI_72, yI_72, ln_73, xI_73, yI_73, ln_74, xI_74, yI_74, ln_75, xI_75, yI_75, ln_76, xJ_76, yJ_76, ln_77, xJ_77, yJ_77, ln_78, xI_78, yI_78, ln_79, xI_79, yI_79, ln_80, xI_80, yI_80, ln_81, xJ_81, yJ_81, ln_82, xI_82, yI_82, ln_83, xI_83, yI_83, ln_84, xJ_84, yJ_84, ln_85, xJ_85, yJ_85, ln_86, xI_86, yI_86, Option.bind_some, nn_lt0 (t) (by omega), nn_nat (show t < 2147483648 by omega), show t < 6 by omega, not_false_eq_true, and_self, if_true, nn_lt0 (s) (by omega), nn_nat (show s < 2147483648 by omega), show s < 6 by omega, not_false_eq_true, and_self, if_true, e3, f3, if_neg q1, if_pos q2, if_pos h3, if_neg q3, there_s I L ht hn e2, there_s I L hs hk f2, if_pos hi, if_neg hj, one0, if_false]
  obtain ⟨p, hp, ep⟩ := i32_ex hi.1
  obtain ⟨q, hq, eq⟩ := i32_ex hj.1
  obtain ⟨c, hc, ec⟩ := i32_ex hm
  subst ep eq ec
  have hi' := hi
  have hj' := hj
  rw [nn_toInt hp, nn_toInt hc] at hi'
  rw [nn_toInt hq, nn_toInt hc] at hj'
  let L1 := up1 L (51 + 2 * s) (fun x => if q ≤ x ∧ x < q + c then L (51 + 2 * t) (p + (x - q)) else L (51 + 2 * s) x)
  have hcp : cpJ (mk I L) (51 + 2 * t) (nn p) (51 + 2 * s) (nn q) (nn c) = some (mk I L1) := by
    have := tp_shape I L hs ht (nn p) (nn q) (nn c) ⟨nn_nn hp, nn_nn hq, nn_nn hc⟩ (by rw [nn_nat hp, nn_nat hc]; omega) (by rw [nn_nat hq, nn_nat hc]; omega)
    rw [this, nn_nat hp, nn_nat hq, nn_nat hc]
  have h84 : L1 84 = L 84 := up1_n _ _ (by omega)
  refine ⟨nn c, I, L1, I, up1 L1 84 (sh (L1 84) (60 * t + p) (60 * s + q) c), ?_, ?_, fun t' ht' => ?_, ⟨fun _ _ _ => rfl, fun _ _ => rfl, fun r hr => ?_⟩⟩
  · simp only [if_pos (show 0 ≤ (nn p).toInt ∧ 0 ≤ (nn c).toInt ∧ (nn p).toInt + (nn c).toInt ≤ n by omega), one0, if_false, if_pos (show 0 ≤ (nn q).toInt ∧ 0 ≤ (nn c).toInt ∧ (nn q).toInt + (nn c).toInt ≤ k by omega), hcp, Option.bind_some]
  · simp only [gR_62_33, xI_82, kd_62, if_true, Option.bind_some, nn_lt0 (t) (by omega), nn_nat (show t < 2147483648 by omega), show t < 6 by omega, not_false_eq_true, and_self, if_true, nn_lt0 (s) (by omega), nn_nat (show s < 2147483648 by omega), show s < 6 by omega, not_false_eq_true, and_self, if_true, e3, f3, if_neg q1, if_pos q2, if_pos h3, if_neg q3, there_s I L1 ht hn e2, there_s I L1 hs hk f2, if_pos hi, if_pos hj, one0, if_false]
    exact shift_loop I L1 ht hs (by omega) (by omega)
  · obtain ⟨n', hn', g1, g2, g3, g4, g5, g6⟩ := R t' ht'
    refine ⟨n', hn', g1, g2, g3, g4, g5, fun x hx => ?_⟩
    rw [up1_s, up1_n _ _ (show 51 + 2 * t' ≠ 84 by omega), h84]
    unfold sh
    by_cases htt : t' = s
    · subst htt
      rw [show L1 (51 + 2 * t') = (fun x => if q ≤ x ∧ x < q + c then L (51 + 2 * t) (p + (x - q)) else L (51 + 2 * t') x) from up1_s _ _ _]
      show _ = if q ≤ x ∧ x < q + c then L (51 + 2 * t) (p + (x - q)) else L (51 + 2 * t') x
      by_cases h5 : q ≤ x ∧ x < q + c
      · rw [if_pos (by omega), if_pos h5, show 60 * t + p + (60 * t' + x - (60 * t' + q)) = 60 * t + (p + (x - q)) by omega]
        exact e6 _ (by omega)
      · rw [if_neg (by omega), if_neg h5]
        exact g6 x hx
    · rw [show L1 (51 + 2 * t') = L (51 + 2 * t') from up1_n _ _ (by omega), if_neg (by omega)]
      exact g6 x hx
  · rw [up1_n _ _ (fun e => hr (by rw [e]; decide))]
    exact up1_n _ _ (fun e => hr (by rw [e]; exact TT_in hs))
end PW
