section PE
variable (I : Nat → Nat → Int32) (L : Nat → Nat → Int64)
/-- the class's add to EVENTS, the reference's -/
theorem add_event (w n : Int32) (hw : EvOK w n) (R : RelE I) : ∃ r I1 I2, fX4_add 10 w n 0 (mk I L) = some (r, mk I1 L) ∧ RelE I2 ∧ Ch [10, 11, 65] [7] [] I L I2 L ∧ (Ch [10, 11] [] [] I L I1 L) ∧
   ((gI 10 (mk I1 L) 62 7).bind fun v13 =>
       if v13 = 8 then
        some (((-4) : Int32), mk I1 L)
       else
        (gR 10 (mk I1 L) 62 6).bind fun v14 =>
        (gI 10 (mk I1 L) 62 7).bind fun v15 =>
        (yI 11 (mk I1 L) v14 (2 * v15) w).bind fun h16 =>
        (gR 10 h16 62 6).bind fun v17 =>
        (gI 10 h16 62 7).bind fun v18 =>
        (yI 11 h16 v17 ((2 * v18) + 1) n).bind fun h19 =>
        (gI 10 h19 62 7).bind fun v20 =>
        (pI 10 h19 62 7 (v20 + 1)).bind fun h21 =>
        (gI 10 h21 62 7).bind fun v22 =>
        some ((v22 : Int32), h21)) = some (r, mk I2 L) := by
  obtain ⟨k, hk, e10, e62, he⟩ := R
  by_cases h4 : k = 8
  · refine ⟨-4, I, I, ?_, ⟨k, hk, e10, e62, he⟩, Ch.rf I L, Ch.rf I L, ?_⟩
    · rw [radd_10 I L w n 0 k hk e10, if_pos h4]
    · simp only [gI_62, Option.bind_some, e62, h4]
      rfl
  · have q8 : ¬ nn k = 8 := fun h => h4 ((nn_eq (b := 8) (by omega) (by omega)).mp h)
    refine ⟨nn (k + 1), up1 (up1 I 11 (up1 (up1 (up1 (I 11) (k * 3) w) (k * 3 + 1) n) (k * 3 + 2) 0)) 10 (up1 (I 10) 0 (nn (k + 1))), up1 (up1 (up1 (up1 I 11 (up1 (up1 (up1 (I 11) (k * 3) w) (k * 3 + 1) n) (k * 3 + 2) 0)) 10 (up1 (I 10) 0 (nn (k + 1)))) 65 (up1 (up1 (I 65) (2 * k) w) (2 * k + 1) n)) 62 (up1 (I 62) 7 (nn (k + 1))), ?_, ⟨k + 1, by omega, ?_, ?_, fun j hj => ?_⟩, ?_, ?_, ?_⟩
    · rw [radd_10 I L w n 0 k hk e10, if_neg h4]
    · rw [up1_n _ _ (by decide), up1_n _ _ (by decide), up1_s, up1_s]
    · rw [up1_s, up1_s]
    · simp only [up1_e, Nat.reduceEqDiff, reduceIte]
      have h1 := he j hj
      by_cases hjk : j = k
      · subst hjk
        simp only [show ¬ j * 3 = j * 3 + 2 by omega, show ¬ j * 3 = j * 3 + 1 by omega, show ¬ j * 3 + 1 = j * 3 + 2 by omega, show ¬ 2 * j = 2 * j + 1 by omega, if_false, if_true, true_and]
        exact hw
      · simp only [show ¬ j * 3 = k * 3 + 2 by omega, show ¬ j * 3 = k * 3 + 1 by omega, show ¬ j * 3 = k * 3 by omega, show ¬ j * 3 + 1 = k * 3 + 2 by omega, show ¬ j * 3 + 1 = k * 3 + 1 by omega, show ¬ j * 3 + 1 = k * 3 by omega, show ¬ 2 * j = 2 * k + 1 by omega, show ¬ 2 * j = 2 * k by omega, show ¬ 2 * j + 1 = 2 * k + 1 by omega, show ¬ 2 * j + 1 = 2 * k by omega, if_false]
        exact h1
    · refine ⟨fun r hr h0 => ?_, fun q hq => ?_, fun _ _ => rfl⟩
      · rw [up1_n _ _ h0, up1_n _ _ (fun e => hr (by simp [e])), up1_n _ _ (fun e => hr (by simp [e])), up1_n _ _ (fun e => hr (by simp [e]))]
      · rw [up1_s, up1_n _ _ (fun e => hq (by simp [e]))]
    · refine ⟨fun r hr h0 => ?_, fun q hq => ?_, fun _ _ => rfl⟩
      · rw [up1_n _ _ (fun e => hr (by simp [e])), up1_n _ _ (fun e => hr (by simp [e]))]
      · rw [up1_n _ _ (by decide), up1_n _ _ (by decide)]
    · simp only [kd_62, gI_62, pI_62, gR_62_1, gR_62_4, gR_62_6, gR_62_8, gR_62_10, gR_62_11, gR_62_12, gR_62_14, gR_62_16, gR_62_17, gR_62_18, gR_62_20, gR_62_21, gR_62_22, gR_62_23, gR_62_24, gR_62_28, gR_62_31, gR_62_32, gR_62_33, gR_62_34, gR_62_35, gR_62_37, gR_62_38, gJ_62, pJ_62, ln_63, xJ_63, yJ_63, ln_64, xI_64, yI_64, ln_65, xI_65, yI_65, ln_66, xI_66, yI_66, ln_67, xJ_67, yJ_67, ln_68, xJ_68, yJ_68, ln_69, xI_69, yI_69, ln_70, xI_70, yI_70, ln_71, xI_71, yI_71, ln_72, xI_72, yI_72, ln_73, xI_73, yI_73, ln_74, xI_74, yI_74, ln_75, xI_75, yI_75, ln_76, xJ_76, yJ_76, ln_77, xJ_77, yJ_77, ln_78, xI_78, yI_78, ln_79, xI_79, yI_79, ln_80, xI_80, yI_80, ln_81, xJ_81, yJ_81, ln_82, xI_82, yI_82, ln_83, xI_83, yI_83, ln_84, xJ_84, yJ_84, ln_85, xJ_85, yJ_85, ln_86, xI_86, yI_86, Option.bind_some, up1_e, Nat.reduceEqDiff, reduceIte, e62, q8, if_false, nn_2m, nn_p1, nn_lt0 (2 * k) (by omega), nn_nat (show 2 * k < 2147483648 by omega), show 2 * k < 16 by omega, not_false_eq_true, and_self, if_true, nn_lt0 (2 * k + 1) (by omega), nn_nat (show 2 * k + 1 < 2147483648 by omega), show 2 * k + 1 < 16 by omega, not_false_eq_true, and_self, if_true, up1_up1]
theorem pair_event (w n : Int32) (N : RelN I L) (R : RelE I) : Both (fX9_event 1 w n) (fX10_event 62 w n) I L (fun I' L' => RelE I' ∧ Ch [10, 11, 65] [7] [] I L I' L') := by
  obtain ⟨d, a, hC, hM, hV⟩ := N
  have hd := hV.1
  have e4 : (I 4 0).toInt = d := by rw [hC.1, nn_toInt (by omega)]
  have e62d : ∀ I', Ch [10, 11] [] [] I L I' L → (I' 62 0).toInt = d := fun I' c => by rw [c.2.1 0 (by simp), hM.1, nn_toInt (by omega)]
  unfold fX9_event fX10_event Both
  by_cases hx : w = -1
  · have R' := R
    obtain ⟨k, hk, e10, e62, he⟩ := R'
    simp only [hx, if_true, kd_1, gI_1, pI_1, gR_1_0, gR_1_1, gR_1_3, gR_1_4, gR_1_5, gR_1_6, gR_1_7, gR_1_8, ln_49, xR_49, kd_2, gI_2, pI_2, gR_2_0, gR_2_1, gR_2_2, gR_2_3, rempty_10, Option.bind_some]
    refine ⟨0, up1 I 10 (up1 (I 10) 0 0), L, up1 (up1 I 10 (up1 (I 10) 0 0)) 62 (up1 ((up1 I 10 (up1 (I 10) 0 0)) 62) 7 0), L, rfl, by simp only [pI_62, Option.bind_some], ⟨0, by omega, ?_, ?_, fun j hj => ?_⟩, ?_⟩
    · rw [up1_n _ _ (by decide), up1_s, up1_s]
      rfl
    · rw [up1_s, up1_s]
      rfl
    · rw [up1_n _ _ (by decide), up1_n _ _ (by decide), up1_n _ _ (by decide), up1_n _ _ (by decide)]
      exact he j hj
    · exact ((ChI I L [10, 11, 65] [7] [] (by simp) (by decide)).tr (ChK _ L [10, 11, 65] [7] [] (by simp))).mono (by simp) (by simp) (by simp)
  simp only [hx, if_false, between_s, in_s, i64_of32, Int64.reduceToInt, Int32.reduceToInt, Option.bind_some, ite10]
  by_cases h1 : 0 ≤ w.toInt ∧ w.toInt ≤ 2
  rotate_left
  · exact ⟨-1, I, L, I, L, by simp only [if_neg h1], by simp only [if_neg h1], R, Ch.rf I L⟩
  simp only [if_pos h1, jn]
  rcases (show w.toInt = 0 ∨ w.toInt = 1 ∨ w.toInt = 2 by omega) with h0 | h0 | h0
  · have hw : w = 0 := i32_eq.mpr h0
    by_cases hn : 0 ≤ n.toInt ∧ n.toInt ≤ d
    · obtain ⟨r, I1, I2, c1, c2, c3, c4, c5⟩ := add_event I L w n ⟨h1, fun h => by omega⟩ R
      subst hw
      refine ⟨r, I1, L, I2, L, ?_, ?_, c2, c3⟩
      · simp only [if_true, show ¬ (0 : Int32) = 1 by decide, show ¬ (0 : Int32) = 2 by decide, if_false, kd_1, gI_1, pI_1, gR_1_0, gR_1_1, gR_1_3, gR_1_4, gR_1_5, gR_1_6, gR_1_7, gR_1_8, ln_49, xR_49, kd_2, gI_2, pI_2, gR_2_0, gR_2_1, gR_2_2, gR_2_3, gR_3_0, kd_4, kd_10, has_4, Option.bind_some, ite10, e4, if_pos (show 0 ≤ n.toInt ∧ n.toInt ≤ (d : Int) ∧ n.toInt < 5 by omega), one0, c1]
      · simp only [if_true, show ¬ (0 : Int32) = 1 by decide, show ¬ (0 : Int32) = 2 by decide, if_false, kd_62, isNumber_s, Option.bind_some, ite10, e62d I1 c4, if_pos hn, one0]
        exact c5
    · subst hw
      refine ⟨-1, I, L, I, L, ?_, ?_, R, Ch.rf I L⟩
      · simp only [if_true, kd_1, gI_1, pI_1, gR_1_0, gR_1_1, gR_1_3, gR_1_4, gR_1_5, gR_1_6, gR_1_7, gR_1_8, ln_49, xR_49, kd_2, gI_2, pI_2, gR_2_0, gR_2_1, gR_2_2, gR_2_3, gR_3_0, kd_4, has_4, Option.bind_some, ite10, e4, if_neg (show ¬ (0 ≤ n.toInt ∧ n.toInt ≤ (d : Int) ∧ n.toInt < 5) by omega)]
      · simp only [if_true, kd_62, isNumber_s, Option.bind_some, ite10, e62d I (Ch.rf I L), if_neg hn]
  · have hw : w = 1 := i32_eq.mpr h0
    by_cases hn : 0 ≤ n.toInt ∧ n.toInt < 5
    · obtain ⟨r, I1, I2, c1, c2, c3, c4, c5⟩ := add_event I L w n ⟨h1, fun h => hn⟩ R
      subst hw
      refine ⟨r, I1, L, I2, L, ?_, ?_, c2, c3⟩
      · simp only [if_true, show ¬ (1 : Int32) = 0 by decide, show ¬ (1 : Int32) = 2 by decide, if_false, kd_1, gI_1, pI_1, gR_1_0, gR_1_1, gR_1_3, gR_1_4, gR_1_5, gR_1_6, gR_1_7, gR_1_8, ln_49, xR_49, kd_2, gI_2, pI_2, gR_2_0, gR_2_1, gR_2_2, gR_2_3, kd_10, isMove_s, Option.bind_some, ite10, if_pos hn, one0, c1]
      · simp only [if_true, show ¬ (1 : Int32) = 0 by decide, show ¬ (1 : Int32) = 2 by decide, if_false, Option.bind_some, ite10, if_pos (show 0 ≤ n.toInt ∧ n.toInt ≤ 4 by omega), one0]
        exact c5
    · subst hw
      refine ⟨-1, I, L, I, L, ?_, ?_, R, Ch.rf I L⟩
      · simp only [if_true, show ¬ (1 : Int32) = 0 by decide, if_false, isMove_s, Option.bind_some, ite10, if_neg hn]
      · simp only [if_true, show ¬ (1 : Int32) = 0 by decide, if_false, if_neg (show ¬ (0 ≤ n.toInt ∧ n.toInt ≤ 4) by omega)]
  · have hw : w = 2 := i32_eq.mpr h0
    by_cases hn : -99 ≤ n.toInt ∧ n.toInt ≤ 99
    · obtain ⟨r, I1, I2, c1, c2, c3, c4, c5⟩ := add_event I L w n ⟨h1, fun h => by omega⟩ R
      subst hw
      refine ⟨r, I1, L, I2, L, ?_, ?_, c2, c3⟩
      · simp only [if_true, show ¬ (2 : Int32) = 0 by decide, show ¬ (2 : Int32) = 1 by decide, if_false, kd_1, gI_1, pI_1, gR_1_0, gR_1_1, gR_1_3, gR_1_4, gR_1_5, gR_1_6, gR_1_7, gR_1_8, ln_49, xR_49, kd_2, gI_2, pI_2, gR_2_0, gR_2_1, gR_2_2, gR_2_3, kd_10, Option.bind_some, ite10, if_pos hn, one0, c1]
      · simp only [if_true, show ¬ (2 : Int32) = 0 by decide, show ¬ (2 : Int32) = 1 by decide, if_false, Option.bind_some, ite10, if_pos hn, one0]
        exact c5
    · subst hw
      refine ⟨-2, I, L, I, L, ?_, ?_, R, Ch.rf I L⟩
      · simp only [if_true, show ¬ (2 : Int32) = 0 by decide, show ¬ (2 : Int32) = 1 by decide, if_false, if_neg hn]
      · simp only [if_true, show ¬ (2 : Int32) = 0 by decide, show ¬ (2 : Int32) = 1 by decide, if_false, if_neg hn]
end PE
