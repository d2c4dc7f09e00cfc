section PV
variable (I : Nat → Nat → Int32) (L : Nat → Nat → Int64)
theorem ll_lt {j k n : Nat} (h1 : j < 2147483648) (h2 : k < 2147483648) (h3 : n < 2147483648) : lg_cmp ((nn j).toInt64 + (nn k).toInt64) (nn n).toInt64 < 0 ↔ j + k < n := by
  rw [lg_cmp_lt, i64_lt, i64_of32, nn_toInt h3, Int64.toInt_add, i64_of32, i64_of32, nn_toInt h1, nn_toInt h2]
  rw [show Int.bmod ((j : Int) + k) (2 ^ 64) = (j : Int) + k by apply Int.bmod_eq_of_le <;> omega]
  omega
theorem nn_100 (k : Nat) : 100 + nn k = nn (100 + k) := nn_add 100 k
theorem pair_judge (a i : Int32) (N : RelN I L) (R : RelT I L) : Both (fX9_judge 1 a i) (fX10_judge 62 a i) I L (fun I' L' => I' = I ∧ L' = L) := by
  obtain ⟨d, c, hC, hM, hV⟩ := N
  have hd := hV.1
  have e4 : (I 4 0).toInt = d := by rw [hC.1, nn_toInt (by omega)]
  unfold fX9_judge fX10_judge Both
  simp only [isTape_s, Option.bind_some, ite10]
  by_cases ha : 0 ≤ a.toInt ∧ a.toInt ≤ 5
  rotate_left
  · exact ⟨-1, I, L, I, L, by simp only [kd_1, gI_1, pI_1, gR_1_0, gR_1_1, gR_1_3, gR_1_4, gR_1_5, gR_1_6, gR_1_7, gR_1_8, ln_49, xR_49, if_true, tp_not I L ha, Option.bind_some], by rw [if_neg ha], rfl, rfl⟩
  obtain ⟨t, ht, e⟩ := t_ex ha
  obtain ⟨n, hn, e1, e2, e3, e5, e6, e7⟩ := R t ht
  have e8 : (0 ≤ I 82 t) ↔ ¬ I (50 + 2 * t) 0 = -1 := by
    rw [e3, i32_le, i32_eq, show (0 : Int32).toInt = 0 by decide, show (-1 : Int32).toInt = -1 by decide]
    omega
  simp only [kd_1, gI_1, pI_1, gR_1_0, gR_1_1, gR_1_3, gR_1_4, gR_1_5, gR_1_6, gR_1_7, gR_1_8, ln_49, xR_49, if_true, tp_at I L ht a e, Option.bind_some, show ¬ 50 + 2 * t = 0 by omega, if_false, tp_kd I L ht, tp_holds I L ht, tp_gI I L ht, tp_has I L ht hn e1, jn, if_pos ha]
  subst e
  by_cases hs : I (50 + 2 * t) 0 = -1
  · have hn0 := e6 hs
    refine ⟨100, I, L, I, L, ?_, ?_, rfl, rfl⟩
    · simp only [if_pos hs, one0, if_false, gR_2_0, gR_3_0, Option.bind_some]
      refine lp_for' (fun _ => ((0 : Int32), mk I L)) rfl 0 (fun j hj => absurd hj (Nat.not_lt_zero j)) (fun k => ?_) (FU_gt (by omega))
      have q1 : ¬ nn d < 0 := nn_nn (by omega)
      simp only [gI_4, hC.1, Option.bind_some, if_neg q1, tp_kd I L ht, if_true, Int32.add_zero, tp_has I L ht hn e1, ite10, if_neg (show ¬ (0 ≤ i.toInt ∧ i.toInt < (n : Int)) by omega)]
    · simp only [kd_62, gI_62, pI_62, gR_62_1, gR_62_4, gR_62_6, gR_62_8, gR_62_10, gR_62_11, gR_62_12, gR_62_14, gR_62_16, gR_62_17, gR_62_18, gR_62_20, gR_62_21, gR_62_22, gR_62_23, gR_62_24, gR_62_28, gR_62_31, gR_62_32, gR_62_33, gR_62_34, gR_62_35, gR_62_37, gR_62_38, gJ_62, pJ_62, ln_63, xJ_63, yJ_63, ln_64, xI_64, yI_64, ln_65, xI_65, yI_65, ln_66, xI_66, yI_66, ln_67, xJ_67, yJ_67, ln_68, xJ_68, yJ_68, ln_69, xI_69, yI_69, ln_70, xI_70, yI_70, ln_71, xI_71, yI_71, ln_72, xI_72, yI_72, ln_73, xI_73, yI_73, ln_74, xI_74, yI_74, ln_75, xI_75, yI_75, ln_76, xJ_76, yJ_76, ln_77, xJ_77, yJ_77, ln_78, xI_78, yI_78, ln_79, xI_79, yI_79, ln_80, xI_80, yI_80, ln_81, xJ_81, yJ_81, ln_82, xI_82, yI_82, ln_83, xI_83, yI_83, ln_84, xJ_84, yJ_84, ln_85, xJ_85, yJ_85, ln_86, xI_86, yI_86, Option.bind_some, nn_lt0 (t) (by omega), nn_nat (show t < 2147483648 by omega), show t < 6 by omega, not_false_eq_true, and_self, if_true, if_neg (show ¬ 0 ≤ I 82 t from fun h => e8.mp h hs)]
  by_cases hs1 : I (50 + 2 * t) 0 = 1
  rotate_left
  · refine ⟨-12, I, L, I, L, ?_, ?_, rfl, rfl⟩
    · simp only [if_neg hs, if_true, if_neg hs1]
    · simp only [kd_62, gI_62, pI_62, gR_62_1, gR_62_4, gR_62_6, gR_62_8, gR_62_10, gR_62_11, gR_62_12, gR_62_14, gR_62_16, gR_62_17, gR_62_18, gR_62_20, gR_62_21, gR_62_22, gR_62_23, gR_62_24, gR_62_28, gR_62_31, gR_62_32, gR_62_33, gR_62_34, gR_62_35, gR_62_37, gR_62_38, gJ_62, pJ_62, ln_63, xJ_63, yJ_63, ln_64, xI_64, yI_64, ln_65, xI_65, yI_65, ln_66, xI_66, yI_66, ln_67, xJ_67, yJ_67, ln_68, xJ_68, yJ_68, ln_69, xI_69, yI_69, ln_70, xI_70, yI_70, ln_71, xI_71, yI_71, ln_72, xI_72, yI_72, ln_73, xI_73, yI_73, ln_74, xI_74, yI_74, ln_75, xI_75, yI_75, ln_76, xJ_76, yJ_76, ln_77, xJ_77, yJ_77, ln_78, xI_78, yI_78, ln_79, xI_79, yI_79, ln_80, xI_80, yI_80, ln_81, xJ_81, yJ_81, ln_82, xI_82, yI_82, ln_83, xI_83, yI_83, ln_84, xJ_84, yJ_84, ln_85, xJ_85, yJ_85, ln_86, xI_86, yI_86, Option.bind_some, nn_lt0 (t) (by omega), nn_nat (show t < 2147483648 by omega), show t < 6 by omega, not_false_eq_true, and_self, if_true, if_pos (e8.mpr hs), e3, if_neg hs1]
      rw [if_pos (by rw [← e3]; exact e8.mpr hs)]
  simp only [if_neg hs, if_true, if_pos hs1]
  have g1 : 0 ≤ I (50 + 2 * t) 0 := by
    rw [hs1]
    decide
  by_cases h : 0 ≤ i.toInt ∧ i.toInt < n
  rotate_left
  · refine ⟨100, I, L, I, L, ?_, ?_, rfl, rfl⟩
    · simp only [gR_2_0, gR_3_0, Option.bind_some]
      refine lp_for' (fun _ => ((0 : Int32), mk I L)) rfl 0 (fun j hj => absurd hj (Nat.not_lt_zero j)) (fun k => ?_) (FU_gt (by omega))
      have q1 : ¬ nn d < 0 := nn_nn (by omega)
      simp only [gI_4, hC.1, Option.bind_some, if_neg q1, tp_kd I L ht, if_true, Int32.add_zero, tp_has I L ht hn e1, ite10, if_neg (show ¬ (0 ≤ i.toInt ∧ i.toInt < (n : Int)) by omega)]
    · simp only [kd_62, gI_62, pI_62, gR_62_1, gR_62_4, gR_62_6, gR_62_8, gR_62_10, gR_62_11, gR_62_12, gR_62_14, gR_62_16, gR_62_17, gR_62_18, gR_62_20, gR_62_21, gR_62_22, gR_62_23, gR_62_24, gR_62_28, gR_62_31, gR_62_32, gR_62_33, gR_62_34, gR_62_35, gR_62_37, gR_62_38, gJ_62, pJ_62, ln_63, xJ_63, yJ_63, ln_64, xI_64, yI_64, ln_65, xI_65, yI_65, ln_66, xI_66, yI_66, ln_67, xJ_67, yJ_67, ln_68, xJ_68, yJ_68, ln_69, xI_69, yI_69, ln_70, xI_70, yI_70, ln_71, xI_71, yI_71, ln_72, xI_72, yI_72, ln_73, xI_73, yI_73, ln_74, xI_74, yI_74, ln_75, xI_75, yI_75, ln_76, xJ_76, yJ_76, ln_77, xJ_77, yJ_77, ln_78, xI_78, yI_78, ln_79, xI_79, yI_79, ln_80, xI_80, yI_80, ln_81, xJ_81, yJ_81, ln_82, xI_82, yI_82, ln_83, xI_83, yI_83, ln_84, xJ_84, yJ_84, ln_85, xJ_85, yJ_85, ln_86, xI_86, yI_86, Option.bind_some, nn_lt0 (t) (by omega), nn_nat (show t < 2147483648 by omega), show t < 6 by omega, not_false_eq_true, and_self, if_true, e3, if_pos g1, if_pos hs1]
      refine lp_for' (fun _ => 0) rfl 0 (fun j hj => absurd hj (Nat.not_lt_zero j)) (fun k => ?_) (FU_gt (by omega))
      have q1 : ¬ I 62 0 < 0 := by
        rw [hM.1]
        exact nn_nn (by omega)
      simp only [if_neg q1, Option.bind_some]
      by_cases h5 : i < 0
      · rw [if_pos h5]
        rfl
      · rw [if_neg h5]
        have h6 : 0 ≤ i.toInt := by
          rw [i32_lt] at h5
          simp at h5
          exact h5
        obtain ⟨j, hj, e⟩ := i32_ex h6
        subst e
        rw [nn_toInt hj] at h
        have h7 : ¬ lg_cmp ((nn j).toInt64 + (0 : Int32).toInt64) (nn n).toInt64 < 0 := fun h8 => by
          have := (ll_lt (k := 0) hj (by omega) (by omega)).mp h8
          omega
        simp only [e2, if_neg h7]
        rfl
  obtain ⟨j, hj, e⟩ := i32_ex h.1
  subst e
  have h0 := h
  rw [nn_toInt hj] at h
  let P : Nat → Bool := fun k => decide (j + k < n ∧ L (51 + 2 * t) (j + k) = (I 5 k).toInt64)
  let y : Nat → Option (Int32 × Mem) := fun k => if k < d + 1 then (if j + k < n then some (nn k, mk I L) else some (nn (100 + k), mk I L)) else some (-5, mk I L)
  have key : ∃ r, y (ff P (d + 1)) = some (r, mk I L) := by
    show ∃ r, (if ff P (d + 1) < d + 1 then (if j + ff P (d + 1) < n then some (nn (ff P (d + 1)), mk I L) else some (nn (100 + ff P (d + 1)), mk I L)) else some (-5, mk I L)) = some (r, mk I L)
    repeat' split
    · exact ⟨_, rfl⟩
    · exact ⟨_, rfl⟩
    · exact ⟨_, rfl⟩
  obtain ⟨r, hr⟩ := key
  refine ⟨r, I, L, I, L, ?_, ?_, rfl, rfl⟩
  · rw [← hr]
    simp only [gR_2_0, gR_3_0, Option.bind_some]
    refine lp_ff (fun k => (nn k, mk I L)) rfl (d + 1) P (fun k hk hP q => ?_) (fun k hk hP q => ?_) (fun q => ?_) (FU_gt (by omega))
    · replace hP := of_decide_eq_true hP
      have g2 : ¬ nn d < nn k := fun h => by
        have := (nn_lt (by omega) (by omega)).mp h
        omega
      simp only [gI_4, hC.1, Option.bind_some, if_neg g2, tp_kd I L ht, if_true, nn_add, tp_has I L ht hn e1, tp_get I L ht hn e1, nn_toInt (show j + k < 2147483648 by omega), nn_toInt (show d < 2147483648 by omega), nn_toInt (show k < 2147483648 by omega), nn_nat (show j + k < 2147483648 by omega), nn_nat (show k < 2147483648 by omega), ite10, if_pos (show 0 ≤ ((j + k : Nat) : Int) ∧ ((j + k : Nat) : Int) < (n : Int) by omega), kd_4, get_4, if_pos (show 0 ≤ (k : Int) ∧ (k : Int) ≤ (d : Int) ∧ (k : Int) < 5 by omega), hP.2, lg_cmp_eq, one0, if_false, nm, nn_s]
    · replace hP := of_decide_eq_false hP
      have g2 : ¬ nn d < nn k := fun h => by
        have := (nn_lt (by omega) (by omega)).mp h
        omega
      show _ = if k < d + 1 then _ else _
      rw [if_pos hk]
      simp only [gI_4, hC.1, Option.bind_some, if_neg g2, tp_kd I L ht, if_true, nn_add, nn_100, tp_has I L ht hn e1, tp_get I L ht hn e1, nn_toInt (show j + k < 2147483648 by omega), nn_toInt (show d < 2147483648 by omega), nn_toInt (show k < 2147483648 by omega), nn_nat (show j + k < 2147483648 by omega), nn_nat (show k < 2147483648 by omega), ite10]
      by_cases h5 : j + k < n
      · simp only [if_pos (show 0 ≤ ((j + k : Nat) : Int) ∧ ((j + k : Nat) : Int) < (n : Int) by omega), kd_4, if_true, Option.bind_some, get_4, hC.1, nn_toInt (show d < 2147483648 by omega), nn_toInt (show k < 2147483648 by omega), nn_nat (show k < 2147483648 by omega), if_pos (show 0 ≤ (k : Int) ∧ (k : Int) ≤ (d : Int) ∧ (k : Int) < 5 by omega), lg_cmp_eq, if_pos h5]
        rw [if_neg (fun h => hP ⟨h5, h⟩)]
      · simp only [if_neg (show ¬ (0 ≤ ((j + k : Nat) : Int) ∧ ((j + k : Nat) : Int) < (n : Int)) by omega), if_neg h5]
    · show _ = if d + 1 < d + 1 then _ else _
      rw [if_neg (Nat.lt_irrefl _)]
      have g2 : nn d < nn (d + 1) := (nn_lt (by omega) (by omega)).mpr (by omega)
      simp only [gI_4, hC.1, Option.bind_some, if_pos g2]
  · rw [← hr]
    simp only [gR_62_33, xI_82, Option.bind_some, nn_lt0 (t) (by omega), nn_nat (show t < 2147483648 by omega), show t < 6 by omega, not_false_eq_true, and_self, if_true, e3, if_pos g1, if_pos hs1]
    have g3 : ¬ nn j < 0 := nn_nn hj
    refine lp_ff (fun k => nn k) rfl (d + 1) P (fun k hk hP q => ?_) (fun k hk hP q => ?_) (fun q => ?_) (FU_gt (by omega))
    · replace hP := of_decide_eq_true hP
      have g2 : ¬ nn d < nn k := fun h => by
        have := (nn_lt (by omega) (by omega)).mp h
        omega
      simp only [kd_62, gI_62, pI_62, gR_62_1, gR_62_4, gR_62_6, gR_62_8, gR_62_10, gR_62_11, gR_62_12, gR_62_14, gR_62_16, gR_62_17, gR_62_18, gR_62_20, gR_62_21, gR_62_22, gR_62_23, gR_62_24, gR_62_28, gR_62_31, gR_62_32, gR_62_33, gR_62_34, gR_62_35, gR_62_37, gR_62_38, gJ_62, pJ_62, ln_63, xJ_63, yJ_63, ln_64, xI_64, yI_64, ln_65, xI_65, yI_65, ln_66, xI_66, yI_66, ln_67, xJ_67, yJ_67, ln_68, xJ_68, yJ_68, ln_69, xI_69, yI_69, ln_70, xI_70, yI_70, ln_71, xI_71, yI_71, ln_72, xI_72, yI_72, ln_73, xI_73, yI_73, ln_74, xI_74, yI_74, ln_75, xI_75, yI_75, ln_76, xJ_76, yJ_76, ln_77, xJ_77, yJ_77, ln_78, xI_78, yI_78, ln_79, xI_79, yI_79, ln_80, xI_80, yI_80, ln_81, xJ_81, yJ_81, ln_82, xI_82, yI_82, ln_83, xI_83, yI_83, ln_84, xJ_84, yJ_84, ln_85, xJ_85, yJ_85, ln_86, xI_86, yI_86, hM.1, Option.bind_some, if_neg g2, if_neg g3, nn_lt0 (t) (by omega), nn_nat (show t < 2147483648 by omega), show t < 6 by omega, not_false_eq_true, and_self, if_true, e2, if_pos ((ll_lt hj (show k < 2147483648 by omega) (show n < 2147483648 by omega)).mpr hP.1), nn_60, nn_add, nn_lt0 (60 * t + (j + k)) (by omega), nn_nat (show 60 * t + (j + k) < 2147483648 by omega), show 60 * t + (j + k) < 360 by omega, not_false_eq_true, and_self, if_true, nn_lt0 (k) (by omega), nn_nat (show k < 2147483648 by omega), show k < 5 by omega, not_false_eq_true, and_self, if_true, Nat.add_assoc, e7 (j + k) (by omega), hP.2, hM.2 k (by omega), ← (show (I 5 k).toInt64 = c k from hC.2 k (by omega)), lg_cmp_eq, nm, nn_s]
    · replace hP := of_decide_eq_false hP
      have g2 : ¬ nn d < nn k := fun h => by
        have := (nn_lt (by omega) (by omega)).mp h
        omega
      show _ = if k < d + 1 then _ else _
      rw [if_pos hk]
      by_cases h5 : j + k < n
      · simp only [kd_62, gI_62, pI_62, gR_62_1, gR_62_4, gR_62_6, gR_62_8, gR_62_10, gR_62_11, gR_62_12, gR_62_14, gR_62_16, gR_62_17, gR_62_18, gR_62_20, gR_62_21, gR_62_22, gR_62_23, gR_62_24, gR_62_28, gR_62_31, gR_62_32, gR_62_33, gR_62_34, gR_62_35, gR_62_37, gR_62_38, gJ_62, pJ_62, ln_63, xJ_63, yJ_63, ln_64, xI_64, yI_64, ln_65, xI_65, yI_65, ln_66, xI_66, yI_66, ln_67, xJ_67, yJ_67, ln_68, xJ_68, yJ_68, ln_69, xI_69, yI_69, ln_70, xI_70, yI_70, ln_71, xI_71, yI_71, ln_72, xI_72, yI_72, ln_73, xI_73, yI_73, ln_74, xI_74, yI_74, ln_75, xI_75, yI_75, ln_76, xJ_76, yJ_76, ln_77, xJ_77, yJ_77, ln_78, xI_78, yI_78, ln_79, xI_79, yI_79, ln_80, xI_80, yI_80, ln_81, xJ_81, yJ_81, ln_82, xI_82, yI_82, ln_83, xI_83, yI_83, ln_84, xJ_84, yJ_84, ln_85, xJ_85, yJ_85, ln_86, xI_86, yI_86, hM.1, Option.bind_some, if_neg g2, if_neg g3, nn_lt0 (t) (by omega), nn_nat (show t < 2147483648 by omega), show t < 6 by omega, not_false_eq_true, and_self, if_true, e2, if_pos ((ll_lt hj (show k < 2147483648 by omega) (show n < 2147483648 by omega)).mpr h5), nn_60, nn_add, nn_lt0 (60 * t + (j + k)) (by omega), nn_nat (show 60 * t + (j + k) < 2147483648 by omega), show 60 * t + (j + k) < 360 by omega, not_false_eq_true, and_self, if_true, nn_lt0 (k) (by omega), nn_nat (show k < 2147483648 by omega), show k < 5 by omega, not_false_eq_true, and_self, if_true, Nat.add_assoc, e7 (j + k) (by omega), hM.2 k (by omega), ← (show (I 5 k).toInt64 = c k from hC.2 k (by omega)), lg_cmp_eq, if_pos h5]
        rw [if_neg (fun h => hP ⟨h5, h⟩)]
      · simp only [kd_62, gI_62, pI_62, gR_62_1, gR_62_4, gR_62_6, gR_62_8, gR_62_10, gR_62_11, gR_62_12, gR_62_14, gR_62_16, gR_62_17, gR_62_18, gR_62_20, gR_62_21, gR_62_22, gR_62_23, gR_62_24, gR_62_28, gR_62_31, gR_62_32, gR_62_33, gR_62_34, gR_62_35, gR_62_37, gR_62_38, gJ_62, pJ_62, ln_63, xJ_63, yJ_63, ln_64, xI_64, yI_64, ln_65, xI_65, yI_65, ln_66, xI_66, yI_66, ln_67, xJ_67, yJ_67, ln_68, xJ_68, yJ_68, ln_69, xI_69, yI_69, ln_70, xI_70, yI_70, ln_71, xI_71, yI_71, ln_72, xI_72, yI_72, ln_73, xI_73, yI_73, ln_74, xI_74, yI_74, ln_75, xI_75, yI_75, ln_76, xJ_76, yJ_76, ln_77, xJ_77, yJ_77, ln_78, xI_78, yI_78, ln_79, xI_79, yI_79, ln_80, xI_80, yI_80, ln_81, xJ_81, yJ_81, ln_82, xI_82, yI_82, ln_83, xI_83, yI_83, ln_84, xJ_84, yJ_84, ln_85, xJ_85, yJ_85, ln_86, xI_86, yI_86, hM.1, Option.bind_some, if_neg g2, if_neg g3, nn_lt0 (t) (by omega), nn_nat (show t < 2147483648 by omega), show t < 6 by omega, not_false_eq_true, and_self, if_true, e2, if_neg (fun h => h5 ((ll_lt hj (show k < 2147483648 by omega) (show n < 2147483648 by omega)).mp h)), nn_100, if_neg h5]
    · show _ = if d + 1 < d + 1 then _ else _
      rw [if_neg (Nat.lt_irrefl _)]
      have g2 : nn d < nn (d + 1) := (nn_lt (by omega) (by omega)).mpr (by omega)
      simp only [gI_62, hM.1, Option.bind_some, if_pos g2]
end PV
