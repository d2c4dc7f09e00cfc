/-- the first place where something fails; else the end -/
def ff (P : Nat → Bool) : Nat → Nat
  | 0 => 0
  | n + 1 => if ff P n < n then ff P n else if P n = true then n + 1 else n
theorem ff_all (P : Nat → Bool) (n : Nat) : ff P n ≤ n ∧ (∀ j, j < ff P n → P j = true) ∧ (ff P n < n → P (ff P n) = false) := by
  induction n with
  | zero => exact ⟨Nat.le_refl _, fun j h => absurd h (Nat.not_lt_zero j), fun h => absurd h (Nat.not_lt_zero _)⟩
  | succ n ih =>
    obtain ⟨h1, h2, h3⟩ := ih
    unfold ff
    by_cases h : ff P n < n
    · simp only [if_pos h]
      exact ⟨by omega, h2, fun _ => h3 h⟩
    · have e : ff P n = n := by omega
      rw [e] at h2
      simp only [if_neg h]
      by_cases h4 : P n = true
      · simp only [if_pos h4]
        refine ⟨Nat.le_refl _, fun j hj => ?_, fun h => absurd h (Nat.lt_irrefl _)⟩
        by_cases h5 : j = n
        · rw [h5]
          exact h4
        · exact h2 j (by omega)
      · simp only [if_neg h4]
        exact ⟨by omega, h2, fun _ => by simpa using h4⟩
theorem ff_congr {P Q : Nat → Bool} : ∀ (n : Nat), (∀ j, j < n → P j = Q j) → ff P n = ff Q n
  | 0, _ => rfl
  | n + 1, h => by
    unfold ff
    rw [ff_congr n (fun j hj => h j (by omega)), h n (by omega)]
/-- a loop that answers the first place where something fails -/
theorem lp_ff {σ ρ : Type} {f : (σ → Option ρ) → σ → Option ρ} (s : Nat → σ) {s0 : σ} {y : Nat → Option ρ} (h0 : s0 = s 0) (N : Nat) (P : Nat → Bool) (hs : ∀ i, i < N → P i = true → ∀ k, f k (s i) = k (s (i + 1))) (hf : ∀ i, i < N → P i = false → ∀ k, f k (s i) = y i) (he : ∀ k, f k (s N) = y N) {n : Nat} (hn : N < n) : lpF f n s0 = y (ff P N) := by
  obtain ⟨h1, h2, h3⟩ := ff_all P N
  refine lp_for' s h0 (ff P N) (fun i hi => hs i (by omega) (h2 i hi)) (fun k => ?_) (by omega)
  by_cases h : ff P N < N
  · exact hf _ h (h3 h) k
  · rw [show ff P N = N by omega]
    exact he k
theorem i64_32 {x y : Int32} : x.toInt64 = y.toInt64 ↔ x = y := ⟨fun h => by rw [← l64_32 x, h, l64_32], fun h => by rw [h]⟩
section PB
variable (I : Nat → Nat → Int32) (L : Nat → Nat → Int64)
theorem pair_count (w : Int32) (S : RelS I) (E : RelE I) (K : RelK I) (X : RelX I) : Both (fX9_count 1 w) (fX10_count 62 w) I L (fun I' L' => I' = I ∧ L' = L) := by
  obtain ⟨s, _, s1, s2, _⟩ := S
  obtain ⟨e, _, e1, e2, _⟩ := E
  obtain ⟨k, _, k1, k2, _⟩ := K
  obtain ⟨x, _, x1, x2, _⟩ := X
  unfold fX9_count fX10_count Both
  simp only [kd_1, gI_1, pI_1, gR_1_0, gR_1_1, gR_1_3, gR_1_4, gR_1_5, gR_1_6, gR_1_7, gR_1_8, ln_49, xR_49, kd_2, gI_2, pI_2, gR_2_0, gR_2_1, gR_2_2, gR_2_3, kd_8, gI_8, pI_8, gR_8_1, ln_9, xI_9, yI_9, kd_10, gI_10, pI_10, gR_10_1, ln_11, xI_11, yI_11, kd_12, gI_12, pI_12, gR_12_1, ln_13, xI_13, yI_13, kd_45, gI_45, pI_45, gR_45_1, gR_45_2, ln_48, xI_48, yI_48, kd_62, gI_62, pI_62, gR_62_1, gR_62_4, gR_62_6, gR_62_8, gR_62_10, gR_62_11, gR_62_12, gR_62_14, gR_62_16, gR_62_17, gR_62_18, gR_62_20, gR_62_21, gR_62_22, gR_62_23, gR_62_24, gR_62_28, gR_62_31, gR_62_32, gR_62_33, gR_62_34, gR_62_35, gR_62_37, gR_62_38, gJ_62, pJ_62, ln_63, xJ_63, yJ_63, ln_64, xI_64, yI_64, ln_65, xI_65, yI_65, ln_66, xI_66, yI_66, ln_67, xJ_67, yJ_67, ln_68, xJ_68, yJ_68, ln_69, xI_69, yI_69, ln_70, xI_70, yI_70, ln_71, xI_71, yI_71, ln_72, xI_72, yI_72, ln_73, xI_73, yI_73, ln_74, xI_74, yI_74, ln_75, xI_75, yI_75, ln_76, xJ_76, yJ_76, ln_77, xJ_77, yJ_77, ln_78, xI_78, yI_78, ln_79, xI_79, yI_79, ln_80, xI_80, yI_80, ln_81, xJ_81, yJ_81, ln_82, xI_82, yI_82, ln_83, xI_83, yI_83, ln_84, xJ_84, yJ_84, ln_85, xJ_85, yJ_85, ln_86, xI_86, yI_86, Option.bind_some, s1, s2, e1, e2, k1, k2, x1, x2]
  by_cases h0 : w = 0
  · exact ⟨nn s, I, L, I, L, by rw [if_pos h0], by rw [if_pos h0, s2], rfl, rfl⟩
  by_cases h1 : w = 1
  · exact ⟨nn e, I, L, I, L, by rw [if_neg h0, if_pos h1], by rw [if_neg h0, if_pos h1, e2], rfl, rfl⟩
  by_cases h2 : w = 2
  · exact ⟨nn k, I, L, I, L, by rw [if_neg h0, if_neg h1, if_pos h2], by rw [if_neg h0, if_neg h1, if_pos h2, k2], rfl, rfl⟩
  by_cases h3 : w = 3
  · exact ⟨nn x, I, L, I, L, by rw [if_neg h0, if_neg h1, if_neg h2, if_pos h3], by rw [if_neg h0, if_neg h1, if_neg h2, if_pos h3, x2], rfl, rfl⟩
  · exact ⟨-2, I, L, I, L, by rw [if_neg h0, if_neg h1, if_neg h2, if_neg h3], by rw [if_neg h0, if_neg h1, if_neg h2, if_neg h3], rfl, rfl⟩
theorem pair_value (x y : Int32) (R : RelN I L) : BothL (fX9_value 1 x y) (fX10_value 62 x y) I L (fun I' L' => I' = I ∧ L' = L) := by
  obtain ⟨d, a, hC, hM, hV⟩ := R
  unfold fX9_value fX10_value BothL
  simp only [between_s, in_s, i64_of32, Int64.reduceToInt, Int32.reduceToInt, Option.bind_some, ite10]
  by_cases h1 : -999 ≤ x.toInt ∧ x.toInt ≤ 999
  rotate_left
  · exact ⟨-9223372036854775808, I, L, I, L, by rw [if_neg h1], by rw [if_neg h1], rfl, rfl⟩
  by_cases h2 : -999 ≤ y.toInt ∧ y.toInt ≤ 999
  rotate_left
  · exact ⟨-9223372036854775808, I, L, I, L, by rw [if_pos h1, if_neg h2], by rw [if_pos h1, if_neg h2], rfl, rfl⟩
  refine ⟨V d (cf I 4) x.toInt64 y.toInt64, I, L, I, L, ?_, ?_, rfl, rfl⟩
  · simp only [if_pos h1, if_pos h2, kd_1, gI_1, pI_1, gR_1_0, gR_1_1, gR_1_3, gR_1_4, gR_1_5, gR_1_6, gR_1_7, gR_1_8, ln_49, xR_49, kd_2, gI_2, pI_2, gR_2_0, gR_2_1, gR_2_2, gR_2_3, kd_3, gI_3, pI_3, gR_3_0, kd_4, if_true, Option.bind_some, at_4 I L d hV.1 hC.1]
  · simp only [if_pos h1, if_pos h2, kd_62, if_true, Option.bind_some, valueAt_s I L d hV.1 hM.1]
    rw [V_congr (fun j hj => (hM.2 j (by have := hV.1; omega)).trans (hC.2 j (by have := hV.1; omega)).symm)]
    rfl
theorem pair_looked (N : RelN I L) (K : RelK I) : Both (fX9_looked 1) (fX10_looked 62) I L (fun I' L' => I' = I ∧ L' = L) := by
  obtain ⟨d, a, hC, hM, hV⟩ := N
  have hd := hV.1
  obtain ⟨n, hn, e12, e62, hk⟩ := K
  have e4 : (I 4 0).toInt = d := by rw [hC.1, nn_toInt (by omega)]
  have e62d : (I 62 0).toInt = d := by rw [hM.1, nn_toInt (by omega)]
  let P : Nat → Bool := fun k => decide ((0 ≤ (I 13 (k * 3)).toInt ∧ (I 13 (k * 3)).toInt ≤ d) ∧ I 5 (I 13 (k * 3)).toNatClampNeg = I 13 (k * 3 + 1))
  let y : Nat → Option (Int32 × Mem) := fun k => if k < n then some (nn k, mk I L) else some (-5, mk I L)
  have key : ∃ r, y (ff P n) = some (r, mk I L) := by
    by_cases h : ff P n < n
    · exact ⟨nn (ff P n), if_pos h⟩
    · exact ⟨-5, if_neg h⟩
  obtain ⟨r, hr⟩ := key
  refine ⟨r, I, L, I, L, ?_, ?_, rfl, rfl⟩
  · rw [← hr]
    unfold fX9_looked
    simp only [kd_1, gI_1, pI_1, gR_1_0, gR_1_1, gR_1_3, gR_1_4, gR_1_5, gR_1_6, gR_1_7, gR_1_8, ln_49, xR_49, kd_2, gI_2, pI_2, gR_2_0, gR_2_1, gR_2_2, gR_2_3, kd_3, gI_3, pI_3, gR_3_0, Option.bind_some]
    refine lp_ff (fun k => (nn k, mk I L)) rfl n P (fun k hk1 hP c => ?_) (fun k hk1 hP c => ?_) (fun c => ?_) (FU_gt (by omega))
    · replace hP := of_decide_eq_true hP
      have h5 : 0 ≤ (I 13 (k * 3)).toInt ∧ (I 13 (k * 3)).toInt ≤ (d : Int) ∧ (I 13 (k * 3)).toInt < 5 := by omega
      simp only [kd_1, gI_1, pI_1, gR_1_0, gR_1_1, gR_1_3, gR_1_4, gR_1_5, gR_1_6, gR_1_7, gR_1_8, ln_49, xR_49, kd_2, gI_2, pI_2, gR_2_0, gR_2_1, gR_2_2, gR_2_3, kd_12, gI_12, pI_12, gR_12_1, ln_13, xI_13, yI_13, Option.bind_some, e12, nn_le (show n < 2147483648 by omega) (show k < 2147483648 by omega), show ¬ n ≤ k by omega, if_false, kd_12, kd_4, if_true, rfirst_12 I L k n hk1 hn e12, rsecond_12 I L k n hk1 hn e12, has_4, get_4, ite10, e4, if_pos h5, one0, hP.2, nm, nn_s]
    · replace hP := of_decide_eq_false hP
      show _ = if k < n then _ else _
      rw [if_pos hk1]
      simp only [kd_1, gI_1, pI_1, gR_1_0, gR_1_1, gR_1_3, gR_1_4, gR_1_5, gR_1_6, gR_1_7, gR_1_8, ln_49, xR_49, kd_2, gI_2, pI_2, gR_2_0, gR_2_1, gR_2_2, gR_2_3, kd_12, gI_12, pI_12, gR_12_1, ln_13, xI_13, yI_13, Option.bind_some, e12, nn_le (show n < 2147483648 by omega) (show k < 2147483648 by omega), show ¬ n ≤ k by omega, if_false, kd_12, kd_4, if_true, rfirst_12 I L k n hk1 hn e12, rsecond_12 I L k n hk1 hn e12, has_4, get_4, ite10, e4]
      by_cases h5 : 0 ≤ (I 13 (k * 3)).toInt ∧ (I 13 (k * 3)).toInt ≤ (d : Int) ∧ (I 13 (k * 3)).toInt < 5
      · have h6 : ¬ I 5 (I 13 (k * 3)).toNatClampNeg = I 13 (k * 3 + 1) := fun h => hP ⟨by omega, h⟩
        simp only [if_pos h5, one0, if_false, h6]
      · simp only [if_neg h5]
    · show _ = if n < n then _ else _
      rw [if_neg (Nat.lt_irrefl n)]
      simp only [kd_1, gI_1, pI_1, gR_1_0, gR_1_1, gR_1_3, gR_1_4, gR_1_5, gR_1_6, gR_1_7, gR_1_8, ln_49, xR_49, kd_2, gI_2, pI_2, gR_2_0, gR_2_1, gR_2_2, gR_2_3, kd_12, gI_12, pI_12, gR_12_1, ln_13, xI_13, yI_13, Option.bind_some, e12, nn_le (show n < 2147483648 by omega) (show n < 2147483648 by omega), Nat.le_refl, if_true]
  · rw [← hr]
    unfold fX10_looked
    refine lp_ff (fun k => (nn k, mk I L)) rfl n P (fun k hk1 hP c => ?_) (fun k hk1 hP c => ?_) (fun c => ?_) (FU_gt (by omega))
    · replace hP := of_decide_eq_true hP
      have hk2 := hk k (by omega)
      have hi := nat_toInt hP.1.1
      have hi5 : (I 13 (k * 3)).toNatClampNeg < 5 := by omega
      have hneg : ¬ I 13 (k * 3) < 0 := by rw [i32_lt]; simp; omega
      simp only [kd_62, gI_62, pI_62, gR_62_1, gR_62_4, gR_62_6, gR_62_8, gR_62_10, gR_62_11, gR_62_12, gR_62_14, gR_62_16, gR_62_17, gR_62_18, gR_62_20, gR_62_21, gR_62_22, gR_62_23, gR_62_24, gR_62_28, gR_62_31, gR_62_32, gR_62_33, gR_62_34, gR_62_35, gR_62_37, gR_62_38, gJ_62, pJ_62, ln_63, xJ_63, yJ_63, ln_64, xI_64, yI_64, ln_65, xI_65, yI_65, ln_66, xI_66, yI_66, ln_67, xJ_67, yJ_67, ln_68, xJ_68, yJ_68, ln_69, xI_69, yI_69, ln_70, xI_70, yI_70, ln_71, xI_71, yI_71, ln_72, xI_72, yI_72, ln_73, xI_73, yI_73, ln_74, xI_74, yI_74, ln_75, xI_75, yI_75, ln_76, xJ_76, yJ_76, ln_77, xJ_77, yJ_77, ln_78, xI_78, yI_78, ln_79, xI_79, yI_79, ln_80, xI_80, yI_80, ln_81, xJ_81, yJ_81, ln_82, xI_82, yI_82, ln_83, xI_83, yI_83, ln_84, xJ_84, yJ_84, ln_85, xJ_85, yJ_85, ln_86, xI_86, yI_86, Option.bind_some, e62, nn_le (show n < 2147483648 by omega) (show k < 2147483648 by omega), show ¬ n ≤ k by omega, if_false, nn_2m, nn_p1, nn_lt0 (2 * k) (by omega), nn_nat (show 2 * k < 2147483648 by omega), show 2 * k < 16 by omega, not_false_eq_true, and_self, if_true, nn_lt0 (2 * k + 1) (by omega), nn_nat (show 2 * k + 1 < 2147483648 by omega), show 2 * k + 1 < 16 by omega, not_false_eq_true, and_self, if_true, hk2.1, hk2.2, if_true, isNumber_s, ite10, e62d, if_pos hP.1, one0, hi5, hneg, not_false_eq_true, and_self, hM.2 _ hi5, ← hC.2 _ hi5, lg_cmp_eq, i64_32, hP.2, nm, nn_s]
    · replace hP := of_decide_eq_false hP
      show _ = if k < n then _ else _
      rw [if_pos hk1]
      have hk2 := hk k (by omega)
      simp only [kd_62, gI_62, pI_62, gR_62_1, gR_62_4, gR_62_6, gR_62_8, gR_62_10, gR_62_11, gR_62_12, gR_62_14, gR_62_16, gR_62_17, gR_62_18, gR_62_20, gR_62_21, gR_62_22, gR_62_23, gR_62_24, gR_62_28, gR_62_31, gR_62_32, gR_62_33, gR_62_34, gR_62_35, gR_62_37, gR_62_38, gJ_62, pJ_62, ln_63, xJ_63, yJ_63, ln_64, xI_64, yI_64, ln_65, xI_65, yI_65, ln_66, xI_66, yI_66, ln_67, xJ_67, yJ_67, ln_68, xJ_68, yJ_68, ln_69, xI_69, yI_69, ln_70, xI_70, yI_70, ln_71, xI_71, yI_71, ln_72, xI_72, yI_72, ln_73, xI_73, yI_73, ln_74, xI_74, yI_74, ln_75, xI_75, yI_75, ln_76, xJ_76, yJ_76, ln_77, xJ_77, yJ_77, ln_78, xI_78, yI_78, ln_79, xI_79, yI_79, ln_80, xI_80, yI_80, ln_81, xJ_81, yJ_81, ln_82, xI_82, yI_82, ln_83, xI_83, yI_83, ln_84, xJ_84, yJ_84, ln_85, xJ_85, yJ_85, ln_86, xI_86, yI_86, Option.bind_some, e62, nn_le (show n < 2147483648 by omega) (show k < 2147483648 by omega), show ¬ n ≤ k by omega, if_false, nn_2m, nn_p1, nn_lt0 (2 * k) (by omega), nn_nat (show 2 * k < 2147483648 by omega), show 2 * k < 16 by omega, not_false_eq_true, and_self, if_true, nn_lt0 (2 * k + 1) (by omega), nn_nat (show 2 * k + 1 < 2147483648 by omega), show 2 * k + 1 < 16 by omega, not_false_eq_true, and_self, if_true, hk2.1, hk2.2, if_true, isNumber_s, ite10, e62d]
      by_cases h5 : 0 ≤ (I 13 (k * 3)).toInt ∧ (I 13 (k * 3)).toInt ≤ (d : Int)
      · have h6 : ¬ I 5 (I 13 (k * 3)).toNatClampNeg = I 13 (k * 3 + 1) := fun h => hP ⟨by omega, h⟩
        have hi := nat_toInt h5.1
        have hi5 : (I 13 (k * 3)).toNatClampNeg < 5 := by omega
        have hneg : ¬ I 13 (k * 3) < 0 := by rw [i32_lt]; simp; omega
        simp only [if_pos h5, one0, if_false, hi5, hneg, not_false_eq_true, and_self, if_true, Option.bind_some, hM.2 _ hi5, ← hC.2 _ hi5, lg_cmp_eq, i64_32, h6]
      · simp only [if_neg h5]
    · show _ = if n < n then _ else _
      rw [if_neg (Nat.lt_irrefl n)]
      simp only [kd_62, gI_62, pI_62, gR_62_1, gR_62_4, gR_62_6, gR_62_8, gR_62_10, gR_62_11, gR_62_12, gR_62_14, gR_62_16, gR_62_17, gR_62_18, gR_62_20, gR_62_21, gR_62_22, gR_62_23, gR_62_24, gR_62_28, gR_62_31, gR_62_32, gR_62_33, gR_62_34, gR_62_35, gR_62_37, gR_62_38, gJ_62, pJ_62, ln_63, xJ_63, yJ_63, ln_64, xI_64, yI_64, ln_65, xI_65, yI_65, ln_66, xI_66, yI_66, ln_67, xJ_67, yJ_67, ln_68, xJ_68, yJ_68, ln_69, xI_69, yI_69, ln_70, xI_70, yI_70, ln_71, xI_71, yI_71, ln_72, xI_72, yI_72, ln_73, xI_73, yI_73, ln_74, xI_74, yI_74, ln_75, xI_75, yI_75, ln_76, xJ_76, yJ_76, ln_77, xJ_77, yJ_77, ln_78, xI_78, yI_78, ln_79, xI_79, yI_79, ln_80, xI_80, yI_80, ln_81, xJ_81, yJ_81, ln_82, xI_82, yI_82, ln_83, xI_83, yI_83, ln_84, xJ_84, yJ_84, ln_85, xJ_85, yJ_85, ln_86, xI_86, yI_86, Option.bind_some, e62, nn_le (show n < 2147483648 by omega) (show n < 2147483648 by omega), Nat.le_refl, if_true]
theorem pair_book (i v : Int32) (N : RelN I L) (R : RelK I) : Both (fX9_book 1 i v) (fX10_book 62 i v) I L (fun I' L' => RelK I' ∧ Ch [12, 13, 66] [9] [] I L I' L') := by
  obtain ⟨d, a, hC, hM, hV⟩ := N
  have hd := hV.1
  have e4 : (I 4 0).toInt = d := by rw [hC.1, nn_toInt (by omega)]
  obtain ⟨k, hk, e12, e62, he⟩ := R
  have e62d : ∀ I', Ch [12, 13] [] [] I L I' L → (I' 62 0).toInt = d := fun I' c => by rw [c.2.1 0 (by simp), hM.1, nn_toInt (by omega)]
  unfold fX9_book fX10_book Both
  by_cases hx : i = -1
  · simp only [hx, if_true, kd_1, gI_1, pI_1, gR_1_0, gR_1_1, gR_1_3, gR_1_4, gR_1_5, gR_1_6, gR_1_7, gR_1_8, ln_49, xR_49, kd_2, gI_2, pI_2, gR_2_0, gR_2_1, gR_2_2, gR_2_3, rempty_12, Option.bind_some]
    refine ⟨0, up1 I 12 (up1 (I 12) 0 0), L, up1 (up1 I 12 (up1 (I 12) 0 0)) 62 (up1 ((up1 I 12 (up1 (I 12) 0 0)) 62) 9 0), L, rfl, by simp only [pI_62, Option.bind_some], ⟨0, by omega, ?_, ?_, fun j hj => ?_⟩, ?_⟩
    · rw [up1_n _ _ (by decide), up1_s, up1_s]
      rfl
    · rw [up1_s, up1_s]
      rfl
    · rw [up1_n _ _ (by decide), up1_n _ _ (by decide), up1_n _ _ (by decide), up1_n _ _ (by decide)]
      exact he j hj
    · exact ((ChI I L [12, 13, 66] [9] [] (by simp) (by decide)).tr (ChK _ L [12, 13, 66] [9] [] (by simp))).mono (by simp) (by simp) (by simp)
  simp only [hx, if_false, kd_62, kd_4, if_true, kd_1, gI_1, pI_1, gR_1_0, gR_1_1, gR_1_3, gR_1_4, gR_1_5, gR_1_6, gR_1_7, gR_1_8, ln_49, xR_49, kd_2, gI_2, pI_2, gR_2_0, gR_2_1, gR_2_2, gR_2_3, gR_3_0, between_s, in_s, i64_of32, Int64.reduceToInt, Int32.reduceToInt, Option.bind_some, has_4, isNumber_s, ite10, e4, e62d I (Ch.rf I L)]
  by_cases h1 : 0 ≤ i.toInt ∧ i.toInt ≤ d
  rotate_left
  · exact ⟨-1, I, L, I, L, by simp only [if_neg (show ¬ (0 ≤ i.toInt ∧ i.toInt ≤ (d : Int) ∧ i.toInt < 5) by omega)], by simp only [if_neg h1, isNumber_s, e62d I (Ch.rf I L), Option.bind_some, ite10], ⟨k, hk, e12, e62, he⟩, Ch.rf I L⟩
  have h1' : 0 ≤ i.toInt ∧ i.toInt ≤ (d : Int) ∧ i.toInt < 5 := by omega
  by_cases h2 : -99 ≤ v.toInt ∧ v.toInt ≤ 99
  rotate_left
  · exact ⟨-2, I, L, I, L, by simp only [if_pos h1', if_neg h2], by simp only [isNumber_s, e62d I (Ch.rf I L), Option.bind_some, ite10, if_pos h1, if_neg h2], ⟨k, hk, e12, e62, he⟩, Ch.rf I L⟩
  simp only [if_pos h1', if_pos h2, kd_1, gI_1, pI_1, gR_1_0, gR_1_1, gR_1_3, gR_1_4, gR_1_5, gR_1_6, gR_1_7, gR_1_8, ln_49, xR_49, kd_2, gI_2, pI_2, gR_2_0, gR_2_1, gR_2_2, gR_2_3, kd_12, if_true, radd_12 I L i v 0 k hk e12, Option.bind_some]
  by_cases h4 : k = 8
  · simp only [h4, if_true, Option.bind_some]
    refine ⟨-4, I, L, I, L, rfl, ?_, ⟨k, hk, e12, e62, he⟩, Ch.rf I L⟩
    simp only [isNumber_s, e62d I (Ch.rf I L), ite10, if_pos h1, if_pos h2, gI_62, Option.bind_some, e62, h4]
    rfl
  · simp only [h4, if_false, Option.bind_some]
    have q8 : ¬ nn k = 8 := fun h => h4 ((nn_eq (b := 8) (by omega) (by omega)).mp h)
    let I1 := up1 (up1 I 13 (up1 (up1 (up1 (I 13) (k * 3) i) (k * 3 + 1) v) (k * 3 + 2) 0)) 12 (up1 (I 12) 0 (nn (k + 1)))
    have c1 : Ch [12, 13] [] [] I L I1 L := by
      refine ⟨fun r hr h0 => ?_, fun q hq => ?_, fun _ _ => rfl⟩
      · show up1 (up1 I 13 _) 12 _ r = _
        rw [up1_n _ _ (fun e => hr (by simp [e])), up1_n _ _ (fun e => hr (by simp [e]))]
      · show up1 (up1 I 13 _) 12 _ 62 q = _
        rw [up1_n _ _ (by decide), up1_n _ _ (by decide)]
    have e1 := e62d I1 c1
    refine ⟨nn (k + 1), I1, L, up1 (up1 I1 66 (up1 (up1 (I 66) (2 * k) i) (2 * k + 1) v)) 62 (up1 (I 62) 9 (nn (k + 1))), L, rfl, ?_, ⟨k + 1, by omega, ?_, ?_, fun j hj => ?_⟩, ?_⟩
    · simp only [isNumber_s, e1, Option.bind_some, ite10, if_pos h1, if_pos h2]
      simp only [I1, kd_62, gI_62, pI_62, gR_62_1, gR_62_4, gR_62_6, gR_62_8, gR_62_10, gR_62_11, gR_62_12, gR_62_14, gR_62_16, gR_62_17, gR_62_18, gR_62_20, gR_62_21, gR_62_22, gR_62_23, gR_62_24, gR_62_28, gR_62_31, gR_62_32, gR_62_33, gR_62_34, gR_62_35, gR_62_37, gR_62_38, gJ_62, pJ_62, ln_63, xJ_63, yJ_63, ln_64, xI_64, yI_64, ln_65, xI_65, yI_65, ln_66, xI_66, yI_66, ln_67, xJ_67, yJ_67, ln_68, xJ_68, yJ_68, ln_69, xI_69, yI_69, ln_70, xI_70, yI_70, ln_71, xI_71, yI_71, ln_72, xI_72, yI_72, ln_73, xI_73, yI_73, ln_74, xI_74, yI_74, ln_75, xI_75, yI_75, ln_76, xJ_76, yJ_76, ln_77, xJ_77, yJ_77, ln_78, xI_78, yI_78, ln_79, xI_79, yI_79, ln_80, xI_80, yI_80, ln_81, xJ_81, yJ_81, ln_82, xI_82, yI_82, ln_83, xI_83, yI_83, ln_84, xJ_84, yJ_84, ln_85, xJ_85, yJ_85, ln_86, xI_86, yI_86, Option.bind_some, up1_e, Nat.reduceEqDiff, reduceIte, e62, q8, if_false, nn_2m, nn_p1, nn_lt0 (2 * k) (by omega), nn_nat (show 2 * k < 2147483648 by omega), show 2 * k < 16 by omega, not_false_eq_true, and_self, if_true, nn_lt0 (2 * k + 1) (by omega), nn_nat (show 2 * k + 1 < 2147483648 by omega), show 2 * k + 1 < 16 by omega, not_false_eq_true, and_self, if_true, up1_up1]
    · rw [up1_n _ _ (by decide), up1_n _ _ (by decide)]
      show up1 (up1 I 13 _) 12 _ 12 0 = _
      rw [up1_s, up1_s]
    · rw [up1_s, up1_s]
    · simp only [I1, up1_e, Nat.reduceEqDiff, reduceIte]
      have h3 := he j hj
      by_cases hjk : j = k
      · subst hjk
        simp only [show ¬ j * 3 = j * 3 + 2 by omega, show ¬ j * 3 = j * 3 + 1 by omega, show ¬ j * 3 + 1 = j * 3 + 2 by omega, show ¬ 2 * j = 2 * j + 1 by omega, if_false, if_true, true_and]
      · simp only [show ¬ j * 3 = k * 3 + 2 by omega, show ¬ j * 3 = k * 3 + 1 by omega, show ¬ j * 3 = k * 3 by omega, show ¬ j * 3 + 1 = k * 3 + 2 by omega, show ¬ j * 3 + 1 = k * 3 + 1 by omega, show ¬ j * 3 + 1 = k * 3 by omega, show ¬ 2 * j = 2 * k + 1 by omega, show ¬ 2 * j = 2 * k by omega, show ¬ 2 * j + 1 = 2 * k + 1 by omega, show ¬ 2 * j + 1 = 2 * k by omega, if_false]
        exact h3
    · refine ⟨fun r hr h0 => ?_, fun q hq => ?_, fun _ _ => rfl⟩
      · rw [up1_n _ _ h0, up1_n _ _ (fun e => hr (by simp [e])), c1.1 r (fun h => hr (by simp at h ⊢; omega)) h0]
      · rw [up1_s, up1_n _ _ (fun e => hq (by simp [e]))]
end PB
