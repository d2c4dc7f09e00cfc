theorem nEnd_n {X : Nat → Int32} {n p : Nat} (h : nOK X n p = true) : nEnd X n p ≤ n := by
  unfold nEnd
  rw [if_pos h]
  unfold nOK at h
  have h0 := isD_lt h
  by_cases hc : dcount X n (nst X n p) = 0
  · omega
  · have := isD_lt (dcount_d X n (nst X n p) (e := dcount X n (nst X n p) - 1) (by omega))
    omega
theorem clEnd_n {X : Nat → Int32} {n p : Nat} (h : clOK X n p = true) : clEnd X n p ≤ n := by
  have hK := clOK_K h
  have hp : p < n := by
    apply Classical.byContradiction
    intro h1
    unfold nx at hK
    rw [if_neg h1] at hK
    exact absurd hK (by decide)
  unfold clOK at h
  simp at h
  obtain ⟨_, hD, hN⟩ := h
  have h2 : clP2 X n p ≤ n := by
    unfold clP2
    unfold clD1 at hD
    by_cases h3 : hasDig (nx X n p) = true
    · rw [if_pos h3]
      rw [if_pos h3] at hD
      have := isD_lt hD
      omega
    · rw [if_neg h3]
      omega
  unfold clEnd
  rw [if_pos hK, if_pos hD]
  by_cases h3 : hasNum (nx X n p) = true
  · rw [if_pos h3]
    unfold clN1 at hN
    rw [if_pos h3] at hN
    exact nEnd_n hN
  · rw [if_neg h3]
    exact h2
theorem clsM_c {k D N D' N' : Int32} (h : isK k = true) (h1 : hasDig k = true → D = D') (h2 : hasNum k = true → N = N') (m : Mem) : clsM k D N m = clsM k D' N' m := by
  unfold clsM
  rcases isK_c h with e | e | e | e | e
  · subst e
    simp only [show ¬ (100 : Int32) = 61 by decide, show ¬ (100 : Int32) = 97 by decide, if_true, if_false, h1 (by decide)]
  · subst e
    simp only [show ¬ (97 : Int32) = 61 by decide, if_true, if_false, h1 (by decide), h2 (by decide)]
  · subst e
    simp only [if_true, if_false, h2 (by decide)]
  · subst e
    simp only [show ¬ (119 : Int32) = 61 by decide, show ¬ (119 : Int32) = 97 by decide, show ¬ (119 : Int32) = 100 by decide, show ¬ (119 : Int32) = 116 by decide, if_true, if_false, h2 (by decide)]
  · subst e
    simp only [show ¬ (116 : Int32) = 61 by decide, show ¬ (116 : Int32) = 97 by decide, show ¬ (116 : Int32) = 100 by decide, if_true, if_false, h1 (by decide)]
section RM
variable (I : Nat → Nat → Int32) (L : Nat → Nat → Int64)
theorem does_s (k : Nat) (hk : k < 12) (h : isK (I 80 (3 * k)) = true) : fX10_does 62 (nn k) (mk I L) = clsM (I 80 (3 * k)) (I 80 (3 * k + 1)) (I 80 (3 * k + 2)) (mk I L) := by
  unfold fX10_does clsM
  have r1 : 3 * nn k = nn (3 * k) := nn_mul 3 k
  simp only [kd_62, gI_62, pI_62, gR_62_1, gR_62_4, gR_62_6, gR_62_8, gR_62_10, gR_62_11, gR_62_12, gR_62_14, gR_62_16, gR_62_17, gR_62_18, gR_62_20, gR_62_21, gR_62_22, gR_62_23, gR_62_24, gR_62_28, gR_62_31, gR_62_32, gR_62_33, gR_62_34, gR_62_35, gR_62_37, gR_62_38, gJ_62, pJ_62, ln_63, xJ_63, yJ_63, ln_64, xI_64, yI_64, ln_65, xI_65, yI_65, ln_66, xI_66, yI_66, ln_67, xJ_67, yJ_67, ln_68, xJ_68, yJ_68, ln_69, xI_69, yI_69, ln_70, xI_70, yI_70, ln_71, xI_71, yI_71, ln_72, xI_72, yI_72, ln_73, xI_73, yI_73, ln_74, xI_74, yI_74, ln_75, xI_75, yI_75, ln_76, xJ_76, yJ_76, ln_77, xJ_77, yJ_77, ln_78, xI_78, yI_78, ln_79, xI_79, yI_79, ln_80, xI_80, yI_80, ln_81, xJ_81, yJ_81, ln_82, xI_82, yI_82, ln_83, xI_83, yI_83, ln_84, xJ_84, yJ_84, ln_85, xJ_85, yJ_85, ln_86, xI_86, yI_86, if_true, Option.bind_some, bind_id, r1, nn_p1, nn_p2, nn_lt0 (3 * k) (by omega), nn_nat (show 3 * k < 2147483648 by omega), show 3 * k < 36 by omega, not_false_eq_true, and_self, if_true, nn_lt0 (3 * k + 1) (by omega), nn_nat (show 3 * k + 1 < 2147483648 by omega), show 3 * k + 1 < 36 by omega, not_false_eq_true, and_self, if_true, nn_lt0 (3 * k + 2) (by omega), nn_nat (show 3 * k + 2 < 2147483648 by omega), show 3 * k + 2 < 36 by omega, not_false_eq_true, and_self, if_true]
  rcases isK_c h with h | h | h | h | h
  · rw [h]
    rfl
  · rw [h]
    rfl
  · rw [h]
    rfl
  · rw [h]
    rfl
  · rw [h]
    rfl
end RM
