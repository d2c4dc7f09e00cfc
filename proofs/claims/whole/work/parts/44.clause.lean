def hasDig (b : Int32) : Bool := decide (b = 100 ∨ b = 97 ∨ b = 116)
def hasNum (b : Int32) : Bool := decide (b = 97 ∨ b = 61 ∨ b = 119)
def isK (b : Int32) : Bool := decide (b = 100 ∨ b = 97 ∨ b = 61 ∨ b = 119 ∨ b = 116)
def clP2 (X : Nat → Int32) (n p : Nat) : Nat := if hasDig (nx X n p) = true then p + 2 else p + 1
def clD1 (X : Nat → Int32) (n p : Nat) : Bool := if hasDig (nx X n p) = true then isD (nx X n (p + 1)) else true
def clN1 (X : Nat → Int32) (n p : Nat) : Bool := if hasNum (nx X n p) = true then nOK X n (clP2 X n p) else true
def clOK (X : Nat → Int32) (n p : Nat) : Bool := isK (nx X n p) && (clD1 X n p && clN1 X n p)
def clEnd (X : Nat → Int32) (n p : Nat) : Nat := if isK (nx X n p) = true then (if clD1 X n p = true then (if hasNum (nx X n p) = true then nEnd X n (clP2 X n p) else clP2 X n p) else p + 1) else p
def clD (X : Nat → Int32) (n p : Nat) : Int32 := if hasDig (nx X n p) = true then nx X n (p + 1) - 48 else 0
def clN (X : Nat → Int32) (n p : Nat) : Int32 := if hasNum (nx X n p) = true then nVal X n (clP2 X n p) else 0
theorem ch5 {α : Type} (b : Int32) (x y : α) : (if b = 100 then x else if b = 97 then x else if b = 61 then x else if b = 119 then x else if b = 116 then x else y) = if isK b = true then x else y := by
  unfold isK
  by_cases h1 : b = 100
  · simp [h1]
  by_cases h2 : b = 97
  · simp [h2]
  by_cases h3 : b = 61
  · simp [h3]
  by_cases h4 : b = 119
  · simp [h4]
  by_cases h5 : b = 116
  · simp [h5]
  simp [h1, h2, h3, h4, h5]
theorem isK_c {b : Int32} (h : isK b = true) : b = 100 ∨ b = 97 ∨ b = 61 ∨ b = 119 ∨ b = 116 := of_decide_eq_true h
theorem chD {α : Type} {b : Int32} (h : isK b = true) (x y : α) : (if b = 61 then x else if b = 119 then x else y) = if hasDig b = true then y else x := by
  rcases isK_c h with rfl | rfl | rfl | rfl | rfl <;> rfl
theorem chN {α : Type} {b : Int32} (h : isK b = true) (x y : α) : (if b = 100 then x else if b = 116 then x else y) = if hasNum b = true then y else x := by
  rcases isK_c h with rfl | rfl | rfl | rfl | rfl <;> rfl
theorem hasDigit_s (b : Int32) (h : Mem) : fX5_hasDigit b h = some (if hasDig b = true then 1 else 0, h) := by
  unfold fX5_hasDigit hasDig
  by_cases h1 : b = 100
  · simp [h1]
  by_cases h2 : b = 97
  · simp [h2]
  by_cases h3 : b = 116
  · simp [h3]
  simp [h1, h2, h3]
theorem hasNumber_s (b : Int32) (h : Mem) : fX5_hasNumber b h = some (if hasNum b = true then 1 else 0, h) := by
  unfold fX5_hasNumber hasNum
  by_cases h1 : b = 97
  · simp [h1]
  by_cases h2 : b = 61
  · simp [h2]
  by_cases h3 : b = 119
  · simp [h3]
  simp [h1, h2, h3]
theorem isKind_s (b : Int32) (h : Mem) : fX5_isKind b h = some (if isK b = true then 1 else 0, h) := by
  unfold fX5_isKind
  simp only [hasDigit_s, hasNumber_s, Option.bind_some, ite10]
  unfold hasDig hasNum isK
  by_cases h1 : b = 100
  · simp [h1]
  by_cases h2 : b = 97
  · simp [h2]
  by_cases h3 : b = 61
  · simp [h3]
  by_cases h4 : b = 119
  · simp [h4]
  by_cases h5 : b = 116
  · simp [h5]
  simp [h1, h2, h3, h4, h5]
theorem nEnd_le (X : Nat → Int32) (n p : Nat) : nEnd X n p ≤ p + 5 := by
  unfold nEnd
  have := nst_le X n p
  have := dcount_le X n (nst X n p)
  split <;> omega
theorem clP2_le (X : Nat → Int32) (n p : Nat) : clP2 X n p ≤ p + 2 := by
  unfold clP2
  split <;> omega
theorem clEnd_le (X : Nat → Int32) (n p : Nat) : clEnd X n p ≤ p + 7 := by
  unfold clEnd
  have := clP2_le X n p
  have := nEnd_le X n (clP2 X n p)
  repeat' split
  all_goals omega
section CL
variable (I : Nat → Nat → Int32) (L : Nat → Nat → Int64)
/-- the reference reads a clause -/
theorem readsClause_s (n p k : Nat) (hk : k < 12) (hn : n ≤ 100) (hp : p < 5000) (e1 : I 62 29 = nn n) (e2 : I 62 30 = nn p) : ∃ I', fX10_readsClause 62 (nn k) (mk I L) = some (if clOK (I 79) n p = true then 1 else 0, mk I' L) ∧ Ch [80] [30] [] I L I' L ∧ I' 62 30 = nn (clEnd (I 79) n p) ∧ (clOK (I 79) n p = true → I' 80 (3 * k) = nx (I 79) n p ∧ (hasDig (nx (I 79) n p) = true → I' 80 (3 * k + 1) = clD (I 79) n p) ∧ (hasNum (nx (I 79) n p) = true → I' 80 (3 * k + 2) = clN (I 79) n p)) ∧ ∀ j, j < 3 * k → I' 80 j = I 80 j := by
  unfold fX10_readsClause
  have r1 : 3 * nn k = nn (3 * k) := nn_mul 3 k
  simp only [kd_62, if_true, here_s I L n p hn (by omega) e1 e2, Option.bind_some, jn, ch5]
  by_cases hK : isK (nx (I 79) n p) = true
  rotate_left
  · refine ⟨I, ?_, Ch.rf I L, ?_, fun h => ?_, fun j _ => rfl⟩
    · rw [if_neg hK, if_neg]
      unfold clOK
      simp [hK]
    · unfold clEnd
      rw [if_neg hK, e2]
    · exfalso
      unfold clOK at h
      simp [hK] at h
  simp only [if_pos hK, chD hK, chN hK, kd_62, gI_62, pI_62, gR_62_1, gR_62_4, gR_62_6, gR_62_8, gR_62_10, gR_62_11, gR_62_12, gR_62_14, gR_62_16, gR_62_17, gR_62_18, gR_62_20, gR_62_21, gR_62_22, gR_62_23, gR_62_24, gR_62_28, gR_62_31, gR_62_32, gR_62_33, gR_62_34, gR_62_35, gR_62_37, gR_62_38, gJ_62, pJ_62, ln_63, xJ_63, yJ_63, ln_64, xI_64, yI_64, ln_65, xI_65, yI_65, ln_66, xI_66, yI_66, ln_67, xJ_67, yJ_67, ln_68, xJ_68, yJ_68, ln_69, xI_69, yI_69, ln_70, xI_70, yI_70, ln_71, xI_71, yI_71, ln_72, xI_72, yI_72, ln_73, xI_73, yI_73, ln_74, xI_74, yI_74, ln_75, xI_75, yI_75, ln_76, xJ_76, yJ_76, ln_77, xJ_77, yJ_77, ln_78, xI_78, yI_78, ln_79, xI_79, yI_79, ln_80, xI_80, yI_80, ln_81, xJ_81, yJ_81, ln_82, xI_82, yI_82, ln_83, xI_83, yI_83, ln_84, xJ_84, yJ_84, ln_85, xJ_85, yJ_85, ln_86, xI_86, yI_86, Option.bind_some, r1, nn_p1, nn_p2, nn_lt0 (3 * k) (by omega), nn_nat (show 3 * k < 2147483648 by omega), show 3 * k < 36 by omega, not_false_eq_true, and_self, if_true, up1_e, Nat.reduceEqDiff, reduceIte, e2]
  obtain ⟨I1, hI1⟩ : ∃ I1, I1 = up1 (up1 I 80 (up1 (I 80) (3 * k) (nx (I 79) n p))) 62 (up1 (I 62) 30 (nn (p + 1))) := ⟨_, rfl⟩
  have c1 : Ch [80] [30] [] I L I1 L := by
    rw [hI1]
    refine ⟨fun r hr h0 => ?_, fun q hq => ?_, fun _ _ => rfl⟩
    · rw [up1_n _ _ h0, up1_n _ _ (fun e => hr (by simp [e]))]
    · rw [up1_s, up1_n _ _ (fun e => hq (by simp [e]))]
  have d1 : I1 62 29 = nn n := by rw [c1.2.1 29 (by decide), e1]
  have d2 : I1 62 30 = nn (p + 1) := by rw [hI1, up1_s, up1_s]
  have d3 : I1 79 = I 79 := c1.1 79 (by decide) (by decide)
  have d4 : I1 80 = up1 (I 80) (3 * k) (nx (I 79) n p) := by rw [hI1, up1_n _ _ (by decide), up1_s]
  rw [← hI1]
  -- the digit
  have dig : ∃ I2, (∀ f : Mem → Option (Int32 × Mem), (if hasDig (nx (I 79) n p) = true then (fX10_readsDigit 62 (nn (3 * k + 1)) (mk I1 L)).bind (fun ((v18, h17) : Int32 × Mem) => if v18 = 0 then some ((0 : Int32), h17) else f h17) else f (mk I1 L)) = if clD1 (I 79) n p = true then f (mk I2 L) else some (0, mk I2 L)) ∧ Ch [80] [30] [] I L I2 L ∧ I2 62 30 = nn (if clD1 (I 79) n p = true then clP2 (I 79) n p else p + 1) ∧ I2 80 (3 * k) = nx (I 79) n p ∧ (hasDig (nx (I 79) n p) = true → clD1 (I 79) n p = true → I2 80 (3 * k + 1) = clD (I 79) n p) ∧ ∀ j, j < 3 * k → I2 80 j = I 80 j := by
    unfold clD1 clP2 clD
    by_cases hD : hasDig (nx (I 79) n p) = true
    rotate_left
    · refine ⟨I1, fun f => ?_, c1, ?_, ?_, fun h => absurd h hD, fun j hj => ?_⟩
      · rw [if_neg hD, if_neg hD, if_pos rfl]
      · rw [if_neg hD, if_pos rfl, if_neg hD, d2]
      · rw [d4, up1_s]
      · rw [d4, up1_n _ _ (by omega)]
    simp only [if_pos hD]
    rw [readsDigit_s I1 L (3 * k + 1) n (p + 1) (by omega) hn (by omega) d1 d2, d3]
    by_cases h1 : isD (nx (I 79) n (p + 1)) = true
    · simp only [if_pos h1, Option.bind_some, one0, if_false]
      refine ⟨_, fun f => rfl, c1.tr (S' := [80]) (K' := [30]) (T' := []) ⟨fun r hr h0 => ?_, fun q hq => ?_, fun _ _ => rfl⟩ |>.mono (by simp) (by simp) (by simp), ?_, ?_, fun _ _ => ?_, fun j hj => ?_⟩
      · rw [up1_n _ _ h0, up1_n _ _ (fun e => hr (by simp [e]))]
      · rw [up1_s, up1_n _ _ (fun e => hq (by simp [e]))]
      · rw [up1_s, up1_s]
      · rw [up1_n _ _ (by decide), up1_s, up1_n _ _ (by omega), d4, up1_s]
      · rw [up1_n _ _ (by decide), up1_s, up1_s]
      · rw [up1_n _ _ (by decide), up1_s, up1_n _ _ (by omega), d4, up1_n _ _ (by omega)]
    · simp only [if_neg h1, Option.bind_some, if_true]
      refine ⟨I1, fun f => rfl, c1, d2, ?_, fun _ h => absurd h h1, fun j hj => ?_⟩
      · rw [d4, up1_s]
      · rw [d4, up1_n _ _ (by omega)]
  obtain ⟨I2, f1, c2, f2, f3, f4, f5⟩ := dig
  have hF := f1 (fun h9 => if hasNum (nx (I 79) n p) = true then (if mKd h9 62 = 10 then (fX10_readsNumber 62 (nn (3 * k + 2)) h9).bind (fun ((v13, h12) : Int32 × Mem) => if v13 = 0 then some ((0 : Int32), h12) else some ((1 : Int32), h12)) else none) else some ((1 : Int32), h9))
  simp only [kd_62, if_true] at hF
  rw [hF]
  have s1 : I2 62 29 = nn n := by rw [c2.2.1 29 (by decide), e1]
  have s3 : I2 79 = I 79 := c2.1 79 (by decide) (by decide)
  by_cases hD1 : clD1 (I 79) n p = true
  rotate_left
  · rw [if_neg hD1]
    rw [if_neg hD1] at f2
    refine ⟨I2, ?_, c2, ?_, fun h => ?_, f5⟩
    · rw [if_neg]
      unfold clOK
      simp [hD1]
    · unfold clEnd
      rw [if_pos hK, if_neg hD1, f2]
    · exfalso
      unfold clOK at h
      simp [hD1] at h
  rw [if_pos hD1]
  rw [if_pos hD1] at f2
  have hp2 := clP2_le (I 79) n p
  by_cases hN : hasNum (nx (I 79) n p) = true
  rotate_left
  · simp only [if_neg hN]
    refine ⟨I2, ?_, c2, ?_, fun h => ⟨f3, fun h => f4 h hD1, fun h => absurd h hN⟩, f5⟩
    · rw [if_pos]
      unfold clOK clN1
      rw [hK, hD1, if_neg hN]
      rfl
    · unfold clEnd
      rw [if_pos hK, if_pos hD1, if_neg hN, f2]
  simp only [if_pos hN]
  rw [readsNumber_s I2 L (3 * k + 2) n (clP2 (I 79) n p) (by omega) hn (by omega) s1 f2, s3]
  have hcl : clOK (I 79) n p = nOK (I 79) n (clP2 (I 79) n p) := by
    unfold clOK clN1
    rw [hK, hD1, if_pos hN]
    simp
  have hce : clEnd (I 79) n p = nEnd (I 79) n (clP2 (I 79) n p) := by
    unfold clEnd
    rw [if_pos hK, if_pos hD1, if_pos hN]
  rw [hcl, hce]
  by_cases h2 : nOK (I 79) n (clP2 (I 79) n p) = true
  · simp only [if_pos h2, Option.bind_some, one0, if_false]
    refine ⟨_, rfl, c2.tr (S' := [80]) (K' := [30]) (T' := []) ⟨fun r hr h0 => ?_, fun q hq => ?_, fun _ _ => rfl⟩ |>.mono (by simp) (by simp) (by simp), ?_, fun _ => ⟨?_, fun h => ?_, fun _ => ?_⟩, fun j hj => ?_⟩
    · rw [up1_n _ _ (fun e => hr (by simp [e])), aP_n _ _ h0]
    · rw [up1_n _ _ (by decide), aP_s, up1_n _ _ (fun e => hq (by simp [e]))]
    · rw [up1_n _ _ (by decide), aP_s, up1_s]
    · rw [up1_s, up1_n _ _ (by omega), f3]
    · rw [up1_s, up1_n _ _ (by omega), f4 h hD1]
    · rw [up1_s, up1_s]
      unfold clN
      rw [if_pos hN]
    · rw [up1_s, up1_n _ _ (by omega), f5 j hj]
  · simp only [if_neg h2, Option.bind_some, if_true]
    refine ⟨_, rfl, c2.tr (S' := [80]) (K' := [30]) (T' := []) ⟨fun r hr h0 => ?_, fun q hq => ?_, fun _ _ => rfl⟩ |>.mono (by simp) (by simp) (by simp), ?_, fun h => absurd h h2, fun j hj => ?_⟩
    · rw [aP_n _ _ h0]
    · rw [aP_s, up1_n _ _ (fun e => hq (by simp [e]))]
    · rw [aP_s, up1_s]
      unfold nEnd
      rw [if_neg h2]
    · rw [aP_n _ _ (by decide), f5 j hj]
end CL
