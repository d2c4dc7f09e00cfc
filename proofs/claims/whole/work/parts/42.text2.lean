theorem dcount_le (X : Nat → Int32) (n p : Nat) : dcount X n p ≤ 4 := (ff_all _ 4).1
theorem dcount_d (X : Nat → Int32) (n p : Nat) {e : Nat} (h : e < dcount X n p) : isD (nx X n (p + e)) = true := (ff_all (fun e => isD (nx X n (p + e))) 4).2.1 e h
theorem dcount_e (X : Nat → Int32) (n p : Nat) (h : dcount X n p < 4) : isD (nx X n (p + dcount X n p)) = false := (ff_all (fun e => isD (nx X n (p + e))) 4).2.2 h
/-- where the digits of a number begin -/
def nst (X : Nat → Int32) (n p : Nat) : Nat := if nx X n p = 45 then p + 1 else p
def nOK (X : Nat → Int32) (n p : Nat) : Bool := isD (nx X n (nst X n p))
def nEnd (X : Nat → Int32) (n p : Nat) : Nat := if nOK X n p = true then nst X n p + dcount X n (nst X n p) else nst X n p
def nVal (X : Nat → Int32) (n p : Nat) : Int32 := if nx X n p = 45 then - dval X n (nst X n p) (dcount X n (nst X n p)) else dval X n (nst X n p) (dcount X n (nst X n p))
theorem nst_le (X : Nat → Int32) (n p : Nat) : nst X n p ≤ p + 1 := by
  unfold nst
  split <;> omega
theorem r3_s (f : Nat → Int32) (a c v : Int32) : up1 (up1 (up1 f 3 a) 5 v) 3 c = up1 (up1 f 3 c) 5 v := by
  funext j
  simp only [up1_e]
  by_cases h1 : j = 5
  · subst h1
    rfl
  · by_cases h2 : j = 3
    · subst h2
      rfl
    · simp only [if_neg h1, if_neg h2]
theorem r5_s (f : Nat → Int32) (a : Int32) (h : f 5 = 0) : up1 (up1 f 3 a) 5 0 = up1 f 3 a := by
  funext j
  rw [up1_e]
  by_cases h1 : j = 5
  · subst h1
    rw [if_pos rfl, up1_n _ _ (by decide), h]
  · rw [if_neg h1]
section TY
variable (I : Nat → Nat → Int32) (L : Nat → Nat → Int64)
theorem takeDigit_s (n p : Nat) (hn : n ≤ 100) (hp : p < 10000) (e1 : I 45 0 = nn n) (e2 : I 45 3 = nn p) : fX5_takeDigit 45 (mk I L) = if isD (nx (I 48) n p) = true then some (1, mk (up1 I 45 (up1 (up1 (I 45) 4 (nx (I 48) n p - 48)) 3 (nn (p + 1)))) L) else some (0, mk I L) := by
  unfold fX5_takeDigit
  simp only [kd_45, if_true, atDigit_s I L n p hn (by omega) e1 e2, Option.bind_some, ite10, next_s I L n p hn (by omega) e1 e2, kd_45, gI_45, pI_45, gR_45_1, gR_45_2, ln_48, xI_48, yI_48, up1_e, Nat.reduceEqDiff, reduceIte, e2, nn_s, up1_up1, up1_s]
theorem readsDigit_s (c n p : Nat) (hc : c < 36) (hn : n ≤ 100) (hp : p < 10000) (e1 : I 62 29 = nn n) (e2 : I 62 30 = nn p) : fX10_readsDigit 62 (nn c) (mk I L) = if isD (nx (I 79) n p) = true then some (1, mk (up1 (up1 I 80 (up1 (I 80) c (nx (I 79) n p - 48))) 62 (up1 (I 62) 30 (nn (p + 1)))) L) else some (0, mk I L) := by
  unfold fX10_readsDigit
  simp only [kd_62, if_true, isDigit_s I L n p hn (by omega) e1 e2, Option.bind_some, ite10, here_s I L n p hn (by omega) e1 e2, kd_62, gI_62, pI_62, gR_62_1, gR_62_4, gR_62_6, gR_62_8, gR_62_10, gR_62_11, gR_62_12, gR_62_14, gR_62_16, gR_62_17, gR_62_18, gR_62_20, gR_62_21, gR_62_22, gR_62_23, gR_62_24, gR_62_28, gR_62_31, gR_62_32, gR_62_33, gR_62_34, gR_62_35, gR_62_37, gR_62_38, gJ_62, pJ_62, ln_63, xJ_63, yJ_63, ln_64, xI_64, yI_64, ln_65, xI_65, yI_65, ln_66, xI_66, yI_66, ln_67, xJ_67, yJ_67, ln_68, xJ_68, yJ_68, ln_69, xI_69, yI_69, ln_70, xI_70, yI_70, ln_71, xI_71, yI_71, ln_72, xI_72, yI_72, ln_73, xI_73, yI_73, ln_74, xI_74, yI_74, ln_75, xI_75, yI_75, ln_76, xJ_76, yJ_76, ln_77, xJ_77, yJ_77, ln_78, xI_78, yI_78, ln_79, xI_79, yI_79, ln_80, xI_80, yI_80, ln_81, xJ_81, yJ_81, ln_82, xI_82, yI_82, ln_83, xI_83, yI_83, ln_84, xJ_84, yJ_84, ln_85, xJ_85, yJ_85, ln_86, xI_86, yI_86, nn_lt0 (c) (by omega), nn_nat (show c < 2147483648 by omega), show c < 36 by omega, not_false_eq_true, and_self, if_true, up1_e, Nat.reduceEqDiff, reduceIte, e2, nn_s]
/-- the class's text object as a number is taken -/
def tN (I : Nat → Nat → Int32) (p : Nat) (v : Int32) : Nat → Nat → Int32 := up1 I 45 (up1 (up1 (I 45) 3 (nn p)) 5 v)
theorem tN_s (p : Nat) (v : Int32) : tN I p v 45 = up1 (up1 (I 45) 3 (nn p)) 5 v := up1_s _ _ _
theorem tN_n (p : Nat) (v : Int32) {r : Nat} (h : r ≠ 45) : tN I p v r = I r := up1_n _ _ h
theorem takeNumber_s (n p : Nat) (hn : n ≤ 100) (hp : p < 10000) (e1 : I 45 0 = nn n) (e2 : I 45 3 = nn p) (e3 : I 45 5 = 0) : fX5_takeNumber 45 (mk I L) = if nOK (I 48) n p = true then some (1, mk (tN I (nEnd (I 48) n p) (nVal (I 48) n p)) L) else some (0, mk (tN I (nst (I 48) n p) 0) L) := by
  unfold fX5_takeNumber
  simp only [kd_45, if_true, next_s I L n p hn (by omega) e1 e2, Option.bind_some, jn]
  have hst : nst (I 48) n p < 20000 := by
    have := nst_le (I 48) n p
    omega
  have key : ∀ (b : Int32), (b = if nx (I 48) n p = 45 then 1 else 0) → ((fX5_isAtDigit 45 (mk (tN I (nst (I 48) n p) 0) L)).bind (fun ((v10, h9) : Int32 × Mem) =>
     if v10 = 0 then
      some ((0 : Int32), h9)
     else
      lpF (fun k13 ((v11, h12) : Int32 × Mem) =>
       if 4 ≤ v11 then
        if b = 0 then
         some ((1 : Int32), h12)
        else
         (gI 5 h12 45 5).bind fun v28 =>
         (pI 5 h12 45 5 (-v28)).bind fun h29 =>
         some ((1 : Int32), h29)
       else
        if mKd h12 45 = 5 then (fX5_isAtDigit 45 h12).bind (fun ((v16, h15) : Int32 × Mem) =>
         if v16 = 0 then
          if b = 0 then
           some ((1 : Int32), h15)
          else
           (gI 5 h15 45 5).bind fun v24 =>
           (pI 5 h15 45 5 (-v24)).bind fun h25 =>
           some ((1 : Int32), h25)
         else
          (gI 5 h15 45 5).bind fun v17 =>
          if mKd h15 45 = 5 then (fX5_next 45 h15).bind (fun ((v19, h18) : Int32 × Mem) =>
           (pI 5 h18 45 5 (((v17 * 10) + v19) - 48)).bind fun h20 =>
           (gI 5 h20 45 3).bind fun v21 =>
           (pI 5 h20 45 3 (v21 + 1)).bind fun h22 =>
           nm (v11 + 1 : Int32) fun v23 =>
           k13 (v23, h22)) else none) else none) FU (0, h9))) = if nOK (I 48) n p = true then some (1, mk (tN I (nEnd (I 48) n p) (nVal (I 48) n p)) L) else some (0, mk (tN I (nst (I 48) n p) 0) L) := by
    intro b hb
    have g1 : ∀ q v, tN I q v 45 0 = nn n := fun q v => by
      rw [tN_s, up1_n _ _ (by decide), up1_n _ _ (by decide), e1]
    have g2 : ∀ q v, tN I q v 45 3 = nn q := fun q v => by
      rw [tN_s, up1_n _ _ (by decide), up1_s]
    have g3 : ∀ q v, tN I q v 45 5 = v := fun q v => by
      rw [tN_s, up1_s]
    have g4 : ∀ q v, tN I q v 48 = I 48 := fun q v => tN_n I q v (by decide)
    have g5 : ∀ q v w, up1 (tN I q v) 45 (up1 (tN I q v 45) 5 w) = tN I q w := fun q v w => by
      rw [tN_s, up1_up1]
      unfold tN
      rw [up1_up1]
    have g6 : ∀ q v, up1 (tN I q v) 45 (up1 (tN I q v 45) 3 (nn (q + 1))) = tN I (q + 1) v := fun q v => by
      rw [tN_s]
      unfold tN
      rw [up1_up1, r3_s]
    rw [atDigit_s _ L n (nst (I 48) n p) hn (by omega) (g1 _ _) (g2 _ _), g4]
    simp only [Option.bind_some, ite10]
    unfold nEnd nOK
    by_cases hd : isD (nx (I 48) n (nst (I 48) n p)) = true
    rotate_left
    · simp only [if_neg hd]
    simp only [if_pos hd]
    have hend : ∀ v, v = dval (I 48) n (nst (I 48) n p) (dcount (I 48) n (nst (I 48) n p)) → (if b = 0 then some ((1 : Int32), mk (tN I (nst (I 48) n p + dcount (I 48) n (nst (I 48) n p)) v) L) else some ((1 : Int32), mk (tN I (nst (I 48) n p + dcount (I 48) n (nst (I 48) n p)) (-v)) L)) = some (1, mk (tN I (nst (I 48) n p + dcount (I 48) n (nst (I 48) n p)) (nVal (I 48) n p)) L) := fun v hv => by
      unfold nVal
      rw [hb, hv]
      by_cases h45 : nx (I 48) n p = 45
      · simp only [if_pos h45, one0, if_false]
      · simp only [if_neg h45, if_true]
    have hc4 := dcount_le (I 48) n (nst (I 48) n p)
    refine lp_for' (fun e => (nn e, mk (tN I (nst (I 48) n p + e) (dval (I 48) n (nst (I 48) n p) e)) L)) rfl (dcount (I 48) n (nst (I 48) n p)) (fun e he k => ?_) (fun k => ?_) (FU_gt (by omega))
    · have q4 : ¬ (4 : Int32) ≤ nn e := fun h => by
        have := (nn_le (m := 4) (by omega) (by omega)).mp h
        omega
      simp only [if_neg q4, kd_45, if_true, atDigit_s _ L n (nst (I 48) n p + e) hn (by omega) (g1 _ _) (g2 _ _), next_s _ L n (nst (I 48) n p + e) hn (by omega) (g1 _ _) (g2 _ _), g4, dcount_d (I 48) n _ he, one0, if_false, Option.bind_some, gI_45, pI_45, g5, g2, g3, g6, nn_s, nm]
      rfl
    · by_cases h4 : dcount (I 48) n (nst (I 48) n p) = 4
      · have q4 : (4 : Int32) ≤ nn (dcount (I 48) n (nst (I 48) n p)) := (nn_le (m := 4) (by omega) (by omega)).mpr (by omega)
        simp only [if_pos q4, gI_45, pI_45, Option.bind_some, g3, g5]
        exact hend _ rfl
      · have q4 : ¬ (4 : Int32) ≤ nn (dcount (I 48) n (nst (I 48) n p)) := fun h => by
          have := (nn_le (m := 4) (by omega) (by omega)).mp h
          omega
        have q5 : ¬ isD (nx (I 48) n (nst (I 48) n p + dcount (I 48) n (nst (I 48) n p))) = true := by
          rw [dcount_e (I 48) n _ (by omega)]
          decide
        simp only [if_neg q4, kd_45, if_true, atDigit_s _ L n (nst (I 48) n p + dcount (I 48) n (nst (I 48) n p)) hn (by omega) (g1 _ _) (g2 _ _), g4, if_neg q5, gI_45, pI_45, Option.bind_some, g3, g5]
        exact hend _ rfl
  by_cases h45 : nx (I 48) n p = 45
  · have e4 : up1 I 45 (up1 (I 45) 3 (I 45 3 + 1)) = tN I (nst (I 48) n p) 0 := by
      unfold nst
      rw [if_pos h45, e2, nn_s]
      unfold tN
      rw [r5_s _ _ e3]
    have := key 1 (by rw [if_pos h45])
    simp only [if_pos h45, one0, if_false, gI_45, pI_45, Option.bind_some, e4, kd_45, if_true]
    simp only [one0, if_false] at this
    exact this
  · have e4 : I = tN I (nst (I 48) n p) 0 := by
      unfold nst
      rw [if_neg h45]
      unfold tN
      rw [r5_s _ _ e3, ← e2, up1_id, up1_id]
    have := key 0 (by rw [if_neg h45])
    simp only [if_neg h45, if_true]
    simp only [if_true] at this
    rw [← e4] at this ⊢
    exact this
end TY
