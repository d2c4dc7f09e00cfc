section TZ
variable (I : Nat → Nat → Int32) (L : Nat → Nat → Int64)
/-- the reference's place in the text -/
def aP (I : Nat → Nat → Int32) (p : Nat) : Nat → Nat → Int32 := up1 I 62 (up1 (I 62) 30 (nn p))
theorem aP_s (p : Nat) : aP I p 62 = up1 (I 62) 30 (nn p) := up1_s _ _ _
theorem aP_n (p : Nat) {r : Nat} (h : r ≠ 62) : aP I p r = I r := up1_n _ _ h
theorem readsNumber_s (c n p : Nat) (hc : c < 36) (hn : n ≤ 100) (hp : p < 10000) (e1 : I 62 29 = nn n) (e2 : I 62 30 = nn p) : fX10_readsNumber 62 (nn c) (mk I L) = if nOK (I 79) n p = true then some (1, mk (up1 (aP I (nEnd (I 79) n p)) 80 (up1 (I 80) c (nVal (I 79) n p))) L) else some (0, mk (aP I (nst (I 79) n p)) L) := by
  unfold fX10_readsNumber
  simp only [kd_62, if_true, here_s I L n p hn (by omega) e1 e2, Option.bind_some, jn]
  have hst : nst (I 79) n p < 20000 := by
    have := nst_le (I 79) n p
    omega
  have g1 : ∀ q, aP I q 62 29 = nn n := fun q => by rw [aP_s, up1_n _ _ (by decide), e1]
  have g2 : ∀ q, aP I q 62 30 = nn q := fun q => by rw [aP_s, up1_s]
  have g4 : ∀ q, aP I q 79 = I 79 := fun q => aP_n I q (by decide)
  have g5 : ∀ q, aP I q 80 = I 80 := fun q => aP_n I q (by decide)
  have g6 : ∀ q, up1 (aP I q) 62 (up1 (aP I q 62) 30 (nn (q + 1))) = aP I (q + 1) := fun q => by
    rw [aP_s]
    unfold aP
    rw [up1_up1, up1_up1]
  have key : ∀ (b : Int32), (b = if nx (I 79) n p = 45 then 1 else 0) → ((fX10_isDigit 62 (mk (aP I (nst (I 79) n p)) L)).bind (fun ((v12, h11) : Int32 × Mem) =>
     if v12 = 0 then
      some ((0 : Int32), h11)
     else
      lpF (fun k16 ((v13, v14, h15) : Int32 × Int32 × Mem) =>
        if 4 ≤ v14 then
         ((gR 10 h15 62 31).bind fun v21 =>
        if b = 0 then
         (yI 11 h15 v21 (nn c) v13).bind fun h23 =>
         some ((1 : Int32), h23)
        else
         (yI 11 h15 v21 (nn c) (-v13)).bind fun h22 =>
         some ((1 : Int32), h22))
        else
         if mKd h15 62 = 10 then (fX10_isDigit 62 h15).bind (fun ((v26, h25) : Int32 × Mem) =>
          if v26 = 0 then
           ((gR 10 h25 62 31).bind fun v21 =>
        if b = 0 then
         (yI 11 h25 v21 (nn c) v13).bind fun h23 =>
         some ((1 : Int32), h23)
        else
         (yI 11 h25 v21 (nn c) (-v13)).bind fun h22 =>
         some ((1 : Int32), h22))
          else
           if mKd h25 62 = 10 then (fX10_here 62 h25).bind (fun ((v28, h27) : Int32 × Mem) =>
            nm (((10 * v13) + v28) - 48 : Int32) fun v29 =>
            (gI 10 h27 62 30).bind fun v30 =>
            (pI 10 h27 62 30 (v30 + 1)).bind fun h31 =>
            nm (v14 + 1 : Int32) fun v32 =>
            k16 (v29, v32, h31)) else none) else none) FU (0, 0, h11))) = if nOK (I 79) n p = true then some (1, mk (up1 (aP I (nEnd (I 79) n p)) 80 (up1 (I 80) c (nVal (I 79) n p))) L) else some (0, mk (aP I (nst (I 79) n p)) L) := by
    intro b hb
    rw [isDigit_s _ L n (nst (I 79) n p) hn (by omega) (g1 _) (g2 _), g4]
    simp only [Option.bind_some, ite10]
    unfold nEnd nOK
    by_cases hd : isD (nx (I 79) n (nst (I 79) n p)) = true
    rotate_left
    · simp only [if_neg hd]
    simp only [if_pos hd]
    have hend : ∀ v, v = dval (I 79) n (nst (I 79) n p) (dcount (I 79) n (nst (I 79) n p)) → (if b = 0 then some ((1 : Int32), mk (up1 (aP I (nst (I 79) n p + dcount (I 79) n (nst (I 79) n p))) 80 (up1 (I 80) c v)) L) else some ((1 : Int32), mk (up1 (aP I (nst (I 79) n p + dcount (I 79) n (nst (I 79) n p))) 80 (up1 (I 80) c (-v))) L)) = some (1, mk (up1 (aP I (nst (I 79) n p + dcount (I 79) n (nst (I 79) n p))) 80 (up1 (I 80) c (nVal (I 79) n p))) L) := fun v hv => by
      unfold nVal
      rw [hb, hv]
      by_cases h45 : nx (I 79) n p = 45
      · simp only [if_pos h45, one0, if_false]
      · simp only [if_neg h45, if_true]
    have hc4 := dcount_le (I 79) n (nst (I 79) n p)
    refine lp_for' (fun e => (dval (I 79) n (nst (I 79) n p) e, nn e, mk (aP I (nst (I 79) n p + e)) L)) rfl (dcount (I 79) n (nst (I 79) n p)) (fun e he k => ?_) (fun k => ?_) (FU_gt (by omega))
    · have q4 : ¬ (4 : Int32) ≤ nn e := fun h => by
        have := (nn_le (m := 4) (by omega) (by omega)).mp h
        omega
      have q5 : 10 * dval (I 79) n (nst (I 79) n p) e + nx (I 79) n (nst (I 79) n p + e) - 48 = dval (I 79) n (nst (I 79) n p) (e + 1) := by
        show _ = dval (I 79) n (nst (I 79) n p) e * 10 + nx (I 79) n (nst (I 79) n p + e) - 48
        rw [Int32.mul_comm]
      simp only [if_neg q4, kd_62, if_true, isDigit_s _ L n (nst (I 79) n p + e) hn (by omega) (g1 _) (g2 _), here_s _ L n (nst (I 79) n p + e) hn (by omega) (g1 _) (g2 _), g4, dcount_d (I 79) n _ he, one0, if_false, Option.bind_some, gI_62, pI_62, g2, g6, nn_s, nm, q5]
      rfl
    · by_cases h4 : dcount (I 79) n (nst (I 79) n p) = 4
      · have q4 : (4 : Int32) ≤ nn (dcount (I 79) n (nst (I 79) n p)) := (nn_le (m := 4) (by omega) (by omega)).mpr (by omega)
        simp only [if_pos q4, gR_62_31, yI_80, nn_lt0 (c) (by omega), nn_nat (show c < 2147483648 by omega), show c < 36 by omega, not_false_eq_true, and_self, if_true, Option.bind_some, g5]
        exact hend _ rfl
      · have q4 : ¬ (4 : Int32) ≤ nn (dcount (I 79) n (nst (I 79) n p)) := fun h => by
          have := (nn_le (m := 4) (by omega) (by omega)).mp h
          omega
        have q5 : ¬ isD (nx (I 79) n (nst (I 79) n p + dcount (I 79) n (nst (I 79) n p))) = true := by
          rw [dcount_e (I 79) n _ (by omega)]
          decide
        simp only [if_neg q4, kd_62, if_true, isDigit_s _ L n (nst (I 79) n p + dcount (I 79) n (nst (I 79) n p)) hn (by omega) (g1 _) (g2 _), g4, if_neg q5, gR_62_31, yI_80, nn_lt0 (c) (by omega), nn_nat (show c < 2147483648 by omega), show c < 36 by omega, not_false_eq_true, and_self, if_true, Option.bind_some, g5]
        exact hend _ rfl
  by_cases h45 : nx (I 79) n p = 45
  · have e4 : up1 I 62 (up1 (I 62) 30 (I 62 30 + 1)) = aP I (nst (I 79) n p) := by
      unfold nst
      rw [if_pos h45, e2, nn_s]
      rfl
    have := key 1 (by rw [if_pos h45])
    simp only [if_pos h45, one0, if_false, gI_62, pI_62, Option.bind_some, e4, kd_62, if_true]
    simp only [one0, if_false] at this
    exact this
  · have e4 : up1 I 62 (up1 (I 62) 30 (I 62 30 + 0)) = aP I (nst (I 79) n p) := by
      unfold nst
      rw [if_neg h45, e2, show nn p + 0 = nn (p + 0) from nn_add p 0]
      rfl
    have := key 0 (by rw [if_neg h45])
    simp only [if_neg h45, if_true, gI_62, pI_62, Option.bind_some, e4, kd_62]
    simp only [if_true] at this
    exact this
end TZ
