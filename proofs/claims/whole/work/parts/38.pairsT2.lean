section PU
variable (I : Nat → Nat → Int32) (L : Nat → Nat → Int64)
theorem tape_loop {t : Nat} (ht : t < 6) : lpF (fun k18 ((v16, h17) : Int32 × Mem) =>
         if 60 ≤ v16 then
          some ((1 : Int32), h17)
         else
          (gR 10 h17 62 35).bind fun v20 =>
          (yJ h17 v20 ((60 * nn t) + v16) 0).bind fun h21 =>
          nm (v16 + 1 : Int32) fun v22 =>
          k18 (v22, h21)) FU (0, mk I L) = some (1, mk I (up1 L 84 (fun j => if 60 * t ≤ j ∧ j < 60 * t + 60 then 0 else L 84 j))) := by
  refine lp_for' (fun i => (nn i, mk I (up1 L 84 (fun j => if 60 * t ≤ j ∧ j < 60 * t + i then 0 else L 84 j)))) ?_ 60 (fun i hi k => ?_) (fun k => ?_) (FU_gt (by omega))
  · have e : (fun j => if 60 * t ≤ j ∧ j < 60 * t + 0 then (0 : Int64) else L 84 j) = L 84 := funext fun j => if_neg (by omega)
    show (0, mk I L) = (nn 0, mk I (up1 L 84 (fun j => if 60 * t ≤ j ∧ j < 60 * t + 0 then (0 : Int64) else L 84 j)))
    rw [e, up1_id]
    rfl
  · have h6 : ¬ (60 : Int32) ≤ nn i := by
      rw [show (60 : Int32) = nn 60 from rfl, nn_le (by omega) (by omega)]
      omega
    have e : up1 (fun j => if 60 * t ≤ j ∧ j < 60 * t + i then (0 : Int64) else L 84 j) (60 * t + i) 0 = (fun j => if 60 * t ≤ j ∧ j < 60 * t + (i + 1) then 0 else L 84 j) := by
      funext j
      rw [up1_e]
      by_cases h1 : j = 60 * t + i
      · rw [if_pos h1, if_pos (by omega)]
      · rw [if_neg h1]
        by_cases h2 : 60 * t ≤ j ∧ j < 60 * t + i
        · rw [if_pos h2, if_pos (by omega)]
        · rw [if_neg h2, if_neg (by omega)]
    simp only [if_neg h6, kd_62, gI_62, pI_62, gR_62_1, gR_62_4, gR_62_6, gR_62_8, gR_62_10, gR_62_11, gR_62_12, gR_62_14, gR_62_16, gR_62_17, gR_62_18, gR_62_20, gR_62_21, gR_62_22, gR_62_23, gR_62_24, gR_62_28, gR_62_31, gR_62_32, gR_62_33, gR_62_34, gR_62_35, gR_62_37, gR_62_38, gJ_62, pJ_62, ln_63, xJ_63, yJ_63, ln_64, xI_64, yI_64, ln_65, xI_65, yI_65, ln_66, xI_66, yI_66, ln_67, xJ_67, yJ_67, ln_68, xJ_68, yJ_68, ln_69, xI_69, yI_69, ln_70, xI_70, yI_70, ln_71, xI_71, yI_71, ln_72, xI_72, yI_72, ln_73, xI_73, yI_73, ln_74, xI_74, yI_74, ln_75, xI_75, yI_75, ln_76, xJ_76, yJ_76, ln_77, xJ_77, yJ_77, ln_78, xI_78, yI_78, ln_79, xI_79, yI_79, ln_80, xI_80, yI_80, ln_81, xJ_81, yJ_81, ln_82, xI_82, yI_82, ln_83, xI_83, yI_83, ln_84, xJ_84, yJ_84, ln_85, xJ_85, yJ_85, ln_86, xI_86, yI_86, Option.bind_some, nn_60, nn_add, nn_lt0 (60 * t + i) (by omega), nn_nat (show 60 * t + i < 2147483648 by omega), show 60 * t + i < 360 by omega, not_false_eq_true, and_self, if_true, nm, nn_s, up1_up1, up1_s, e]
  · show (if (60 : Int32) ≤ nn 60 then _ else _) = _
    rw [if_pos (show (60 : Int32) ≤ nn 60 by decide)]
theorem tape_M {t : Nat} (ht : t < 6) (s x : Int32) (m : Nat) (hm : (if 0 ≤ s then x else 0) = nn m) : ((gR 10 (mk I L) 62 33).bind fun v9 =>
       (yI 11 (mk I L) v9 (nn t) s).bind fun h10 =>
       (gR 10 h10 62 34).bind fun v11 =>
       jn (fun (v12 : Int32) =>
        (yI 11 h10 v11 (nn t) v12).bind fun h15 =>
        lpF (fun k18 ((v16, h17) : Int32 × Mem) =>
         if 60 ≤ v16 then
          some ((1 : Int32), h17)
         else
          (gR 10 h17 62 35).bind fun v20 =>
          (yJ h17 v20 ((60 * nn t) + v16) 0).bind fun h21 =>
          nm (v16 + 1 : Int32) fun v22 =>
          k18 (v22, h21)) FU (0, h15)) (fun k13 =>
        if 0 ≤ s then
         k13 x
        else
         k13 0)) = some (1, mk (up1 (up1 I 82 (up1 (I 82) t s)) 83 (up1 (I 83) t (nn m))) (up1 L 84 (fun j => if 60 * t ≤ j ∧ j < 60 * t + 60 then 0 else L 84 j))) := by
  simp only [gR_62_33, gR_62_34, Option.bind_some, yI_82, nn_lt0 (t) (by omega), nn_nat (show t < 2147483648 by omega), show t < 6 by omega, not_false_eq_true, and_self, if_true, jn]
  by_cases h : 0 ≤ s
  · rw [if_pos h] at hm
    rw [if_pos h, hm]
    simp only [yI_83, nn_lt0 (t) (by omega), nn_nat (show t < 2147483648 by omega), show t < 6 by omega, not_false_eq_true, and_self, if_true, Option.bind_some, tape_loop _ _ ht]
    rw [up1_n _ _ (show 83 ≠ 82 by decide)]
  · rw [if_neg h] at hm
    rw [if_neg h]
    simp only [yI_83, nn_lt0 (t) (by omega), nn_nat (show t < 2147483648 by omega), show t < 6 by omega, not_false_eq_true, and_self, if_true, Option.bind_some, tape_loop _ _ ht]
    rw [up1_n _ _ (show 83 ≠ 82 by decide), ← hm]
theorem tape_rel {t : Nat} (ht : t < 6) (s : Int32) (m : Nat) (hm : m ≤ 60) (hs : -1 ≤ s.toInt ∧ s.toInt ≤ 4) (h0 : s = -1 → m = 0) (R : RelT I L) (I1 I2 : Nat → Nat → Int32) (L1 L2 : Nat → Nat → Int64) (e1 : I1 = up1 I (50 + 2 * t) (up1 (up1 (I (50 + 2 * t)) 0 s) 2 (nn m))) (e2 : L1 = up1 L (51 + 2 * t) (fun j => if j < 60 then 0 else L (51 + 2 * t) j)) (e3 : I2 = up1 (up1 I1 82 (up1 (I1 82) t s)) 83 (up1 (I1 83) t (nn m))) (e4 : L2 = up1 L1 84 (fun j => if 60 * t ≤ j ∧ j < 60 * t + 60 then 0 else L1 84 j)) : RelT I2 L2 ∧ Ch TS' [] TT' I L I2 L2 := by
  subst e1 e2 e3 e4
  refine ⟨fun t' ht' => ?_, ⟨fun r hr h62 => ?_, fun k _ => ?_, fun r hr => ?_⟩⟩
  · obtain ⟨n, hn, f1, f2, f3, f4, f5, f6⟩ := R t' ht'
    simp only [up1_e, Nat.reduceEqDiff, if_false, show ¬ 50 + 2 * t' = 83 by omega, show ¬ 50 + 2 * t' = 82 by omega, show ¬ 83 = 50 + 2 * t by omega, show ¬ 82 = 50 + 2 * t by omega, show ¬ 84 = 51 + 2 * t by omega, show ¬ 51 + 2 * t' = 84 by omega, if_true, show (50 + 2 * t' = 50 + 2 * t) = (t' = t) from propext ⟨fun h => by omega, fun h => by omega⟩, show (51 + 2 * t' = 51 + 2 * t) = (t' = t) from propext ⟨fun h => by omega, fun h => by omega⟩, show ¬ 0 = 2 by decide]
    by_cases htt : t' = t
    · subst htt
      simp only [if_true]
      exact ⟨m, hm, rfl, rfl, rfl, hs, h0, fun j hj => by rw [if_pos (by omega), if_pos hj]⟩
    · simp only [if_neg htt]
      exact ⟨n, hn, f1, f2, f3, f4, f5, fun j hj => by rw [if_neg (by omega)]; exact f6 j hj⟩
  · rw [up1_n _ _ (fun e => hr (by rw [e]; decide)), up1_n _ _ (fun e => hr (by rw [e]; decide)), up1_n _ _ (fun e => hr (by rw [e]; exact TS_in ht))]
  · rw [up1_n _ _ (by decide), up1_n _ _ (by decide), up1_n _ _ (by omega)]
  · rw [up1_n _ _ (fun e => hr (by rw [e]; decide)), up1_n _ _ (fun e => hr (by rw [e]; exact TT_in ht))]
theorem pair_tape (a s x : Int32) (R : RelT I L) : Both (fX9_tape 1 a s x) (fX10_tape 62 a s x) I L (fun I' L' => RelT I' L' ∧ Ch TS' [] TT' I L I' L') := by
  unfold fX9_tape fX10_tape Both
  simp only [isTape_s, between_s, in_s, i64_of32, Int64.reduceToInt, Int32.reduceToInt, Option.bind_some, ite10]
  by_cases ha : 0 ≤ a.toInt ∧ a.toInt ≤ 5
  rotate_left
  · exact ⟨-1, I, L, I, L, by simp only [kd_1, gI_1, pI_1, gR_1_0, gR_1_1, gR_1_3, gR_1_4, gR_1_5, gR_1_6, gR_1_7, gR_1_8, ln_49, xR_49, if_true, tp_not I L ha, Option.bind_some], by rw [if_neg ha], R, Ch.rf I L⟩
  obtain ⟨t, ht, e⟩ := t_ex ha
  simp only [kd_1, gI_1, pI_1, gR_1_0, gR_1_1, gR_1_3, gR_1_4, gR_1_5, gR_1_6, gR_1_7, gR_1_8, ln_49, xR_49, if_true, tp_at I L ht a e, Option.bind_some, show ¬ 50 + 2 * t = 0 by omega, if_false, tp_kd I L ht, if_pos ha]
  subst e
  by_cases hs : s = -1
  · have hb : fX7_become (50 + 2 * t) (-1) 0 (mk I L) = _ := tp_become I L ht (-1) 0 (by omega)
    subst hs
    refine ⟨1, up1 I (50 + 2 * t) (up1 (up1 (I (50 + 2 * t)) 0 (-1)) 2 (nn 0)), up1 L (51 + 2 * t) (fun j => if j < 60 then 0 else L (51 + 2 * t) j), _, _, by simp only [if_true, hb, Option.bind_some], ?_, tape_rel I L ht (-1) 0 (by omega) (by decide) (fun _ => rfl) R _ _ _ _ rfl rfl rfl rfl⟩
    simp only [Int32.reduceToInt, if_pos (show (-1 : Int) ≤ -1 ∧ (-1 : Int) ≤ 4 by decide), jn, if_pos (show (-1 : Int32) < 0 by decide)]
    exact tape_M _ _ ht (-1) x 0 (by rw [if_neg (by decide)]; rfl)
  by_cases hr : 0 ≤ s.toInt ∧ s.toInt ≤ 4
  rotate_left
  · refine ⟨-2, I, L, I, L, by simp only [if_neg hs, if_neg hr], ?_, R, Ch.rf I L⟩
    rw [if_neg]
    intro h
    exact hs (i32_eq.mpr (show s.toInt = -1 by omega))
  have hs0 : ¬ s < 0 := by rw [i32_lt]; simp; omega
  have hs1 : 0 ≤ s := by rw [i32_le]; simp; omega
  simp only [if_neg hs, if_pos hr, if_pos (show -1 ≤ s.toInt ∧ s.toInt ≤ 4 by omega), jn, if_neg hs0]
  by_cases h1 : x ≤ 60
  rotate_left
  · exact ⟨-2, I, L, I, L, by simp only [if_neg h1], by simp only [if_neg h1], R, Ch.rf I L⟩
  by_cases h2 : 0 ≤ x
  rotate_left
  · exact ⟨-14, I, L, I, L, by simp only [if_pos h1, if_neg h2], by simp only [if_pos h1, if_neg h2], R, Ch.rf I L⟩
  have h3 : 0 ≤ x.toInt ∧ x.toInt ≤ 60 := ⟨by rw [i32_le] at h2; simpa using h2, by rw [i32_le] at h1; simpa using h1⟩
  obtain ⟨m, hm, e⟩ := i32_ex h3.1
  subst e
  rw [nn_toInt hm] at h3
  refine ⟨1, up1 I (50 + 2 * t) (up1 (up1 (I (50 + 2 * t)) 0 s) 2 (nn m)), up1 L (51 + 2 * t) (fun j => if j < 60 then 0 else L (51 + 2 * t) j), _, _, by simp only [if_pos h1, if_pos h2, tp_become I L ht s m (by omega), Option.bind_some], ?_, tape_rel I L ht s m (by omega) (by omega) (fun h => absurd h hs) R _ _ _ _ rfl rfl rfl rfl⟩
  simp only [if_pos h1, if_pos h2]
  exact tape_M _ _ ht s (nn m) m (if_pos hs1)
end PU
