section PN
variable (I : Nat → Nat → Int32) (L : Nat → Nat → Int64)
theorem up62 (k : Nat) (v : Int32) : up1 I 62 (up1 (I 62) k v) 62 = up1 (I 62) k v := up1_s _ _ _
theorem degree_C (v : Int32) : fX9_degree 1 v (mk I L) = if 2 ≤ v.toInt ∧ v.toInt ≤ 4 then some (I 4 0, mk (up1 (up1 I 4 (up1 (I 4) 0 v)) 5 (fun j => if j < 5 then 0 else I 5 j)) L) else some (-2, mk I L) := by
  unfold fX9_degree
  simp only [between_s, gR_1_0, gR_2_0, gR_3_0, gI_4, kd_4, if_true, clear_s, Option.bind_some, ite10, Int32.reduceToInt]
theorem degree_M (v : Int32) : fX10_degree 62 v (mk I L) = if 2 ≤ v.toInt ∧ v.toInt ≤ 4 then some (I 62 0, mk (up1 I 62 (up1 (I 62) 0 v)) (up1 L 63 (fun j => if j < 5 then 0 else L 63 j))) else some (-2, mk I L) := by
  unfold fX10_degree
  simp only [in_s, i64_of32, Int64.reduceToInt, gI_62, pI_62, Option.bind_some, ite10]
  by_cases h : 2 ≤ v.toInt ∧ v.toInt ≤ 4
  · rw [if_pos h, if_pos h]
    refine lp_for' (fun i => (nn i, mk (up1 I 62 (up1 (I 62) 0 v)) (up1 L 63 (fun j => if j < i then 0 else L 63 j)))) ?_ 5 (fun i hi k => ?_) (fun k => ?_) (FU_gt (by omega))
    · rw [fill0, up1_id]
      rfl
    · simp only [nn5_le i (by omega), show ¬ 5 ≤ i by omega, if_false, gR_62_1, yJ_63, nn_lt0 (i) (by omega), nn_nat (show i < 2147483648 by omega), show i < 5 by omega, not_false_eq_true, and_self, if_true, Option.bind_some, nm, up1_s, up1_up1, fillup, nn_s]
    · simp only [nn5_le 5 (by omega), Nat.le_refl, if_true]
  · rw [if_neg h, if_neg h]
theorem Both_of {f g : Mem → Option (Int32 × Mem)} {I I1 I2 : Nat → Nat → Int32} {L L1 L2 : Nat → Nat → Int64} {P : (Nat → Nat → Int32) → (Nat → Nat → Int64) → Prop} {r r' : Int32} (hf : f (mk I L) = some (r, mk I1 L1)) (hg : g (mk I1 L1) = some (r', mk I2 L2)) (hr : r' = r) (hP : P I2 L2) : Both f g I L P := ⟨r, I1, L1, I2, L2, hf, by rw [hg, hr], hP⟩
theorem pair_degree (v : Int32) (R : RelN I L) : Both (fX9_degree 1 v) (fX10_degree 62 v) I L (fun I' L' => RelN I' L' ∧ Ch [4, 5] [0] [63] I L I' L') := by
  obtain ⟨d, a, hC, hM, hV⟩ := R
  by_cases h : 2 ≤ v.toInt ∧ v.toInt ≤ 4
  · have hf := degree_C I L v
    rw [if_pos h] at hf
    have hg := degree_M (up1 (up1 I 4 (up1 (I 4) 0 v)) 5 (fun j => if j < 5 then 0 else I 5 j)) L v
    rw [if_pos h] at hg
    refine Both_of hf hg ?_ ⟨⟨v.toNatClampNeg, fun _ => 0, ⟨?_, fun j hj => ?_⟩, ⟨?_, fun j hj => ?_⟩, ⟨?_, fun j hj => ?_, fun j hj _ => rfl⟩⟩, ?_⟩
    · rw [up1_n _ _ (by decide), up1_n _ _ (by decide), hM.1, hC.1]
    · rw [up1_n _ _ (by decide), up1_n _ _ (by decide), up1_s, up1_s]
      exact i32_nn (by omega)
    · rw [up1_n _ _ (by decide), up1_s, if_pos hj]
      rfl
    · rw [up1_s, up1_s]
      exact i32_nn (by omega)
    · rw [up1_s, if_pos hj]
    · have := nat_toInt (x := v) (by omega)
      omega
    · show -99 ≤ (0 : Int64).toInt ∧ (0 : Int64).toInt ≤ 99
      decide
    · refine ⟨fun r hr h0 => ?_, fun k hk => ?_, fun r hr => up1_n _ _ (fun e => hr (by simp [e]))⟩
      · rw [up1_n _ _ h0, up1_n _ _ (fun e => hr (by simp [e])), up1_n _ _ (fun e => hr (by simp [e]))]
      · rw [up1_s, up1_n _ _ (fun e => hk (by simp [e])), up1_n _ _ (by decide), up1_n _ _ (by decide)]
  · exact ⟨-2, I, L, I, L, by rw [degree_C, if_neg h], by rw [degree_M, if_neg h], ⟨d, a, hC, hM, hV⟩, Ch.rf I L⟩
theorem pair_number (i v : Int32) (R : RelN I L) : Both (fX9_number 1 i v) (fX10_number 62 i v) I L (fun I' L' => RelN I' L' ∧ Ch [5] [] [63] I L I' L') := by
  obtain ⟨d, a, hC, hM, hV⟩ := R
  have hd := hV.1
  have e4 : (I 4 0).toInt = d := by rw [hC.1, nn_toInt (by omega)]
  have e62 : (I 62 0).toInt = d := by rw [hM.1, nn_toInt (by omega)]
  by_cases h : 0 ≤ i.toInt ∧ i.toInt ≤ d
  · have hn := nat_toInt h.1
    have hi5 : i.toNatClampNeg < 5 := by omega
    by_cases hv : -99 ≤ v.toInt ∧ v.toInt ≤ 99
    · have hf := number_C I L i v
      rw [if_neg (by rw [e4]; omega), if_pos hv] at hf
      have hg := number_M (up1 I 5 (up1 (I 5) i.toNatClampNeg v)) L i v (by rw [up1_n _ _ (by decide), e62]; omega)
      rw [up1_n _ _ (by decide), if_neg (by rw [e62]; omega), if_pos hv] at hg
      refine Both_of hf hg ?_ ⟨⟨d, up1 a i.toNatClampNeg v.toInt64, ⟨?_, fun j hj => ?_⟩, ⟨?_, fun j hj => ?_⟩, ⟨hd, fun j hj => ?_, fun j hj hdj => ?_⟩⟩, ?_⟩
      · rw [hM.2 _ hi5, ← (show (I 5 i.toNatClampNeg).toInt64 = a i.toNatClampNeg from hC.2 _ hi5)]
        congr 1
        rw [i32_eq, Int64.toInt_toInt32, i64_of32]
        have := (I 5 i.toNatClampNeg).le_toInt
        have := (I 5 i.toNatClampNeg).toInt_lt
        apply Int.bmod_eq_of_le <;> omega
      · rw [up1_n _ _ (by decide)]
        exact hC.1
      · rw [up1_s]
        simp only [up1_e]
        split
        · rfl
        · exact hC.2 j hj
      · rw [up1_n _ _ (by decide)]
        exact hM.1
      · rw [up1_s]
        simp only [up1_e]
        split
        · rfl
        · exact hM.2 j hj
      · simp only [up1_e]
        split
        · rw [i64_of32]
          exact hv
        · exact hV.2.1 j hj
      · rw [up1_n _ _ (by omega)]
        exact hV.2.2 j hj hdj
      · exact (ChI I L [5] [] [63] (by simp) (by decide)).tr (ChL _ L [5] [] [63] (by simp)) |>.mono (by simp) (by simp) (by simp)
    · exact ⟨-2, I, L, I, L, by rw [number_C, if_neg (by rw [e4]; omega), if_neg hv], by rw [number_M _ _ _ _ (by rw [e62]; omega), if_neg (by rw [e62]; omega), if_neg hv], ⟨d, a, hC, hM, hV⟩, Ch.rf I L⟩
  · exact ⟨-1, I, L, I, L, by rw [number_C, if_pos (by rw [e4]; omega)], by rw [number_M _ _ _ _ (by rw [e62]; omega), if_pos (by rw [e62]; omega)], ⟨d, a, hC, hM, hV⟩, Ch.rf I L⟩
end PN
