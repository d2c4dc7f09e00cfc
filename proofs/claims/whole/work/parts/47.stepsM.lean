theorem VSt_s (k D N : Int32) (s : Nat × (Nat → Int64) × Int32 × Int32) (hV : VSt s) : VSt (stp k D N s).2 := by
  obtain ⟨d, a, m, b⟩ := s
  obtain ⟨v1, v2, v3⟩ := hV
  simp only at v1 v2 v3
  have hd := v1.1
  unfold stp
  by_cases k1 : k = 61
  · simp only [if_pos k1]
    by_cases h : -9999 ≤ N.toInt ∧ N.toInt ≤ 9999
    · simp only [if_pos h]
      exact ⟨v1, h, v3⟩
    · simp only [if_neg h]
      exact ⟨v1, v2, v3⟩
  simp only [if_neg k1]
  by_cases k2 : k = 97
  · simp only [if_pos k2]
    by_cases h : 0 ≤ D.toInt ∧ D.toInt ≤ d
    · have hn := nat_toInt h.1
      by_cases h2 : -99 ≤ N.toInt ∧ N.toInt ≤ 99
      · simp only [if_pos h, if_pos h2]
        refine ⟨⟨hd, fun j hj => ?_, fun j hj hdj => ?_⟩, v2, v3⟩
        · simp only [up1_e]
          split
          · rw [i64_of32]
            exact h2
          · exact v1.2.1 j hj
        · simp only [up1_e]
          rw [if_neg (by omega)]
          exact v1.2.2 j hj hdj
      · simp only [if_pos h, if_neg h2]
        exact ⟨v1, v2, v3⟩
    · simp only [if_neg h]
      exact ⟨v1, v2, v3⟩
  simp only [if_neg k2]
  by_cases k3 : k = 100
  · simp only [if_pos k3]
    by_cases h : 2 ≤ D.toInt ∧ D.toInt ≤ 4
    · simp only [if_pos h]
      have := nat_toInt (x := D) (by omega)
      refine ⟨⟨by omega, fun j hj => ?_, fun j _ _ => rfl⟩, v2, v3⟩
      show -99 ≤ (0 : Int64).toInt ∧ (0 : Int64).toInt ≤ 99
      decide
    · simp only [if_neg h]
      exact ⟨v1, v2, v3⟩
  simp only [if_neg k3]
  by_cases k4 : k = 116
  · simp only [if_pos k4]
    by_cases h : 0 ≤ D.toInt ∧ D.toInt < 5
    · simp only [if_pos h]
      exact ⟨VA_mv v1 D, v2, v3⟩
    · simp only [if_neg h]
      exact ⟨v1, v2, v3⟩
  simp only [if_neg k4]
  by_cases h : 1 ≤ N.toInt ∧ N.toInt ≤ 40
  · simp only [if_pos h]
    exact ⟨v1, v2, h⟩
  · simp only [if_neg h]
    exact ⟨v1, v2, v3⟩
section SM
variable (I : Nat → Nat → Int32) (L : Nat → Nat → Int64)
theorem stepM (k D N : Int32) (s : Nat × (Nat → Int64) × Int32 × Int32) (hM : MSt I L s) (hV : VSt s) : ∃ I' L', clsM k D N (mk I L) = some ((stp k D N s).1, mk I' L') ∧ MSt I' L' (stp k D N s).2 ∧ Ch [] [0, 2, 3] [63, 67, 68] I L I' L' := by
  obtain ⟨d, a, m, b⟩ := s
  obtain ⟨c1, c2, c3⟩ := hM
  obtain ⟨v1, v2, v3⟩ := hV
  simp only at c1 c2 c3 v1 v2 v3
  have hd := v1.1
  have e4 : (I 62 0).toInt = d := by rw [c1.1, nn_toInt (by omega)]
  unfold clsM stp
  by_cases k1 : k = 61
  · simp only [if_pos k1]
    rw [equal_M]
    by_cases h : -9999 ≤ N.toInt ∧ N.toInt ≤ 9999
    · simp only [if_pos h, c2]
      exact ⟨_, _, rfl, ⟨⟨by rw [up1_s, up1_n _ _ (by decide)]; exact c1.1, c1.2⟩, by rw [up1_s, up1_s], by rw [up1_s, up1_n _ _ (by decide)]; exact c3⟩, ChK I L [] [0, 2, 3] [63, 67, 68] (by simp)⟩
    · simp only [if_neg h]
      exact ⟨_, _, rfl, ⟨c1, c2, c3⟩, Ch.rf I L⟩
  simp only [if_neg k1]
  by_cases k2 : k = 97
  · simp only [if_pos k2]
    rw [number_M I L D N (by omega), e4]
    by_cases h : 0 ≤ D.toInt ∧ D.toInt ≤ d
    · have hn := nat_toInt h.1
      rw [if_neg (by omega)]
      by_cases h2 : -99 ≤ N.toInt ∧ N.toInt ≤ 99
      · simp only [if_pos h, if_pos h2]
        refine ⟨I, up1 L 63 (up1 (L 63) D.toNatClampNeg N.toInt64), ?_, ⟨⟨c1.1, fun j hj => ?_⟩, c2, c3⟩, ChL I L [] [0, 2, 3] [63, 67, 68] (by simp)⟩
        · rw [c1.2 _ (by omega)]
        · rw [up1_s]
          simp only [up1_e]
          split
          · rfl
          · exact c1.2 j hj
      · simp only [if_pos h, if_neg h2]
        exact ⟨_, _, rfl, ⟨c1, c2, c3⟩, Ch.rf I L⟩
    · rw [if_pos (by omega)]
      simp only [if_neg h]
      exact ⟨_, _, rfl, ⟨c1, c2, c3⟩, Ch.rf I L⟩
  simp only [if_neg k2]
  by_cases k3 : k = 100
  · simp only [if_pos k3]
    rw [degree_M]
    by_cases h : 2 ≤ D.toInt ∧ D.toInt ≤ 4
    · simp only [if_pos h, c1.1]
      refine ⟨_, _, rfl, ⟨⟨?_, fun j hj => ?_⟩, ?_, ?_⟩, ⟨fun r hr h0 => ?_, fun q hq => ?_, fun r hr => ?_⟩⟩
      · rw [up1_s, up1_s]
        exact i32_nn (by omega)
      · rw [up1_s, if_pos hj]
      · rw [up1_s, up1_n _ _ (by decide)]
        exact c2
      · rw [up1_s, up1_n _ _ (by decide)]
        exact c3
      · rw [up1_n _ _ h0]
      · rw [up1_s, up1_n _ _ (fun e => hq (by simp [e]))]
      · rw [up1_n _ _ (fun e => hr (by simp [e]))]
    · simp only [if_neg h]
      exact ⟨_, _, rfl, ⟨c1, c2, c3⟩, Ch.rf I L⟩
  simp only [if_neg k3]
  by_cases k4 : k = 116
  · simp only [if_pos k4]
    unfold fX10_move
    by_cases h : 0 ≤ D.toInt ∧ D.toInt < 5
    · obtain ⟨L2, m1, m2, m3⟩ := movesM I L c1 v1 D h
      simp only [in_s, i64_of32, Int64.reduceToInt, if_pos (show 0 ≤ D.toInt ∧ D.toInt ≤ 4 by omega), if_pos h, Option.bind_some, show ¬ (1 : Int32) = 0 by decide, if_false, kd_62, if_true, m1, ite10]
      refine ⟨I, L2, by split <;> rfl, ⟨m2, c2, c3⟩, ⟨fun _ _ _ => rfl, fun _ _ => rfl, fun r hr => m3 r (fun e => hr (by simp [e])) (fun e => hr (by simp [e])) (fun e => hr (by simp [e]))⟩⟩
    · simp only [in_s, i64_of32, Int64.reduceToInt, if_neg (show ¬ (0 ≤ D.toInt ∧ D.toInt ≤ 4) by omega), if_neg h, Option.bind_some, if_true]
      exact ⟨_, _, rfl, ⟨c1, c2, c3⟩, Ch.rf I L⟩
  simp only [if_neg k4]
  rw [window_M]
  by_cases h : 1 ≤ N.toInt ∧ N.toInt ≤ 40
  · simp only [if_pos h, c3]
    exact ⟨_, _, rfl, ⟨⟨by rw [up1_s, up1_n _ _ (by decide)]; exact c1.1, c1.2⟩, by rw [up1_s, up1_n _ _ (by decide)]; exact c2, by rw [up1_s, up1_s]⟩, ChK I L [] [0, 2, 3] [63, 67, 68] (by simp)⟩
  · simp only [if_neg h]
    exact ⟨_, _, rfl, ⟨c1, c2, c3⟩, Ch.rf I L⟩
end SM
