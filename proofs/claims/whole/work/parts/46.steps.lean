/-- one clause, on degree, numbers, m and b -/
def stp (k D N : Int32) (s : Nat × (Nat → Int64) × Int32 × Int32) : Int32 × (Nat × (Nat → Int64) × Int32 × Int32) :=
  if k = 61 then (if -9999 ≤ N.toInt ∧ N.toInt ≤ 9999 then (s.2.2.1 + 10000, (s.1, s.2.1, N, s.2.2.2)) else (-2, s))
  else if k = 97 then (if 0 ≤ D.toInt ∧ D.toInt ≤ s.1 then (if -99 ≤ N.toInt ∧ N.toInt ≤ 99 then ((s.2.1 D.toNatClampNeg).toInt32 + 100, (s.1, up1 s.2.1 D.toNatClampNeg N.toInt64, s.2.2.1, s.2.2.2)) else (-2, s)) else (-1, s))
  else if k = 100 then (if 2 ≤ D.toInt ∧ D.toInt ≤ 4 then (nn s.1, (D.toNatClampNeg, (fun _ => 0), s.2.2.1, s.2.2.2)) else (-2, s))
  else if k = 116 then (if 0 ≤ D.toInt ∧ D.toInt < 5 then ((if mvOK s.1 s.2.1 D = true then 1 else -3), (s.1, mvA s.1 s.2.1 D, s.2.2.1, s.2.2.2)) else (-1, s))
  else (if 1 ≤ N.toInt ∧ N.toInt ≤ 40 then (s.2.2.2, (s.1, s.2.1, s.2.2.1, N)) else (-2, s))
def CSt (I : Nat → Nat → Int32) (s : Nat × (Nat → Int64) × Int32 × Int32) : Prop := AC 4 I s.1 s.2.1 ∧ I 3 1 = s.2.2.1 ∧ I 3 2 = s.2.2.2
def MSt (I : Nat → Nat → Int32) (L : Nat → Nat → Int64) (s : Nat × (Nat → Int64) × Int32 × Int32) : Prop := AM I L s.1 s.2.1 ∧ I 62 2 = s.2.2.1 ∧ I 62 3 = s.2.2.2
def VSt (s : Nat × (Nat → Int64) × Int32 × Int32) : Prop := VA s.1 s.2.1 ∧ (-9999 ≤ s.2.2.1.toInt ∧ s.2.2.1.toInt ≤ 9999) ∧ 1 ≤ s.2.2.2.toInt ∧ s.2.2.2.toInt ≤ 40
noncomputable def clsC (k D N : Int32) (h : Mem) : Option (Int32 × Mem) := if k = 61 then fX9_equal 1 N h else if k = 97 then fX9_number 1 D N h else if k = 100 then fX9_degree 1 D h else if k = 116 then fX9_move 1 D h else fX9_window 1 N h
noncomputable def clsM (k D N : Int32) (h : Mem) : Option (Int32 × Mem) := if k = 61 then fX10_equal 62 N h else if k = 97 then fX10_number 62 D N h else if k = 100 then fX10_degree 62 D h else if k = 116 then fX10_move 62 D h else fX10_window 62 N h
section ST
variable (I : Nat → Nat → Int32) (L : Nat → Nat → Int64)
theorem stepC (k D N : Int32) (s : Nat × (Nat → Int64) × Int32 × Int32) (hC : CSt I s) (hV : VSt s) : ∃ I' L', clsC k D N (mk I L) = some ((stp k D N s).1, mk I' L') ∧ CSt I' (stp k D N s).2 ∧ Ch [3, 4, 5] [] [6, 7] I L I' L' := by
  obtain ⟨d, a, m, b⟩ := s
  obtain ⟨c1, c2, c3⟩ := hC
  obtain ⟨v1, v2, v3⟩ := hV
  simp only at c1 c2 c3 v1 v2 v3
  have hd := v1.1
  have e4 : (I 4 0).toInt = d := by rw [c1.1, nn_toInt (by omega)]
  unfold clsC stp
  by_cases k1 : k = 61
  · simp only [if_pos k1]
    rw [equal_C]
    by_cases h : -9999 ≤ N.toInt ∧ N.toInt ≤ 9999
    · simp only [if_pos h, c2]
      exact ⟨_, _, rfl, ⟨⟨by rw [up1_n _ _ (by decide)]; exact c1.1, fun j hj => by rw [up1_n _ _ (by decide)]; exact c1.2 j hj⟩, by rw [up1_s, up1_s], by rw [up1_s, up1_n _ _ (by decide)]; exact c3⟩, ChI I L [3, 4, 5] [] [6, 7] (by simp) (by decide)⟩
    · simp only [if_neg h]
      exact ⟨_, _, rfl, ⟨c1, c2, c3⟩, Ch.rf I L⟩
  simp only [if_neg k1]
  by_cases k2 : k = 97
  · simp only [if_pos k2]
    rw [number_C, e4]
    by_cases h : 0 ≤ D.toInt ∧ D.toInt ≤ d
    · have hn := nat_toInt h.1
      rw [if_neg (by omega)]
      by_cases h2 : -99 ≤ N.toInt ∧ N.toInt ≤ 99
      · simp only [if_pos h, if_pos h2]
        refine ⟨up1 I 5 (up1 (I 5) D.toNatClampNeg N), L, ?_, ⟨⟨by rw [up1_n _ _ (by decide)]; exact c1.1, fun j hj => ?_⟩, by rw [up1_n _ _ (by decide)]; exact c2, by rw [up1_n _ _ (by decide)]; exact c3⟩, ChI I L [3, 4, 5] [] [6, 7] (by simp) (by decide)⟩
        · rw [← (show (I 5 D.toNatClampNeg).toInt64 = a D.toNatClampNeg from c1.2 _ (by omega)), l64_32]
        · rw [up1_s]
          simp only [up1_e]
          split
          · rfl
          · exact c1.2 j hj
      · simp only [if_pos h, if_neg h2]
        exact ⟨_, _, rfl, ⟨c1, c2, c3⟩, Ch.rf I L⟩
    · rw [if_pos (by omega)]
      simp only [if_neg h]
      exact ⟨_, _, rfl, ⟨c1, c2, c3⟩, Ch.rf I L⟩
  simp only [if_neg k2]
  by_cases k3 : k = 100
  · simp only [if_pos k3]
    rw [degree_C]
    by_cases h : 2 ≤ D.toInt ∧ D.toInt ≤ 4
    · simp only [if_pos h, c1.1]
      refine ⟨_, _, rfl, ⟨⟨?_, fun j hj => ?_⟩, ?_, ?_⟩, ⟨fun r hr h0 => ?_, fun q _ => ?_, fun _ _ => rfl⟩⟩
      · rw [up1_n _ _ (by decide), up1_s, up1_s]
        exact i32_nn (by omega)
      · rw [up1_s, if_pos hj]
        rfl
      · rw [up1_n _ _ (by decide), up1_n _ _ (by decide)]
        exact c2
      · rw [up1_n _ _ (by decide), up1_n _ _ (by decide)]
        exact c3
      · rw [up1_n _ _ (fun e => hr (by simp [e])), up1_n _ _ (fun e => hr (by simp [e]))]
      · rw [up1_n _ _ (by decide), up1_n _ _ (by decide)]
    · simp only [if_neg h]
      exact ⟨_, _, rfl, ⟨c1, c2, c3⟩, Ch.rf I L⟩
  simp only [if_neg k3]
  by_cases k4 : k = 116
  · simp only [if_pos k4]
    unfold fX9_move
    by_cases h : 0 ≤ D.toInt ∧ D.toInt < 5
    · obtain ⟨I1, L1, m1, m2, m3, m4⟩ := moveC_4 I L c1 v1 D h
      simp only [isMove_s, if_pos h, Option.bind_some, show ¬ (1 : Int32) = 0 by decide, if_false, gR_1_0, gR_2_0, gR_3_0, kd_4, if_true, m1, ite10]
      refine ⟨I1, L1, by split <;> rfl, ⟨m2, by rw [m3 3 (by decide)]; exact c2, by rw [m3 3 (by decide)]; exact c3⟩, ⟨fun r hr _ => m3 r (fun e => hr (by simp [e])), fun q _ => by rw [m3 62 (by decide)], fun r hr => m4 r (fun e => hr (by simp [e])) (fun e => hr (by simp [e]))⟩⟩
    · simp only [isMove_s, if_neg h, Option.bind_some, if_true]
      exact ⟨_, _, rfl, ⟨c1, c2, c3⟩, Ch.rf I L⟩
  simp only [if_neg k4]
  rw [window_C]
  by_cases h : 1 ≤ N.toInt ∧ N.toInt ≤ 40
  · simp only [if_pos h, c3]
    exact ⟨_, _, rfl, ⟨⟨by rw [up1_n _ _ (by decide)]; exact c1.1, fun j hj => by rw [up1_n _ _ (by decide)]; exact c1.2 j hj⟩, by rw [up1_s, up1_n _ _ (by decide)]; exact c2, by rw [up1_s, up1_s]⟩, ChI I L [3, 4, 5] [] [6, 7] (by simp) (by decide)⟩
  · simp only [if_neg h]
    exact ⟨_, _, rfl, ⟨c1, c2, c3⟩, Ch.rf I L⟩
end ST
