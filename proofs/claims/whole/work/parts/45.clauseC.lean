section CM
variable (I : Nat → Nat → Int32) (L : Nat → Nat → Int64)
theorem Ch45 {I I1 : Nat → Nat → Int32} {S : List Nat} {f : Nat → Int32} (c : Ch S [] [] I L I1 L) (h : 45 ∈ S) : Ch S [] [] I L (up1 I1 45 f) L := ⟨fun r hr h0 => by rw [up1_n _ _ (fun e => hr (by rw [e]; exact h))]; exact c.1 r hr h0, fun q hq => by rw [up1_n _ _ (by decide)]; exact c.2.1 q hq, fun _ _ => rfl⟩
/-- the class takes a clause -/
theorem takeClause_s (n p k : Nat) (hk : k < 12) (hn : n ≤ 100) (hp : p < 5000) (e1 : I 45 0 = nn n) (e2 : I 45 3 = nn p) (e3 : I 46 0 = nn k) : ∃ I', fX5_takeClause 45 (mk I L) = some (if clOK (I 48) n p = true then 1 else 0, mk I' L) ∧ Ch [45, 46, 47] [] [] I L I' L ∧ I' 45 0 = nn n ∧ I' 45 3 = nn (clEnd (I 48) n p) ∧ (clOK (I 48) n p = true → I' 46 0 = nn (k + 1) ∧ I' 47 (k * 3) = nx (I 48) n p ∧ I' 47 (k * 3 + 1) = clD (I 48) n p ∧ I' 47 (k * 3 + 2) = clN (I 48) n p) ∧ ∀ j, j < k * 3 → I' 47 j = I 47 j := by
  unfold fX5_takeClause
  simp only [kd_45, if_true, next_s I L n p hn (by omega) e1 e2, Option.bind_some, jn, isKind_s, hasDigit_s, hasNumber_s, kd_45, gI_45, pI_45, gR_45_1, gR_45_2, ln_48, xI_48, yI_48, ite10, up1_e, Nat.reduceEqDiff, reduceIte, e2, nn_s, up1_s, up1_up1]
  by_cases hK : isK (nx (I 48) n p) = true
  rotate_left
  · refine ⟨up1 I 45 (up1 (up1 (I 45) 4 0) 5 0), ?_, Ch45 L (S := [45, 46, 47]) (Ch.rf I L) (by decide), ?_, ?_, fun h => ?_, fun j _ => ?_⟩
    · rw [if_neg hK, if_neg]
      unfold clOK
      simp [hK]
    · rw [up1_s, up1_n _ _ (by decide), up1_n _ _ (by decide), e1]
    · unfold clEnd
      rw [if_neg hK, up1_s, up1_n _ _ (by decide), up1_n _ _ (by decide), e2]
    · exfalso
      unfold clOK at h
      simp [hK] at h
    · rw [up1_n _ _ (by decide)]
  simp only [if_pos hK]
  obtain ⟨I1, hI1⟩ : ∃ I1, I1 = up1 I 45 (up1 (up1 (up1 (I 45) 4 0) 5 0) 3 (nn (p + 1))) := ⟨_, rfl⟩
  have c1 : Ch [45, 46, 47] [] [] I L I1 L := by
    rw [hI1]
    exact Ch45 L (Ch.rf I L) (by decide)
  have d1 : I1 45 0 = nn n := by rw [hI1, up1_s, up1_n _ _ (by decide), up1_n _ _ (by decide), up1_n _ _ (by decide), e1]
  have d2 : I1 45 3 = nn (p + 1) := by rw [hI1, up1_s, up1_s]
  have d3 : I1 48 = I 48 := c1.1 48 (by decide) (by decide)
  have d4 : I1 45 4 = 0 := by rw [hI1, up1_s, up1_n _ _ (by decide), up1_n _ _ (by decide), up1_s]
  have d5 : I1 45 5 = 0 := by rw [hI1, up1_s, up1_n _ _ (by decide), up1_s]
  have d6 : ∀ r, r ≠ 45 → I1 r = I r := fun r hr => by rw [hI1, up1_n _ _ hr]
  rw [← hI1]
  -- the digit
  have dig : ∃ I2, (∀ f : Mem → Option (Int32 × Mem), (if hasDig (nx (I 48) n p) = true then (fX5_takeDigit 45 (mk I1 L)).bind (fun ((v29, h28) : Int32 × Mem) => if v29 = 0 then some ((0 : Int32), h28) else f h28) else f (mk I1 L)) = if clD1 (I 48) n p = true then f (mk I2 L) else some (0, mk I2 L)) ∧ (∀ r, r ≠ 45 → I2 r = I r) ∧ I2 45 0 = nn n ∧ I2 45 3 = nn (if clD1 (I 48) n p = true then clP2 (I 48) n p else p + 1) ∧ I2 45 5 = 0 ∧ (clD1 (I 48) n p = true → I2 45 4 = clD (I 48) n p) := by
    unfold clD1 clP2 clD
    by_cases hD : hasDig (nx (I 48) n p) = true
    rotate_left
    · refine ⟨I1, fun f => ?_, d6, d1, ?_, d5, fun _ => ?_⟩
      · rw [if_neg hD, if_neg hD, if_pos rfl]
      · rw [if_neg hD, if_pos rfl, if_neg hD, d2]
      · rw [if_neg hD, d4]
    simp only [if_pos hD]
    rw [takeDigit_s I1 L n (p + 1) hn (by omega) d1 d2, d3]
    by_cases h1 : isD (nx (I 48) n (p + 1)) = true
    · simp only [if_pos h1, Option.bind_some, one0, if_false]
      refine ⟨_, fun f => rfl, fun r hr => ?_, ?_, ?_, ?_, fun _ => ?_⟩
      · rw [up1_n _ _ hr, d6 r hr]
      · rw [up1_s, up1_n _ _ (by decide), up1_n _ _ (by decide), d1]
      · rw [up1_s, up1_s]
      · rw [up1_s, up1_n _ _ (by decide), up1_n _ _ (by decide), d5]
      · rw [up1_s, up1_n _ _ (by decide), up1_s]
    · simp only [if_neg h1, Option.bind_some, if_true]
      exact ⟨I1, fun f => rfl, d6, d1, d2, d5, fun h => absurd h h1⟩
  obtain ⟨I2, f1, f6, f7, f2, f5, f4⟩ := dig
  have c2 : Ch [45, 46, 47] [] [] I L I2 L := ⟨fun r hr _ => f6 r (fun e => hr (by rw [e]; decide)), fun q _ => by rw [f6 62 (by decide)], fun _ _ => rfl⟩
  have hF := f1 (fun h11 => if hasNum (nx (I 48) n p) = true then (if mKd h11 45 = 5 then (fX5_takeNumber 45 h11).bind (fun ((v25, h24) : Int32 × Mem) => if v25 = 0 then some ((0 : Int32), h24) else (gR 5 h24 45 1).bind fun v19 => (gI 5 h24 45 4).bind fun v20 => (gI 5 h24 45 5).bind fun v21 => if mKd h24 v19 = 4 then (fX4_add v19 (nx (I 48) n p) v20 v21 h24).bind (fun ((v23, h22) : Int32 × Mem) => some ((1 : Int32), h22)) else none) else none) else (gR 5 h11 45 1).bind fun v19 => (gI 5 h11 45 4).bind fun v20 => (gI 5 h11 45 5).bind fun v21 => if mKd h11 v19 = 4 then (fX4_add v19 (nx (I 48) n p) v20 v21 h11).bind (fun ((v23, h22) : Int32 × Mem) => some ((1 : Int32), h22)) else none)
  simp only [kd_45, kd_46, kd_45, gI_45, pI_45, gR_45_1, gR_45_2, ln_48, xI_48, yI_48, Option.bind_some, if_true, d4, d5] at hF
  simp only [kd_45, kd_46, kd_45, gI_45, pI_45, gR_45_1, gR_45_2, ln_48, xI_48, yI_48, Option.bind_some, if_true]
  rw [hF]
  have s3 : I2 48 = I 48 := f6 48 (by decide)
  by_cases hD1 : clD1 (I 48) n p = true
  rotate_left
  · rw [if_neg hD1]
    rw [if_neg hD1] at f2
    refine ⟨I2, ?_, c2, f7, ?_, fun h => ?_, fun j _ => by rw [f6 47 (by decide)]⟩
    · rw [if_neg]
      unfold clOK
      simp [hD1]
    · unfold clEnd
      rw [if_pos hK, if_neg hD1, f2]
    · exfalso
      unfold clOK at h
      simp [hD1] at h
  rw [if_pos hD1]
  rw [if_pos hD1] at f2
  have hp2 := clP2_le (I 48) n p
  have hadd : ∀ I3, (∀ r, r ≠ 45 → I3 r = I r) → I3 45 0 = nn n → I3 45 4 = clD (I 48) n p → I3 45 5 = clN (I 48) n p → ∃ I', (fX4_add 46 (nx (I 48) n p) (I3 45 4) (I3 45 5) (mk I3 L)).bind (fun x => some ((1 : Int32), x.snd)) = some (1, mk I' L) ∧ Ch [45, 46, 47] [] [] I L I' L ∧ I' 45 = I3 45 ∧ (I' 46 0 = nn (k + 1) ∧ I' 47 (k * 3) = nx (I 48) n p ∧ I' 47 (k * 3 + 1) = clD (I 48) n p ∧ I' 47 (k * 3 + 2) = clN (I 48) n p) ∧ ∀ j, j < k * 3 → I' 47 j = I 47 j := by
    intro I3 g1 g2 g3 g4
    rw [radd_46 I3 L _ _ _ k (by omega) (by rw [g1 46 (by decide)]; exact e3), if_neg (by omega)]
    refine ⟨_, rfl, ⟨fun r hr h0 => ?_, fun q _ => ?_, fun _ _ => rfl⟩, ?_, ⟨?_, ?_, ?_, ?_⟩, fun j hj => ?_⟩
    · rw [up1_n _ _ (fun e => hr (by rw [e]; decide)), up1_n _ _ (fun e => hr (by rw [e]; decide)), g1 r (fun e => hr (by rw [e]; decide))]
    · rw [up1_n _ _ (by decide), up1_n _ _ (by decide), g1 62 (by decide)]
    · rw [up1_n _ _ (by decide), up1_n _ _ (by decide)]
    · rw [up1_s, up1_s]
    · rw [up1_n _ _ (by decide), up1_s, up1_n _ _ (by omega), up1_n _ _ (by omega), up1_s]
    · rw [up1_n _ _ (by decide), up1_s, up1_n _ _ (by omega), up1_s, g3]
    · rw [up1_n _ _ (by decide), up1_s, up1_s, g4]
    · rw [up1_n _ _ (by decide), up1_s, up1_n _ _ (by omega), up1_n _ _ (by omega), up1_n _ _ (by omega), g1 47 (by decide)]
  by_cases hN : hasNum (nx (I 48) n p) = true
  rotate_left
  · simp only [if_neg hN]
    obtain ⟨I', a1, a2, a3, a4, a5⟩ := hadd I2 f6 f7 (f4 hD1) (by unfold clN; rw [if_neg hN, f5])
    refine ⟨I', ?_, a2, by rw [a3, f7], ?_, fun _ => a4, a5⟩
    · rw [a1, if_pos]
      unfold clOK clN1
      rw [hK, hD1, if_neg hN]
      rfl
    · unfold clEnd
      rw [if_pos hK, if_pos hD1, if_neg hN, a3, f2]
  simp only [if_pos hN]
  rw [takeNumber_s I2 L n (clP2 (I 48) n p) hn (by omega) f7 f2 f5, s3]
  have hcl : clOK (I 48) n p = nOK (I 48) n (clP2 (I 48) n p) := by
    unfold clOK clN1
    rw [hK, hD1, if_pos hN]
    simp
  have hce : clEnd (I 48) n p = nEnd (I 48) n (clP2 (I 48) n p) := by
    unfold clEnd
    rw [if_pos hK, if_pos hD1, if_pos hN]
  rw [hcl, hce]
  by_cases h2 : nOK (I 48) n (clP2 (I 48) n p) = true
  · simp only [if_pos h2, Option.bind_some, one0, if_false]
    obtain ⟨I', a1, a2, a3, a4, a5⟩ := hadd (tN I2 (nEnd (I 48) n (clP2 (I 48) n p)) (nVal (I 48) n (clP2 (I 48) n p))) (fun r hr => by rw [tN_n _ _ _ hr, f6 r hr]) (by rw [tN_s, up1_n _ _ (by decide), up1_n _ _ (by decide), f7]) (by rw [tN_s, up1_n _ _ (by decide), up1_n _ _ (by decide), f4 hD1]) (by unfold clN; rw [if_pos hN, tN_s, up1_s])
    refine ⟨I', ?_, a2, ?_, ?_, fun _ => a4, a5⟩
    · exact a1
    · rw [a3, tN_s, up1_n _ _ (by decide), up1_n _ _ (by decide), f7]
    · rw [a3, tN_s, up1_n _ _ (by decide), up1_s]
  · simp only [if_neg h2, Option.bind_some, if_true]
    refine ⟨_, rfl, ⟨fun r hr _ => ?_, fun q _ => ?_, fun _ _ => rfl⟩, ?_, ?_, fun h => absurd h h2, fun j _ => ?_⟩
    · rw [tN_n _ _ _ (fun e => hr (by rw [e]; decide)), f6 r (fun e => hr (by rw [e]; decide))]
    · rw [tN_n _ _ _ (by decide), f6 62 (by decide)]
    · rw [tN_s, up1_n _ _ (by decide), up1_n _ _ (by decide), f7]
    · rw [tN_s, up1_n _ _ (by decide), up1_s]
      unfold nEnd
      rw [if_neg h2]
    · rw [tN_n _ _ _ (by decide), f6 47 (by decide)]
end CM
