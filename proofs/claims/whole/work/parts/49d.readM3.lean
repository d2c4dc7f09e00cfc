section RO
variable (I : Nat → Nat → Int32) (L : Nat → Nat → Int64)
theorem read_M (n : Nat) (hn : n ≤ 100) (hX : ∀ j, j < 100 → 0 ≤ (I 79 j).toInt) (e1 : I 62 29 = nn n) (s : Nat × (Nat → Int64) × Int32 × Int32) (hM : MSt I L s) (hV : VSt s) : ∃ I' L', fX10_read 62 (mk I L) = some (if whol (I 79) n = true then (rn (I 79) n s (lastC (I 79) n + 1)).1 else -10 - nn (clEnd (I 79) n (Pl (I 79) n (lastC (I 79) n))), mk I' L') ∧ MSt I' L' (if whol (I 79) n = true then (rn (I 79) n s (lastC (I 79) n + 1)).2 else s) ∧ Ch [80] [0, 2, 3, 29, 30] [63, 67, 68] I L I' L' ∧ I' 62 29 = 0 := by
  have hK := lastC_lt (I 79) n
  have hP := Pl_le (I 79) n
  have c0 : Ch [80] [30] [] I L (up1 I 62 (up1 (I 62) 30 0)) L := ChK I L [80] [30] [] (by simp)
  obtain ⟨I1, f1, f2, f3, f4, f5⟩ := readsClause_s (up1 I 62 (up1 (I 62) 30 0)) L n 0 0 (by omega) hn (by omega) (by rw [up1_s, up1_n _ _ (by decide), e1]) (by rw [up1_s, up1_s]; rfl)
  rw [show (up1 I 62 (up1 (I 62) 30 0)) 79 = I 79 from up1_n _ _ (by decide)] at f1 f3 f4
  unfold fX10_read
  have f1' : fX10_readsClause 62 0 (mk (up1 I 62 (up1 (I 62) 30 0)) L) = _ := f1
  simp only [pI_62, kd_62, if_true, f1', Option.bind_some]
  refine Exists.elim (lp_ex (f := fun k7 ((v4, v5, h6) : Int32 × Int32 × Mem) =>
   jn (fun (h9 : Mem) =>
    (gI 10 h9 62 30).bind fun v12 =>
    (gI 10 h9 62 29).bind fun v13 =>
    jn (fun (v14 : Int32) =>
     nm (v5 &&& v14 : Int32) fun v17 =>
     (pI 10 h9 62 29 0).bind fun h18 =>
     if v17 = 0 then
      (gI 10 h18 62 30).bind fun v19 =>
      some (((-10) - v19 : Int32), h18)
     else
      lpF (fun k23 ((v20, v21, h22) : Int32 × Int32 × Mem) =>
       if v4 < v21 then
        some ((v20 : Int32), h22)
       else
        if mKd h22 62 = 10 then (fX10_does 62 v21 h22).bind (fun ((v26, h25) : Int32 × Mem) =>
         if v26 < 0 then
          nm (v20 + 0 : Int32) fun v29 =>
          nm (v21 + 1 : Int32) fun v30 =>
          k23 (v29, v30, h25)
         else
          nm (v20 + 1 : Int32) fun v27 =>
          nm (v21 + 1 : Int32) fun v28 =>
          k23 (v27, v28, h25)) else none) FU (0, 0, h18)) (fun k15 =>
     if v12 = v13 then
      k15 1
     else
      k15 0)) (fun k10 =>
    if v5 = 0 then
     k10 h6
    else
     if mKd h6 62 = 10 then (fX10_here 62 h6).bind (fun ((v36, h35) : Int32 × Mem) =>
      if v36 = 59 then
       if 12 ≤ (v4 + 1) then
        k10 h35
       else
        (gI 10 h35 62 30).bind fun v37 =>
        (pI 10 h35 62 30 (v37 + 1)).bind fun h38 =>
        nm (v4 + 1 : Int32) fun v39 =>
        if mKd h38 62 = 10 then (fX10_readsClause 62 v39 h38).bind (fun ((v41, h40) : Int32 × Mem) =>
         k7 (v39, v41, h40)) else none
      else
       k10 h35) else none))
    (fun e s1 => s1.1 = nn e ∧ s1.2.1 = (if clOK (I 79) n (Pl (I 79) n e) = true then 1 else 0) ∧ ∃ I2, s1.2.2 = mk I2 L ∧ Ch [80] [30] [] I L I2 L ∧ I2 62 30 = nn (clEnd (I 79) n (Pl (I 79) n e)) ∧ (∀ k, k < e → rowOK (I 79) n k (I2 80)) ∧ (clOK (I 79) n (Pl (I 79) n e) = true → rowOK (I 79) n e (I2 80)))
    (fun r => ∃ I2 L2, r = ((if whol (I 79) n = true then (rn (I 79) n s (lastC (I 79) n + 1)).1 else -10 - nn (clEnd (I 79) n (Pl (I 79) n (lastC (I 79) n)))), mk I2 L2) ∧ MSt I2 L2 (if whol (I 79) n = true then (rn (I 79) n s (lastC (I 79) n + 1)).2 else s) ∧ Ch [80] [0, 2, 3, 29, 30] [63, 67, 68] I L I2 L2 ∧ I2 62 29 = 0)
    (lastC (I 79) n) (0, (if clOK (I 79) n 0 = true then 1 else 0), mk I1 L) ?_ ?_ ?_ FU (FU_gt (by omega))) ?_
  rotate_left 3
  · rintro r ⟨h1, I2, L2, h2, h3, h4, h5⟩
    refine ⟨I2, L2, ?_, h3, h4, h5⟩
    rw [← h2]
    exact h1
  · exact ⟨rfl, rfl, I1, rfl, (c0.tr f2).mono (by simp) (by simp) (by simp), f3, fun k hk => absurd hk (Nat.not_lt_zero k), f4⟩
  · rintro e he ⟨v, w, h⟩ ⟨hv, hw1, I2, hh, q1, q2, q3, q4⟩
    simp only at hv hw1 hh
    subst hv hw1 hh
    obtain ⟨g1, g2, g3⟩ := Go_s (I 79) n he
    have hPe := hP e
    have hce := clEnd_le (I 79) n (Pl (I 79) n e)
    have x79 : I2 79 = I 79 := q1.1 79 (by decide) (by decide)
    have x29 : I2 62 29 = nn n := by rw [q1.2.1 29 (by decide), e1]
    have hhr := here_s I2 L n (clEnd (I 79) n (Pl (I 79) n e)) hn (by omega) x29 q2
    rw [x79, g2] at hhr
    have c3 : Ch [80] [30] [] I2 L (up1 I2 62 (up1 (I2 62) 30 (nn (clEnd (I 79) n (Pl (I 79) n e) + 1)))) L := ChK I2 L [80] [30] [] (by simp)
    obtain ⟨I3, t1, t2, t3, t4, t5⟩ := readsClause_s (up1 I2 62 (up1 (I2 62) 30 (nn (clEnd (I 79) n (Pl (I 79) n e) + 1)))) L n (Pl (I 79) n (e + 1)) (e + 1) (by omega) hn (by have := hP (e + 1); omega) (by rw [up1_s, up1_n _ _ (by decide), x29]) (by rw [up1_s, up1_s]; rfl)
    rw [show (up1 I2 62 (up1 (I2 62) 30 (nn (clEnd (I 79) n (Pl (I 79) n e) + 1)))) 79 = I 79 from (up1_n _ _ (by decide)).trans x79] at t1 t3 t4
    have x80 : (up1 I2 62 (up1 (I2 62) 30 (nn (clEnd (I 79) n (Pl (I 79) n e) + 1)))) 80 = I2 80 := up1_n _ _ (by decide)
    rw [x80] at t5
    have h12 : ¬ (12 : Int32) ≤ nn (e + 1) := fun h => by
      have := (nn_le (m := 12) (by omega) (by omega)).mp h
      omega
    refine ⟨(nn (e + 1), (if clOK (I 79) n (Pl (I 79) n (e + 1)) = true then 1 else 0), mk I3 L), fun k => ?_, rfl, rfl, I3, rfl, ((q1.tr c3).tr t2).mono (by simp) (by simp) (by simp), t3, fun k hk => ?_, t4⟩
    · simp only [jn, if_pos g1, one0, if_false, kd_62, if_true, hhr, Option.bind_some, nn_s, if_neg h12, gI_62, pI_62, q2, nm, t1]
    · have hrow : rowOK (I 79) n k (I2 80) := by
        by_cases hke : k = e
        · rw [hke]
          exact q4 g1
        · exact q3 k (by omega)
      unfold rowOK at hrow ⊢
      rw [t5 _ (by omega), t5 _ (by omega), t5 _ (by omega)]
      exact hrow
  · rintro ⟨v, w, h⟩ ⟨hv, hw1, I2, hh, q1, q2, q3, q4⟩
    simp only at hv hw1 hh
    subst hv hw1 hh
    have hPe := hP (lastC (I 79) n)
    have hce := clEnd_le (I 79) n (Pl (I 79) n (lastC (I 79) n))
    have x79 : I2 79 = I 79 := q1.1 79 (by decide) (by decide)
    have x29 : I2 62 29 = nn n := by rw [q1.2.1 29 (by decide), e1]
    have hhr := here_s I2 L n (clEnd (I 79) n (Pl (I 79) n (lastC (I 79) n))) hn (by omega) x29 q2
    rw [x79] at hhr
    have c3 : Ch [80] [0, 2, 3, 29, 30] [63, 67, 68] I L (up1 I2 62 (up1 (I2 62) 29 0)) L := (q1.tr (ChK I2 L [80] [29] [] (by simp))).mono (by simp) (by simp) (by simp)
    have m3 : MSt (up1 I2 62 (up1 (I2 62) 29 0)) L s := by
      refine ⟨⟨?_, hM.1.2⟩, ?_, ?_⟩
      · rw [up1_s, up1_n _ _ (by decide), q1.2.1 0 (by decide)]
        exact hM.1.1
      · rw [up1_s, up1_n _ _ (by decide), q1.2.1 2 (by decide)]
        exact hM.2.1
      · rw [up1_s, up1_n _ _ (by decide), q1.2.1 3 (by decide)]
        exact hM.2.2
    have p30 : up1 (I2 62) 29 0 30 = nn (clEnd (I 79) n (Pl (I 79) n (lastC (I 79) n))) := by rw [up1_n _ _ (by decide), q2]
    by_cases hw : whol (I 79) n = true
    · obtain ⟨w1, w2⟩ := whol_iff.mp hw
      have w3 : ¬ nx (I 79) n (clEnd (I 79) n (Pl (I 79) n (lastC (I 79) n))) = 59 := by
        rw [(nx_end hX hn).mpr (by omega)]
        decide
      have w3' : ¬ nx (I 79) n n = 59 := by
        rw [w2] at w3
        exact w3
      obtain ⟨I4, L4, r1, r2, r3⟩ := runs_M (up1 I2 62 (up1 (I2 62) 29 0)) L n (lastC (I 79) n) hK (I 79) (fun k hk => ⟨clOK_K (lastK hw hk), by
        rw [up1_n _ _ (by decide)]
        by_cases hke : k = lastC (I 79) n
        · rw [hke]
          exact q4 w1
        · exact q3 k (by omega)⟩) s m3 hV
      refine ⟨((rn (I 79) n s (lastC (I 79) n + 1)).1, mk I4 L4), fun k => ?_, I4, L4, by rw [if_pos hw], by rw [if_pos hw]; exact r2, (c3.tr r3).mono (by simp) (by simp) (by simp), ?_⟩
      · simp only [jn, if_pos w1, one0, if_false, kd_62, if_true, hhr, Option.bind_some, if_neg w3, if_neg w3', gI_62, pI_62, q2, x29, w2, nm, show ((1 : Int32) &&& 1) = 1 by decide]
        exact r1
      · rw [r3.2.1 29 (by decide), up1_s, up1_s]
    · refine ⟨_, fun k => ?_, up1 I2 62 (up1 (I2 62) 29 0), L, rfl, by rw [if_neg hw]; exact m3, c3, by rw [up1_s, up1_s]⟩
      simp only [if_neg hw]
      by_cases w1 : clOK (I 79) n (Pl (I 79) n (lastC (I 79) n)) = true
      · have w2 : ¬ nn (clEnd (I 79) n (Pl (I 79) n (lastC (I 79) n))) = nn n := fun h => hw (whol_iff.mpr ⟨w1, (nn_eq (by omega) (by omega)).mp h⟩)
        by_cases w3 : nx (I 79) n (clEnd (I 79) n (Pl (I 79) n (lastC (I 79) n))) = 59
        · have w4 : (12 : Int32) ≤ nn (lastC (I 79) n + 1) := by
            rw [Go_e (I 79) n w1 w3]
            decide
          simp only [jn, if_pos w1, one0, if_false, kd_62, if_true, hhr, Option.bind_some, if_pos w3, nn_s, if_pos w4, gI_62, pI_62, q2, x29, if_neg w2, nm, show ((1 : Int32) &&& 0) = 0 by decide, up1_s, p30]
        · simp only [jn, if_pos w1, one0, if_false, kd_62, if_true, hhr, Option.bind_some, if_neg w3, gI_62, pI_62, q2, x29, if_neg w2, nm, show ((1 : Int32) &&& 0) = 0 by decide, up1_s, p30]
      · simp only [jn, if_neg w1, if_true, gI_62, pI_62, q2, x29, Option.bind_some, nm]
        by_cases w2 : nn (clEnd (I 79) n (Pl (I 79) n (lastC (I 79) n))) = nn n
        · simp only [if_pos w2, show ((0 : Int32) &&& 1) = 0 by decide, if_true, up1_s, p30]
        · simp only [if_neg w2, show ((0 : Int32) &&& 0) = 0 by decide, if_true, up1_s, p30]
end RO
