theorem ct_pull {p : Nat → Bool} {q : Nat → Bool} : ∀ E, fb_ct (fun e => p e && q (fb_ct p e)) E = fb_ct q (fb_ct p E)
  | 0 => rfl
  | E + 1 => by
    rw [fb_ct_succ, ct_pull E, fb_ct_succ]
    by_cases h : p E = true
    · rw [if_pos h, h, Bool.true_and, fb_ct_succ]
    · rw [if_neg h, show p E = false by simpa using h, Bool.false_and, Nat.add_zero]
      rfl
section AN
variable (I : Nat → Nat → Int32) (L : Nat → Nat → Int64)
theorem LabA_no {s : Sq} {B : Nat} {I : Nat → Nat → Int32} (hB : B ≤ 40) (h : Kept s B I) : ∀ e, e < 6561 → (I 37 e = -1 ↔ ¬ Pe s B e = true) := by
  intro e he
  rcases h.2 with ⟨-, -, h1⟩ | ⟨-, -, h1⟩
  · rw [h1 e he]
    by_cases hp : Pe s B e = true
    · rw [if_pos hp]
      exact ⟨fun q => absurd q (by decide), fun q => absurd hp q⟩
    · rw [if_neg hp]
      exact ⟨fun _ => hp, fun _ => rfl⟩
  · rw [h1 e he]
    by_cases hp : Pe s B e = true
    · rw [if_pos hp]
      refine ⟨fun q => ?_, fun q => absurd hp q⟩
      have h2 := fm_lt (num_lt hB hp he) hB
      have h3 := nn_toInt (n := fm s B (fb_ct (Pe s B) e)) (by omega)
      rw [q] at h3
      have h4 : (-1 : Int32).toInt = -1 := by decide
      omega
    · rw [if_neg hp]
      exact ⟨fun _ => hp, fun _ => rfl⟩
theorem LabF_no {s : Sq} {B : Nat} {I : Nat → Nat → Int32} (hB : B ≤ 40) (h1 : LabF s B I) : ∀ e, e < 6561 → (I 37 e = -1 ↔ ¬ Pe s B e = true) := by
  intro e he
  rw [h1 e he]
  by_cases hp : Pe s B e = true
  · rw [if_pos hp]
    refine ⟨fun q => ?_, fun q => absurd hp q⟩
    have h2 := fm_lt (num_lt hB hp he) hB
    have h3 := nn_toInt (n := fm s B (fb_ct (Pe s B) e)) (by omega)
    rw [q] at h3
    have h4 : (-1 : Int32).toInt = -1 := by decide
    omega
  · rw [if_neg hp]
    exact ⟨fun _ => hp, fun _ => rfl⟩
theorem nn_0le {n : Nat} (h : n < 2147483648) : (0 : Int32) ≤ nn n := (nn_le (m := 0) (by omega) h).mpr (Nat.zero_le n)
theorem pair_answer (i w : Int32) (N : RelN I L) (M : RelM I) (Bb : RelB I) (A : RelA I) : Both (fX9_answer 1 i w) (fX10_answer 62 i w) I L (fun I' L' => Ask I L I' L') := by
  obtain ⟨s, hE, hM, hV, hS⟩ := st_sh I L N M Bb
  obtain ⟨B, hB1, hB, hb⟩ := VSt_b hV
  have hn := nA_lt (s := s) hB
  unfold Both
  by_cases hi : i < 0
  · refine ⟨-1, I, L, I, L, ?_, ?_, A, Ch.rf I L⟩
    · unfold fX9_answer
      rw [if_pos hi]
    · unfold fX10_answer
      rw [if_pos hi]
  by_cases hw : 0 ≤ w.toInt ∧ w.toInt ≤ 2
  rotate_left
  · refine ⟨-1, I, L, I, L, ?_, ?_, A, Ch.rf I L⟩
    · unfold fX9_answer
      simp only [if_neg hi, between_s, Int32.reduceToInt, if_neg hw, bsm, if_true]
    · unfold fX10_answer
      simp only [if_neg hi, in_s, i64_of32, Int64.reduceToInt, if_neg hw, bsm, if_true]
  obtain ⟨n, hn2, rfl⟩ := i32_ex (show 0 ≤ i.toInt by rw [i32_lt] at hi; simpa using hi)
  -- the class's memory
  have hcls : ∃ I1 L1, (if w = 2 then fX9_answersInFamilies 1 (mk I L) else fX9_answersNow 1 (mk I L)) = some (31, mk I1 L1) ∧ Ch [31, 32, 33, 34, 37, 38, 39] [] [35, 36] I L I1 L1 ∧ RelA I1 ∧ (∀ e, e < 6561 → (I1 37 e = -1 ↔ ¬ Pe s B e = true)) ∧ (w = 2 → LabF s B I1) := by
    by_cases h2 : w = 2
    · obtain ⟨I1, L1, h1, h3, h4, h5, h6, h7⟩ := afam_s I L A hE hV hS hB hb
      exact ⟨I1, L1, by rw [if_pos h2]; exact h1, h3, h4, LabF_no hB h7, fun _ => h7⟩
    · obtain ⟨I1, h1, h3, h4, h5, h6⟩ := anow_s I L A hE hV hS hB hb
      exact ⟨I1, L, by rw [if_neg h2]; exact h1, h3.mono (by simp) (by simp) (by simp), h4, LabA_no hB h6, fun q => absurd q h2⟩
  obtain ⟨I1, L1, c1, c2, c3, c4, c5⟩ := hcls
  have hM1 : MSt I1 L1 s := hM.ch c2 (by decide) (by decide) (by decide) (by decide)
  obtain ⟨⟨_, h⟩, a1, I2, L2, a2, a3, a4, a5, a6, a7⟩ := families_M I1 L1 hM1 hV hB hb
  simp only at a2
  subst a2
  have ask : Ask I L I2 L2 := ⟨RelA_ch c3 a3 (by decide) (by decide) (by decide) (by decide) (by decide), toSC (c2.tr a3) (by decide) (by decide) (by decide)⟩
  have hcl : ∀ r, (fX0_cellOfAnswer 31 (nn n) (mk I1 L1)).bind (fun ((v8, h7) : Int32 × Mem) =>
      if 0 ≤ v8 then
       if w = 0 then
        (fX0_xOf v8 h7).bind (fun ((v10, h9) : Int32 × Mem) =>
         some ((v10 + 100 : Int32), h9))
       else
        if w = 1 then
         (fX0_yOf v8 h7).bind (fun ((v12, h11) : Int32 × Mem) =>
          some ((v12 + 100 : Int32), h11))
        else
         if mKd h7 31 = 0 then (fX0_labelAt 31 v8 h7).bind (fun ((v14, h13) : Int32 × Mem) =>
          some ((v14 : Int32), h13)) else none
      else
       some (((-5) : Int32), h7)) = r → fX9_answer 1 (nn n) w (mk I L) = r := by
    intro r hr
    subst hr
    unfold fX9_answer
    rw [if_neg hi, between_s, bsm]
    show (if (if 0 ≤ w.toInt ∧ w.toInt ≤ 2 then (1 : Int32) else 0) = 0 then _ else _) = _
    rw [if_pos hw, if_neg (by decide)]
    show (if w = 2 then _ else _) = _
    by_cases h2 : w = 2
    · rw [if_pos h2] at c1
      rw [if_pos h2, kd_1, if_pos rfl, c1, bsm]
      show (if (31 : Nat) = 0 then none else _) = _
      rw [if_neg (by decide)]
      show (if mKd (mk I1 L1) 31 = 0 then _ else none) = _
      rw [kd_31, if_pos rfl]
    · rw [if_neg h2] at c1
      rw [if_neg h2, kd_1, if_pos rfl, c1, bsm]
      show (if (31 : Nat) = 0 then none else _) = _
      rw [if_neg (by decide)]
      show (if mKd (mk I1 L1) 31 = 0 then _ else none) = _
      rw [kd_31, if_pos rfl]
  have hclM : ∀ r, (if n < nA s B then
      if w = 2 then
       (gR 10 (mk I2 L2) 62 18).bind fun v5 =>
       (xI 11 (mk I2 L2) v5 (nn n)).bind fun v6 =>
       some ((v6 : Int32), mk I2 L2)
      else
       (gR 10 (mk I2 L2) 62 12).bind fun v7 =>
       (xI 11 (mk I2 L2) v7 ((2 * nn n) + w)).bind fun v8 =>
       some ((v8 + 100 : Int32), mk I2 L2)
     else
      some (((-5) : Int32), mk I2 L2)) = r → fX10_answer 62 (nn n) w (mk I1 L1) = r := by
    intro r hr
    subst hr
    unfold fX10_answer
    rw [if_neg hi, in_s, bsm]
    show (if (if (0 : Int64).toInt ≤ w.toInt64.toInt ∧ w.toInt64.toInt ≤ (2 : Int64).toInt then (1 : Int32) else 0) = 0 then _ else _) = _
    rw [i64_of32, if_pos (show (0 : Int64).toInt ≤ w.toInt ∧ w.toInt ≤ (2 : Int64).toInt from hw), if_neg (by decide), kd_62, if_pos rfl, a1, bsm]
    show ((gI 10 (mk I2 L2) 62 13).bind fun v4 => if nn n < v4 then _ else _) = _
    rw [gI_62, bsm, a4]
    by_cases h : n < nA s B
    · rw [if_pos ((nn_lt hn2 (by omega)).mpr h), if_pos h]
    · rw [if_neg (fun q => h ((nn_lt hn2 (by omega)).mp q)), if_neg h]
  obtain ⟨k1, k2⟩ := cellOf_s I1 L1 hB c4 hn2
  by_cases hlt : n < nA s B
  rotate_left
  · refine ⟨-5, I1, L1, I2, L2, hcl _ ?_, hclM _ ?_, ask⟩
    · rw [k2 hlt, bsm]
      exact if_neg (by decide)
    · rw [if_neg hlt]
  obtain ⟨e, he, hp, hk, hc⟩ := k1 hlt
  obtain ⟨b1, b2, b3, b4, b5, b6⟩ := Pe_c hB hp
  obtain ⟨g1, g2⟩ := a5 (wC B e) b1 b3
  rw [← b6, hk] at g1 g2
  have e2 : 2 * nn n = nn (2 * n) := nn_mul 2 n
  by_cases w0 : w = 0
  · subst w0
    refine ⟨eX e + 100, I1, L1, I2, L2, hcl _ ?_, hclM _ ?_, ask⟩
    · rw [hc, bsm]
      show (if (0 : Int32) ≤ nn e then _ else _) = _
      rw [if_pos (nn_0le (by omega)), if_pos rfl, xOf_s e he, bsm]
    · rw [if_pos hlt, if_neg (by decide), gR_62_12, bsm, e2, Int32.add_zero]
      simp only [xI_69, nn_lt0 (2 * n) (by omega), nn_nat (show 2 * n < 2147483648 by omega), show 2 * n < 13122 by omega, not_false_eq_true, and_self, if_true, bsm, g1, b4]
  by_cases w1 : w = 1
  · subst w1
    refine ⟨eY e + 100, I1, L1, I2, L2, hcl _ ?_, hclM _ ?_, ask⟩
    · rw [hc, bsm]
      show (if (0 : Int32) ≤ nn e then _ else _) = _
      rw [if_pos (nn_0le (by omega)), if_neg (by decide), if_pos rfl, yOf_s e he, bsm]
    · rw [if_pos hlt, if_neg (by decide), gR_62_12, bsm, e2, nn_s]
      simp only [xI_69, nn_lt0 (2 * n + 1) (by omega), nn_nat (show 2 * n + 1 < 2147483648 by omega), show 2 * n + 1 < 13122 by omega, not_false_eq_true, and_self, if_true, bsm, g2, b5]
  have w2 : w = 2 := by
    have q0 : ¬ w.toInt = 0 := fun q => w0 (i32_eq.mpr q)
    have q1 : ¬ w.toInt = 1 := fun q => w1 (i32_eq.mpr q)
    refine i32_eq.mpr ?_
    show w.toInt = 2
    omega
  have hlab := c5 w2 e he
  rw [if_pos hp, hk] at hlab
  refine ⟨nn (fm s B n), I1, L1, I2, L2, hcl _ ?_, hclM _ ?_, ask⟩
  · rw [hc, bsm]
    show (if (0 : Int32) ≤ nn e then _ else _) = _
    rw [if_pos (nn_0le (by omega)), if_neg w0, if_neg w1]
    show (if mKd (mk I1 L1) 31 = 0 then _ else none) = _
    rw [kd_31, if_pos rfl, labelAt_s I1 L1 he, bsm]
    show some (I1 37 e, mk I1 L1) = _
    rw [hlab]
  · rw [if_pos hlt, if_pos w2, gR_62_18, bsm]
    simp only [xI_73, nn_lt0 (n) (by omega), nn_nat (show n < 2147483648 by omega), show n < 6561 by omega, not_false_eq_true, and_self, if_true, bsm, a7 n hlt]
theorem pair_family (i : Int32) (N : RelN I L) (M : RelM I) (Bb : RelB I) (A : RelA I) : Both (fX9_family 1 i) (fX10_family 62 i) I L (fun I' L' => Ask I L I' L') := by
  obtain ⟨s, hE, hM, hV, hS⟩ := st_sh I L N M Bb
  obtain ⟨B, hB1, hB, hb⟩ := VSt_b hV
  have hn := nA_lt (s := s) hB
  have hnF : nF s B ≤ 6561 := Nat.le_trans (fb_ct_le _ _) hn
  unfold Both
  by_cases hi : (0 : Int32) ≤ i
  rotate_left
  · refine ⟨-1, I, L, I, L, ?_, ?_, A, Ch.rf I L⟩
    · unfold fX9_family
      rw [if_neg hi]
    · unfold fX10_family
      rw [if_neg hi]
  obtain ⟨n, hn2, rfl⟩ := i32_ex (show 0 ≤ i.toInt by rw [i32_le] at hi; simpa using hi)
  obtain ⟨I1, L1, h1, h2, h3, h4, h5, h6⟩ := afam_s I L A hE hV hS hB hb
  have hM1 : MSt I1 L1 s := hM.ch h2 (by decide) (by decide) (by decide) (by decide)
  obtain ⟨⟨_, h⟩, a1, I2, L2, a2, a3, a4, a5, a6, a7⟩ := families_M I1 L1 hM1 hV hB hb
  simp only at a2
  subst a2
  have ask : Ask I L I2 L2 := ⟨RelA_ch h3 a3 (by decide) (by decide) (by decide) (by decide) (by decide), toSC (h2.tr a3) (by decide) (by decide) (by decide)⟩
  by_cases hlt : n < nF s B
  rotate_left
  · refine ⟨-5, I1, L1, I2, L2, ?_, ?_, ask⟩
    · unfold fX9_family
      rw [if_pos hi, kd_1, if_pos rfl, h1, bsm]
      simp only [show ¬ (31 : Nat) = 0 by decide, if_false, gI_31, bsm, h5, nn_le (show nF s B < 2147483648 by omega) (show n < 2147483648 by omega), if_pos (show nF s B ≤ n by omega)]
    · unfold fX10_family
      rw [if_pos hi, kd_62, if_pos rfl, a1, bsm]
      simp only [gI_62, bsm, a6, nn_lt (show n < 2147483648 by omega) (show nF s B < 2147483648 by omega), if_neg hlt]
  have hcnt : fb_ct (fun e => Pe s B e && decide (fm s B (fb_ct (Pe s B) e) = n)) 6561 = fb_ct (fun k => decide (fm s B k = n)) (nA s B) := by
    have h := ct_pull (p := Pe s B) (q := fun k => decide (fm s B k = n)) 6561
    rw [ct_all s hB] at h
    exact h
  refine ⟨nn (fb_ct (fun k => decide (fm s B k = n)) (nA s B)), I1, L1, I2, L2, ?_, ?_, ask⟩
  · unfold fX9_family
    rw [if_pos hi, kd_1, if_pos rfl, h1, bsm]
    simp only [show ¬ (31 : Nat) = 0 by decide, if_false, gI_31, bsm, h5, nn_le (show nF s B < 2147483648 by omega) (show n < 2147483648 by omega), if_neg (show ¬ nF s B ≤ n by omega), kd_31, if_true]
    have hsz : fX0_sizeOfFamily 31 (nn n) (mk I1 L1) = some (nn (fb_ct (fun e => Pe s B e && decide (fm s B (fb_ct (Pe s B) e) = n)) 6561), mk I1 L1) := by
      unfold fX0_sizeOfFamily
      refine lp_for' (fun a => (nn (fb_ct (fun e => Pe s B e && decide (fm s B (fb_ct (Pe s B) e) = n)) a), nn a)) rfl 6561 (fun a ha c => ?_) (fun c => ?_) (FU_gt (by omega))
      · have q : ¬ (6561 : Int32) ≤ nn a := fun h => by
          have := (nn_le (m := 6561) (by omega) (by omega)).mp h
          omega
        have hLa := h6 a ha
        simp only [gR_31_5, ln_37, bsm, if_neg q, xI_37, nn_lt0 (a) (by omega), nn_nat (show a < 2147483648 by omega), show a < 6561 by omega, not_false_eq_true, and_self, if_true, nm, nn_s]
        by_cases hpa : Pe s B a = true
        · rw [if_pos hpa] at hLa
          have h2 := fm_lt (num_lt hB hpa ha) hB
          by_cases hf : fm s B (fb_ct (Pe s B) a) = n
          · rw [if_pos (by rw [hLa, hf]), ct_y (show (Pe s B a && decide (fm s B (fb_ct (Pe s B) a) = n)) = true by rw [hpa, decide_eq_true hf]; rfl)]
          · rw [if_neg (fun q => hf ((nn_eq (by omega) hn2).mp (hLa.symm.trans q))), ct_n (show ¬ (Pe s B a && decide (fm s B (fb_ct (Pe s B) a) = n)) = true by rw [decide_eq_false hf, Bool.and_false]; decide)]
        · rw [if_neg hpa] at hLa
          rw [if_neg (fun q => by
            have h3 := nn_toInt hn2
            rw [← q, hLa] at h3
            have h4 : (-1 : Int32).toInt = -1 := by decide
            omega), ct_n (show ¬ (Pe s B a && decide (fm s B (fb_ct (Pe s B) a) = n)) = true by rw [show Pe s B a = false by simpa using hpa]; simp)]
      · simp only [gR_31_5, ln_37, bsm, show (6561 : Int32) ≤ nn 6561 from Int32.le_refl _, if_true]
    rw [hsz, bsm, hcnt]
  · unfold fX10_family
    rw [if_pos hi, kd_62, if_pos rfl, a1, bsm]
    simp only [gI_62, bsm, a6, nn_lt (show n < 2147483648 by omega) (show nF s B < 2147483648 by omega), if_pos hlt]
    refine lp_for' (fun a => (nn (fb_ct (fun k => decide (fm s B k = n)) a), nn a)) rfl (nA s B) (fun a ha c => ?_) (fun c => ?_) (FU_gt (by omega))
    · have h2 := fm_lt ha hB
      simp only [a4, bsm, nn_le (show nA s B < 2147483648 by omega) (show a < 2147483648 by omega), if_neg (show ¬ nA s B ≤ a by omega), gR_62_18, xI_73, nn_lt0 (a) (by omega), nn_nat (show a < 2147483648 by omega), show a < 6561 by omega, not_false_eq_true, and_self, if_true, a7 a ha, nm, nn_s, Int32.add_zero]
      by_cases hf : fm s B a = n
      · rw [if_pos (by rw [hf]), ct_y (show decide (fm s B a = n) = true from decide_eq_true hf)]
      · rw [if_neg (fun q => hf ((nn_eq (by omega) hn2).mp q)), ct_n (show ¬ decide (fm s B a = n) = true from fun q => hf (of_decide_eq_true q))]
    · simp only [a4, bsm, Int32.le_refl, if_true]
end AN
