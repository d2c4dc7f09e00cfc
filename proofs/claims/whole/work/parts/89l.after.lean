/-- behind a call that only asks, but for what lies beyond the reference's row -/
def Ask2 (I : Nat → Nat → Int32) (L : Nat → Nat → Int64) (I' : Nat → Nat → Int32) (L' : Nat → Nat → Int64) : Prop := RelA I' ∧ Ch SC KC (63 :: TC) I L I' L' ∧ ∀ j, j < 5 → L' 63 j = L 63 j
def aftV (w : Int32) (s : Sq) (B : Nat) : Int32 := if w = 0 then nn (nA s B) else if w = 1 then fbv s else nn (un s 625)
section AF
variable (I : Nat → Nat → Int32) (L : Nat → Nat → Int64)
theorem after_C {s : Sq} {B : Nat} (hE : ESt 3 I s) (hV : VSt s) (R : RelE I) (hB : B ≤ 40) (hb : s.2.2.2 = nn B) (w : Int32) (hw : 0 ≤ w.toInt ∧ w.toInt ≤ 2) : ∃ I' L' n, n ≤ 8 ∧ I 10 0 = nn n ∧ fX9_after 1 w (mk I L) = some (aftV w (evN (I 11) s n) B, mk I' L') ∧ Ch [26, 27, 28, 38, 39] [] [29, 30] I L I' L' := by
  obtain ⟨I1, L1, n, hn, e10, c1, c2, c3⟩ := tryE I L hE hV R
  have hV1 : VSt (evN (I 11) s n) := evN_V hV n
  have hb1 : (evN (I 11) s n).2.2.2 = nn B := (evN_1 (I 11) s n).2.trans hb
  generalize hs : evN (I 11) s n = s1 at *
  have hpre : fX9_after 1 w (mk I L) = (if w = 0 then fX1_howManyAnswers 26 (mk I1 L1) else if w = 1 then fX1_firstBar 26 (mk I1 L1) else (fX8_look 38 27 (mk I1 L1)).bind fun ((_u, h13) : Unit × Mem) => (gR 9 h13 1 5).bind fun v14 => (gI 8 h13 v14 0).bind fun v15 => some ((v15 : Int32), h13)) := by
    unfold fX9_after
    rw [between_s, bsm, if_pos (show (0 : Int32).toInt ≤ w.toInt ∧ w.toInt ≤ (2 : Int32).toInt from hw)]
    simp only [one0, if_false, kd_1, if_true, c1, bsm, gR_1_3, gR_1_5, gR_26_0, kd_26, kd_38]
    have hh : ∀ x : Option (Int32 × Mem), (x.bind fun ((v6, h5) : Int32 × Mem) => some ((v6 : Int32), h5)) = x := fun x => by cases x <;> rfl
    simp only [hh]
  rw [hpre]
  unfold aftV
  by_cases w0 : w = 0
  · refine ⟨I1, L1, n, hn, e10, ?_, c3.mono (by simp) (by simp) (by simp)⟩
    rw [hs, if_pos w0, if_pos w0, howMany_26 I1 L1 c2 hV1 hb1 hB]
    rfl
  by_cases w1 : w = 1
  · refine ⟨I1, L1, n, hn, e10, ?_, c3.mono (by simp) (by simp) (by simp)⟩
    rw [hs, if_neg w0, if_pos w1, if_neg w0, if_pos w1, firstBar_26 I1 L1 c2 hV1.1.1]
    rfl
  · obtain ⟨⟨_, h⟩, u1, I2, L2, u2, u3, u4, u5⟩ := units_27 I1 L1 c2.1 hV1
    simp only at u2
    subst u2
    refine ⟨I2, L2, n, hn, e10, ?_, (c3.tr u3).mono (by simp) (by simp) (by simp)⟩
    rw [hs, if_neg w0, if_neg w1, if_neg w0, if_neg w1, u1, bsm]
    show ((gR 9 (mk I2 L2) 1 5).bind fun v14 => (gI 8 (mk I2 L2) v14 0).bind fun v15 => some ((v15 : Int32), mk I2 L2)) = _
    rw [gR_1_5, bsm, gI_38, bsm, u4]
theorem toldM {s : Sq} {B : Nat} (hM : MSt I L s) (hV : VSt s) (hB : B ≤ 40) (hb : s.2.2.2 = nn B) (w : Int32) : ∃ I' L', fX10_told 62 (if w = 0 then 3 else 4) (mk I L) = some (if w = 0 then nn (nA s B) else nn (un s 625), mk I' L') ∧ Ch [69, 70] [13, 15] [67, 68] I L I' L' := by
  by_cases w0 : w = 0
  · obtain ⟨⟨_, h⟩, a1, I2, a2, a3, a4, a5⟩ := answers_M I L hM hV hB hb
    simp only at a2
    subst a2
    refine ⟨I2, L, ?_, a3.mono (by simp) (by simp) (by simp)⟩
    rw [if_pos w0, if_pos w0]
    unfold fX10_told
    rw [if_neg (show ¬ (3 : Int32) = 0 by decide), if_neg (show ¬ (3 : Int32) = 1 by decide), if_neg (show ¬ (3 : Int32) = 2 by decide), if_pos rfl, kd_62, if_pos rfl, a1, bsm]
    simp only [gI_62, bsm, a4]
    rfl
  · obtain ⟨⟨_, h⟩, m1, I2, L2, m2, m3, m4, m5⟩ := units_M I L hM.1 hV
    simp only at m2
    subst m2
    refine ⟨I2, L2, ?_, m3.mono (by simp) (by simp) (by simp)⟩
    rw [if_neg w0, if_neg w0]
    unfold fX10_told
    rw [if_neg (show ¬ (4 : Int32) = 0 by decide), if_neg (show ¬ (4 : Int32) = 1 by decide), if_neg (show ¬ (4 : Int32) = 2 by decide), if_neg (show ¬ (4 : Int32) = 3 by decide), if_pos rfl, kd_62, if_pos rfl, m1, bsm]
    simp only [gI_62, bsm, m4]
noncomputable def aL3 (a1 v28 v30 : Int32) (h31 : Mem) : Option (Int32 × Mem) :=
          lpF (fun k34 ((v32, h33) : Int32 × Mem) =>
           if 5 ≤ v32 then
            if a1 = 1 then
             some ((v30 : Int32), h33)
            else
             some ((v28 : Int32), h33)
           else
            (gR 10 h33 62 1).bind fun v36 =>
            (gR 10 h33 62 32).bind fun v37 =>
            (xJ h33 v37 v32).bind fun v38 =>
            (yJ h33 v36 v32 v38).bind fun h39 =>
            nm (v32 + 1 : Int32) fun v40 =>
            k34 (v40, h39)) FU (0, h31)
noncomputable def aM (a1 v3 : Int32) (h14 : Mem) : Option (Int32 × Mem) :=
       jn (fun (v24 : Int32) =>
        if mKd h14 62 = 10 then (fX10_told 62 v24 h14).bind (fun ((v28, h27) : Int32 × Mem) =>
         if mKd h27 62 = 10 then (fX10_firstBar 62 h27).bind (fun ((v30, h29) : Int32 × Mem) =>
          (pI 10 h29 62 2 v3).bind fun h31 => aL3 a1 v28 v30 h31) else none) else none) (fun k25 =>
        if a1 = 0 then
         k25 3
        else
         k25 4)
noncomputable def aL2 (a1 v3 : Int32) (h5 : Mem) : Option (Int32 × Mem) :=
     lpF (fun k15 ((v13, h14) : Int32 × Mem) =>
      (gI 10 h14 62 7).bind fun v17 =>
      if v17 ≤ v13 then aM a1 v3 h14
      else
       (gR 10 h14 62 6).bind fun v18 =>
       (xI 11 h14 v18 (2 * v13)).bind fun v19 =>
       (gR 10 h14 62 6).bind fun v20 =>
       (xI 11 h14 v20 ((2 * v13) + 1)).bind fun v21 =>
       if mKd h14 62 = 10 then (fX10_happens 62 v19 v21 h14).bind (fun ((_u, h22) : Unit × Mem) =>
        nm (v13 + 1 : Int32) fun v23 =>
        k15 (v23, h22)) else none) FU (0, h5)
theorem aL3_s (w v28 v30 : Int32) : ∃ r, aL3 w v28 v30 (mk I L) = some r ∧ r.1 = (if w = 1 then v30 else v28) ∧ ∃ L', r.2 = mk I L' ∧ Ch [] [] [63] I L I L' ∧ ∀ j, j < 5 → L' 63 j = L 81 j := by
  unfold aL3
  refine lp_ex (fun i (t : Int32 × Mem) => t.1 = nn i ∧ ∃ L', t.2 = mk I L' ∧ Ch [] [] [63] I L I L' ∧ ∀ j, j < i → L' 63 j = L 81 j) (fun (r : Int32 × Mem) => r.1 = (if w = 1 then v30 else v28) ∧ ∃ L', r.2 = mk I L' ∧ Ch [] [] [63] I L I L' ∧ ∀ j, j < 5 → L' 63 j = L 81 j) 5 (0, mk I L) ⟨rfl, L, rfl, Ch.rf I L, fun j hj => absurd hj (Nat.not_lt_zero _)⟩ ?_ ?_ FU (FU_gt (by omega))
  · rintro i hi ⟨v, h⟩ ⟨hv, L2, hh, q1, q2⟩
    simp only at hv hh
    subst hv hh
    refine ⟨(nn (i + 1), mk I (up1 L2 63 (up1 (L2 63) i (L2 81 i)))), fun k => ?_, rfl, _, rfl, (q1.tr (ChL I L2 [] [] [63] (by simp))).mono (by simp) (by simp) (by simp), fun j hj => ?_⟩
    · simp only [nn5_le i (by omega), show ¬ 5 ≤ i by omega, if_false, gR_62_1, gR_62_32, xJ_81, yJ_63, bsm, nn_lt0 (i) (by omega), nn_nat (show i < 2147483648 by omega), show i < 5 by omega, not_false_eq_true, and_self, if_true, nm, nn_s]
    · rw [up1_s]
      simp only [up1_e]
      split
      · next e => rw [e, q1.2.2 81 (by decide)]
      · exact q2 j (by omega)
  · rintro ⟨v, h⟩ ⟨hv, L2, hh, q1, q2⟩
    simp only at hv hh
    subst hv hh
    refine ⟨(if w = 1 then v30 else v28, mk I L2), fun k => ?_, rfl, L2, rfl, q1, q2⟩
    simp only [nn5_le 5 (by omega), Nat.le_refl, if_true]
    split <;> rfl
theorem aM_s {s : Sq} {B : Nat} (hM : MSt I L s) (hV : VSt s) (C : RelC I) (hB : B ≤ 40) (hb : s.2.2.2 = nn B) (w v3 : Int32) : ∃ r, aM w v3 (mk I L) = some r ∧ r.1 = aftV w s B ∧ ∃ I' L', r.2 = mk I' L' ∧ Ch [69, 70, 75] [2, 13, 15] [63, 67, 68] I L I' L' ∧ I' 62 2 = v3 ∧ ∀ j, j < 5 → L' 63 j = L 81 j := by
  obtain ⟨I1, L1, t1, t2⟩ := toldM I L hM hV hB hb w
  have hM1 : MSt I1 L1 s := hM.ch t2 (by decide) (by decide) (by decide) (by decide)
  have C1 : RelC I1 := fun i hi => by rw [t2.1 74 (by decide) (by decide)]; exact C i hi
  obtain ⟨J, f1⟩ := firstBar_M I1 L1 hM1 hV.1.1 C1
  have f1' : fX10_firstBar 62 (mk I1 L1) = some (fbv s, mk (up1 I1 75 J) L1) := f1
  have c3 : Ch [69, 70, 75] [2, 13, 15] [63, 67, 68] I L (up1 (up1 I1 75 J) 62 (up1 ((up1 I1 75 J) 62) 2 v3)) L1 := ((t2.tr (ChI I1 L1 [75] [] [] (by simp) (by decide))).tr (ChK (up1 I1 75 J) L1 [] [2] [] (by simp))).mono (by simp) (by simp) (by simp)
  have x2 : (up1 (up1 I1 75 J) 62 (up1 ((up1 I1 75 J) 62) 2 v3)) 62 2 = v3 := by rw [up1_s, up1_s]
  have hpre : aM w v3 (mk I L) = aL3 w (if w = 0 then nn (nA s B) else nn (un s 625)) (fbv s) (mk (up1 (up1 I1 75 J) 62 (up1 ((up1 I1 75 J) 62) 2 v3)) L1) := by
    have h1 : aM w v3 (mk I L) = (fX10_told 62 (if w = 0 then 3 else 4) (mk I L)).bind (fun ((v28, h27) : Int32 × Mem) =>
         if mKd h27 62 = 10 then (fX10_firstBar 62 h27).bind (fun ((v30, h29) : Int32 × Mem) =>
          (pI 10 h29 62 2 v3).bind fun h31 => aL3 w v28 v30 h31) else none) := by
      unfold aM jn
      by_cases w0 : w = 0
      · simp only [if_pos w0, kd_62, if_true]
      · simp only [if_neg w0, kd_62, if_true]
    rw [h1, t1, bsm]
    show (if mKd (mk I1 L1) 62 = 10 then _ else none) = _
    rw [kd_62, if_pos rfl, f1', bsm]
    show ((pI 10 (mk (up1 I1 75 J) L1) 62 2 v3).bind fun h31 => aL3 w _ _ h31) = _
    rw [pI_62, bsm]
  rw [hpre]
  generalize (up1 (up1 I1 75 J) 62 (up1 ((up1 I1 75 J) 62) 2 v3)) = I2 at *
  obtain ⟨⟨r, h⟩, a1, a2, L3, a3, a4, a5⟩ := aL3_s I2 L1 w (if w = 0 then nn (nA s B) else nn (un s 625)) (fbv s)
  refine ⟨_, a1, a2.trans ?_, I2, L3, a3, (c3.tr a4).mono (by simp) (by simp) (by simp), x2, fun j hj => ?_⟩
  · unfold aftV
    by_cases w1 : w = 1
    · rw [if_pos w1, if_neg (by rw [w1]; decide), if_pos w1]
    · rw [if_neg w1, if_neg w1]
  · rw [a5 j hj, t2.2.2 81 (by decide)]
theorem aL2_s {s : Sq} {B n : Nat} {W : Nat → Int32} (hM : MSt I L s) (hV : VSt s) (C : RelC I) (hB : B ≤ 40) (hb : s.2.2.2 = nn B) (hn : n ≤ 8) (e7 : I 62 7 = nn n) (hW : ∀ k, k < 8 → I 65 (2 * k) = W (k * 3) ∧ I 65 (2 * k + 1) = W (k * 3 + 1) ∧ EvOK (W (k * 3)) (W (k * 3 + 1))) (w v3 : Int32) : ∃ r, aL2 w v3 (mk I L) = some r ∧ r.1 = aftV w (evN W s n) B ∧ ∃ I' L', r.2 = mk I' L' ∧ Ch [69, 70, 75] [2, 13, 15] [63, 67, 68] I L I' L' ∧ I' 62 2 = v3 ∧ ∀ j, j < 5 → L' 63 j = L 81 j := by
  unfold aL2
  refine lp_ex (fun i (t : Int32 × Mem) => t.1 = nn i ∧ ∃ I' L', t.2 = mk I' L' ∧ MSt I' L' (evN W s i) ∧ Ch [69, 70, 75] [2, 13, 15] [63, 67, 68] I L I' L') (fun (r : Int32 × Mem) => r.1 = aftV w (evN W s n) B ∧ ∃ I' L', r.2 = mk I' L' ∧ Ch [69, 70, 75] [2, 13, 15] [63, 67, 68] I L I' L' ∧ I' 62 2 = v3 ∧ ∀ j, j < 5 → L' 63 j = L 81 j) n (0, mk I L) ⟨rfl, I, L, rfl, hM, Ch.rf I L⟩ ?_ ?_ FU (FU_gt (by omega))
  · rintro i hi ⟨v, h⟩ ⟨hv, I2, L2, hh, q1, q2⟩
    simp only at hv hh
    subst hv hh
    obtain ⟨g1, g2, g3⟩ := hW i (by omega)
    obtain ⟨I3, L3, k1, k2, k3⟩ := happens_s I2 L2 q1 (evN_V hV i) (W (i * 3)) (W (i * 3 + 1)) g3
    refine ⟨(nn (i + 1), mk I3 L3), fun k => ?_, rfl, I3, L3, rfl, k2, (q2.tr k3).mono (by simp) (by simp) (by simp)⟩
    have x7 : I2 62 7 = nn n := (q2.2.1 7 (by decide)).trans e7
    have x65 : I2 65 = I 65 := q2.1 65 (by decide) (by decide)
    have hle : ¬ nn n ≤ nn i := fun q => by
      have := (nn_le (by omega) (by omega)).mp q
      omega
    simp only [gI_62, x7, bsm, if_neg hle, gR_62_6, nn_2m, nn_s, xI_65, nn_lt0 (2 * i) (by omega), nn_nat (show 2 * i < 2147483648 by omega), show 2 * i < 16 by omega, not_false_eq_true, and_self, if_true, nn_lt0 (2 * i + 1) (by omega), nn_nat (show 2 * i + 1 < 2147483648 by omega), show 2 * i + 1 < 16 by omega, not_false_eq_true, and_self, if_true, x65, g1, g2, kd_62, k1, nm]
  · rintro ⟨v, h⟩ ⟨hv, I2, L2, hh, q1, q2⟩
    simp only at hv hh
    subst hv hh
    have x7 : I2 62 7 = nn n := (q2.2.1 7 (by decide)).trans e7
    have C2 : RelC I2 := fun i hi => by rw [q2.1 74 (by decide) (by decide)]; exact C i hi
    obtain ⟨r, a1, a2, I3, L3, a3, a4, a5, a6⟩ := aM_s I2 L2 q1 (evN_V hV n) C2 hB ((evN_1 W s n).2.trans hb) w v3
    refine ⟨r, fun k => ?_, a2, I3, L3, a3, (q2.tr a4).mono (by simp) (by simp) (by simp), a5, fun j hj => ?_⟩
    · simp only [gI_62, x7, bsm, Int32.le_refl, if_true]
      exact a1
    · rw [a6 j hj, q2.2.2 81 (by decide)]
theorem after_M {s : Sq} {B n : Nat} {W : Nat → Int32} (hM : MSt I L s) (hV : VSt s) (C : RelC I) (hB : B ≤ 40) (hb : s.2.2.2 = nn B) (hn : n ≤ 8) (e7 : I 62 7 = nn n) (hW : ∀ k, k < 8 → I 65 (2 * k) = W (k * 3) ∧ I 65 (2 * k + 1) = W (k * 3 + 1) ∧ EvOK (W (k * 3)) (W (k * 3 + 1))) (w : Int32) (hw : 0 ≤ w.toInt ∧ w.toInt ≤ 2) : ∃ I' L', fX10_after 62 w (mk I L) = some (aftV w (evN W s n) B, mk I' L') ∧ Ch [69, 70, 75] [13, 15] [63, 67, 68, 81] I L I' L' ∧ ∀ j, j < 5 → L' 63 j = L 63 j := by
  have key : ∃ r, fX10_after 62 w (mk I L) = some r ∧ r.1 = aftV w (evN W s n) B ∧ ∃ I' L', r.2 = mk I' L' ∧ Ch [69, 70, 75] [2, 13, 15] [63, 67, 68, 81] I L I' L' ∧ I' 62 2 = I 62 2 ∧ ∀ j, j < 5 → L' 63 j = L 63 j := by
    unfold fX10_after
    rw [in_s, bsm]
    show ∃ r, (if (if (0 : Int64).toInt ≤ w.toInt64.toInt ∧ w.toInt64.toInt ≤ (2 : Int64).toInt then (1 : Int32) else 0) = 0 then _ else _) = some r ∧ _
    rw [i64_of32, if_pos (show (0 : Int64).toInt ≤ w.toInt ∧ w.toInt ≤ (2 : Int64).toInt from hw), if_neg (show ¬ (1 : Int32) = 0 by decide), gI_62, bsm]
    refine lp_ex (fun i (t : Int32 × Mem) => t.1 = nn i ∧ ∃ L', t.2 = mk I L' ∧ Ch [] [] [81] I L I L' ∧ ∀ j, j < i → L' 81 j = L 63 j) (fun (r : Int32 × Mem) => r.1 = aftV w (evN W s n) B ∧ ∃ I' L', r.2 = mk I' L' ∧ Ch [69, 70, 75] [2, 13, 15] [63, 67, 68, 81] I L I' L' ∧ I' 62 2 = I 62 2 ∧ ∀ j, j < 5 → L' 63 j = L 63 j) 5 (0, mk I L) ⟨rfl, L, rfl, Ch.rf I L, fun j hj => absurd hj (Nat.not_lt_zero _)⟩ ?_ ?_ FU (FU_gt (by omega))
    · rintro i hi ⟨v, h⟩ ⟨hv, L2, hh, q1, q2⟩
      simp only at hv hh
      subst hv hh
      refine ⟨(nn (i + 1), mk I (up1 L2 81 (up1 (L2 81) i (L2 63 i)))), fun k => ?_, rfl, _, rfl, (q1.tr (ChL I L2 [] [] [81] (by simp))).mono (by simp) (by simp) (by simp), fun j hj => ?_⟩
      · simp only [nn5_le i (by omega), show ¬ 5 ≤ i by omega, if_false, gR_62_1, gR_62_32, xJ_63, yJ_81, bsm, nn_lt0 (i) (by omega), nn_nat (show i < 2147483648 by omega), show i < 5 by omega, not_false_eq_true, and_self, if_true, nm, nn_s]
      · rw [up1_s]
        simp only [up1_e]
        split
        · next e => rw [e, q1.2.2 63 (by decide)]
        · exact q2 j (by omega)
    · rintro ⟨v, h⟩ ⟨hv, L2, hh, q1, q2⟩
      simp only at hv hh
      subst hv hh
      obtain ⟨r, a1, a2, I3, L3, a3, a4, a5, a6⟩ := aL2_s I L2 (hM.ch q1 (by decide) (by decide) (by decide) (by decide)) hV C hB hb hn e7 hW w (I 62 2)
      refine ⟨r, fun k => ?_, a2, I3, L3, a3, (q1.tr a4).mono (by simp) (by simp) (by simp), a5, fun j hj => ?_⟩
      · simp only [nn5_le 5 (by omega), Nat.le_refl, if_true]
        exact a1
      · rw [a6 j hj, q2 j hj]
  obtain ⟨⟨r, h⟩, k1, k2, I', L', k3, k4, k5, k6⟩ := key
  simp only at k2 k3
  subst k2 k3
  refine ⟨I', L', k1, ⟨k4.1, fun j hj => ?_, k4.2.2⟩, k6⟩
  by_cases h2 : j = 2
  · rw [h2]
    exact k5
  · exact k4.2.1 j (fun e => by simp at e; rcases e with e | e | e <;> simp_all)
theorem pair_after (w : Int32) (N : RelN I L) (M : RelM I) (Bb : RelB I) (E : RelE I) (A : RelA I) (C : RelC I) : Both (fX9_after 1 w) (fX10_after 62 w) I L (fun I' L' => Ask2 I L I' L') := by
  obtain ⟨s, hE, hM, hV, hS⟩ := st_sh I L N M Bb
  obtain ⟨B, hB1, hB, hb⟩ := VSt_b hV
  by_cases hw : 0 ≤ w.toInt ∧ w.toInt ≤ 2
  rotate_left
  · refine ⟨-1, I, L, I, L, ?_, ?_, A, Ch.rf I L, fun _ _ => rfl⟩
    · unfold fX9_after
      rw [between_s, bsm, if_neg (show ¬ ((0 : Int32).toInt ≤ w.toInt ∧ w.toInt ≤ (2 : Int32).toInt) from hw)]
      simp only [if_true]
    · unfold fX10_after
      rw [in_s, bsm, i64_of32, if_neg (show ¬ ((0 : Int64).toInt ≤ w.toInt ∧ w.toInt ≤ (2 : Int64).toInt) from hw)]
      simp only [if_true]
  obtain ⟨I1, L1, n, hn, e10, c1, c2⟩ := after_C I L hE hV E hB hb w hw
  obtain ⟨n', hn', e10', e7, hW⟩ := E
  have en : n' = n := (nn_eq (by omega) (by omega)).mp (e10'.symm.trans e10)
  subst en
  obtain ⟨I2, L2, m1, m2, m3⟩ := after_M I1 L1 (W := I 11) (hM.ch c2 (by decide) (by decide) (by decide) (by decide)) hV (fun j hj => by rw [c2.1 74 (by decide) (by decide)]; exact C j hj) hB hb hn (by rw [c2.2.1 7 (by decide)]; exact e7) (fun k hk => by rw [c2.1 65 (by decide) (by decide)]; exact hW k hk) w hw
  have c := c2.tr m2
  refine ⟨_, I1, L1, I2, L2, c1, m1, RelA_ch A c (by decide) (by decide) (by decide) (by decide) (by decide), c.mono (by decide) (by decide) (by decide), fun j hj => ?_⟩
  rw [m3 j hj, c2.2.2 63 (by decide)]
end AF
