def SC : List Nat := [26, 27, 28, 31, 32, 33, 34, 37, 38, 39, 40, 42, 69, 70, 71, 72, 73, 75, 78]
def KC : List Nat := [13, 15, 19, 25]
def TC : List Nat := [6, 7, 29, 30, 35, 36, 41, 43, 44, 62, 67, 68, 76, 77, 81]
/-- behind a call that only asks -/
def Ask (I : Nat → Nat → Int32) (L : Nat → Nat → Int64) (I' : Nat → Nat → Int32) (L' : Nat → Nat → Int64) : Prop := RelA I' ∧ Ch SC KC TC I L I' L'
theorem toSC {S K T : List Nat} {I I' : Nat → Nat → Int32} {L L' : Nat → Nat → Int64} (h : Ch S K T I L I' L') (h1 : (S.all fun r => SC.contains r) = true) (h2 : (K.all fun r => KC.contains r) = true) (h3 : (T.all fun r => TC.contains r) = true) : Ch SC KC TC I L I' L' := by
  rw [List.all_eq_true] at h1 h2 h3
  exact h.mono (fun r hr => by simpa using h1 r hr) (fun r hr => by simpa using h2 r hr) (fun r hr => by simpa using h3 r hr)
theorem RelA_ch {S K T : List Nat} {I I' : Nat → Nat → Int32} {L L' : Nat → Nat → Int64} (A : RelA I) (c : Ch S K T I L I' L') (h1 : 31 ∉ S) (h2 : 32 ∉ S) (h3 : 33 ∉ S) (h4 : 34 ∉ S) (h5 : 37 ∉ S) : RelA I' := by
  have e1 := c.1 31 h1 (by decide)
  have e2 := c.1 32 h2 (by decide)
  have e5 := c.1 37 h5 (by decide)
  rcases A with h | ⟨h, s, B, a1, a2, a3, a4, a5, a6⟩
  · exact Or.inl (by rw [e1]; exact h)
  · exact Or.inr ⟨by rw [e1]; exact h, s, B, a1, a2, a3, a4, ⟨a5.1.ch c h3 h4 (by decide) (by decide), by rw [e2]; exact a5.2.1, by rw [e2]; exact a5.2.2⟩, Kept_ch a6 e1 e5⟩
theorem Ask_of {S K T : List Nat} {I I' : Nat → Nat → Int32} {L L' : Nat → Nat → Int64} (A : RelA I) (h : Ch S K T I L I' L') (h1 : (S.all fun r => SC.contains r) = true) (h2 : (K.all fun r => KC.contains r) = true) (h3 : (T.all fun r => TC.contains r) = true) (g1 : 31 ∉ S) (g2 : 32 ∉ S) (g3 : 33 ∉ S) (g4 : 34 ∉ S) (g5 : 37 ∉ S) : Ask I L I' L' := ⟨RelA_ch A h g1 g2 g3 g4 g5, toSC h h1 h2 h3⟩
section TD
variable (I : Nat → Nat → Int32) (L : Nat → Nat → Int64)
theorem anow_s {s : Sq} (A : RelA I) (hE : ESt 3 I s) (hV : VSt s) (hS : Sh s) {B : Nat} (hB : B ≤ 40) (hb : s.2.2.2 = nn B) : ∃ I', fX9_answersNow 1 (mk I L) = some (31, mk I' L) ∧ Ch [31, 32, 33, 34, 37] [] [] I L I' L ∧ RelA I' ∧ ESt 32 I' s ∧ Kept s B I' := by
  obtain ⟨I', h1, h2, h3, h4, h5⟩ := look_31 I L A hE hV hS hB hb
  refine ⟨I', ?_, h2, Or.inr ⟨h3, s, B, hV, hS, hb, hB, h4, h5⟩, h4, h5⟩
  unfold fX9_answersNow
  simp only [gR_1_4, gR_1_0, gR_2_0, kd_31, if_true, Option.bind_some, h1]
theorem afam_s {s : Sq} (A : RelA I) (hE : ESt 3 I s) (hV : VSt s) (hS : Sh s) {B : Nat} (hB : B ≤ 40) (hb : s.2.2.2 = nn B) : ∃ I' L', fX9_answersInFamilies 1 (mk I L) = some (31, mk I' L') ∧ Ch [31, 32, 33, 34, 37, 38, 39] [] [35, 36] I L I' L' ∧ RelA I' ∧ I' 31 0 = nn (nA s B) ∧ I' 31 1 = nn (nF s B) ∧ LabF s B I' := by
  obtain ⟨I1, h1, h2, h3, h4, h5⟩ := look_31 I L A hE hV hS hB hb
  obtain ⟨I2, L2, f1, f2, f3, f4, f5, f6, f7⟩ := findF I1 L hV hB hb h4 h5
  refine ⟨I2, L2, ?_, (h2.tr f2).mono (by simp) (by simp) (by simp), Or.inr ⟨f3.trans h3, s, B, hV, hS, hb, hB, ⟨h4.1.ch f2 (by decide) (by decide) (by decide) (by decide), by rw [f2.1 32 (by decide) (by decide)]; exact h4.2.1, by rw [f2.1 32 (by decide) (by decide)]; exact h4.2.2⟩, f4, Or.inr ⟨f6, f5, f7⟩⟩, f4, f5, f7⟩
  unfold fX9_answersInFamilies
  simp only [gR_1_4, gR_1_5, gR_1_0, gR_2_0, kd_31, if_true, Option.bind_some, h1, f1]
theorem pair_told (w : Int32) (N : RelN I L) (M : RelM I) (Bb : RelB I) (A : RelA I) : Both (fX9_told 1 w) (fX10_told 62 w) I L (fun I' L' => Ask I L I' L') := by
  obtain ⟨s, hE, hM, hV, hS⟩ := st_sh I L N M Bb
  obtain ⟨B, hB1, hB, hb⟩ := VSt_b hV
  have ask0 : Ask I L I L := ⟨A, Ch.rf I L⟩
  unfold Both
  by_cases w0 : w = 0
  · subst w0
    refine ⟨I 4 0, I, L, I, L, ?_, ?_, ask0⟩
    · unfold fX9_told
      simp only [if_true, kd_1, gI_1, pI_1, gR_1_0, gR_1_1, gR_1_3, gR_1_4, gR_1_5, gR_1_6, gR_1_7, gR_1_8, ln_49, xR_49, kd_2, gI_2, pI_2, gR_2_0, gR_2_1, gR_2_2, gR_2_3, kd_3, gI_3, pI_3, gR_3_0, gI_4, Option.bind_some]
    · unfold fX10_told
      simp only [if_true, gI_62, Option.bind_some, show I 62 0 = I 4 0 from hM.1.1.trans hE.1.1.symm]
  by_cases w1 : w = 1
  · subst w1
    refine ⟨I 3 1 + 10000, I, L, I, L, ?_, ?_, ask0⟩
    · unfold fX9_told
      simp only [one0, if_false, if_true, kd_1, gI_1, pI_1, gR_1_0, gR_1_1, gR_1_3, gR_1_4, gR_1_5, gR_1_6, gR_1_7, gR_1_8, ln_49, xR_49, kd_2, gI_2, pI_2, gR_2_0, gR_2_1, gR_2_2, gR_2_3, gI_3, Option.bind_some]
    · unfold fX10_told
      simp only [one0, if_false, if_true, gI_62, Option.bind_some, M.1]
  by_cases w2 : w = 2
  · subst w2
    refine ⟨I 3 2, I, L, I, L, ?_, ?_, ask0⟩
    · unfold fX9_told
      simp only [show ¬ (2 : Int32) = 0 by decide, show ¬ (2 : Int32) = 1 by decide, if_false, if_true, kd_1, gI_1, pI_1, gR_1_0, gR_1_1, gR_1_3, gR_1_4, gR_1_5, gR_1_6, gR_1_7, gR_1_8, ln_49, xR_49, kd_2, gI_2, pI_2, gR_2_0, gR_2_1, gR_2_2, gR_2_3, gI_3, Option.bind_some]
    · unfold fX10_told
      simp only [show ¬ (2 : Int32) = 0 by decide, show ¬ (2 : Int32) = 1 by decide, if_false, if_true, gI_62, Option.bind_some, Bb.1]
  by_cases w3 : w = 3
  · obtain ⟨I1, h1, h2, h3, h4, h5⟩ := anow_s I L A hE hV hS hB hb
    have hM1 : MSt I1 L s := hM.ch h2 (by decide) (by decide) (by decide) (by decide)
    obtain ⟨⟨_, h⟩, a1, I2, a2, a3, a4, a5⟩ := answers_M I1 L hM1 hV hB hb
    simp only at a2
    subst a2
    refine ⟨nn (nA s B), I1, L, I2, L, ?_, ?_, RelA_ch h3 a3 (by decide) (by decide) (by decide) (by decide) (by decide), toSC (h2.tr a3) (by decide) (by decide) (by decide)⟩
    · unfold fX9_told
      rw [if_neg w0, if_neg w1, if_neg w2, if_pos w3, kd_1, if_pos rfl, h1, bsm]
      simp only [show ¬ (31 : Nat) = 0 by decide, if_false, gI_31, bsm, h5.1]
    · unfold fX10_told
      rw [if_neg w0, if_neg w1, if_neg w2, if_pos w3, kd_62, if_pos rfl, a1, bsm]
      simp only [gI_62, bsm, a4]
      rfl
  by_cases w4 : w = 4
  · obtain ⟨I1, L1, c1, c2, c3, c4⟩ := unitsNow_s I L hE.1 hV
    obtain ⟨⟨_, h⟩, m1, I2, L2, m2, m3, m4, m5⟩ := units_M I1 L1 (hM.1.ch c2 (by decide) (by decide)) hV
    simp only at m2
    subst m2
    refine ⟨nn (un s 625), I1, L1, I2, L2, ?_, ?_, Ask_of A (c2.tr m3) (by decide) (by decide) (by decide) (by decide) (by decide) (by decide) (by decide) (by decide)⟩
    · unfold fX9_told
      rw [if_neg w0, if_neg w1, if_neg w2, if_neg w3, if_pos w4, kd_1, if_pos rfl, c1, bsm]
      simp only [show ¬ (38 : Nat) = 0 by decide, if_false, gI_38, bsm, c3]
    · unfold fX10_told
      rw [if_neg w0, if_neg w1, if_neg w2, if_neg w3, if_pos w4, kd_62, if_pos rfl, m1, bsm]
      simp only [gI_62, bsm, m4]
  by_cases w5 : w = 5
  · obtain ⟨I1, L1, h1, h2, h3, h4, h5, h6⟩ := afam_s I L A hE hV hS hB hb
    have hM1 : MSt I1 L1 s := hM.ch h2 (by decide) (by decide) (by decide) (by decide)
    obtain ⟨⟨_, h⟩, a1, I2, L2, a2, a3, a4, a5, a6, a7⟩ := families_M I1 L1 hM1 hV hB hb
    simp only at a2
    subst a2
    refine ⟨nn (nF s B), I1, L1, I2, L2, ?_, ?_, RelA_ch h3 a3 (by decide) (by decide) (by decide) (by decide) (by decide), toSC (h2.tr a3) (by decide) (by decide) (by decide)⟩
    · unfold fX9_told
      rw [if_neg w0, if_neg w1, if_neg w2, if_neg w3, if_neg w4, if_pos w5, kd_1, if_pos rfl, h1, bsm]
      simp only [show ¬ (31 : Nat) = 0 by decide, if_false, gI_31, bsm, h5]
    · unfold fX10_told
      rw [if_neg w0, if_neg w1, if_neg w2, if_neg w3, if_neg w4, if_pos w5, kd_62, if_pos rfl, a1, bsm]
      simp only [gI_62, bsm, a6]
  by_cases w6 : w = 6
  · obtain ⟨I1, L1, c1, c2, c3, c4⟩ := partsNow_s I L hE.1 hV
    obtain ⟨⟨_, h⟩, m1, I2, L2, m2, m3, m4, m5⟩ := parts_M I1 L1 (hM.1.ch c2 (by decide) (by decide)) hV
    simp only at m2
    subst m2
    refine ⟨nn (pM s.1 s.2.1), I1, L1, I2, L2, ?_, ?_, Ask_of A (c2.tr m3) (by decide) (by decide) (by decide) (by decide) (by decide) (by decide) (by decide) (by decide)⟩
    · unfold fX9_told
      rw [if_neg w0, if_neg w1, if_neg w2, if_neg w3, if_neg w4, if_neg w5, if_pos w6, kd_1, if_pos rfl, c1, bsm]
      simp only [show ¬ (40 : Nat) = 0 by decide, if_false, gI_40, bsm, c3]
    · unfold fX10_told
      rw [if_neg w0, if_neg w1, if_neg w2, if_neg w3, if_neg w4, if_neg w5, if_pos w6, kd_62, if_pos rfl, m1, bsm]
      simp only [gI_62, bsm, m4]
  by_cases w7 : w = 7
  · obtain ⟨I1, L1, c1, c2⟩ := told7_C I L hE hV (show B < 100000 by omega) hb
    obtain ⟨I2, L2, m1, m2⟩ := told7_M I1 L1 (hM.ch c2 (by decide) (by decide) (by decide) (by decide)) hV (show B < 100000 by omega) hb
    refine ⟨nn (fb_ct (cvA s B) (pM s.1 s.2.1)), I1, L1, I2, L2, ?_, ?_, Ask_of A (c2.tr m2) (by decide) (by decide) (by decide) (by decide) (by decide) (by decide) (by decide) (by decide)⟩
    · unfold fX9_told
      rw [if_neg w0, if_neg w1, if_neg w2, if_neg w3, if_neg w4, if_neg w5, if_neg w6, if_pos w7, kd_1, if_pos rfl, c1, bsm]
    · unfold fX10_told
      rw [if_neg w0, if_neg w1, if_neg w2, if_neg w3, if_neg w4, if_neg w5, if_neg w6, if_pos w7, kd_62, if_pos rfl, m1, bsm]
  refine ⟨-1, I, L, I, L, ?_, ?_, ask0⟩
  · unfold fX9_told
    rw [if_neg w0, if_neg w1, if_neg w2, if_neg w3, if_neg w4, if_neg w5, if_neg w6, if_neg w7]
  · unfold fX10_told
    rw [if_neg w0, if_neg w1, if_neg w2, if_neg w3, if_neg w4, if_neg w5, if_neg w6, if_neg w7]
/-- the cell of an answer, by its number -/
theorem cellOf_s {s : Sq} {B : Nat} (hB : B ≤ 40) (hL : ∀ e, e < 6561 → (I 37 e = -1 ↔ ¬ Pe s B e = true)) {n : Nat} (hn : n < 2147483648) : (n < nA s B → ∃ e, e < 6561 ∧ Pe s B e = true ∧ fb_ct (Pe s B) e = n ∧ fX0_cellOfAnswer 31 (nn n) (mk I L) = some (nn e, mk I L)) ∧ (¬ n < nA s B → fX0_cellOfAnswer 31 (nn n) (mk I L) = some (-1, mk I L)) := by
  have hct : ∀ e, e ≤ 6561 → fb_ct (Pe s B) e ≤ 6561 := fun e he => Nat.le_trans (fb_ct_le _ _) he
  constructor
  · intro h
    obtain ⟨e, he, hp, hk⟩ := fb_ct_kth (p := Pe s B) (n := 6561) (k := n) (by rw [ct_all s hB]; exact h)
    refine ⟨e, he, hp, hk, ?_⟩
    unfold fX0_cellOfAnswer
    refine lp_for' (fun a => (nn (fb_ct (Pe s B) a), nn a)) rfl e (fun a ha c => ?_) (fun c => ?_) (FU_gt (by omega))
    · have q : ¬ (6561 : Int32) ≤ nn a := fun h => by
        have := (nn_le (m := 6561) (by omega) (by omega)).mp h
        omega
      have hca := hct a (by omega)
      have hLa := hL a (by omega)
      by_cases hpa : Pe s B a = true
      · have h1 : ¬ I 37 a = -1 := fun q => hLa.mp q hpa
        have h2 := fb_ct_mono (Pe s B) (show a + 1 ≤ e by omega)
        rw [ct_y hpa] at h2
        have h3 : ¬ nn (fb_ct (Pe s B) a) = nn n := fun q => by
          have := (nn_eq (by omega) hn).mp q
          omega
        simp only [gR_31_5, ln_37, bsm, if_neg q, xI_37, nn_lt0 (a) (by omega), nn_nat (show a < 2147483648 by omega), show a < 6561 by omega, not_false_eq_true, and_self, if_true, if_neg h1, if_neg h3, nm, nn_s, ct_y hpa]
      · simp only [gR_31_5, ln_37, bsm, if_neg q, xI_37, nn_lt0 (a) (by omega), nn_nat (show a < 2147483648 by omega), show a < 6561 by omega, not_false_eq_true, and_self, if_true, hLa.mpr hpa, nm, nn_s, ct_n hpa]
    · have q : ¬ (6561 : Int32) ≤ nn e := fun h => by
        have := (nn_le (m := 6561) (by omega) (by omega)).mp h
        omega
      have h1 : ¬ I 37 e = -1 := fun q => (hL e he).mp q hp
      simp only [gR_31_5, ln_37, bsm, if_neg q, xI_37, nn_lt0 (e) (by omega), nn_nat (show e < 2147483648 by omega), show e < 6561 by omega, not_false_eq_true, and_self, if_true, if_neg h1, hk, if_true]
  · intro h
    unfold fX0_cellOfAnswer
    refine lp_for' (fun a => (nn (fb_ct (Pe s B) a), nn a)) rfl 6561 (fun a ha c => ?_) (fun c => ?_) (FU_gt (by omega))
    · have q : ¬ (6561 : Int32) ≤ nn a := fun h => by
        have := (nn_le (m := 6561) (by omega) (by omega)).mp h
        omega
      have hca := hct a (by omega)
      have hLa := hL a (by omega)
      by_cases hpa : Pe s B a = true
      · have h1 : ¬ I 37 a = -1 := fun q => hLa.mp q hpa
        have h2 := num_lt hB hpa ha
        have h3 : ¬ nn (fb_ct (Pe s B) a) = nn n := fun q => by
          have := (nn_eq (by omega) hn).mp q
          omega
        simp only [gR_31_5, ln_37, bsm, if_neg q, xI_37, nn_lt0 (a) (by omega), nn_nat (show a < 2147483648 by omega), show a < 6561 by omega, not_false_eq_true, and_self, if_true, if_neg h1, if_neg h3, nm, nn_s, ct_y hpa]
      · simp only [gR_31_5, ln_37, bsm, if_neg q, xI_37, nn_lt0 (a) (by omega), nn_nat (show a < 2147483648 by omega), show a < 6561 by omega, not_false_eq_true, and_self, if_true, hLa.mpr hpa, if_true, nm, nn_s, ct_n hpa]
    · simp only [gR_31_5, ln_37, bsm, show (6561 : Int32) ≤ nn 6561 from Int32.le_refl _, if_true]
end TD
