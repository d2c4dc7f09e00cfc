section PQ
variable (I : Nat → Nat → Int32) (L : Nat → Nat → Int64)
theorem partsNow_s {s : Sq} (hA : AC 4 I s.1 s.2.1) (hV : VSt s) : ∃ I' L', fX9_partsNow 1 (mk I L) = some (40, mk I' L') ∧ Ch [40, 42] [] [41, 43, 44] I L I' L' ∧ I' 40 0 = nn (pM s.1 s.2.1) ∧ Pk s.1 s.2.1 I' L' (pM s.1 s.2.1) := by
  obtain ⟨⟨_, h⟩, h1, I', L', h2, h3⟩ := look_40 I L hA hV
  simp only at h2
  subst h2
  refine ⟨I', L', ?_, h3⟩
  unfold fX9_partsNow
  simp only [kd_1, gI_1, pI_1, gR_1_0, gR_1_1, gR_1_3, gR_1_4, gR_1_5, gR_1_6, gR_1_7, gR_1_8, ln_49, xR_49, kd_2, gI_2, pI_2, gR_2_0, gR_2_1, gR_2_2, gR_2_3, kd_3, gI_3, pI_3, gR_3_0, kd_40, if_true, Option.bind_some, h1]
theorem pget_40 {d : Nat} {a : Nat → Int64} {m : Nat} (hm : m ≤ 8) (e0 : I 40 0 = nn m) (hP : Pk d a I L m) {k : Nat} (hk : k < m) : fX3_get 40 (nn k) (mk I L) = some (nn (pT d a k), mk I L) ∧ fX3_above 40 (nn k) (mk I L) = some (gA d a (k + 2), mk I L) ∧ fX3_below 40 (nn k) (mk I L) = some (gB d a (k + 2), mk I L) := by
  have q8 : ¬ (8 : Int32) ≤ nn k := fun e => by
    have := (nn_le (m := 8) (by omega) (by omega)).mp e
    omega
  obtain ⟨p1, p2, p3⟩ := hP k hk
  refine ⟨?_, ?_, ?_⟩
  · unfold fX3_get
    simp only [kd_40, gI_40, pI_40, gR_40_2, gR_40_3, gR_40_4, gR_40_5, ln_41, xJ_41, yJ_41, ln_42, xI_42, yI_42, ln_43, xJ_43, yJ_43, ln_44, xJ_44, yJ_44, nn_lt0 k (by omega), if_false, e0, Option.bind_some, nn_le (show m < 2147483648 by omega) (show k < 2147483648 by omega), if_neg (show ¬ m ≤ k by omega), if_neg q8, nn_lt0 (k) (by omega), nn_nat (show k < 2147483648 by omega), show k < 8 by omega, not_false_eq_true, and_self, if_true, p1]
  · unfold fX3_above
    simp only [kd_40, gI_40, pI_40, gR_40_2, gR_40_3, gR_40_4, gR_40_5, ln_41, xJ_41, yJ_41, ln_42, xI_42, yI_42, ln_43, xJ_43, yJ_43, ln_44, xJ_44, yJ_44, nn_lt0 k (by omega), if_false, e0, Option.bind_some, nn_le (show m < 2147483648 by omega) (show k < 2147483648 by omega), if_neg (show ¬ m ≤ k by omega), if_neg q8, nn_lt0 (k) (by omega), nn_nat (show k < 2147483648 by omega), show k < 8 by omega, not_false_eq_true, and_self, if_true, p2]
  · unfold fX3_below
    simp only [kd_40, gI_40, pI_40, gR_40_2, gR_40_3, gR_40_4, gR_40_5, ln_41, xJ_41, yJ_41, ln_42, xI_42, yI_42, ln_43, xJ_43, yJ_43, ln_44, xJ_44, yJ_44, nn_lt0 k (by omega), if_false, e0, Option.bind_some, nn_le (show m < 2147483648 by omega) (show k < 2147483648 by omega), if_neg (show ¬ m ≤ k by omega), if_neg q8, nn_lt0 (k) (by omega), nn_nat (show k < 2147483648 by omega), show k < 8 by omega, not_false_eq_true, and_self, if_true, p3]
theorem pair_part (i : Int32) (N : RelN I L) (M : RelM I) (B : RelB I) : Both (fX9_part 1 i) (fX10_part 62 i) I L (fun I' L' => Ch [40, 42, 78] [25] [41, 43, 44, 76, 77] I L I' L') := by
  obtain ⟨s, hE, hM, hV⟩ := st_of I L N M B
  unfold fX9_part fX10_part Both
  by_cases hi : (0 : Int32) ≤ i
  rotate_left
  · exact ⟨-1, I, L, I, L, by simp only [if_neg hi], by simp only [if_neg hi], Ch.rf I L⟩
  obtain ⟨I1, L1, c1, c2, c3, c4⟩ := partsNow_s I L hE.1 hV
  obtain ⟨⟨_, h⟩, m1, I2, L2, m2, m3, m4, m5⟩ := parts_M I1 L1 (hM.1.ch c2 (by decide) (by decide)) hV
  simp only at m2
  subst m2
  have hch : Ch [40, 42, 78] [25] [41, 43, 44, 76, 77] I L I2 L2 := (c2.tr m3).mono (by simp) (by simp) (by simp)
  have h8 := pM_le s.1 s.2.1
  obtain ⟨n, hn, rfl⟩ := i32_ex (show 0 ≤ i.toInt by rw [i32_le] at hi; simpa using hi)
  by_cases hlt : pM s.1 s.2.1 ≤ n
  · refine ⟨-5, I1, L1, I2, L2, ?_, ?_, hch⟩
    · simp only [if_pos hi, kd_1, if_true, c1, Option.bind_some, show ¬ (40 : Nat) = 0 by decide, if_false, gI_40, c3, nn_le (show pM s.1 s.2.1 < 2147483648 by omega) (show n < 2147483648 by omega), if_pos hlt]
    · simp only [if_pos hi, kd_62, if_true, m1, Option.bind_some, gI_62, m4, nn_le (show pM s.1 s.2.1 < 2147483648 by omega) (show n < 2147483648 by omega), if_pos hlt]
  · refine ⟨nn (pT s.1 s.2.1 n), I1, L1, I2, L2, ?_, ?_, hch⟩
    · simp only [if_pos hi, kd_1, kd_40, if_true, c1, Option.bind_some, show ¬ (40 : Nat) = 0 by decide, if_false, gI_40, c3, nn_le (show pM s.1 s.2.1 < 2147483648 by omega) (show n < 2147483648 by omega), if_neg hlt, (pget_40 I1 L1 h8 c3 c4 (show n < pM s.1 s.2.1 by omega)).1]
    · simp only [if_pos hi, kd_62, if_true, m1, Option.bind_some, gI_62, m4, nn_le (show pM s.1 s.2.1 < 2147483648 by omega) (show n < 2147483648 by omega), if_neg hlt, gR_62_24, xI_78, nn_lt0 (n) (by omega), nn_nat (show n < 2147483648 by omega), show n < 8 by omega, not_false_eq_true, and_self, if_true, m5 n (by omega)]
theorem pair_convergent (i w : Int32) (N : RelN I L) (M : RelM I) (B : RelB I) : BothL (fX9_convergent 1 i w) (fX10_convergent 62 i w) I L (fun I' L' => Ch [40, 42, 78] [25] [41, 43, 44, 76, 77, 62] I L I' L') := by
  obtain ⟨s, hE, hM, hV⟩ := st_of I L N M B
  unfold fX9_convergent fX10_convergent BothL
  by_cases hi : i < 0
  · exact ⟨-9223372036854775808, I, L, I, L, by simp only [if_pos hi], by simp only [if_pos hi], Ch.rf I L⟩
  simp only [if_neg hi, between_s, in_s, i64_of32, Int64.reduceToInt, Int32.reduceToInt, Option.bind_some]
  by_cases hw : 0 ≤ w.toInt ∧ w.toInt ≤ 1
  rotate_left
  · exact ⟨-9223372036854775808, I, L, I, L, by simp only [if_neg hw, if_true], by simp only [if_neg hw, if_true], Ch.rf I L⟩
  simp only [if_pos hw, one0, if_false]
  obtain ⟨I1, L1, c1, c2, c3, c4⟩ := partsNow_s I L hE.1 hV
  obtain ⟨⟨_, h⟩, m1, I2, L2, m2, m3, m4, m5⟩ := parts_M I1 L1 (hM.1.ch c2 (by decide) (by decide)) hV
  simp only at m2
  subst m2
  have hch : Ch [40, 42, 78] [25] [41, 43, 44, 76, 77, 62] I L I2 L2 := (c2.tr m3).mono (by simp) (by simp) (by simp)
  have h8 := pM_le s.1 s.2.1
  obtain ⟨n, hn, rfl⟩ := i32_ex (show 0 ≤ i.toInt by rw [i32_lt] at hi; simpa using hi)
  by_cases hlt : n < pM s.1 s.2.1
  rotate_left
  · refine ⟨-9223372036854775808, I1, L1, I2, L2, ?_, ?_, hch⟩
    · simp only [kd_1, if_true, c1, Option.bind_some, show ¬ (40 : Nat) = 0 by decide, if_false, gI_40, c3, nn_lt (show n < 2147483648 by omega) (show pM s.1 s.2.1 < 2147483648 by omega), if_neg hlt]
    · simp only [kd_62, if_true, m1, Option.bind_some, gI_62, m4, nn_lt (show n < 2147483648 by omega) (show pM s.1 s.2.1 < 2147483648 by omega), if_neg hlt]
  · obtain ⟨g1, g2, g3⟩ := pget_40 I1 L1 h8 c3 c4 hlt
    refine ⟨if w = 0 then gA s.1 s.2.1 (n + 2) else gB s.1 s.2.1 (n + 2), I1, L1, I2, up1 L2 62 (up1 (up1 (L2 62) 26 (gA s.1 s.2.1 (n + 2))) 27 (gB s.1 s.2.1 (n + 2))), ?_, ?_, (hch.tr (ChL _ _ [] [] [62] (by simp))).mono (by simp) (by simp) (by simp)⟩
    · simp only [kd_1, kd_40, if_true, c1, Option.bind_some, show ¬ (40 : Nat) = 0 by decide, if_false, gI_40, c3, nn_lt (show n < 2147483648 by omega) (show pM s.1 s.2.1 < 2147483648 by omega), if_pos hlt, g2, g3]
      split <;> rfl
    · simp only [kd_62, if_true, m1, Option.bind_some, gI_62, m4, nn_lt (show n < 2147483648 by omega) (show pM s.1 s.2.1 < 2147483648 by omega), if_pos hlt, conv_M I2 L2 h8 m5 hlt, gJ_62, up1_s, up1_n (up1 (L2 62) 26 (gA s.1 s.2.1 (n + 2))) _ (show 26 ≠ 27 by decide)]
      split <;> rfl
/-- which of the fractions answer -/
def inW (B : Nat) (x : Int64) : Bool := decide (-(B : Int) ≤ x.toInt ∧ x.toInt ≤ B)
def cvP (s : Sq) (B : Nat) (x y : Int64) : Bool := inW B x && (inW B y && decide (V s.1 s.2.1 x y = s.2.2.1.toInt64))
def cvA (s : Sq) (B k : Nat) : Bool := cvP s B (gA s.1 s.2.1 (k + 2)) (gB s.1 s.2.1 (k + 2))
theorem neg_nn {B : Nat} (hB : B < 100000) : (-nn B).toInt64.toInt = -(B : Int) := by
  rw [i64_of32, Int32.toInt_neg, nn_toInt (by omega)]
  apply Int.bmod_eq_of_le <;> omega
theorem inWindow_3 {B : Nat} (hB : B < 100000) (e2 : I 3 2 = nn B) (x y : Int64) : fX1_hasInWindow 3 x y (mk I L) = some (if (inW B x && inW B y) = true then 1 else 0, mk I L) := by
  unfold fX1_hasInWindow
  simp only [gI_3, e2, Option.bind_some, lg_cmp_lt, lg_cmp_gt, i64_lt, neg_nn hB, nn64_toInt (show B < 2147483648 by omega)]
  unfold inW
  simp only [Bool.and_eq_true, decide_eq_true_eq]
  repeat' split
  all_goals first | rfl | (exfalso; omega)
theorem isAns_3 {s : Sq} (hE : ESt 3 I s) (hV : VSt s) {B : Nat} (hB : B < 100000) (hb : s.2.2.2 = nn B) (x y : Int64) : fX1_isAnswer 3 x y (mk I L) = some (if (inW B x && (inW B y && decide (V s.1 s.2.1 x y = s.2.2.1.toInt64))) = true then 1 else 0, mk I L) := by
  unfold fX1_isAnswer
  simp only [kd_3, kd_4, if_true, inWindow_3 I L hB (hE.2.2.trans hb), Option.bind_some, ite10, gR_3_0, atE_4 I L hE.1 hV, gI_3, hE.2.1, lg_cmp_eq]
  by_cases h1 : inW B x = true
  · by_cases h2 : inW B y = true
    · by_cases h3 : V s.1 s.2.1 x y = s.2.2.1.toInt64
      · simp [h1, h2, h3]
      · simp [h1, h2, h3]
    · simp [h1, h2]
  · simp [h1]
theorem inWindow_26 {B : Nat} (hB : B < 100000) (e2 : I 26 2 = nn B) (x y : Int64) : fX1_hasInWindow 26 x y (mk I L) = some (if (inW B x && inW B y) = true then 1 else 0, mk I L) := by
  unfold fX1_hasInWindow
  simp only [gI_26, e2, Option.bind_some, lg_cmp_lt, lg_cmp_gt, i64_lt, neg_nn hB, nn64_toInt (show B < 2147483648 by omega)]
  unfold inW
  simp only [Bool.and_eq_true, decide_eq_true_eq]
  repeat' split
  all_goals first | rfl | (exfalso; omega)
theorem isAns_26 {s : Sq} (hE : ESt 26 I s) (hV : VSt s) {B : Nat} (hB : B < 100000) (hb : s.2.2.2 = nn B) (x y : Int64) : fX1_isAnswer 26 x y (mk I L) = some (if (inW B x && (inW B y && decide (V s.1 s.2.1 x y = s.2.2.1.toInt64))) = true then 1 else 0, mk I L) := by
  unfold fX1_isAnswer
  simp only [kd_26, kd_27, if_true, inWindow_26 I L hB (hE.2.2.trans hb), Option.bind_some, ite10, gR_26_0, atE_27 I L hE.1 hV, gI_26, hE.2.1, lg_cmp_eq]
  by_cases h1 : inW B x = true
  · by_cases h2 : inW B y = true
    · by_cases h3 : V s.1 s.2.1 x y = s.2.2.1.toInt64
      · simp [h1, h2, h3]
      · simp [h1, h2, h3]
    · simp [h1, h2]
  · simp [h1]
theorem inWindow_32 {B : Nat} (hB : B < 100000) (e2 : I 32 2 = nn B) (x y : Int64) : fX1_hasInWindow 32 x y (mk I L) = some (if (inW B x && inW B y) = true then 1 else 0, mk I L) := by
  unfold fX1_hasInWindow
  simp only [gI_32, e2, Option.bind_some, lg_cmp_lt, lg_cmp_gt, i64_lt, neg_nn hB, nn64_toInt (show B < 2147483648 by omega)]
  unfold inW
  simp only [Bool.and_eq_true, decide_eq_true_eq]
  repeat' split
  all_goals first | rfl | (exfalso; omega)
theorem isAns_32 {s : Sq} (hE : ESt 32 I s) (hV : VSt s) {B : Nat} (hB : B < 100000) (hb : s.2.2.2 = nn B) (x y : Int64) : fX1_isAnswer 32 x y (mk I L) = some (if (inW B x && (inW B y && decide (V s.1 s.2.1 x y = s.2.2.1.toInt64))) = true then 1 else 0, mk I L) := by
  unfold fX1_isAnswer
  simp only [kd_32, kd_33, if_true, inWindow_32 I L hB (hE.2.2.trans hb), Option.bind_some, ite10, gR_32_0, atE_33 I L hE.1 hV, gI_32, hE.2.1, lg_cmp_eq]
  by_cases h1 : inW B x = true
  · by_cases h2 : inW B y = true
    · by_cases h3 : V s.1 s.2.1 x y = s.2.2.1.toInt64
      · simp [h1, h2, h3]
      · simp [h1, h2, h3]
    · simp [h1, h2]
  · simp [h1]
theorem told7_C {s : Sq} (hE : ESt 3 I s) (hV : VSt s) {B : Nat} (hB : B < 100000) (hb : s.2.2.2 = nn B) : ∃ I' L', fX9_convergentAnswers 1 (mk I L) = some (nn (fb_ct (cvA s B) (pM s.1 s.2.1)), mk I' L') ∧ Ch [40, 42] [] [41, 43, 44] I L I' L' := by
  obtain ⟨I1, L1, c1, c2, c3, c4⟩ := partsNow_s I L hE.1 hV
  have h8 := pM_le s.1 s.2.1
  have hE1 : ESt 3 I1 s := ⟨hE.1.ch c2 (by decide) (by decide) (by decide) (by decide), by rw [c2.1 3 (by decide) (by decide)]; exact hE.2.1, by rw [c2.1 3 (by decide) (by decide)]; exact hE.2.2⟩
  refine ⟨I1, L1, ?_, c2⟩
  unfold fX9_convergentAnswers
  simp only [kd_1, if_true, c1, Option.bind_some, show ¬ (40 : Nat) = 0 by decide, if_false]
  refine lp_for' (fun k => (nn (fb_ct (cvA s B) k), nn k, mk I1 L1)) rfl (pM s.1 s.2.1) (fun k hk c => ?_) (fun c => ?_) (FU_gt (by omega))
  · obtain ⟨g1, g2, g3⟩ := pget_40 I1 L1 h8 c3 c4 hk
    simp only [gI_40, c3, Option.bind_some, nn_le (show pM s.1 s.2.1 < 2147483648 by omega) (show k < 2147483648 by omega), if_neg (show ¬ pM s.1 s.2.1 ≤ k by omega), gR_1_0, gR_2_0, kd_40, kd_3, if_true, g2, g3, isAns_3 I1 L1 hE1 hV hB hb, ite10, nm, nn_s]
    show (if cvA s B k = true then c (nn (fb_ct (cvA s B) k + 1), nn (k + 1), mk I1 L1) else c (nn (fb_ct (cvA s B) k), nn (k + 1), mk I1 L1)) = _
    by_cases h : cvA s B k = true
    · rw [if_pos h, ct_y h]
    · rw [if_neg h, ct_n h]
  · simp only [gI_40, c3, Option.bind_some, nn_le (show pM s.1 s.2.1 < 2147483648 by omega) (show pM s.1 s.2.1 < 2147483648 by omega), Nat.le_refl, if_true]
theorem told7_M {s : Sq} (hM : MSt I L s) (hV : VSt s) {B : Nat} (hB : B < 100000) (hb : s.2.2.2 = nn B) : ∃ I' L', fX10_answering 62 (mk I L) = some (nn (fb_ct (cvA s B) (pM s.1 s.2.1)), mk I' L') ∧ Ch [78] [25] [76, 77, 62] I L I' L' := by
  obtain ⟨⟨_, h⟩, m1, I2, L2, m2, m3, m4, m5⟩ := parts_M I L hM.1 hV
  simp only at m2
  subst m2
  have h8 := pM_le s.1 s.2.1
  have hM2 : MSt I2 L2 s := hM.ch m3 (by decide) (by decide) (by decide) (by decide)
  have e3 : I2 62 3 = nn B := hM2.2.2.trans hb
  have key : ∃ r, fX10_answering 62 (mk I L) = some r ∧ ∃ f, r = (nn (fb_ct (cvA s B) (pM s.1 s.2.1)), mk I2 (up1 L2 62 f)) := by
    unfold fX10_answering
    simp only [kd_62, if_true, m1, Option.bind_some]
    refine lp_ex (fun k (t : Int32 × Int32 × Mem) => t.1 = nn (fb_ct (cvA s B) k) ∧ t.2.1 = nn k ∧ ∃ f, t.2.2 = mk I2 (up1 L2 62 f)) (fun r => ∃ f, r = (nn (fb_ct (cvA s B) (pM s.1 s.2.1)), mk I2 (up1 L2 62 f))) (pM s.1 s.2.1) (0, 0, mk I2 L2) ⟨rfl, rfl, L2 62, by rw [up1_id]⟩ ?_ ?_ FU (FU_gt (by omega))
    · rintro k hk ⟨v, w, h⟩ ⟨hv, hw, f, hh⟩
      simp only at hv hw hh
      subst hv hw hh
      have hc := conv_M I2 (up1 L2 62 f) h8 m5 hk
      rw [up1_up1, up1_s] at hc
      obtain ⟨x, hx⟩ : ∃ x, gA s.1 s.2.1 (k + 2) = x := ⟨_, rfl⟩
      obtain ⟨y, hy⟩ : ∃ y, gB s.1 s.2.1 (k + 2) = y := ⟨_, rfl⟩
      have hcv : cvA s B k = cvP s B x y := by
        unfold cvA
        rw [hx, hy]
      rw [hx, hy] at hc
      obtain ⟨g, hg⟩ : ∃ g, up1 (up1 f 26 x) 27 y = g := ⟨_, rfl⟩
      rw [hg] at hc
      have g26 : g 26 = x := by rw [← hg, up1_n _ _ (by decide), up1_s]
      have g27 : g 27 = y := by rw [← hg, up1_s]
      have hM3 : AM I2 (up1 L2 62 g) s.1 s.2.1 := ⟨hM2.1.1, fun j hj => by rw [up1_n _ _ (by decide)]; exact hM2.1.2 j hj⟩
      have hin : ∀ x, fX10_in x (-nn B).toInt64 (nn B).toInt64 (mk I2 (up1 L2 62 g)) = some (if inW B x = true then 1 else 0, mk I2 (up1 L2 62 g)) := fun x => by
        rw [in_s, neg_nn hB, nn64_toInt (show B < 2147483648 by omega)]
        unfold inW
        simp only [decide_eq_true_eq]
      refine ⟨(nn (fb_ct (cvA s B) (k + 1)), nn (k + 1), mk I2 (up1 L2 62 g)), fun c => ?_, rfl, rfl, g, rfl⟩
      have hle : ¬ nn (pM s.1 s.2.1) ≤ nn k := fun e => by
        have := (nn_le (show pM s.1 s.2.1 < 2147483648 by omega) (show k < 2147483648 by omega)).mp e
        omega
      simp only [gI_62, m4, Option.bind_some, if_neg hle, kd_62, if_true]
      rw [hc, Option.bind_some]
      simp only [gI_62, Option.bind_some, kd_62, if_true, gJ_62, up1_s, g26, g27, e3, hin, ite10, valE I2 (up1 L2 62 g) hM3 hV, hM2.2.1, lg_cmp_eq, nm, nn_s, Int32.add_zero]
      by_cases h1 : inW B x = true
      · by_cases h2 : inW B y = true
        · by_cases h3 : V s.1 s.2.1 x y = s.2.2.1.toInt64
          · rw [if_pos h1, if_pos h2, if_pos h3, ct_y (show cvA s B k = true by rw [hcv]; unfold cvP; rw [h1, h2, decide_eq_true h3]; rfl)]
          · rw [if_pos h1, if_pos h2, if_neg h3, ct_n (show ¬ cvA s B k = true by rw [hcv]; unfold cvP; rw [h1, h2, decide_eq_false h3]; decide)]
        · rw [if_pos h1, if_neg h2, ct_n (show ¬ cvA s B k = true by rw [hcv]; unfold cvP; rw [h1, show inW B y = false by simpa using h2]; simp)]
      · rw [if_neg h1, ct_n (show ¬ cvA s B k = true by rw [hcv]; unfold cvP; rw [show inW B x = false by simpa using h1]; simp)]
    · rintro ⟨v, w, h⟩ ⟨hv, hw, f, hh⟩
      simp only at hv hw hh
      subst hv hw hh
      refine ⟨(nn (fb_ct (cvA s B) (pM s.1 s.2.1)), mk I2 (up1 L2 62 f)), fun c => ?_, f, rfl⟩
      simp only [gI_62, m4, Option.bind_some, nn_le (show pM s.1 s.2.1 < 2147483648 by omega) (show pM s.1 s.2.1 < 2147483648 by omega), Nat.le_refl, if_true]
  obtain ⟨r, k1, f, k2⟩ := key
  exact ⟨I2, up1 L2 62 f, k1.trans (congrArg some k2), (m3.tr (ChL _ _ [] [] [62] (by simp))).mono (by simp) (by simp) (by simp)⟩
end PQ
