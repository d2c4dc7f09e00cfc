section OD
variable (I : Nat → Nat → Int32) (L : Nat → Nat → Int64)
theorem st_of (N : RelN I L) (M : RelM I) (B : RelB I) : ∃ s : Sq, ESt 3 I s ∧ MSt I L s ∧ VSt s := by
  obtain ⟨d, a, hC, hM, hV⟩ := N
  exact ⟨(d, a, I 3 1, I 3 2), ⟨hC, rfl, rfl⟩, ⟨hM, M.1, B.1⟩, ⟨hV, M.2, B.2⟩⟩
theorem odds_M {s : Sq} (hM : MSt I L s) (hV : VSt s) {B : Nat} (hb : s.2.2.2 = nn B) (hB : B ≤ 40) (p : Int32) (hp : 0 ≤ p.toInt ∧ p.toInt ≤ 1) : fX10_odds 62 p (mk I L) = (fX10_lowest (sA s B ((2 * B + 1) * (2 * B + 1))) (ll ((2 * B + 1) * (2 * B + 1))) p (mk I L)).bind (fun ((v32, h31) : Int64 × Mem) => some ((v32 : Int64), h31)) := by
  unfold fX10_odds
  have e2 : I 62 3 = nn B := hM.2.2.trans hb
  simp only [in_s, i64_of32, Int64.reduceToInt, if_pos hp, Option.bind_some, one0, if_false, gI_62, e2, nm, wx_0]
  refine lp_for' (fun i => (sA s B (i * (2 * B + 1)), wx B i, mk I L)) (by rw [Nat.zero_mul]; rfl) (2 * B + 1) (fun i hi k => ?_) (fun k => ?_) (FU_gt (by omega))
  · simp only [gI_62, Option.bind_some, e2, wx_lt (show B < 100000 by omega) (show i < 100000 by omega), if_neg (show ¬ 2 * B < i by omega), wx_0]
    refine lp_for' (fun j => (sA s B (i * (2 * B + 1) + j), wx B j, mk I L)) rfl (2 * B + 1) (fun j hj k2 => ?_) (fun k2 => ?_) (FU_gt (by omega))
    · have hv : V s.1 s.2.1 (wx B i).toInt64 (wx B j).toInt64 = Vc s B (i * (2 * B + 1) + j) := by
        unfold Vc
        rw [cX_at hj, cY_at hj]
      simp only [gI_62, Option.bind_some, e2, wx_lt (show B < 100000 by omega) (show j < 100000 by omega), if_neg (show ¬ 2 * B < j by omega), kd_62, if_true, valE I L hM.1 hV, hM.2.1, lg_cmp_le, i64_le, hv, nnW, wx_s]
      by_cases hp : (Vc s B (i * (2 * B + 1) + j)).toInt ≤ s.2.2.1.toInt64.toInt
      · rw [if_pos hp, sA_n (show ¬ Pa s B (i * (2 * B + 1) + j) = true from fun h => by have := of_decide_eq_true h; omega), Int64.add_zero]
      · rw [if_neg hp, sA_y (show Pa s B (i * (2 * B + 1) + j) = true from decide_eq_true (by omega))]
    · simp only [gI_62, Option.bind_some, e2, wx_lt (show B < 100000 by omega) (show 2 * B + 1 < 100000 by omega), if_pos (show 2 * B < 2 * B + 1 by omega), wx_s, nnW2]
  · simp only [gI_62, Option.bind_some, e2, wx_lt (show B < 100000 by omega) (show 2 * B + 1 < 100000 by omega), if_pos (show 2 * B < 2 * B + 1 by omega), twos_ll hB]
theorem mean_M {s : Sq} (hM : MSt I L s) (hV : VSt s) {B : Nat} (hb : s.2.2.2 = nn B) (hB : B ≤ 40) (p : Int32) (hp : 0 ≤ p.toInt ∧ p.toInt ≤ 1) : fX10_mean 62 p (mk I L) = (fX10_lowest (sV s B ((2 * B + 1) * (2 * B + 1))) (ll ((2 * B + 1) * (2 * B + 1))) p (mk I L)).bind (fun ((v32, h31) : Int64 × Mem) => some ((v32 : Int64), h31)) := by
  unfold fX10_mean
  have e2 : I 62 3 = nn B := hM.2.2.trans hb
  simp only [in_s, i64_of32, Int64.reduceToInt, if_pos hp, Option.bind_some, one0, if_false, gI_62, e2, nm, wx_0]
  refine lp_for' (fun i => (sV s B (i * (2 * B + 1)), wx B i, mk I L)) (by rw [Nat.zero_mul]; rfl) (2 * B + 1) (fun i hi k => ?_) (fun k => ?_) (FU_gt (by omega))
  · simp only [gI_62, Option.bind_some, e2, wx_lt (show B < 100000 by omega) (show i < 100000 by omega), if_neg (show ¬ 2 * B < i by omega), wx_0]
    refine lp_for' (fun j => (sV s B (i * (2 * B + 1) + j), wx B j, mk I L)) rfl (2 * B + 1) (fun j hj k2 => ?_) (fun k2 => ?_) (FU_gt (by omega))
    · have hv : V s.1 s.2.1 (wx B i).toInt64 (wx B j).toInt64 = Vc s B (i * (2 * B + 1) + j) := by
        unfold Vc
        rw [cX_at hj, cY_at hj]
      simp only [gI_62, Option.bind_some, e2, wx_lt (show B < 100000 by omega) (show j < 100000 by omega), if_neg (show ¬ 2 * B < j by omega), kd_62, if_true, valE I L hM.1 hV, hv, nnW, sV_s, wx_s]
    · simp only [gI_62, Option.bind_some, e2, wx_lt (show B < 100000 by omega) (show 2 * B + 1 < 100000 by omega), if_pos (show 2 * B < 2 * B + 1 by omega), wx_s, nnW2]
  · simp only [gI_62, Option.bind_some, e2, wx_lt (show B < 100000 by omega) (show 2 * B + 1 < 100000 by omega), if_pos (show 2 * B < 2 * B + 1 by omega), twos_ll hB]
theorem pair_odds (p : Int32) (N : RelN I L) (M : RelM I) (B : RelB I) : BothL (fX9_odds 1 p) (fX10_odds 62 p) I L (fun I' L' => I' = I ∧ L' = L) := by
  obtain ⟨s, hE, hM, hV⟩ := st_of I L N M B
  obtain ⟨B, hB1, hB, hb⟩ := VSt_b hV
  have hW : (2 * B + 1) * (2 * B + 1) ≤ 81 * 81 := Nat.mul_le_mul (by omega) (by omega)
  by_cases hp : 0 ≤ p.toInt ∧ p.toInt ≤ 1
  · obtain ⟨r, h1, h2⟩ := lowest_s (sA s B ((2 * B + 1) * (2 * B + 1))) (bnd_ne (bnd_sA hB _ (Nat.le_refl _)) (by omega)) ((2 * B + 1) * (2 * B + 1)) (Nat.mul_pos (by omega) (by omega)) (by omega) p
    refine ⟨r, I, L, I, L, ?_, ?_, rfl, rfl⟩
    · unfold fX9_odds fX1_twos
      simp only [between_s, Int32.reduceToInt, if_pos hp, Option.bind_some, one0, if_false, gR_1_0, gR_2_0, kd_3, if_true, above_3 I L hE hV hb hB, gI_3, show I 3 2 = nn B from hE.2.2.trans hb, nm, twos_ll hB, h1]
    · rw [odds_M I L hM hV hb hB p hp, h2]
      rfl
  · refine ⟨-9223372036854775808, I, L, I, L, ?_, ?_, rfl, rfl⟩
    · unfold fX9_odds
      simp only [between_s, Int32.reduceToInt, if_neg hp, Option.bind_some, if_true]
    · unfold fX10_odds
      simp only [in_s, i64_of32, Int64.reduceToInt, if_neg hp, Option.bind_some, if_true]
theorem pair_mean (p : Int32) (N : RelN I L) (M : RelM I) (B : RelB I) : BothL (fX9_mean 1 p) (fX10_mean 62 p) I L (fun I' L' => I' = I ∧ L' = L) := by
  obtain ⟨s, hE, hM, hV⟩ := st_of I L N M B
  obtain ⟨B, hB1, hB, hb⟩ := VSt_b hV
  have hW : (2 * B + 1) * (2 * B + 1) ≤ 81 * 81 := Nat.mul_le_mul (by omega) (by omega)
  by_cases hp : 0 ≤ p.toInt ∧ p.toInt ≤ 1
  · obtain ⟨r, h1, h2⟩ := lowest_s (sV s B ((2 * B + 1) * (2 * B + 1))) (bnd_ne (bnd_sV hV hB _ (Nat.le_refl _)) (by omega)) ((2 * B + 1) * (2 * B + 1)) (Nat.mul_pos (by omega) (by omega)) (by omega) p
    refine ⟨r, I, L, I, L, ?_, ?_, rfl, rfl⟩
    · unfold fX9_mean fX1_twos
      simp only [between_s, Int32.reduceToInt, if_pos hp, Option.bind_some, one0, if_false, gR_1_0, gR_2_0, kd_3, if_true, together_3 I L hE hV hb hB, gI_3, show I 3 2 = nn B from hE.2.2.trans hb, nm, twos_ll hB, h1]
    · rw [mean_M I L hM hV hb hB p hp, h2]
      rfl
  · refine ⟨-9223372036854775808, I, L, I, L, ?_, ?_, rfl, rfl⟩
    · unfold fX9_mean
      simp only [between_s, Int32.reduceToInt, if_neg hp, Option.bind_some, if_true]
    · unfold fX10_mean
      simp only [in_s, i64_of32, Int64.reduceToInt, if_neg hp, Option.bind_some, if_true]
end OD
