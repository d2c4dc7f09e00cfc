section UM
variable (I : Nat → Nat → Int32) (L : Nat → Nat → Int64)
theorem lft_d {s : Sq} (hV : VSt s) (u v w z : Int32) : allB (s.1 + 1) (fun j => decide (ft s.2.1 u.toInt64 v.toInt64 w.toInt64 z.toInt64 s.1 j = s.2.1 j)) = lft s.1 s.2.1 u v w z := by
  have hd := hV.1.1
  unfold lft
  rw [Bool.eq_iff_iff, allB_iff, allB_iff]
  constructor
  · intro h j hj
    by_cases e : j < s.1 + 1
    · exact h j e
    · rw [ft_hi _ _ _ _ _ s.1 j (by omega), hV.1.2.2 j hj (by omega)]
      rfl
  · intro h j hj
    exact h j (by omega)
theorem u4put (I : Nat → Nat → Int32) (m c : Nat) : up1 (up1 (up1 (up1 I 70 (up1 (I 70) (4 * m) (uE c 0))) 70 (up1 (up1 (I 70) (4 * m) (uE c 0)) (4 * m + 1) (uE c 1))) 70 (up1 (up1 (up1 (I 70) (4 * m) (uE c 0)) (4 * m + 1) (uE c 1)) (4 * m + 2) (uE c 2))) 70 (up1 (up1 (up1 (up1 (I 70) (4 * m) (uE c 0)) (4 * m + 1) (uE c 1)) (4 * m + 2) (uE c 2)) (4 * m + 3) (uE c 3)) = U4 I 70 m c := by
  unfold U4
  simp only [up1_up1]
theorem units_M {s : Sq} (hM : AM I L s.1 s.2.1) (hV : VSt s) : ∃ r, fX10_tellsUnits 62 (mk I L) = some r ∧ UIm s I L 625 r.2 := by
  have hd := hV.1.1
  unfold fX10_tellsUnits
  simp only [pI_62, Option.bind_some]
  refine lp_ex (fun c (s1 : Int32 × Mem) => s1.1 = nn c ∧ UIm s I L c s1.2) (fun (r : Unit × Mem) => UIm s I L 625 r.2) 625 (0, mk (up1 I 62 (up1 (I 62) 15 0)) L) ⟨rfl, up1 I 62 (up1 (I 62) 15 0), L, rfl, ChK I L [70] [15] [67, 68] (by simp), by rw [up1_s, up1_s]; rfl, fun c hc => absurd hc (by omega)⟩ ?_ ?_ FU (FU_gt (by omega))
  rotate_left
  · rintro ⟨v, h⟩ ⟨hv, hP⟩
    simp only at hv hP
    subst hv
    refine ⟨((), h), fun k => ?_, hP⟩
    simp only [show (625 : Int32) ≤ nn 625 from Int32.le_refl _, if_true]
  rintro c hc ⟨v, h⟩ ⟨hv, I1, L1, hh, q1, q2, q3⟩
  simp only at hv hh
  subst hv hh
  have hM1 : AM I1 L1 s.1 s.2.1 := hM.ch q1 (by decide) (by decide)
  have q : ¬ (625 : Int32) ≤ nn c := fun e => by
    have := (nn_le (m := 625) (by omega) (by omega)).mp e
    omega
  have d0 : nn c / 125 - 2 = uE c 0 := by
    rw [show nn c / 125 = nn (c / 125) from nn_div (b := 125) (by omega) (by omega)]
    rfl
  have d1 : (nn c / 25 - nn c / 25 / 5 * 5) - 2 = uE c 1 := by
    rw [show nn c / 25 = nn (c / 25) from nn_div (b := 25) (by omega) (by omega), nn_mod5 (by omega)]
    rfl
  have d2 : (nn c / 5 - nn c / 5 / 5 * 5) - 2 = uE c 2 := by
    rw [show nn c / 5 = nn (c / 5) from nn_div (b := 5) (by omega) (by omega), nn_mod5 (by omega)]
    rfl
  have d3 : (nn c - nn c / 5 * 5) - 2 = uE c 3 := by
    rw [nn_mod5 (by omega)]
    rfl
  simp only [if_neg q, show ¬ (125 : Int32) = 0 by decide, show ¬ (25 : Int32) = 0 by decide, show ¬ (5 : Int32) = 0 by decide, if_false, nm, jn, d0, d1, d2, d3]
  by_cases hdet : uDet c = true
  rotate_left
  · have hu : ¬ Ub s c = true := fun e => by
      unfold Ub at e
      rw [Bool.and_eq_true] at e
      exact hdet e.1
    have hd2 : ¬ uE c 0 * uE c 3 - uE c 1 * uE c 2 = 1 ∧ ¬ uE c 0 * uE c 3 - uE c 1 * uE c 2 = -1 := by
      unfold uDet at hdet
      simpa using hdet
    refine ⟨(nn (c + 1), mk I1 L1), fun k => ?_, rfl, I1, L1, rfl, q1, by rw [un_s, if_neg hu]; exact q2, UAt_no q3 hu rfl⟩
    rw [if_neg hd2.1, if_neg hd2.2, nn_s]
  have hd2 : uE c 0 * uE c 3 - uE c 1 * uE c 2 = 1 ∨ uE c 0 * uE c 3 - uE c 1 * uE c 2 = -1 := by
    unfold uDet at hdet
    simpa using hdet
  have hif : ∀ {β : Type} (x y : β), (if uE c 0 * uE c 3 - uE c 1 * uE c 2 = 1 then x else if uE c 0 * uE c 3 - uE c 1 * uE c 2 = -1 then x else y) = x := fun x y => by
    rcases hd2 with e | e
    · rw [if_pos e]
    · by_cases e1 : uE c 0 * uE c 3 - uE c 1 * uE c 2 = 1
      · rw [if_pos e1]
      · rw [if_neg e1, if_pos e]
  simp only [hif, kd_62, if_true, turnsM_s I1 L1 s.1 hd hM1.1, Option.bind_some]
  generalize hL2 : up1 (up1 L1 67 (tl (L1 67) (Td (L1 63) (uE c 0).toInt64 (uE c 1).toInt64 (uE c 2).toInt64 (uE c 3).toInt64 s.1 (s.1 + 1)))) 68 (tl (L1 68) (pr (L1 63) (uE c 0).toInt64 (uE c 1).toInt64 (uE c 2).toInt64 (uE c 3).toInt64 s.1 s.1)) = L2
  have hT : ∀ j, j ≤ s.1 → L2 67 j = ft s.2.1 (uE c 0).toInt64 (uE c 1).toInt64 (uE c 2).toInt64 (uE c 3).toInt64 s.1 j := fun j hj => by
    rw [← hL2, up1_n _ _ (by decide), up1_s, tl_at _ _ (by omega)]
    exact Td_ft s.1 s.2.1 (L1 63) _ _ _ _ (fun i hi => hM1.2 i (by omega)) hj
  have h63 : ∀ j, j < 5 → L2 63 j = s.2.1 j := fun j hj => by
    rw [← hL2, up1_n _ _ (by decide), up1_n _ _ (by decide)]
    exact hM1.2 j hj
  have q4 : Ch [70] [15] [67, 68] I L I1 L2 := ⟨q1.1, q1.2.1, fun r hr => by
    rw [← hL2, up1_n _ _ (fun e => hr (by simp [e])), up1_n _ _ (fun e => hr (by simp [e]))]
    exact q1.2.2 r hr⟩
  have hI0 : I1 62 0 = nn s.1 := hM1.1
  have hlp : ∀ (K : Int32 × Mem → Option (Unit × Mem)), lpF (fun k15 ((v13, v14) : Int32 × Int32) =>
      (gI 10 (mk I1 L2) 62 0).bind fun v17 =>
      if v17 < v14 then
       if v13 = 0 then
        K (nn c + 1, mk I1 L2)
       else
        (gR 10 (mk I1 L2) 62 14).bind fun v27 =>
        (gI 10 (mk I1 L2) 62 15).bind fun v28 =>
        (yI 11 (mk I1 L2) v27 (4 * v28) (uE c 0)).bind fun h29 =>
        (gR 10 h29 62 14).bind fun v30 =>
        (gI 10 h29 62 15).bind fun v31 =>
        (yI 11 h29 v30 ((4 * v31) + 1) (uE c 1)).bind fun h32 =>
        (gR 10 h32 62 14).bind fun v33 =>
        (gI 10 h32 62 15).bind fun v34 =>
        (yI 11 h32 v33 ((4 * v34) + 2) (uE c 2)).bind fun h35 =>
        (gR 10 h35 62 14).bind fun v36 =>
        (gI 10 h35 62 15).bind fun v37 =>
        (yI 11 h35 v36 ((4 * v37) + 3) (uE c 3)).bind fun h38 =>
        (gI 10 h38 62 15).bind fun v39 =>
        (pI 10 h38 62 15 (v39 + 1)).bind fun h40 =>
        K (nn c + 1, h40)
      else
       (gR 10 (mk I1 L2) 62 10).bind fun v18 =>
       (xJ (mk I1 L2) v18 v14).bind fun v19 =>
       (gR 10 (mk I1 L2) 62 1).bind fun v20 =>
       (xJ (mk I1 L2) v20 v14).bind fun v21 =>
       if (lg_cmp v19 v21) = 0 then
        k15 (v13 &&& 1, v14 + 1)
       else
        k15 (v13 &&& 0, v14 + 1)) FU (1, 0) = if lft s.1 s.2.1 (uE c 0) (uE c 1) (uE c 2) (uE c 3) = true then K (nn (c + 1), mk (up1 (U4 I1 70 (un s c) c) 62 (up1 (I1 62) 15 (nn (un s c + 1)))) L2) else K (nn (c + 1), mk I1 L2) := fun K => by
    refine lp_for' (fun k => ((if allB k (fun j => decide (ft s.2.1 (uE c 0).toInt64 (uE c 1).toInt64 (uE c 2).toInt64 (uE c 3).toInt64 s.1 j = s.2.1 j)) = true then 1 else 0), nn k)) rfl (s.1 + 1) (fun j hj k => ?_) (fun k => ?_) (FU_gt (by omega))
    · simp only [gI_62, hI0, Option.bind_some, nn_lt (show s.1 < 2147483648 by omega) (show j < 2147483648 by omega), if_neg (show ¬ s.1 < j by omega), gR_62_10, gR_62_1, xJ_67, xJ_63, nn_lt0 (j) (by omega), nn_nat (show j < 2147483648 by omega), show j < 5 by omega, not_false_eq_true, and_self, if_true, hT j (by omega), h63 j (by omega), lg_cmp_eq, nn_s, allB_s]
      by_cases e : ft s.2.1 (uE c 0).toInt64 (uE c 1).toInt64 (uE c 2).toInt64 (uE c 3).toInt64 s.1 j = s.2.1 j
      · rw [if_pos e, and_bit (x := 1) (c := true) rfl, decide_eq_true e]
      · rw [if_neg e, and_bit (x := 0) (c := false) rfl, decide_eq_false e]
    · simp only [gI_62, hI0, Option.bind_some, nn_lt (show s.1 < 2147483648 by omega) (show s.1 + 1 < 2147483648 by omega), Nat.lt_succ_self, if_true, lft_d hV, ite10]
      by_cases hl : lft s.1 s.2.1 (uE c 0) (uE c 1) (uE c 2) (uE c 3) = true
      · have hm : un s c < 625 := Nat.lt_of_le_of_lt (fb_ct_le _ _) hc
        have e4 : ∀ m, 4 * nn m = nn (4 * m) := fun m => nn_mul 4 m
        have e3 : ∀ m, nn m + 3 = nn (m + 3) := fun m => nn_add m 3
        simp only [if_pos hl, gR_62_14, gI_62, pI_62, q2, Option.bind_some, e4, e3, nn_p1, nn_p2, yI_70, nn_lt0 (4 * un s c) (by omega), nn_nat (show 4 * un s c < 2147483648 by omega), show 4 * un s c < 2500 by omega, not_false_eq_true, and_self, if_true, nn_lt0 (4 * un s c + 1) (by omega), nn_nat (show 4 * un s c + 1 < 2147483648 by omega), show 4 * un s c + 1 < 2500 by omega, not_false_eq_true, and_self, if_true, nn_lt0 (4 * un s c + 2) (by omega), nn_nat (show 4 * un s c + 2 < 2147483648 by omega), show 4 * un s c + 2 < 2500 by omega, not_false_eq_true, and_self, if_true, nn_lt0 (4 * un s c + 3) (by omega), nn_nat (show 4 * un s c + 3 < 2147483648 by omega), show 4 * un s c + 3 < 2500 by omega, not_false_eq_true, and_self, if_true, up1_s, up1_up1, up1_n I1 _ (show 62 ≠ 70 by decide)]
        rfl
      · simp only [if_neg hl, nn_s]
  by_cases hl : lft s.1 s.2.1 (uE c 0) (uE c 1) (uE c 2) (uE c 3) = true
  · have hu : Ub s c = true := by
      unfold Ub
      rw [hdet, hl]
      rfl
    refine ⟨(nn (c + 1), mk (up1 (U4 I1 70 (un s c) c) 62 (up1 (I1 62) 15 (nn (un s c + 1)))) L2), fun k => (hlp k).trans (if_pos hl), rfl, _, L2, rfl, ⟨fun r hr h0 => ?_, fun j hj => ?_, q4.2.2⟩, by rw [up1_s, up1_s, un_s, if_pos hu], UAt_put q3 (up1_n _ _ (by decide))⟩
    · rw [up1_n _ _ h0]
      unfold U4
      rw [up1_n _ _ (fun e => hr (by simp [e]))]
      exact q4.1 r hr h0
    · rw [up1_s, up1_n _ _ (fun e => hj (by simp [e]))]
      exact q4.2.1 j hj
  · have hu : ¬ Ub s c = true := fun e => by
      unfold Ub at e
      rw [Bool.and_eq_true] at e
      exact hl e.2
    exact ⟨(nn (c + 1), mk I1 L2), fun k => (hlp k).trans (if_neg hl), rfl, I1, L2, rfl, q4, by rw [un_s, if_neg hu]; exact q2, UAt_no q3 hu rfl⟩
theorem uget_38 {s : Sq} (hS : I 38 0 = nn (un s 625)) (hU : UAt s 39 I 625) {c : Nat} (hc : c < 625) (hu : Ub s c = true) {k : Nat} (hk : k < 4) : fX8_get 38 (nn (un s c)) (nn k) (mk I L) = some (uE c k, mk I L) := by
  have h1 := un_lt s hc hu
  have h2 := un_104 s
  unfold fX8_get
  have e1 : nn (un s c) * 4 + nn k = nn (4 * un s c + k) := by
    rw [show nn (un s c) * 4 = nn (4 * un s c) from by rw [Nat.mul_comm]; exact nn_mul (un s c) 4, nn_add]
  have q1 : ¬ (4 : Int32) ≤ nn k := fun e => by
    have := (nn_le (m := 4) (by omega) (by omega)).mp e
    omega
  have q2 : ¬ (416 : Int32) ≤ nn (4 * un s c + k) := fun e => by
    have := (nn_le (m := 416) (by omega) (by omega)).mp e
    omega
  simp only [kd_38, gI_38, pI_38, gR_38_1, ln_39, xI_39, yI_39, nm, e1, nn_lt0 (un s c) (by omega), nn_lt0 k (by omega), if_false, hS, Option.bind_some, nn_le (show un s 625 < 2147483648 by omega) (show un s c < 2147483648 by omega), if_neg (show ¬ un s 625 ≤ un s c by omega), if_neg q1, if_neg q2, nn_lt0 (4 * un s c + k) (by omega), nn_nat (show 4 * un s c + k < 2147483648 by omega), show 4 * un s c + k < 416 by omega, not_false_eq_true, and_self, if_true, hU c hc hu k hk]
theorem unitsNow_s {s : Sq} (hA : AC 4 I s.1 s.2.1) (hV : VSt s) : ∃ I' L', fX9_unitsNow 1 (mk I L) = some (38, mk I' L') ∧ Ch [38, 39] [] [6, 7] I L I' L' ∧ I' 38 0 = nn (un s 625) ∧ UAt s 39 I' 625 := by
  obtain ⟨⟨_, h⟩, h1, I', L', h2, h3⟩ := units_4 I L hA hV
  simp only at h2
  subst h2
  refine ⟨I', L', ?_, h3⟩
  unfold fX9_unitsNow
  simp only [kd_1, gI_1, pI_1, gR_1_0, gR_1_1, gR_1_3, gR_1_4, gR_1_5, gR_1_6, gR_1_7, gR_1_8, ln_49, xR_49, kd_2, gI_2, pI_2, gR_2_0, gR_2_1, gR_2_2, gR_2_3, kd_3, gI_3, pI_3, gR_3_0, kd_38, if_true, Option.bind_some, h1]
theorem pair_unit (i w : Int32) (N : RelN I L) (M : RelM I) (B : RelB I) : Both (fX9_unit 1 i w) (fX10_unit 62 i w) I L (fun I' L' => Ch [38, 39, 70] [15] [6, 7, 67, 68] I L I' L') := by
  obtain ⟨s, hE, hM, hV⟩ := st_of I L N M B
  unfold fX9_unit fX10_unit Both
  by_cases hi : i < 0
  · exact ⟨-1, I, L, I, L, by simp only [if_pos hi], by simp only [if_pos hi], Ch.rf I L⟩
  simp only [if_neg hi, between_s, in_s, i64_of32, Int64.reduceToInt, Int32.reduceToInt, Option.bind_some]
  by_cases hw : 0 ≤ w.toInt ∧ w.toInt ≤ 3
  rotate_left
  · exact ⟨-1, I, L, I, L, by simp only [if_neg hw, if_true], by simp only [if_neg hw, if_true], Ch.rf I L⟩
  simp only [if_pos hw, one0, if_false]
  obtain ⟨I1, L1, c1, c2, c3, c4⟩ := unitsNow_s I L hE.1 hV
  obtain ⟨⟨_, h⟩, m1, I2, L2, m2, m3, m4, m5⟩ := units_M I1 L1 (hM.1.ch c2 (by decide) (by decide)) hV
  simp only at m2
  subst m2
  have hch : Ch [38, 39, 70] [15] [6, 7, 67, 68] I L I2 L2 := (c2.tr m3).mono (by simp) (by simp) (by simp)
  have hi0 : 0 ≤ i.toInt := by
    rw [i32_lt] at hi
    simpa using hi
  obtain ⟨n, hn, rfl⟩ := i32_ex hi0
  obtain ⟨v, hv, rfl⟩ := nn_i (n := 3) hw
  have h104 := un_104 s
  by_cases hlt : un s 625 ≤ n
  · refine ⟨-5, I1, L1, I2, L2, ?_, ?_, hch⟩
    · simp only [kd_1, if_true, c1, Option.bind_some, show ¬ (38 : Nat) = 0 by decide, if_false, gI_38, c3, nn_le (show un s 625 < 2147483648 by omega) (show n < 2147483648 by omega), if_pos hlt]
    · simp only [kd_62, if_true, m1, Option.bind_some, gI_62, m4, nn_le (show un s 625 < 2147483648 by omega) (show n < 2147483648 by omega), if_pos hlt]
  · obtain ⟨c, hc, hu, rfl⟩ := fb_ct_kth (p := Ub s) (n := 625) (show n < fb_ct (Ub s) 625 by unfold un at hlt; omega)
    have h104b : fb_ct (Ub s) 625 ≤ 104 := h104
    refine ⟨uE c v + 10, I1, L1, I2, L2, ?_, ?_, hch⟩
    · have hg := uget_38 I1 L1 c3 c4 hc hu (show v < 4 by omega)
      unfold un at hlt c3 hg
      simp only [kd_1, kd_38, if_true, c1, Option.bind_some, show ¬ (38 : Nat) = 0 by decide, if_false, gI_38, c3, nn_le (show fb_ct (Ub s) 625 < 2147483648 by omega) (show fb_ct (Ub s) c < 2147483648 by omega), if_neg hlt, hg]
    · have e1 : 4 * nn (fb_ct (Ub s) c) + nn v = nn (4 * fb_ct (Ub s) c + v) := by
        rw [show 4 * nn (fb_ct (Ub s) c) = nn (4 * fb_ct (Ub s) c) from nn_mul 4 _, nn_add]
      have hx := m5 c hc hu v (by omega)
      unfold un at hlt m4 hx h104
      simp only [kd_62, if_true, m1, Option.bind_some, gI_62, m4, nn_le (show fb_ct (Ub s) 625 < 2147483648 by omega) (show fb_ct (Ub s) c < 2147483648 by omega), if_neg hlt, gR_62_14, e1, xI_70, nn_lt0 (4 * fb_ct (Ub s) c + v) (by omega), nn_nat (show 4 * fb_ct (Ub s) c + v < 2147483648 by omega), show 4 * fb_ct (Ub s) c + v < 2500 by omega, not_false_eq_true, and_self, if_true, hx]
end UM
