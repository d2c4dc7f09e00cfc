/-- a number raised -/
def ra (x : Int64) : Int64 := if 99 ≤ (x + 1).toInt then 99 else x + 1
/-- one event -/
def evs (w n : Int32) (s : Sq) : Sq :=
  if w = 0 then (if 0 ≤ n.toInt ∧ n.toInt ≤ s.1 then (s.1, up1 s.2.1 n.toNatClampNeg (ra (s.2.1 n.toNatClampNeg)), s.2.2.1, s.2.2.2) else s)
  else if w = 1 then (s.1, mvA s.1 s.2.1 n, s.2.2.1, s.2.2.2)
  else (if -9999 ≤ (s.2.2.1 + n).toInt ∧ (s.2.2.1 + n).toInt ≤ 9999 then (s.1, s.2.1, s.2.2.1 + n, s.2.2.2) else s)
def evN (W : Nat → Int32) (s : Sq) : Nat → Sq
  | 0 => s
  | k + 1 => evs (W (k * 3)) (W (k * 3 + 1)) (evN W s k)
theorem ra_r {x : Int64} (h : -99 ≤ x.toInt ∧ x.toInt ≤ 99) : -99 ≤ (ra x).toInt ∧ (ra x).toInt ≤ 99 := by
  have h1 : (x + 1).toInt = x.toInt + 1 := by
    rw [Int64.toInt_add]
    apply Int.bmod_eq_of_le
    · show -(2 ^ 64 / 2) ≤ x.toInt + 1
      omega
    · show x.toInt + 1 < (2 ^ 64 + 1) / 2
      omega
  unfold ra
  split
  · decide
  · omega
theorem evs_V {w n : Int32} {s : Sq} (h : VSt s) : VSt (evs w n s) := by
  obtain ⟨d, a, m, b⟩ := s
  obtain ⟨v1, v2, v3⟩ := h
  simp only at v1 v2 v3
  unfold evs
  by_cases h0 : w = 0
  · simp only [if_pos h0]
    by_cases h1 : 0 ≤ n.toInt ∧ n.toInt ≤ d
    · have hn := nat_toInt h1.1
      have hd := v1.1
      simp only [if_pos h1]
      refine ⟨⟨hd, fun j hj => ?_, fun j hj hdj => ?_⟩, v2, v3⟩
      · simp only [up1_e]
        split
        · exact ra_r (v1.2.1 _ (by omega))
        · exact v1.2.1 j hj
      · simp only [up1_e]
        rw [if_neg (by omega)]
        exact v1.2.2 j hj hdj
    · simp only [if_neg h1]
      exact ⟨v1, v2, v3⟩
  simp only [if_neg h0]
  by_cases h1 : w = 1
  · simp only [if_pos h1]
    exact ⟨VA_mv v1 n, v2, v3⟩
  simp only [if_neg h1]
  by_cases h2 : -9999 ≤ (m + n).toInt ∧ (m + n).toInt ≤ 9999
  · simp only [if_pos h2]
    exact ⟨v1, h2, v3⟩
  · simp only [if_neg h2]
    exact ⟨v1, v2, v3⟩
theorem evN_V {W : Nat → Int32} {s : Sq} (h : VSt s) : ∀ k, VSt (evN W s k)
  | 0 => h
  | k + 1 => evs_V (evN_V h k)
theorem evs_1 (w n : Int32) (s : Sq) : (evs w n s).1 = s.1 ∧ (evs w n s).2.2.2 = s.2.2.2 := by
  unfold evs
  repeat' split
  all_goals exact ⟨rfl, rfl⟩
theorem evN_1 (W : Nat → Int32) (s : Sq) : ∀ k, (evN W s k).1 = s.1 ∧ (evN W s k).2.2.2 = s.2.2.2
  | 0 => ⟨rfl, rfl⟩
  | k + 1 => by
    have h1 := evs_1 (W (k * 3)) (W (k * 3 + 1)) (evN W s k)
    have h2 := evN_1 W s k
    exact ⟨h1.1.trans h2.1, h1.2.trans h2.2⟩
section EV
variable (I : Nat → Nat → Int32) (L : Nat → Nat → Int64)
theorem raise_27 {s : Sq} (hE : ESt 26 I s) (hV : VSt s) (n : Int32) : ∃ I', fX2_raise 27 n (mk I L) = some ((), mk I' L) ∧ ESt 26 I' (evs 0 n s) ∧ Ch [26, 27, 28] [] [29, 30] I L I' L := by
  obtain ⟨d, a, m, b⟩ := s
  obtain ⟨⟨c1, c2⟩, c3, c4⟩ := hE
  have hd : 2 ≤ d ∧ d ≤ 4 := hV.1.1
  simp only at c1 c2 c3 c4
  have e27 : (I 27 0).toInt = d := by rw [c1, nn_toInt (by omega)]
  unfold fX2_raise evs
  simp only [kd_27, if_true, get_27, set_27, e27, min_s, Option.bind_some]
  by_cases h : 0 ≤ n.toInt ∧ n.toInt ≤ d
  · have hn := nat_toInt h.1
    have h5 : 0 ≤ n.toInt ∧ n.toInt ≤ (d : Int) ∧ n.toInt < 5 := by omega
    have hv : -99 ≤ (a n.toNatClampNeg).toInt ∧ (a n.toNatClampNeg).toInt ≤ 99 := hV.1.2.1 _ (by omega)
    have hx : (I 28 n.toNatClampNeg).toInt64 = a n.toNatClampNeg := c2 _ (by omega)
    have hx' : (I 28 n.toNatClampNeg).toInt = (a n.toNatClampNeg).toInt := by rw [← hx, i64_of32]
    have h1 : (I 28 n.toNatClampNeg + 1).toInt = (a n.toNatClampNeg).toInt + 1 := by
      rw [Int32.toInt_add, hx', show (1 : Int32).toInt = 1 by decide]
      apply Int.bmod_eq_of_le <;> omega
    have h2 : (a n.toNatClampNeg + 1).toInt = (a n.toNatClampNeg).toInt + 1 := by
      rw [Int64.toInt_add, show (1 : Int64).toInt = 1 by decide]
      apply Int.bmod_eq_of_le <;> omega
    have hra : (if (99 : Int32).toInt ≤ (I 28 n.toNatClampNeg + 1).toInt then 99 else I 28 n.toNatClampNeg + 1).toInt64 = ra (a n.toNatClampNeg) := by
      unfold ra
      rw [h1, h2]
      by_cases q : (99 : Int) ≤ (a n.toNatClampNeg).toInt + 1
      · rw [if_pos q, if_pos (show (99 : Int32).toInt ≤ _ from q)]
        decide
      · rw [if_neg q, if_neg (show ¬ (99 : Int32).toInt ≤ _ from q), i64_eq, i64_of32, h1, h2]
    simp only [if_pos h5, if_pos h]
    refine ⟨_, rfl, ⟨⟨?_, fun j hj => ?_⟩, ?_, ?_⟩, ChI I L [26, 27, 28] [] [29, 30] (by simp) (by decide)⟩
    · rw [up1_n _ _ (by decide)]
      exact c1
    · rw [up1_s]
      simp only [up1_e]
      split
      · exact hra
      · exact c2 j hj
    · rw [up1_n _ _ (by decide)]
      exact c3
    · rw [up1_n _ _ (by decide)]
      exact c4
  · have h5 : ¬ (0 ≤ n.toInt ∧ n.toInt ≤ (d : Int) ∧ n.toInt < 5) := fun q => h ⟨q.1, q.2.1⟩
    simp only [if_neg h5, if_neg h]
    exact ⟨I, rfl, ⟨⟨c1, c2⟩, c3, c4⟩, Ch.rf I L⟩
theorem addM_26 {s : Sq} (hE : ESt 26 I s) (n : Int32) (w : Int32) (h0 : ¬ w = 0) (h1 : ¬ w = 1) : ∃ I', fX1_addToM 26 n (mk I L) = some ((), mk I' L) ∧ ESt 26 I' (evs w n s) ∧ Ch [26, 27, 28] [] [29, 30] I L I' L := by
  obtain ⟨d, a, m, b⟩ := s
  obtain ⟨⟨c1, c2⟩, c3, c4⟩ := hE
  simp only at c1 c2 c3 c4
  unfold fX1_addToM evs
  simp only [gI_26, pI_26, c3, Option.bind_some, between_s, ite10, Int32.reduceToInt, if_neg h0, if_neg h1]
  by_cases h : -9999 ≤ (m + n).toInt ∧ (m + n).toInt ≤ 9999
  · simp only [if_pos h]
    refine ⟨_, rfl, ⟨⟨by rw [up1_n _ _ (by decide)]; exact c1, fun j hj => by rw [up1_n _ _ (by decide)]; exact c2 j hj⟩, by rw [up1_s, up1_s], by rw [up1_s, up1_n _ _ (by decide)]; exact c4⟩, ChI I L [26, 27, 28] [] [29, 30] (by simp) (by decide)⟩
  · simp only [if_neg h]
    exact ⟨I, rfl, ⟨⟨c1, c2⟩, c3, c4⟩, Ch.rf I L⟩
theorem moveE_27 {s : Sq} (hE : ESt 26 I s) (hV : VSt s) (n : Int32) (hn : 0 ≤ n.toInt ∧ n.toInt < 5) : ∃ r I' L', fX2_moveBy 27 n (mk I L) = some (r, mk I' L') ∧ ESt 26 I' (evs 1 n s) ∧ Ch [26, 27, 28] [] [29, 30] I L I' L' := by
  obtain ⟨d, a, m, b⟩ := s
  obtain ⟨I', L', m1, m2, m3, m4⟩ := moveC_27 I L hE.1 hV.1 n hn
  refine ⟨_, I', L', m1, ⟨m2, by rw [m3 26 (by decide)]; exact hE.2.1, by rw [m3 26 (by decide)]; exact hE.2.2⟩, ⟨fun r hr _ => m3 r (fun e => hr (by simp [e])), fun q _ => by rw [m3 62 (by decide)], fun r hr => m4 r (fun e => hr (by simp [e])) (fun e => hr (by simp [e]))⟩⟩
/-- the class tries the events on a copy -/
theorem tryE {s : Sq} (hE : ESt 3 I s) (hV : VSt s) (R : RelE I) : ∃ I' L' n, n ≤ 8 ∧ I 10 0 = nn n ∧ fX9_tryEvents 1 (mk I L) = some ((), mk I' L') ∧ ESt 26 I' (evN (I 11) s n) ∧ Ch [26, 27, 28] [] [29, 30] I L I' L' := by
  obtain ⟨n, hn, e10, -, he⟩ := R
  have hc1 : Ch [26, 27, 28] [] [29, 30] I L (up1 (up1 (up1 I 27 (up1 (I 27) 0 (I 4 0))) 28 (fun k => if k < 5 then I 5 k else I 28 k)) 26 (up1 (up1 (I 26) 1 (I 3 1)) 2 (I 3 2))) L := by
    refine ⟨fun r hr h0 => ?_, fun q _ => ?_, fun _ _ => rfl⟩
    · rw [up1_n _ _ (fun e => hr (by simp [e])), up1_n _ _ (fun e => hr (by simp [e])), up1_n _ _ (fun e => hr (by simp [e]))]
    · rw [up1_n _ _ (by decide), up1_n _ _ (by decide), up1_n _ _ (by decide)]
  have hE1 : ESt 26 (up1 (up1 (up1 I 27 (up1 (I 27) 0 (I 4 0))) 28 (fun k => if k < 5 then I 5 k else I 28 k)) 26 (up1 (up1 (I 26) 1 (I 3 1)) 2 (I 3 2))) s := by
    refine ⟨⟨?_, fun j hj => ?_⟩, ?_, ?_⟩
    · rw [up1_n _ _ (by decide), up1_n _ _ (by decide), up1_s, up1_s]
      exact hE.1.1
    · rw [up1_n _ _ (by decide), up1_s, if_pos hj]
      exact hE.1.2 j hj
    · rw [up1_s, up1_n _ _ (by decide), up1_s]
      exact hE.2.1
    · rw [up1_s, up1_s]
      exact hE.2.2
  have key : ∃ r, fX9_tryEvents 1 (mk I L) = some r ∧ ∃ I' L', r.2 = mk I' L' ∧ ESt 26 I' (evN (I 11) s n) ∧ Ch [26, 27, 28] [] [29, 30] I L I' L' := by
    unfold fX9_tryEvents
    simp only [gR_1_3, gR_1_0, gR_2_0, kd_26, if_true, bsm, ecopy_3_26]
    generalize (up1 (up1 (up1 I 27 (up1 (I 27) 0 (I 4 0))) 28 (fun k => if k < 5 then I 5 k else I 28 k)) 26 (up1 (up1 (I 26) 1 (I 3 1)) 2 (I 3 2))) = I1 at *
    refine lp_ex (fun k (t : Int32 × Mem) => t.1 = nn k ∧ ∃ I' L', t.2 = mk I' L' ∧ ESt 26 I' (evN (I 11) s k) ∧ Ch [26, 27, 28] [] [29, 30] I L I' L') (fun (r : Unit × Mem) => ∃ I' L', r.2 = mk I' L' ∧ ESt 26 I' (evN (I 11) s n) ∧ Ch [26, 27, 28] [] [29, 30] I L I' L') n (0, mk I1 L) ⟨rfl, I1, L, rfl, hE1, hc1⟩ ?_ ?_ FU (FU_gt (by omega))
    · rintro k hk ⟨v, h⟩ ⟨hv, I2, L2, hh, q1, q2⟩
      simp only at hv hh
      subst hv hh
      have x10 : I2 10 0 = nn n := by rw [q2.1 10 (by decide) (by decide)]; exact e10
      have x11 : I2 11 = I 11 := q2.1 11 (by decide) (by decide)
      have hVk := evN_V (W := I 11) hV k
      have hev := (he k (by omega)).2.2
      have hr1 := rfirst_10 I2 L2 k n hk hn x10
      have hr2 := rsecond_10 I2 L2 k n hk hn x10
      rw [x11] at hr1 hr2
      have hle : ¬ nn n ≤ nn k := fun q => by
        have := (nn_le (by omega) (by omega)).mp q
        omega
      by_cases w0 : I 11 (k * 3) = 0
      · obtain ⟨I3, t1, t2, t3⟩ := raise_27 I2 L2 q1 hVk (I 11 (k * 3 + 1))
        refine ⟨(nn (k + 1), mk I3 L2), fun c => ?_, rfl, I3, L2, rfl, ?_, (q2.tr t3).mono (by simp) (by simp) (by simp)⟩
        · simp only [gR_1_0, gR_2_2, gI_10, x10, bsm, if_neg hle, kd_10, if_true, hr1, hr2, if_pos w0, gR_1_3, gR_26_0, kd_27, t1, nm, nn_s]
        · show ESt 26 I3 (evs (I 11 (k * 3)) (I 11 (k * 3 + 1)) (evN (I 11) s k))
          rw [w0]
          exact t2
      by_cases w1 : I 11 (k * 3) = 1
      · obtain ⟨r, I3, L3, t1, t2, t3⟩ := moveE_27 I2 L2 q1 hVk (I 11 (k * 3 + 1)) (hev.2 (by rw [w1]; decide))
        refine ⟨(nn (k + 1), mk I3 L3), fun c => ?_, rfl, I3, L3, rfl, ?_, (q2.tr t3).mono (by simp) (by simp) (by simp)⟩
        · simp only [gR_1_0, gR_2_2, gI_10, x10, bsm, if_neg hle, kd_10, if_true, hr1, hr2, if_neg w0, if_pos w1, gR_1_3, gR_26_0, kd_27, t1, nm, nn_s]
        · show ESt 26 I3 (evs (I 11 (k * 3)) (I 11 (k * 3 + 1)) (evN (I 11) s k))
          rw [w1]
          exact t2
      · obtain ⟨I3, t1, t2, t3⟩ := addM_26 I2 L2 q1 (I 11 (k * 3 + 1)) (I 11 (k * 3)) w0 w1
        refine ⟨(nn (k + 1), mk I3 L2), fun c => ?_, rfl, I3, L2, rfl, t2, (q2.tr t3).mono (by simp) (by simp) (by simp)⟩
        simp only [gR_1_0, gR_2_2, gI_10, x10, bsm, if_neg hle, kd_10, if_true, hr1, hr2, if_neg w0, if_neg w1, gR_1_3, kd_26, t1, nm, nn_s]
    · rintro ⟨v, h⟩ ⟨hv, I2, L2, hh, q1, q2⟩
      simp only at hv hh
      subst hv hh
      have x10 : I2 10 0 = nn n := by rw [q2.1 10 (by decide) (by decide)]; exact e10
      refine ⟨((), mk I2 L2), fun c => ?_, I2, L2, rfl, q1, q2⟩
      simp only [gR_1_0, gR_2_2, gI_10, x10, bsm, Int32.le_refl, if_true]
  obtain ⟨⟨_, h⟩, k1, I', L', k2, k3, k4⟩ := key
  simp only at k2
  subst k2
  exact ⟨I', L', n, hn, e10, k1, k3, k4⟩
/-- one event of the reference -/
theorem happens_s {s : Sq} (hM : MSt I L s) (hV : VSt s) (w n : Int32) (hw : EvOK w n) : ∃ I' L', fX10_happens 62 w n (mk I L) = some ((), mk I' L') ∧ MSt I' L' (evs w n s) ∧ Ch [] [2] [63, 67, 68] I L I' L' := by
  obtain ⟨d, a, m, b⟩ := s
  have hd : 2 ≤ d ∧ d ≤ 4 := hV.1.1
  have e62 : (I 62 0).toInt = d := by rw [hM.1.1, nn_toInt (by omega)]
  have c2 : I 62 2 = m := hM.2.1
  unfold fX10_happens
  by_cases w0 : w = 0
  · subst w0
    by_cases h : 0 ≤ n.toInt ∧ n.toInt ≤ d
    · have hn := nat_toInt h.1
      have hv : -99 ≤ (a n.toNatClampNeg).toInt ∧ (a n.toNatClampNeg).toInt ≤ 99 := hV.1.2.1 _ (by omega)
      have h63 : L 63 n.toNatClampNeg = a n.toNatClampNeg := hM.1.2 _ (by omega)
      have hneg : ¬ n < 0 := by rw [i32_lt]; simp; omega
      have h5 : n.toNatClampNeg < 5 := by omega
      have hmin : ∀ h', fJ9_min_f86c9 99 (a n.toNatClampNeg + 1) h' = some (ra (a n.toNatClampNeg), h') := fun h' => by
        unfold fJ9_min_f86c9 ra
        simp only [lg_cmp_gt, i64_lt, show (99 : Int64).toInt = 99 by decide]
        by_cases q : (a n.toNatClampNeg + 1).toInt < 99
        · rw [if_pos q, if_neg (by omega)]
        · rw [if_neg q, if_pos (by omega)]
      refine ⟨I, up1 L 63 (up1 (L 63) n.toNatClampNeg (ra (a n.toNatClampNeg))), ?_, ⟨⟨hM.1.1.trans (by rw [(evs_1 0 n (d, a, m, b)).1]), fun j hj => ?_⟩, ?_, ?_⟩, ChL I L [] [2] [63, 67, 68] (by simp)⟩
      · simp only [jn, if_true, kd_62, isNumber_s, e62, if_pos h, bsm, one0, if_false, gR_62_1, xJ_63, h5, hneg, not_false_eq_true, and_self, h63, hmin, yJ_63, show ¬ (0 : Int32) = 1 by decide, show ¬ (0 : Int32) = 2 by decide]
      · unfold evs
        simp only [if_true, if_pos h]
        rw [up1_s]
        simp only [up1_e]
        split
        · rfl
        · exact hM.1.2 j hj
      · unfold evs
        simp only [if_true, if_pos h]
        exact c2
      · unfold evs
        simp only [if_true, if_pos h]
        exact hM.2.2
    · refine ⟨I, L, ?_, ?_, Ch.rf I L⟩
      · simp only [jn, if_true, kd_62, isNumber_s, e62, if_neg h, bsm, show ¬ (0 : Int32) = 1 by decide, show ¬ (0 : Int32) = 2 by decide, if_false]
      · unfold evs
        simp only [if_true, if_neg h]
        exact hM
  by_cases w1 : w = 1
  · subst w1
    obtain ⟨L2, m1, m2, m3⟩ := movesM I L hM.1 hV.1 n (hw.2 (by decide))
    refine ⟨I, L2, ?_, ?_, ⟨fun _ _ _ => rfl, fun _ _ => rfl, fun r hr => m3 r (fun e => hr (by simp [e])) (fun e => hr (by simp [e])) (fun e => hr (by simp [e]))⟩⟩
    · simp only [jn, one0, if_false, if_true, kd_62, m1, bsm, show ¬ (1 : Int32) = 2 by decide]
    · unfold evs
      simp only [one0, if_false, if_true]
      exact ⟨m2, hM.2.1, hM.2.2⟩
  have w2 : w = 2 := by
    have h1 := hw.1
    have q0 : ¬ w.toInt = 0 := fun q => w0 (i32_eq.mpr q)
    have q1 : ¬ w.toInt = 1 := fun q => w1 (i32_eq.mpr q)
    refine i32_eq.mpr ?_
    show w.toInt = 2
    omega
  subst w2
  unfold evs
  by_cases h : -9999 ≤ (m + n).toInt ∧ (m + n).toInt ≤ 9999
  · refine ⟨up1 I 62 (up1 (I 62) 2 (m + n)), L, ?_, ?_, ChK I L [] [2] [63, 67, 68] (by simp)⟩
    · simp only [jn, show ¬ (2 : Int32) = 0 by decide, show ¬ (2 : Int32) = 1 by decide, if_false, if_true, gI_62, c2, bsm, in_s, i64_of32, Int64.reduceToInt, if_pos h, one0, pI_62]
    · simp only [show ¬ (2 : Int32) = 0 by decide, show ¬ (2 : Int32) = 1 by decide, if_false, if_pos h]
      exact ⟨⟨by rw [up1_s, up1_n _ _ (by decide)]; exact hM.1.1, hM.1.2⟩, by rw [up1_s, up1_s], by rw [up1_s, up1_n _ _ (by decide)]; exact hM.2.2⟩
  · refine ⟨I, L, ?_, ?_, Ch.rf I L⟩
    · simp only [jn, show ¬ (2 : Int32) = 0 by decide, show ¬ (2 : Int32) = 1 by decide, if_false, if_true, gI_62, c2, bsm, in_s, i64_of32, Int64.reduceToInt, if_neg h]
    · simp only [show ¬ (2 : Int32) = 0 by decide, show ¬ (2 : Int32) = 1 by decide, if_false, if_neg h]
      exact hM
end EV
