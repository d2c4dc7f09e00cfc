theorem av_nn {i : Nat} (h : i ≤ 99) : av i = nn (99 - i) := by
  unfold av
  exact nn_sub h
theorem i64_0 : (0 : Int64).toInt = 0 := by decide
section PC
variable (I : Nat → Nat → Int32) (L : Nat → Nat → Int64)
theorem pat_40 {d : Nat} (hd : 2 ≤ d ∧ d ≤ 4) (e1 : I 40 1 = nn d) {r : Nat → Int64} (hr : ∀ j, j < 5 → L 41 j = r j) (t : Int32) : fX3_at 40 t (mk I L) = some (hs r t.toInt64 (d + 1), mk I L) := by
  unfold fX3_at
  refine lp_for' (fun i => (hs r t.toInt64 i, nn i)) rfl (d + 1) (fun i hi k => ?_) (fun k => ?_) (FU_gt (by omega))
  · simp only [gI_40, e1, Option.bind_some, nn_lt (show d < 2147483648 by omega) (show i < 2147483648 by omega), if_neg (show ¬ d < i by omega), gR_40_2, ln_41, nn5_le i (by omega), show ¬ 5 ≤ i by omega, if_false, xJ_41, nn_lt0 (i) (by omega), nn_nat (show i < 2147483648 by omega), show i < 5 by omega, not_false_eq_true, and_self, if_true, hr i (by omega), nm, nn_s]
    rfl
  · simp only [gI_40, e1, Option.bind_some, nn_lt (show d < 2147483648 by omega) (show d + 1 < 2147483648 by omega), Nat.lt_succ_self, if_true]
theorem greatest_40 {d : Nat} (hd : 2 ≤ d ∧ d ≤ 4) (e1 : I 40 1 = nn d) {r : Nat → Int64} (hr : ∀ j, j < 5 → L 41 j = r j) {l : Nat} (hl : l ≤ 1) : fX3_greatestFrom 40 (nn l) (mk I L) = some (pRs d r l, mk I L) := by
  unfold fX3_greatestFrom
  simp only [kd_40, if_true, pat_40 I L hd e1 hr, Option.bind_some]
  refine (lp_ff (s := fun i => (pv d r (100 - i), av i, mk I L)) (y := fun i => some (if i < 100 - l then nn (99 - i) else -1, mk I L)) rfl (100 - l) (fun e => !cnd d r (99 - e)) (fun i hi hP k => ?_) (fun i hi hP k => ?_) (fun k => ?_) (FU_gt (by omega))).trans ?_
  rotate_left 3
  · show some (if pE d r l < 100 - l then nn (99 - pE d r l) else -1, mk I L) = _
    unfold pRs pF pN
    simp only [decide_eq_true_eq]
  · have q : ¬ av i < nn l := by
      rw [i32_lt, av_toInt (by omega), nn_toInt (by omega)]
      omega
    have hv : hs r (av i).toInt64 (d + 1) = pv d r (99 - i) := by
      rw [av_nn (by omega)]
      rfl
    have hc : cnd d r (99 - i) = false := by simpa using hP
    unfold cnd at hc
    rw [show 99 - i + 1 = 100 - i by omega] at hc
    simp only [Bool.or_eq_false_iff, decide_eq_false_iff_not, i64_lt, i64_0] at hc
    obtain ⟨h1, h2, h3⟩ := hc
    simp only [if_neg q, kd_40, if_true, pat_40 I L hd e1 hr, Option.bind_some, hv, lg_cmp_eq, if_neg h1, jn, lg_cmp_le, lg_cmp_lt, lg_cmp_ge, i64_le, i64_lt, i64_0, nm, av_s, show 100 - (i + 1) = 99 - i by omega]
    have h4 : ¬ (pv d r (99 - i)).toInt = 0 := fun e => h1 (i64_eq.mpr e)
    by_cases g1 : (pv d r (99 - i)).toInt ≤ 0
    · rw [if_pos g1, if_neg (by omega), if_pos (by omega)]
    · rw [if_neg g1, if_neg (by omega), if_pos (by omega)]
  · have q : ¬ av i < nn l := by
      rw [i32_lt, av_toInt (by omega), nn_toInt (by omega)]
      omega
    have hv : hs r (av i).toInt64 (d + 1) = pv d r (99 - i) := by
      rw [av_nn (by omega)]
      rfl
    have hc : cnd d r (99 - i) = true := by simpa using hP
    show _ = some (if i < 100 - l then nn (99 - i) else -1, mk I L)
    rw [if_pos hi, ← av_nn (show i ≤ 99 by omega)]
    unfold cnd at hc
    rw [show 99 - i + 1 = 100 - i by omega] at hc
    simp only [Bool.or_eq_true, decide_eq_true_eq, i64_lt, i64_0] at hc
    simp only [if_neg q, kd_40, if_true, pat_40 I L hd e1 hr, Option.bind_some, hv, lg_cmp_eq, jn, lg_cmp_le, lg_cmp_lt, lg_cmp_ge, i64_le, i64_lt, i64_0]
    by_cases h1 : pv d r (99 - i) = 0
    · rw [if_pos h1]
    · have h2 := hc.resolve_left h1
      rw [if_neg h1]
      by_cases g1 : (pv d r (99 - i)).toInt ≤ 0
      · rw [if_pos g1, if_neg (by omega), if_neg (by omega)]
      · rw [if_neg g1, if_pos (by omega)]
  · have q : av (100 - l) < nn l := by
      rw [i32_lt, av_toInt (by omega), nn_toInt (by omega)]
      omega
    simp only [if_pos q, Nat.lt_irrefl, if_false]
/-- what is kept -/
def Pk (d : Nat) (a : Nat → Int64) (I : Nat → Nat → Int32) (L : Nat → Nat → Int64) (m : Nat) : Prop := ∀ k, k < m → I 42 k = nn (pT d a k) ∧ L 43 k = gA d a (k + 2) ∧ L 44 k = gB d a (k + 2)
def kpI (I : Nat → Nat → Int32) (k : Nat) (n : Int32) : Nat → Nat → Int32 := up1 (up1 I 42 (up1 (I 42) k n)) 40 (up1 (I 40) 0 (nn (k + 1)))
def kpL (L : Nat → Nat → Int64) (k : Nat) (x y : Int64) : Nat → Nat → Int64 := up1 (up1 L 43 (up1 (L 43) k x)) 44 (up1 (L 44) k y)
theorem keep_40 {d : Nat} {a : Nat → Int64} {k : Nat} (hk : k < 8) (e0 : I 40 0 = nn k) (hP : Pk d a I L k) : fX3_keep 40 (nn (pT d a k)) (mk I L) = some ((), mk (kpI I k (nn (pT d a k))) (kpL L k (gA d a (k + 2)) (gB d a (k + 2)))) := by
  have q8 : nn k < 8 := (nn_lt (n := 8) (by omega) (by omega)).mpr hk
  have hA2 : gA d a (k + 2) = (nn (pT d a k)).toInt64 * gA d a (k + 1) + gA d a k := rfl
  have hB2 : gB d a (k + 2) = (nn (pT d a k)).toInt64 * gB d a (k + 1) + gB d a k := rfl
  rw [hA2, hB2]
  generalize pT d a k = t
  have hkc : k = 0 ∨ k = 1 ∨ ∃ q, k = q + 2 := by
    by_cases h0 : k = 0
    · exact Or.inl h0
    · by_cases h1 : k = 1
      · exact Or.inr (Or.inl h1)
      · exact Or.inr (Or.inr ⟨k - 2, by omega⟩)
  obtain rfl | rfl | ⟨q, rfl⟩ := hkc
  · rw [show gA d a (0 + 1) = 1 from rfl, show gA d a 0 = 0 from rfl, show gB d a (0 + 1) = 0 from rfl, show gB d a 0 = 1 from rfl]
    unfold fX3_keep kpI kpL
    simp only [kd_40, gI_40, pI_40, gR_40_2, gR_40_3, gR_40_4, gR_40_5, ln_41, xJ_41, yJ_41, ln_42, xI_42, yI_42, ln_43, xJ_43, yJ_43, ln_44, xJ_44, yJ_44, e0, Option.bind_some, nn_lt0 0 (by omega), if_false, if_pos q8, jn, show nn 0 ≤ 0 from Int32.le_refl _, show nn 0 ≤ 1 by decide, if_true, nn_lt0 (0) (by omega), nn_nat (show 0 < 2147483648 by omega), show 0 < 8 by omega, not_false_eq_true, and_self, if_true, up1_n I _ (show 40 ≠ 42 by decide), up1_up1, nn_s, up1_n L _ (show 44 ≠ 43 by decide), show (nn 0).toInt64 = 0 by decide, show ((1 : Int32) - nn 0).toInt64 = 1 by decide]
  · obtain ⟨p1, p2, p3⟩ := hP 0 (by omega)
    rw [show gA d a 1 = 1 from rfl, show gB d a 1 = 0 from rfl]
    unfold fX3_keep kpI kpL
    simp only [kd_40, gI_40, pI_40, gR_40_2, gR_40_3, gR_40_4, gR_40_5, ln_41, xJ_41, yJ_41, ln_42, xI_42, yI_42, ln_43, xJ_43, yJ_43, ln_44, xJ_44, yJ_44, e0, Option.bind_some, nn_lt0 1 (by omega), if_false, if_pos q8, jn, show ¬ nn 1 ≤ 0 by decide, show nn 1 ≤ 1 by decide, if_true, show nn 1 - 1 = nn 0 by decide, nn_lt0 (0) (by omega), nn_nat (show 0 < 2147483648 by omega), show 0 < 8 by omega, not_false_eq_true, and_self, if_true, nn_lt0 (1) (by omega), nn_nat (show 1 < 2147483648 by omega), show 1 < 8 by omega, not_false_eq_true, and_self, if_true, up1_n I _ (show 40 ≠ 42 by decide), up1_up1, nn_s, up1_n L _ (show 44 ≠ 43 by decide), p2, p3, show (nn 1).toInt64 = 1 by decide, show ((1 : Int32) - nn 1).toInt64 = 0 by decide]
  · obtain ⟨p1, p2, p3⟩ := hP (q + 1) (by omega)
    obtain ⟨r1, r2, r3⟩ := hP q (by omega)
    have c0 : ¬ nn (q + 2) ≤ 0 := fun e => by
      have := (nn_le0 (q + 2) (by omega)).mp e
      omega
    have c1 : ¬ nn (q + 2) ≤ 1 := fun e => by
      have := (nn_le (n := 1) (by omega) (by omega)).mp e
      omega
    have c2 : nn (q + 2) - 1 = nn (q + 1) := nn_pred (q + 1)
    have c3 : nn (q + 2) - 2 = nn q := nn_sub (b := 2) (by omega)
    unfold fX3_keep kpI kpL
    simp only [kd_40, gI_40, pI_40, gR_40_2, gR_40_3, gR_40_4, gR_40_5, ln_41, xJ_41, yJ_41, ln_42, xI_42, yI_42, ln_43, xJ_43, yJ_43, ln_44, xJ_44, yJ_44, e0, Option.bind_some, nn_lt0 (q + 2) (by omega), if_false, if_pos q8, jn, if_neg c0, if_neg c1, c2, c3, nn_lt0 (q) (by omega), nn_nat (show q < 2147483648 by omega), show q < 8 by omega, not_false_eq_true, and_self, if_true, nn_lt0 (q + 1) (by omega), nn_nat (show q + 1 < 2147483648 by omega), show q + 1 < 8 by omega, not_false_eq_true, and_self, if_true, nn_lt0 (q + 2) (by omega), nn_nat (show q + 2 < 2147483648 by omega), show q + 2 < 8 by omega, not_false_eq_true, and_self, if_true, up1_n I _ (show 40 ≠ 42 by decide), up1_up1, nn_s, up1_n L _ (show 44 ≠ 43 by decide), p2, p3, r2, r3]
/-- half turned round -/
def swp (d i : Nat) (r : Nat → Int64) : Nat → Int64 := fun k => if k ≤ d ∧ (k < i ∨ d < k + i) then r (d - k) else r k
theorem swp_s (d i : Nat) (r : Nat → Int64) (h : 2 * i + 1 ≤ d) : up1 (up1 (swp d i r) i (swp d i r (d - i))) (d - i) (swp d i r i) = swp d (i + 1) r := by
  have h1 : swp d i r i = r i := if_neg (by omega)
  have h2 : swp d i r (d - i) = r (d - i) := if_neg (by omega)
  rw [h1, h2]
  funext k
  simp only [up1_e]
  by_cases c1 : k = d - i
  · rw [if_pos c1]
    show r i = if k ≤ d ∧ (k < i + 1 ∨ d < k + (i + 1)) then r (d - k) else r k
    rw [if_pos (by omega), show d - k = i by omega]
  · by_cases c2 : k = i
    · rw [if_neg c1, if_pos c2]
      show r (d - i) = if k ≤ d ∧ (k < i + 1 ∨ d < k + (i + 1)) then r (d - k) else r k
      rw [if_pos (by omega), c2]
    · rw [if_neg c1, if_neg c2]
      show (if k ≤ d ∧ (k < i ∨ d < k + i) then r (d - k) else r k) = if k ≤ d ∧ (k < i + 1 ∨ d < k + (i + 1)) then r (d - k) else r k
      by_cases c3 : k ≤ d ∧ (k < i ∨ d < k + i)
      · rw [if_pos c3, if_pos (by omega)]
      · rw [if_neg c3, if_neg (by omega)]
theorem swp_0 (d : Nat) (r : Nat → Int64) : swp d 0 r = r := by
  funext k
  exact if_neg (by omega)
theorem swp_e (d : Nat) (hd : 2 ≤ d ∧ d ≤ 4) (r : Nat → Int64) : swp d ((d + 1) / 2) r = fun k => if k ≤ d then r (d - k) else r k := by
  funext k
  show (if k ≤ d ∧ (k < (d + 1) / 2 ∨ d < k + (d + 1) / 2) then r (d - k) else r k) = _
  by_cases h : k ≤ d
  · rw [if_pos h]
    by_cases h2 : k < (d + 1) / 2 ∨ d < k + (d + 1) / 2
    · rw [if_pos ⟨h, h2⟩]
    · rw [if_neg (fun e => h2 e.2), show d - k = k by omega]
  · rw [if_neg h, if_neg (fun e => h e.1)]
theorem goBehind_40 {d : Nat} (hd : 2 ≤ d ∧ d ≤ 4) (e1 : I 40 1 = nn d) (n : Int32) : fX3_goBehind 40 n (mk I L) = some ((), mk I (up1 L 41 (fun k => if k ≤ d then co d n.toInt64 (L 41) d (d - k) else L 41 k))) := by
  unfold fX3_goBehind
  simp only [gI_40, e1, Option.bind_some]
  refine lp_for' (fun e => (nn (d - e), mk I (up1 L 41 (co d n.toInt64 (L 41) e)))) ?_ d (fun e he k => ?_) (fun k => ?_) (FU_gt (by omega))
  · show (nn d, mk I L) = (nn (d - 0), mk I (up1 L 41 (L 41)))
    rw [up1_id]
    rfl
  · obtain ⟨p, hp⟩ : ∃ p, d - e = p + 1 := ⟨d - e - 1, by omega⟩
    have c0 : ¬ nn (p + 1) ≤ 0 := fun q => by
      have := (nn_le0 (p + 1) (by omega)).mp q
      omega
    simp only [hp, if_neg c0]
    refine lp_for' (fun m => (nn (m + 1), mk I (up1 L 41 (ci n.toInt64 (co d n.toInt64 (L 41) e) m)))) rfl (p + 1) (fun m hm k2 => ?_) (fun k2 => ?_) (FU_gt (by omega))
    · simp only [nn_lt (show p + 1 < 2147483648 by omega) (show m + 1 < 2147483648 by omega), if_neg (show ¬ p + 1 < m + 1 by omega), gR_40_2, ln_41, Option.bind_some, nn5_le (m + 1) (by omega), show ¬ 5 ≤ m + 1 by omega, if_false, xJ_41, yJ_41, nn_pred, nn_lt0 (m + 1) (by omega), nn_nat (show m + 1 < 2147483648 by omega), show m + 1 < 5 by omega, not_false_eq_true, and_self, if_true, nn_lt0 (m) (by omega), nn_nat (show m < 2147483648 by omega), show m < 5 by omega, not_false_eq_true, and_self, if_true, up1_s, up1_up1, nm, nn_s]
      rfl
    · simp only [nn_lt (show p + 1 < 2147483648 by omega) (show p + 1 + 1 < 2147483648 by omega), Nat.lt_succ_self, if_true, nm, nn_dec, show d - (e + 1) = p by omega]
      rw [show co d n.toInt64 (L 41) (e + 1) = ci n.toInt64 (co d n.toInt64 (L 41) e) (d - e) from rfl, hp]
  simp only [Nat.sub_self, show nn 0 ≤ 0 from Int32.le_refl _, if_true, gI_40, e1, Option.bind_some]
  generalize hQ : co d n.toInt64 (L 41) d = Q
  have hfin : (fun k => if k ≤ d then Q (d - k) else L 41 k) = swp d ((d + 1) / 2) Q := by
    rw [swp_e d hd]
    funext k
    by_cases h : k ≤ d
    · rw [if_pos h, if_pos h]
    · rw [if_neg h, if_neg h, ← hQ, co_hi d _ _ (by omega)]
  rw [hfin]
  refine lp_for' (fun i => (nn i, nn (d - i), mk I (up1 L 41 (swp d i Q)))) ?_ ((d + 1) / 2) (fun i hi k2 => ?_) (fun k2 => ?_) (FU_gt (by omega))
  · rw [swp_0]
    rfl
  · obtain ⟨p, hp⟩ : ∃ p, d - i = p + 1 := ⟨d - i - 1, by omega⟩
    simp only [nn_le (show d - i < 2147483648 by omega) (show i < 2147483648 by omega), if_neg (show ¬ d - i ≤ i by omega), gR_40_2, ln_41, Option.bind_some, nn5_le (d - i) (by omega), show ¬ 5 ≤ d - i by omega, if_false, xJ_41, yJ_41, nn_lt0 (i) (by omega), nn_nat (show i < 2147483648 by omega), show i < 5 by omega, not_false_eq_true, and_self, if_true, nn_lt0 (d - i) (by omega), nn_nat (show d - i < 2147483648 by omega), show d - i < 5 by omega, not_false_eq_true, and_self, if_true, up1_s, up1_up1, nm, nn_s, swp_s d i Q (show 2 * i + 1 ≤ d by omega), show d - (i + 1) = d - i - 1 by omega, show nn (d - i) + (-1) = nn (d - i - 1) from by rw [hp]; exact nn_dec p]
  · simp only [nn_le (show d - (d + 1) / 2 < 2147483648 by omega) (show (d + 1) / 2 < 2147483648 by omega), if_pos (show d - (d + 1) / 2 ≤ (d + 1) / 2 by omega)]
theorem beyond_40 : fX3_isRowBeyond 40 (mk I L) = some (if inRw (L 41) 5 = true then 0 else 1, mk I L) := by
  unfold fX3_isRowBeyond
  refine (lp_findi (s := fun j => nn j) (x := some ((0 : Int32), mk I L)) (y := some ((1 : Int32), mk I L)) rfl 5 (fun j => inE9 (L 41 j)) ?_ ?_ ?_ (FU_gt (by omega))).trans ?_
  rotate_left 3
  · unfold inRw
    split <;> rfl
  · intro j hj hP k
    replace hP := of_decide_eq_true hP
    simp only [gR_40_2, ln_41, Option.bind_some, nn5_le j (by omega), show ¬ 5 ≤ j by omega, if_false, xJ_41, nn_lt0 (j) (by omega), nn_nat (show j < 2147483648 by omega), show j < 5 by omega, not_false_eq_true, and_self, if_true, lg_cmp_gt, lg_cmp_ge, i64_lt, i64_le, Int64.reduceToInt, if_neg (show ¬ 1000000000 < (L 41 j).toInt by omega), if_pos (show -1000000000 ≤ (L 41 j).toInt by omega), nm, nn_s]
  · intro j hj hP _ k
    replace hP := of_decide_eq_false hP
    simp only [gR_40_2, ln_41, Option.bind_some, nn5_le j (by omega), show ¬ 5 ≤ j by omega, if_false, xJ_41, nn_lt0 (j) (by omega), nn_nat (show j < 2147483648 by omega), show j < 5 by omega, not_false_eq_true, and_self, if_true, lg_cmp_gt, lg_cmp_ge, i64_lt, i64_le, Int64.reduceToInt]
    by_cases h2 : 1000000000 < (L 41 j).toInt
    · rw [if_pos h2]
    · rw [if_neg h2, if_neg (by omega)]
  · intro k
    simp only [gR_40_2, ln_41, Option.bind_some, nn5_le 5 (by omega), Nat.le_refl, if_true]
end PC
