def allB (n : Nat) (p : Nat → Bool) : Bool := (List.range n).all p
theorem allB_iff {n : Nat} {p : Nat → Bool} : allB n p = true ↔ ∀ j, j < n → p j = true := by
  unfold allB
  rw [List.all_eq_true]
  exact ⟨fun h j hj => h j (List.mem_range.mpr hj), fun h j hj => h j (List.mem_range.mp hj)⟩
theorem lp_findi {σ ρ : Type} {f : (σ → Option ρ) → σ → Option ρ} (s : Nat → σ) {s0 : σ} {x y : Option ρ} (h0 : s0 = s 0) (N : Nat) (P : Nat → Bool) (hs : ∀ i, i < N → P i = true → ∀ k, f k (s i) = k (s (i + 1))) (hf : ∀ i, i < N → P i = false → (∀ j, j < i → P j = true) → ∀ k, f k (s i) = y) (he : ∀ k, f k (s N) = x) {n : Nat} (hn : N < n) : lpF f n s0 = if allB N P = true then x else y := by
  rcases lp_find s h0 N (fun i => P i = true) hs (fun i h1 h2 h3 => hf i h1 (by simpa using h2) h3) he hn (fun i => Classical.em _) with ⟨h1, h2⟩ | ⟨⟨i, h1, h3⟩, h2⟩
  · rw [if_pos (allB_iff.mpr h1), h2]
  · rw [if_neg (fun h => h3 (allB_iff.mp h i h1)), h2]
section MV
variable (I : Nat → Nat → Int32) (L : Nat → Nat → Int64)
/-- the class's turned row, whole -/
def tw (F d : Nat) (u v w z : Int32) : Nat → Int64 := ft (cf I F) u.toInt64 v.toInt64 w.toInt64 z.toInt64 d
def LT' (F d : Nat) (u v w z : Int32) : Nat → Nat → Int64 := up1 (up1 L (F + 2) (tl (L (F + 2)) (tw I F d u v w z))) (F + 3) (tl (L (F + 3)) (fp w.toInt64 z.toInt64 d))
theorem LT_t (F d : Nat) (u v w z : Int32) {j : Nat} (h : j < 5) : LT' I L F d u v w z (F + 2) j = tw I F d u v w z j := by
  unfold LT'
  rw [up1_n _ _ (by omega), up1_s]
  exact tl_at _ _ h
theorem LT_n (F d : Nat) (u v w z : Int32) {a : Nat} (h1 : a ≠ F + 2) (h2 : a ≠ F + 3) : LT' I L F d u v w z a = L a := by
  unfold LT'
  rw [up1_n _ _ h2, up1_n _ _ h1]
theorem isLeft_4 (d : Nat) (hd : 2 ≤ d ∧ d ≤ 4) (hI : I 4 0 = nn d) (u v w z : Int32) : fX2_isLeftBy 4 u v w z (mk I L) = some (if allB 5 (fun j => decide (tw I 4 d u v w z j = cf I 4 j)) = true then 1 else 0, mk I (LT' I L 4 d u v w z)) := by
  unfold fX2_isLeftBy
  rw [show fX2_findTurned 4 u v w z (mk I L) = some ((), mk I (LT' I L 4 d u v w z)) from findT_4 I L d hd hI u v w z]
  simp only [kd_4, if_true, Option.bind_some]
  refine (lp_findi (s := fun j => nn j) (x := some ((1 : Int32), mk I (LT' I L 4 d u v w z))) (y := some ((0 : Int32), mk I (LT' I L 4 d u v w z))) rfl 5 (fun j => decide (tw I 4 d u v w z j = cf I 4 j)) ?_ ?_ ?_ (FU_gt (by omega))).trans ?_
  rotate_left 3
  · split <;> rfl
  · intro i hi hP k
    replace hP := of_decide_eq_true hP
    have h1 : (LT' I L 4 d u v w z 6 i) = (I 5 i).toInt64 := (LT_t I L 4 d u v w z hi).trans hP
    simp only [gR_4_2, gR_4_1, ln_5, ln_6, Option.bind_some, nn5_le i (by omega), show ¬ 5 ≤ i by omega, if_false, xJ_6, xI_5, nn_lt0 (i) (by omega), nn_nat (show i < 2147483648 by omega), show i < 5 by omega, not_false_eq_true, and_self, if_true, h1, lg_cmp_eq, nm, nn_s]
  · intro i hi hP _ k
    replace hP := of_decide_eq_false hP
    have h1 : ¬ (LT' I L 4 d u v w z 6 i) = (I 5 i).toInt64 := fun h => hP ((LT_t I L 4 d u v w z hi).symm.trans h)
    simp only [gR_4_2, gR_4_1, ln_5, ln_6, Option.bind_some, nn5_le i (by omega), show ¬ 5 ≤ i by omega, if_false, xJ_6, xI_5, nn_lt0 (i) (by omega), nn_nat (show i < 2147483648 by omega), show i < 5 by omega, not_false_eq_true, and_self, if_true, h1, lg_cmp_eq]
  · intro k
    simp only [gR_4_2, ln_6, Option.bind_some, nn5_le 5 (by omega), Nat.le_refl, if_true]
theorem isLeft_27 (d : Nat) (hd : 2 ≤ d ∧ d ≤ 4) (hI : I 27 0 = nn d) (u v w z : Int32) : fX2_isLeftBy 27 u v w z (mk I L) = some (if allB 5 (fun j => decide (tw I 27 d u v w z j = cf I 27 j)) = true then 1 else 0, mk I (LT' I L 27 d u v w z)) := by
  unfold fX2_isLeftBy
  rw [show fX2_findTurned 27 u v w z (mk I L) = some ((), mk I (LT' I L 27 d u v w z)) from findT_27 I L d hd hI u v w z]
  simp only [kd_27, if_true, Option.bind_some]
  refine (lp_findi (s := fun j => nn j) (x := some ((1 : Int32), mk I (LT' I L 27 d u v w z))) (y := some ((0 : Int32), mk I (LT' I L 27 d u v w z))) rfl 5 (fun j => decide (tw I 27 d u v w z j = cf I 27 j)) ?_ ?_ ?_ (FU_gt (by omega))).trans ?_
  rotate_left 3
  · split <;> rfl
  · intro i hi hP k
    replace hP := of_decide_eq_true hP
    have h1 : (LT' I L 27 d u v w z 29 i) = (I 28 i).toInt64 := (LT_t I L 27 d u v w z hi).trans hP
    simp only [gR_27_2, gR_27_1, ln_28, ln_29, Option.bind_some, nn5_le i (by omega), show ¬ 5 ≤ i by omega, if_false, xJ_29, xI_28, nn_lt0 (i) (by omega), nn_nat (show i < 2147483648 by omega), show i < 5 by omega, not_false_eq_true, and_self, if_true, h1, lg_cmp_eq, nm, nn_s]
  · intro i hi hP _ k
    replace hP := of_decide_eq_false hP
    have h1 : ¬ (LT' I L 27 d u v w z 29 i) = (I 28 i).toInt64 := fun h => hP ((LT_t I L 27 d u v w z hi).symm.trans h)
    simp only [gR_27_2, gR_27_1, ln_28, ln_29, Option.bind_some, nn5_le i (by omega), show ¬ 5 ≤ i by omega, if_false, xJ_29, xI_28, nn_lt0 (i) (by omega), nn_nat (show i < 2147483648 by omega), show i < 5 by omega, not_false_eq_true, and_self, if_true, h1, lg_cmp_eq]
  · intro k
    simp only [gR_27_2, ln_29, Option.bind_some, nn5_le 5 (by omega), Nat.le_refl, if_true]
theorem isLeft_33 (d : Nat) (hd : 2 ≤ d ∧ d ≤ 4) (hI : I 33 0 = nn d) (u v w z : Int32) : fX2_isLeftBy 33 u v w z (mk I L) = some (if allB 5 (fun j => decide (tw I 33 d u v w z j = cf I 33 j)) = true then 1 else 0, mk I (LT' I L 33 d u v w z)) := by
  unfold fX2_isLeftBy
  rw [show fX2_findTurned 33 u v w z (mk I L) = some ((), mk I (LT' I L 33 d u v w z)) from findT_33 I L d hd hI u v w z]
  simp only [kd_33, if_true, Option.bind_some]
  refine (lp_findi (s := fun j => nn j) (x := some ((1 : Int32), mk I (LT' I L 33 d u v w z))) (y := some ((0 : Int32), mk I (LT' I L 33 d u v w z))) rfl 5 (fun j => decide (tw I 33 d u v w z j = cf I 33 j)) ?_ ?_ ?_ (FU_gt (by omega))).trans ?_
  rotate_left 3
  · split <;> rfl
  · intro i hi hP k
    replace hP := of_decide_eq_true hP
    have h1 : (LT' I L 33 d u v w z 35 i) = (I 34 i).toInt64 := (LT_t I L 33 d u v w z hi).trans hP
    simp only [gR_33_2, gR_33_1, ln_34, ln_35, Option.bind_some, nn5_le i (by omega), show ¬ 5 ≤ i by omega, if_false, xJ_35, xI_34, nn_lt0 (i) (by omega), nn_nat (show i < 2147483648 by omega), show i < 5 by omega, not_false_eq_true, and_self, if_true, h1, lg_cmp_eq, nm, nn_s]
  · intro i hi hP _ k
    replace hP := of_decide_eq_false hP
    have h1 : ¬ (LT' I L 33 d u v w z 35 i) = (I 34 i).toInt64 := fun h => hP ((LT_t I L 33 d u v w z hi).symm.trans h)
    simp only [gR_33_2, gR_33_1, ln_34, ln_35, Option.bind_some, nn5_le i (by omega), show ¬ 5 ≤ i by omega, if_false, xJ_35, xI_34, nn_lt0 (i) (by omega), nn_nat (show i < 2147483648 by omega), show i < 5 by omega, not_false_eq_true, and_self, if_true, h1, lg_cmp_eq]
  · intro k
    simp only [gR_33_2, ln_35, Option.bind_some, nn5_le 5 (by omega), Nat.le_refl, if_true]
theorem turnBy_4 (d : Nat) (hd : 2 ≤ d ∧ d ≤ 4) (hI : I 4 0 = nn d) (u v w z : Int32) : fX2_turnBy 4 u v w z (mk I L) = if allB 5 (fun j => decide (-99 ≤ (tw I 4 d u v w z j).toInt ∧ (tw I 4 d u v w z j).toInt ≤ 99)) = true then some (1, mk (up1 I 5 (fun k => if k < 5 then (tw I 4 d u v w z k).toInt32 else I 5 k)) (LT' I L 4 d u v w z)) else some (0, mk I (LT' I L 4 d u v w z)) := by
  unfold fX2_turnBy
  rw [show fX2_findTurned 4 u v w z (mk I L) = some ((), mk I (LT' I L 4 d u v w z)) from findT_4 I L d hd hI u v w z]
  simp only [kd_4, if_true, Option.bind_some]
  refine lp_findi (s := fun j => nn j) rfl 5 (fun j => decide (-99 ≤ (tw I 4 d u v w z j).toInt ∧ (tw I 4 d u v w z j).toInt ≤ 99)) ?_ ?_ ?_ (FU_gt (by omega))
  · intro i hi hP k
    replace hP := of_decide_eq_true hP
    have h1 : (LT' I L 4 d u v w z 6 i) = tw I 4 d u v w z i := LT_t I L 4 d u v w z hi
    simp only [gR_4_2, gR_4_1, ln_6, Option.bind_some, nn5_le i (by omega), show ¬ 5 ≤ i by omega, if_false, xJ_6, nn_lt0 (i) (by omega), nn_nat (show i < 2147483648 by omega), show i < 5 by omega, not_false_eq_true, and_self, if_true, h1, lg_cmp_gt, lg_cmp_ge, i64_lt, i64_le, Int64.reduceToInt, hP.1, show ¬ 99 < (tw I 4 d u v w z i).toInt by omega, nm, nn_s]
  · intro i hi hP _ k
    replace hP := of_decide_eq_false hP
    have h1 : (LT' I L 4 d u v w z 6 i) = tw I 4 d u v w z i := LT_t I L 4 d u v w z hi
    simp only [gR_4_2, gR_4_1, ln_6, Option.bind_some, nn5_le i (by omega), show ¬ 5 ≤ i by omega, if_false, xJ_6, nn_lt0 (i) (by omega), nn_nat (show i < 2147483648 by omega), show i < 5 by omega, not_false_eq_true, and_self, if_true, h1, lg_cmp_gt, lg_cmp_ge, i64_lt, i64_le, Int64.reduceToInt]
    by_cases h2 : 99 < (tw I 4 d u v w z i).toInt
    · rw [if_pos h2]
    · rw [if_neg h2, if_neg (by omega)]
  · intro k
    simp only [gR_4_2, ln_6, Option.bind_some, nn5_le 5 (by omega), Nat.le_refl, if_true]
    refine lp_for' (fun i => (nn i, mk (up1 I 5 (fun k => if k < i then (tw I 4 d u v w z k).toInt32 else I 5 k)) (LT' I L 4 d u v w z))) ?_ 5 (fun i hi k2 => ?_) (fun k2 => ?_) (FU_gt (by omega))
    · rw [show (fun k => if k < 0 then (tw I 4 d u v w z k).toInt32 else I 5 k) = I 5 from by funext k; simp, up1_id]
      rfl
    · have h1 : (LT' I L 4 d u v w z 6 i) = tw I 4 d u v w z i := LT_t I L 4 d u v w z hi
      simp only [gR_4_2, gR_4_1, ln_5, ln_6, Option.bind_some, nn5_le i (by omega), show ¬ 5 ≤ i by omega, if_false, xJ_6, yI_5, nn_lt0 (i) (by omega), nn_nat (show i < 2147483648 by omega), show i < 5 by omega, not_false_eq_true, and_self, if_true, h1, up1_s, up1_up1, nm, nn_s]
      congr 4
      funext q
      simp only [up1_e]
      by_cases hq : q = i
      · subst hq
        simp
      · by_cases h2 : q < i
        · simp [hq, h2, show q < i + 1 by omega]
        · simp [hq, h2, show ¬ q < i + 1 by omega]
    · simp only [gR_4_2, ln_6, Option.bind_some, nn5_le 5 (by omega), Nat.le_refl, if_true]
theorem turnBy_27 (d : Nat) (hd : 2 ≤ d ∧ d ≤ 4) (hI : I 27 0 = nn d) (u v w z : Int32) : fX2_turnBy 27 u v w z (mk I L) = if allB 5 (fun j => decide (-99 ≤ (tw I 27 d u v w z j).toInt ∧ (tw I 27 d u v w z j).toInt ≤ 99)) = true then some (1, mk (up1 I 28 (fun k => if k < 5 then (tw I 27 d u v w z k).toInt32 else I 28 k)) (LT' I L 27 d u v w z)) else some (0, mk I (LT' I L 27 d u v w z)) := by
  unfold fX2_turnBy
  rw [show fX2_findTurned 27 u v w z (mk I L) = some ((), mk I (LT' I L 27 d u v w z)) from findT_27 I L d hd hI u v w z]
  simp only [kd_27, if_true, Option.bind_some]
  refine lp_findi (s := fun j => nn j) rfl 5 (fun j => decide (-99 ≤ (tw I 27 d u v w z j).toInt ∧ (tw I 27 d u v w z j).toInt ≤ 99)) ?_ ?_ ?_ (FU_gt (by omega))
  · intro i hi hP k
    replace hP := of_decide_eq_true hP
    have h1 : (LT' I L 27 d u v w z 29 i) = tw I 27 d u v w z i := LT_t I L 27 d u v w z hi
    simp only [gR_27_2, gR_27_1, ln_29, Option.bind_some, nn5_le i (by omega), show ¬ 5 ≤ i by omega, if_false, xJ_29, nn_lt0 (i) (by omega), nn_nat (show i < 2147483648 by omega), show i < 5 by omega, not_false_eq_true, and_self, if_true, h1, lg_cmp_gt, lg_cmp_ge, i64_lt, i64_le, Int64.reduceToInt, hP.1, show ¬ 99 < (tw I 27 d u v w z i).toInt by omega, nm, nn_s]
  · intro i hi hP _ k
    replace hP := of_decide_eq_false hP
    have h1 : (LT' I L 27 d u v w z 29 i) = tw I 27 d u v w z i := LT_t I L 27 d u v w z hi
    simp only [gR_27_2, gR_27_1, ln_29, Option.bind_some, nn5_le i (by omega), show ¬ 5 ≤ i by omega, if_false, xJ_29, nn_lt0 (i) (by omega), nn_nat (show i < 2147483648 by omega), show i < 5 by omega, not_false_eq_true, and_self, if_true, h1, lg_cmp_gt, lg_cmp_ge, i64_lt, i64_le, Int64.reduceToInt]
    by_cases h2 : 99 < (tw I 27 d u v w z i).toInt
    · rw [if_pos h2]
    · rw [if_neg h2, if_neg (by omega)]
  · intro k
    simp only [gR_27_2, ln_29, Option.bind_some, nn5_le 5 (by omega), Nat.le_refl, if_true]
    refine lp_for' (fun i => (nn i, mk (up1 I 28 (fun k => if k < i then (tw I 27 d u v w z k).toInt32 else I 28 k)) (LT' I L 27 d u v w z))) ?_ 5 (fun i hi k2 => ?_) (fun k2 => ?_) (FU_gt (by omega))
    · rw [show (fun k => if k < 0 then (tw I 27 d u v w z k).toInt32 else I 28 k) = I 28 from by funext k; simp, up1_id]
      rfl
    · have h1 : (LT' I L 27 d u v w z 29 i) = tw I 27 d u v w z i := LT_t I L 27 d u v w z hi
      simp only [gR_27_2, gR_27_1, ln_28, ln_29, Option.bind_some, nn5_le i (by omega), show ¬ 5 ≤ i by omega, if_false, xJ_29, yI_28, nn_lt0 (i) (by omega), nn_nat (show i < 2147483648 by omega), show i < 5 by omega, not_false_eq_true, and_self, if_true, h1, up1_s, up1_up1, nm, nn_s]
      congr 4
      funext q
      simp only [up1_e]
      by_cases hq : q = i
      · subst hq
        simp
      · by_cases h2 : q < i
        · simp [hq, h2, show q < i + 1 by omega]
        · simp [hq, h2, show ¬ q < i + 1 by omega]
    · simp only [gR_27_2, ln_29, Option.bind_some, nn5_le 5 (by omega), Nat.le_refl, if_true]
end MV
