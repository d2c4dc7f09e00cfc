/-- one field laid, one row laid -/
def ls (I : Nat → Nat → Int32) (k f : Nat) (a : Int32) : Nat → Nat → Int32 := up1 (up1 I 86 (up1 (I 86) k (if a = 0 then I 62 f else I 86 k))) 62 (up1 (I 62) f (if a = 0 then I 62 f else I 86 k))
def lrS (I : Nat → Nat → Int32) (R fr : Nat) (a : Int32) (j : Nat) : Int32 := if a = 0 then I R j else I 86 (fr + j)
def lr (I : Nat → Nat → Int32) (R len fr : Nat) (a : Int32) : Nat → Nat → Int32 := up1 (up1 I 86 (fun k => if fr ≤ k ∧ k < fr + len then lrS I R fr a (k - fr) else I 86 k)) R (fun j => if j < len then lrS I R fr a j else I R j)
def lay6 (I : Nat → Nat → Int32) (a : Int32) : Nat → Nat → Int32 := ls (ls (ls (ls (ls (ls I 0 0 a) 1 2 a) 2 3 a) 3 5 a) 4 7 a) 5 9 a
def layI (I : Nat → Nat → Int32) (a : Int32) : Nat → Nat → Int32 := lr (lr (lr (lay6 I a) 64 12 6 a) 65 16 18 a) 66 16 34 a
def layL (L : Nat → Nat → Int64) (a : Int32) : Nat → Nat → Int64 := up1 (up1 L 85 (fun k => if k < 5 then (if a = 0 then L 63 k else L 85 k) else L 85 k)) 63 (fun k => if k < 5 then (if a = 0 then L 63 k else L 85 k) else L 63 k)
theorem ls_e (I : Nat → Nat → Int32) (k f : Nat) (a : Int32) (r q : Nat) : ls I k f a r q = if r = 62 then (if q = f then (if a = 0 then I 62 f else I 86 k) else I 62 q) else if r = 86 then (if q = k then (if a = 0 then I 62 f else I 86 k) else I 86 q) else I r q := by
  unfold ls
  simp only [up1_e]
  split
  · rfl
  · split <;> rfl
theorem lr_e (I : Nat → Nat → Int32) (R len fr : Nat) (a : Int32) (r k : Nat) : lr I R len fr a r k = if r = R then (if k < len then lrS I R fr a k else I R k) else if r = 86 then (if fr ≤ k ∧ k < fr + len then lrS I R fr a (k - fr) else I 86 k) else I r k := by
  unfold lr
  simp only [up1_e]
  split
  · rfl
  · split <;> rfl
section LY
variable (I : Nat → Nat → Int32) (L : Nat → Nat → Int64)
theorem layF_0 (a1 : Int32) (R : Mem → Option (Unit × Mem)) : ((gR 10 (mk I L) 62 38).bind fun v1 => jn (fun (v2 : Int32) => (yI 11 (mk I L) v1 0 v2).bind fun h5 => (gR 10 h5 62 38).bind fun v6 => (xI 11 h5 v6 0).bind fun v7 => (pI 10 h5 62 0 v7).bind fun h8 => R h8) (fun k3 => if a1 = 0 then (gI 10 (mk I L) 62 0).bind fun v103 => k3 v103 else (gR 10 (mk I L) 62 38).bind fun v101 => (xI 11 (mk I L) v101 0).bind fun v102 => k3 v102)) = R (mk (ls I 0 0 a1) L) := by
  unfold ls
  simp only [gR_62_38, xI_86, yI_86, gI_62, pI_62, Option.bind_some, jn, show ¬ (0 : Int32) < 0 by decide, show (0 : Int32).toNatClampNeg = 0 from rfl, show (0 : Nat) < 50 by decide, not_false_eq_true, and_self, if_true]
  by_cases h : a1 = 0
  · simp only [if_pos h, up1_s, up1_n (I) _ (show 62 ≠ 86 by decide)]
  · simp only [if_neg h, up1_s, up1_n (I) _ (show 62 ≠ 86 by decide)]
theorem layF_1 (a1 : Int32) (R : Mem → Option (Unit × Mem)) : ((gR 10 (mk I L) 62 38).bind fun v1 => jn (fun (v2 : Int32) => (yI 11 (mk I L) v1 1 v2).bind fun h5 => (gR 10 h5 62 38).bind fun v6 => (xI 11 h5 v6 1).bind fun v7 => (pI 10 h5 62 2 v7).bind fun h8 => R h8) (fun k3 => if a1 = 0 then (gI 10 (mk I L) 62 2).bind fun v103 => k3 v103 else (gR 10 (mk I L) 62 38).bind fun v101 => (xI 11 (mk I L) v101 1).bind fun v102 => k3 v102)) = R (mk (ls I 1 2 a1) L) := by
  unfold ls
  simp only [gR_62_38, xI_86, yI_86, gI_62, pI_62, Option.bind_some, jn, show ¬ (1 : Int32) < 0 by decide, show (1 : Int32).toNatClampNeg = 1 from rfl, show (1 : Nat) < 50 by decide, not_false_eq_true, and_self, if_true]
  by_cases h : a1 = 0
  · simp only [if_pos h, up1_s, up1_n (I) _ (show 62 ≠ 86 by decide)]
  · simp only [if_neg h, up1_s, up1_n (I) _ (show 62 ≠ 86 by decide)]
theorem layF_2 (a1 : Int32) (R : Mem → Option (Unit × Mem)) : ((gR 10 (mk I L) 62 38).bind fun v1 => jn (fun (v2 : Int32) => (yI 11 (mk I L) v1 2 v2).bind fun h5 => (gR 10 h5 62 38).bind fun v6 => (xI 11 h5 v6 2).bind fun v7 => (pI 10 h5 62 3 v7).bind fun h8 => R h8) (fun k3 => if a1 = 0 then (gI 10 (mk I L) 62 3).bind fun v103 => k3 v103 else (gR 10 (mk I L) 62 38).bind fun v101 => (xI 11 (mk I L) v101 2).bind fun v102 => k3 v102)) = R (mk (ls I 2 3 a1) L) := by
  unfold ls
  simp only [gR_62_38, xI_86, yI_86, gI_62, pI_62, Option.bind_some, jn, show ¬ (2 : Int32) < 0 by decide, show (2 : Int32).toNatClampNeg = 2 from rfl, show (2 : Nat) < 50 by decide, not_false_eq_true, and_self, if_true]
  by_cases h : a1 = 0
  · simp only [if_pos h, up1_s, up1_n (I) _ (show 62 ≠ 86 by decide)]
  · simp only [if_neg h, up1_s, up1_n (I) _ (show 62 ≠ 86 by decide)]
theorem layF_3 (a1 : Int32) (R : Mem → Option (Unit × Mem)) : ((gR 10 (mk I L) 62 38).bind fun v1 => jn (fun (v2 : Int32) => (yI 11 (mk I L) v1 3 v2).bind fun h5 => (gR 10 h5 62 38).bind fun v6 => (xI 11 h5 v6 3).bind fun v7 => (pI 10 h5 62 5 v7).bind fun h8 => R h8) (fun k3 => if a1 = 0 then (gI 10 (mk I L) 62 5).bind fun v103 => k3 v103 else (gR 10 (mk I L) 62 38).bind fun v101 => (xI 11 (mk I L) v101 3).bind fun v102 => k3 v102)) = R (mk (ls I 3 5 a1) L) := by
  unfold ls
  simp only [gR_62_38, xI_86, yI_86, gI_62, pI_62, Option.bind_some, jn, show ¬ (3 : Int32) < 0 by decide, show (3 : Int32).toNatClampNeg = 3 from rfl, show (3 : Nat) < 50 by decide, not_false_eq_true, and_self, if_true]
  by_cases h : a1 = 0
  · simp only [if_pos h, up1_s, up1_n (I) _ (show 62 ≠ 86 by decide)]
  · simp only [if_neg h, up1_s, up1_n (I) _ (show 62 ≠ 86 by decide)]
theorem layF_4 (a1 : Int32) (R : Mem → Option (Unit × Mem)) : ((gR 10 (mk I L) 62 38).bind fun v1 => jn (fun (v2 : Int32) => (yI 11 (mk I L) v1 4 v2).bind fun h5 => (gR 10 h5 62 38).bind fun v6 => (xI 11 h5 v6 4).bind fun v7 => (pI 10 h5 62 7 v7).bind fun h8 => R h8) (fun k3 => if a1 = 0 then (gI 10 (mk I L) 62 7).bind fun v103 => k3 v103 else (gR 10 (mk I L) 62 38).bind fun v101 => (xI 11 (mk I L) v101 4).bind fun v102 => k3 v102)) = R (mk (ls I 4 7 a1) L) := by
  unfold ls
  simp only [gR_62_38, xI_86, yI_86, gI_62, pI_62, Option.bind_some, jn, show ¬ (4 : Int32) < 0 by decide, show (4 : Int32).toNatClampNeg = 4 from rfl, show (4 : Nat) < 50 by decide, not_false_eq_true, and_self, if_true]
  by_cases h : a1 = 0
  · simp only [if_pos h, up1_s, up1_n (I) _ (show 62 ≠ 86 by decide)]
  · simp only [if_neg h, up1_s, up1_n (I) _ (show 62 ≠ 86 by decide)]
theorem layF_5 (a1 : Int32) (R : Mem → Option (Unit × Mem)) : ((gR 10 (mk I L) 62 38).bind fun v1 => jn (fun (v2 : Int32) => (yI 11 (mk I L) v1 5 v2).bind fun h5 => (gR 10 h5 62 38).bind fun v6 => (xI 11 h5 v6 5).bind fun v7 => (pI 10 h5 62 9 v7).bind fun h8 => R h8) (fun k3 => if a1 = 0 then (gI 10 (mk I L) 62 9).bind fun v103 => k3 v103 else (gR 10 (mk I L) 62 38).bind fun v101 => (xI 11 (mk I L) v101 5).bind fun v102 => k3 v102)) = R (mk (ls I 5 9 a1) L) := by
  unfold ls
  simp only [gR_62_38, xI_86, yI_86, gI_62, pI_62, Option.bind_some, jn, show ¬ (5 : Int32) < 0 by decide, show (5 : Int32).toNatClampNeg = 5 from rfl, show (5 : Nat) < 50 by decide, not_false_eq_true, and_self, if_true]
  by_cases h : a1 = 0
  · simp only [if_pos h, up1_s, up1_n (I) _ (show 62 ≠ 86 by decide)]
  · simp only [if_neg h, up1_s, up1_n (I) _ (show 62 ≠ 86 by decide)]
theorem laysRow_64 (a1 : Int32) : fX10_laysRow 62 a1 64 6 (mk I L) = some ((), mk (lr I 64 12 6 a1) L) := by
  unfold fX10_laysRow
  refine lp_for' (fun i => (nn i, mk (lr I 64 i 6 a1) L)) ?_ 12 (fun i hi k => ?_) (fun k => ?_) (FU_gt (by omega))
  · show (nn 0, mk I L) = (nn 0, mk (lr I 64 0 6 a1) L)
    congr 2
    funext r k
    rw [lr_e]
    split
    · rename_i h
      rw [h, if_neg (by omega)]
    · split
      · rename_i h
        rw [h, if_neg (by omega)]
      · rfl
  · have e1 : (6 : Int32) + nn i = nn (6 + i) := nn_add 6 i
    have q1 : ¬ (12 : Int32) ≤ nn i := fun h => by
      have := (nn_le (m := 12) (by omega) (by omega)).mp h
      omega
    have r1 : lr I 64 i 6 a1 64 i = I 64 i := by
      rw [lr_e, if_pos rfl, if_neg (by omega)]
    have r2 : lr I 64 i 6 a1 86 (6 + i) = I 86 (6 + i) := by
      rw [lr_e, if_neg (by decide), if_pos rfl, if_neg (by omega)]
    have r3 : up1 (up1 (lr I 64 i 6 a1) 86 (up1 (lr I 64 i 6 a1 86) (6 + i) (lrS I 64 6 a1 i))) 64 (up1 (lr I 64 i 6 a1 64) i (lrS I 64 6 a1 i)) = lr I 64 (i + 1) 6 a1 := by
      funext r k
      by_cases h1 : r = 64
      · subst h1
        rw [up1_s, up1_e]
        simp only [lr_e, if_true]
        by_cases h2 : k = i
        · rw [if_pos h2, if_pos (by omega), h2]
        · by_cases h3 : k < i
          · rw [if_neg h2, if_pos h3, if_pos (by omega)]
          · rw [if_neg h2, if_neg h3, if_neg (by omega)]
      · rw [up1_n _ _ h1]
        by_cases h4 : r = 86
        · subst h4
          rw [up1_s, up1_e]
          simp only [lr_e, show ¬ (86 : Nat) = 64 by decide, if_false, if_true]
          by_cases h2 : k = 6 + i
          · rw [if_pos h2, if_pos (by omega), h2, Nat.add_sub_cancel_left]
          · by_cases h3 : 6 ≤ k ∧ k < 6 + i
            · rw [if_neg h2, if_pos h3, if_pos (by omega)]
            · rw [if_neg h2, if_neg h3, if_neg (by omega)]
        · rw [up1_n _ _ h4]
          simp only [lr_e, if_neg h1, if_neg h4]
    by_cases ha : a1 = 0
    · have r4 : lrS I 64 6 a1 i = I 64 i := if_pos ha
      rw [r4] at r3
      simp only [ln_64, Option.bind_some, if_neg q1, gR_62_38, jn, if_pos ha, xI_64, yI_64, xI_86, yI_86, e1, nn_lt0 (i) (by omega), nn_nat (show i < 2147483648 by omega), show i < 12 by omega, not_false_eq_true, and_self, if_true, nn_lt0 (6 + i) (by omega), nn_nat (show 6 + i < 2147483648 by omega), show 6 + i < 50 by omega, not_false_eq_true, and_self, if_true, r1, up1_s, up1_n (lr I 64 i 6 a1) _ (show 64 ≠ 86 by decide), r3, nm, nn_s]
    · have r4 : lrS I 64 6 a1 i = I 86 (6 + i) := if_neg ha
      rw [r4] at r3
      simp only [ln_64, Option.bind_some, if_neg q1, gR_62_38, jn, if_neg ha, xI_64, yI_64, xI_86, yI_86, e1, nn_lt0 (i) (by omega), nn_nat (show i < 2147483648 by omega), show i < 12 by omega, not_false_eq_true, and_self, if_true, nn_lt0 (6 + i) (by omega), nn_nat (show 6 + i < 2147483648 by omega), show 6 + i < 50 by omega, not_false_eq_true, and_self, if_true, r2, up1_s, up1_n (lr I 64 i 6 a1) _ (show 64 ≠ 86 by decide), r3, nm, nn_s]
  · simp only [ln_64, Option.bind_some, show (12 : Int32) ≤ nn 12 from Int32.le_refl _, if_true]
theorem laysRow_65 (a1 : Int32) : fX10_laysRow 62 a1 65 18 (mk I L) = some ((), mk (lr I 65 16 18 a1) L) := by
  unfold fX10_laysRow
  refine lp_for' (fun i => (nn i, mk (lr I 65 i 18 a1) L)) ?_ 16 (fun i hi k => ?_) (fun k => ?_) (FU_gt (by omega))
  · show (nn 0, mk I L) = (nn 0, mk (lr I 65 0 18 a1) L)
    congr 2
    funext r k
    rw [lr_e]
    split
    · rename_i h
      rw [h, if_neg (by omega)]
    · split
      · rename_i h
        rw [h, if_neg (by omega)]
      · rfl
  · have e1 : (18 : Int32) + nn i = nn (18 + i) := nn_add 18 i
    have q1 : ¬ (16 : Int32) ≤ nn i := fun h => by
      have := (nn_le (m := 16) (by omega) (by omega)).mp h
      omega
    have r1 : lr I 65 i 18 a1 65 i = I 65 i := by
      rw [lr_e, if_pos rfl, if_neg (by omega)]
    have r2 : lr I 65 i 18 a1 86 (18 + i) = I 86 (18 + i) := by
      rw [lr_e, if_neg (by decide), if_pos rfl, if_neg (by omega)]
    have r3 : up1 (up1 (lr I 65 i 18 a1) 86 (up1 (lr I 65 i 18 a1 86) (18 + i) (lrS I 65 18 a1 i))) 65 (up1 (lr I 65 i 18 a1 65) i (lrS I 65 18 a1 i)) = lr I 65 (i + 1) 18 a1 := by
      funext r k
      by_cases h1 : r = 65
      · subst h1
        rw [up1_s, up1_e]
        simp only [lr_e, if_true]
        by_cases h2 : k = i
        · rw [if_pos h2, if_pos (by omega), h2]
        · by_cases h3 : k < i
          · rw [if_neg h2, if_pos h3, if_pos (by omega)]
          · rw [if_neg h2, if_neg h3, if_neg (by omega)]
      · rw [up1_n _ _ h1]
        by_cases h4 : r = 86
        · subst h4
          rw [up1_s, up1_e]
          simp only [lr_e, show ¬ (86 : Nat) = 65 by decide, if_false, if_true]
          by_cases h2 : k = 18 + i
          · rw [if_pos h2, if_pos (by omega), h2, Nat.add_sub_cancel_left]
          · by_cases h3 : 18 ≤ k ∧ k < 18 + i
            · rw [if_neg h2, if_pos h3, if_pos (by omega)]
            · rw [if_neg h2, if_neg h3, if_neg (by omega)]
        · rw [up1_n _ _ h4]
          simp only [lr_e, if_neg h1, if_neg h4]
    by_cases ha : a1 = 0
    · have r4 : lrS I 65 18 a1 i = I 65 i := if_pos ha
      rw [r4] at r3
      simp only [ln_65, Option.bind_some, if_neg q1, gR_62_38, jn, if_pos ha, xI_65, yI_65, xI_86, yI_86, e1, nn_lt0 (i) (by omega), nn_nat (show i < 2147483648 by omega), show i < 16 by omega, not_false_eq_true, and_self, if_true, nn_lt0 (18 + i) (by omega), nn_nat (show 18 + i < 2147483648 by omega), show 18 + i < 50 by omega, not_false_eq_true, and_self, if_true, r1, up1_s, up1_n (lr I 65 i 18 a1) _ (show 65 ≠ 86 by decide), r3, nm, nn_s]
    · have r4 : lrS I 65 18 a1 i = I 86 (18 + i) := if_neg ha
      rw [r4] at r3
      simp only [ln_65, Option.bind_some, if_neg q1, gR_62_38, jn, if_neg ha, xI_65, yI_65, xI_86, yI_86, e1, nn_lt0 (i) (by omega), nn_nat (show i < 2147483648 by omega), show i < 16 by omega, not_false_eq_true, and_self, if_true, nn_lt0 (18 + i) (by omega), nn_nat (show 18 + i < 2147483648 by omega), show 18 + i < 50 by omega, not_false_eq_true, and_self, if_true, r2, up1_s, up1_n (lr I 65 i 18 a1) _ (show 65 ≠ 86 by decide), r3, nm, nn_s]
  · simp only [ln_65, Option.bind_some, show (16 : Int32) ≤ nn 16 from Int32.le_refl _, if_true]
theorem laysRow_66 (a1 : Int32) : fX10_laysRow 62 a1 66 34 (mk I L) = some ((), mk (lr I 66 16 34 a1) L) := by
  unfold fX10_laysRow
  refine lp_for' (fun i => (nn i, mk (lr I 66 i 34 a1) L)) ?_ 16 (fun i hi k => ?_) (fun k => ?_) (FU_gt (by omega))
  · show (nn 0, mk I L) = (nn 0, mk (lr I 66 0 34 a1) L)
    congr 2
    funext r k
    rw [lr_e]
    split
    · rename_i h
      rw [h, if_neg (by omega)]
    · split
      · rename_i h
        rw [h, if_neg (by omega)]
      · rfl
  · have e1 : (34 : Int32) + nn i = nn (34 + i) := nn_add 34 i
    have q1 : ¬ (16 : Int32) ≤ nn i := fun h => by
      have := (nn_le (m := 16) (by omega) (by omega)).mp h
      omega
    have r1 : lr I 66 i 34 a1 66 i = I 66 i := by
      rw [lr_e, if_pos rfl, if_neg (by omega)]
    have r2 : lr I 66 i 34 a1 86 (34 + i) = I 86 (34 + i) := by
      rw [lr_e, if_neg (by decide), if_pos rfl, if_neg (by omega)]
    have r3 : up1 (up1 (lr I 66 i 34 a1) 86 (up1 (lr I 66 i 34 a1 86) (34 + i) (lrS I 66 34 a1 i))) 66 (up1 (lr I 66 i 34 a1 66) i (lrS I 66 34 a1 i)) = lr I 66 (i + 1) 34 a1 := by
      funext r k
      by_cases h1 : r = 66
      · subst h1
        rw [up1_s, up1_e]
        simp only [lr_e, if_true]
        by_cases h2 : k = i
        · rw [if_pos h2, if_pos (by omega), h2]
        · by_cases h3 : k < i
          · rw [if_neg h2, if_pos h3, if_pos (by omega)]
          · rw [if_neg h2, if_neg h3, if_neg (by omega)]
      · rw [up1_n _ _ h1]
        by_cases h4 : r = 86
        · subst h4
          rw [up1_s, up1_e]
          simp only [lr_e, show ¬ (86 : Nat) = 66 by decide, if_false, if_true]
          by_cases h2 : k = 34 + i
          · rw [if_pos h2, if_pos (by omega), h2, Nat.add_sub_cancel_left]
          · by_cases h3 : 34 ≤ k ∧ k < 34 + i
            · rw [if_neg h2, if_pos h3, if_pos (by omega)]
            · rw [if_neg h2, if_neg h3, if_neg (by omega)]
        · rw [up1_n _ _ h4]
          simp only [lr_e, if_neg h1, if_neg h4]
    by_cases ha : a1 = 0
    · have r4 : lrS I 66 34 a1 i = I 66 i := if_pos ha
      rw [r4] at r3
      simp only [ln_66, Option.bind_some, if_neg q1, gR_62_38, jn, if_pos ha, xI_66, yI_66, xI_86, yI_86, e1, nn_lt0 (i) (by omega), nn_nat (show i < 2147483648 by omega), show i < 16 by omega, not_false_eq_true, and_self, if_true, nn_lt0 (34 + i) (by omega), nn_nat (show 34 + i < 2147483648 by omega), show 34 + i < 50 by omega, not_false_eq_true, and_self, if_true, r1, up1_s, up1_n (lr I 66 i 34 a1) _ (show 66 ≠ 86 by decide), r3, nm, nn_s]
    · have r4 : lrS I 66 34 a1 i = I 86 (34 + i) := if_neg ha
      rw [r4] at r3
      simp only [ln_66, Option.bind_some, if_neg q1, gR_62_38, jn, if_neg ha, xI_66, yI_66, xI_86, yI_86, e1, nn_lt0 (i) (by omega), nn_nat (show i < 2147483648 by omega), show i < 16 by omega, not_false_eq_true, and_self, if_true, nn_lt0 (34 + i) (by omega), nn_nat (show 34 + i < 2147483648 by omega), show 34 + i < 50 by omega, not_false_eq_true, and_self, if_true, r2, up1_s, up1_n (lr I 66 i 34 a1) _ (show 66 ≠ 86 by decide), r3, nm, nn_s]
  · simp only [ln_66, Option.bind_some, show (16 : Int32) ≤ nn 16 from Int32.le_refl _, if_true]
theorem lays_s (a1 : Int32) : fX10_lays 62 a1 (mk I L) = some ((), mk (layI I a1) (layL L a1)) := by
  unfold fX10_lays
  rw [layF_0, layF_1, layF_2, layF_3, layF_4, layF_5]
  rw [show ls (ls (ls (ls (ls (ls I 0 0 a1) 1 2 a1) 2 3 a1) 3 5 a1) 4 7 a1) 5 9 a1 = lay6 I a1 from rfl]
  simp only [gR_62_4, gR_62_6, gR_62_8, kd_62, if_true, Option.bind_some, laysRow_64, ln_64, ln_65, show (6 : Int32) + 12 = 18 by decide, laysRow_65, show (18 : Int32) + 16 = 34 by decide, laysRow_66]
  rw [show lr (lr (lr (lay6 I a1) 64 12 6 a1) 65 16 18 a1) 66 16 34 a1 = layI I a1 from rfl]
  refine lp_for' (fun i => (nn i, mk (layI I a1) (up1 (up1 L 85 (fun k => if k < i then (if a1 = 0 then L 63 k else L 85 k) else L 85 k)) 63 (fun k => if k < i then (if a1 = 0 then L 63 k else L 85 k) else L 63 k)))) ?_ 5 (fun i hi k => ?_) (fun k => ?_) (FU_gt (by omega))
  · show (nn 0, mk (layI I a1) L) = (nn 0, mk (layI I a1) _)
    congr 2
    funext r k
    simp only [up1_e, Nat.not_lt_zero, if_false]
    split
    · rename_i h
      rw [h]
    · split
      · rename_i h
        rw [h]
      · rfl
  · have hrow : ∀ (f : Nat → Int64) (x : Int64), x = (if a1 = 0 then L 63 i else L 85 i) → up1 (fun k => if k < i then (if a1 = 0 then L 63 k else L 85 k) else f k) i x = (fun k => if k < i + 1 then (if a1 = 0 then L 63 k else L 85 k) else f k) := by
      intro f x hx
      funext q
      simp only [up1_e]
      by_cases hq : q = i
      · subst hq
        rw [if_pos rfl, if_pos (show q < q + 1 by omega), hx]
      · by_cases h2 : q < i
        · rw [if_neg hq, if_pos h2, if_pos (show q < i + 1 by omega)]
        · rw [if_neg hq, if_neg h2, if_neg (show ¬ q < i + 1 by omega)]
    by_cases ha : a1 = 0
    · have hx : L 63 i = (if a1 = 0 then L 63 i else L 85 i) := (if_pos ha).symm
      simp only [nn5_le i (by omega), show ¬ 5 ≤ i by omega, if_false, gR_62_37, gR_62_1, xJ_63, yJ_63, xJ_85, yJ_85, nn_lt0 (i) (by omega), nn_nat (show i < 2147483648 by omega), show i < 5 by omega, not_false_eq_true, and_self, if_true, Option.bind_some, jn, if_pos ha, up1_e, Nat.reduceEqDiff, reduceIte, Nat.lt_irrefl, up1_mid L _ _ _ (show 85 ≠ 63 by decide), up1_up1, nm, nn_s]
      have h1 := hrow (L 85) _ hx
      have h2 := hrow (L 63) _ hx
      simp only [if_pos ha] at h1 h2
      rw [h1, h2]
    · have hx : L 85 i = (if a1 = 0 then L 63 i else L 85 i) := (if_neg ha).symm
      simp only [nn5_le i (by omega), show ¬ 5 ≤ i by omega, if_false, gR_62_37, gR_62_1, xJ_63, yJ_63, xJ_85, yJ_85, nn_lt0 (i) (by omega), nn_nat (show i < 2147483648 by omega), show i < 5 by omega, not_false_eq_true, and_self, if_true, Option.bind_some, jn, if_neg ha, up1_e, Nat.reduceEqDiff, reduceIte, Nat.lt_irrefl, ite_self, up1_mid L _ _ _ (show 85 ≠ 63 by decide), up1_up1, nm, nn_s]
      have h1 := hrow (L 85) _ hx
      have h2 := hrow (L 63) _ hx
      simp only [if_neg ha, ite_self] at h1 h2
      rw [h1, h2]
  · simp only [nn5_le 5 (by omega), Nat.le_refl, if_true]
    rfl
end LY
