/-- the memory at the start -/
def h00 : Mem := (0, fun _ => 99, fun _ => 0, fun _ _ => 0, fun _ _ => 0, fun _ _ => 0)
def KDL : List Nat := [99, 9, 6, 1, 2, 11, 12, 12, 4, 11, 4, 11, 4, 11, 6, 1, 2, 11, 12, 12, 4, 11, 4, 11, 4, 11, 1, 2, 11, 12, 12, 0, 1, 2, 11, 12, 12, 11, 8, 11, 3, 12, 11, 12, 12, 5, 4, 11, 11, 14, 7, 12, 7, 12, 7, 12, 7, 12, 7, 12, 7, 12, 10, 12, 11, 11, 11, 12, 12, 11, 11, 11, 11, 11, 11, 13, 12, 12, 11, 11, 11, 12, 11, 11, 12, 12, 11]
def LNL : List Nat := [0, 9, 4, 3, 4, 5, 5, 5, 2, 12, 2, 24, 2, 24, 4, 3, 4, 5, 5, 5, 2, 12, 2, 24, 2, 24, 3, 4, 5, 5, 5, 6, 3, 4, 5, 5, 5, 6561, 2, 416, 6, 5, 8, 8, 8, 6, 2, 36, 100, 6, 3, 60, 3, 60, 3, 60, 3, 60, 3, 60, 3, 60, 39, 5, 12, 16, 16, 5, 5, 13122, 2500, 6561, 6561, 6561, 6, 13, 5, 5, 8, 100, 36, 5, 6, 6, 360, 5, 50]
def RRL : List (List Nat) := [[], [2, 14, 0, 26, 31, 38, 40, 45, 49], [3, 8, 10, 12], [4, 0, 0], [0, 5, 6, 7], [], [], [], [0, 9], [], [0, 11], [], [0, 13], [], [15, 20, 22, 24], [16, 0, 0], [0, 17, 18, 19], [], [], [], [0, 21], [], [0, 23], [], [0, 25], [], [27, 0, 0], [0, 28, 29, 30], [], [], [], [0, 0, 0, 0, 32, 37], [33, 0, 0], [0, 34, 35, 36], [], [], [], [], [0, 39], [], [0, 0, 41, 42, 43, 44], [], [], [], [], [0, 46, 48, 0, 0, 0], [0, 47], [], [], [50, 52, 54, 56, 58, 60], [0, 51, 0], [], [0, 53, 0], [], [0, 55, 0], [], [0, 57, 0], [], [0, 59, 0], [], [0, 61, 0], [], [0, 63, 0, 0, 64, 0, 65, 0, 66, 0, 67, 68, 69, 0, 70, 0, 71, 72, 73, 0, 74, 75, 76, 77, 78, 0, 0, 0, 79, 0, 0, 80, 81, 82, 83, 84, 0, 85, 86], [], [], [], [], [], [], [], [], [], [], [], [], [], [], [], [], [], [], [], [], [], [], [], []]
noncomputable def ini1 : Mem := ((fX9_init 1 (alM 9 9 h00)).getD ((), h00)).2
noncomputable def ini2 : Mem := ((fX10_init 62 (alM 10 39 ini1)).getD ((), h00)).2
theorem some_getD {α : Type} {d : Option (Unit × α)} {x : α} (h : d.isSome = true) : d = some ((), (d.getD ((), x)).2) := by
  cases d with
  | none => cases h
  | some y => rfl
theorem ini1_ok : fX9_init 1 (alM 9 9 h00) = some ((), ini1) := some_getD (by decide +kernel)
theorem ini1_sz : mSz ini1 = 61 := by decide +kernel
theorem ini2_ok : fX10_init 62 (alM 10 39 ini1) = some ((), ini2) := some_getD (by decide +kernel)
noncomputable def KD (a : Nat) : Nat := if a ≤ 86 then KDL.getD a 99 else mKd ini2 a
noncomputable def LN (a : Nat) : Nat := if a ≤ 86 then LNL.getD a 0 else mLn ini2 a
noncomputable def RR (a k : Nat) : Nat := if a ≤ 86 ∧ k ≤ 40 then (RRL.getD a []).getD k 0 else mR ini2 a k
theorem KD_ini : mKd ini2 = KD := by
  funext a
  unfold KD
  by_cases h : a ≤ 86
  · rw [if_pos h]
    exact (show ∀ a, a < 87 → mKd ini2 a = KDL.getD a 99 by decide +kernel) a (by omega)
  · rw [if_neg h]
theorem LN_ini : mLn ini2 = LN := by
  funext a
  unfold LN
  by_cases h : a ≤ 86
  · rw [if_pos h]
    exact (show ∀ a, a < 87 → mLn ini2 a = LNL.getD a 0 by decide +kernel) a (by omega)
  · rw [if_neg h]
theorem RR_ini : mR ini2 = RR := by
  funext a k
  unfold RR
  by_cases h : a ≤ 86 ∧ k ≤ 40
  · rw [if_pos h]
    exact (show ∀ a, a < 87 → ∀ k, k < 41 → mR ini2 a k = (RRL.getD a []).getD k 0 by decide +kernel) a (by omega) k (by omega)
  · rw [if_neg h]
noncomputable def I00 : Nat → Nat → Int32 := mI ini2
noncomputable def L00 : Nat → Nat → Int64 := mL ini2
noncomputable def mk (I : Nat → Nat → Int32) (L : Nat → Nat → Int64) : Mem := (86, KD, LN, RR, I, L)
theorem ini2_mk : ini2 = mk I00 L00 := by
  have h : ini2.1 = 86 := by decide +kernel
  show (ini2.1, mKd ini2, mLn ini2, mR ini2, mI ini2, mL ini2) = mk I00 L00
  rw [h, KD_ini, LN_ini, RR_ini]
  unfold mk I00 L00
  rfl
theorem mI_mk (I : Nat → Nat → Int32) (L : Nat → Nat → Int64) : mI (mk I L) = I := rfl
theorem mL_mk (I : Nat → Nat → Int32) (L : Nat → Nat → Int64) : mL (mk I L) = L := rfl
theorem mKd_mk (I : Nat → Nat → Int32) (L : Nat → Nat → Int64) (a : Nat) : mKd (mk I L) a = KD a := by simp only [mKd, mk]
theorem mLn_mk (I : Nat → Nat → Int32) (L : Nat → Nat → Int64) (a : Nat) : mLn (mk I L) a = LN a := by simp only [mLn, mk]
theorem mR_mk (I : Nat → Nat → Int32) (L : Nat → Nat → Int64) (a k : Nat) : mR (mk I L) a k = RR a k := by simp only [mR, mk]
theorem sI_mk (I : Nat → Nat → Int32) (L : Nat → Nat → Int64) (a : Nat) (f : Nat → Int32) : sI (mk I L) a f = mk (up1 I a f) L := rfl
theorem sL_mk (I : Nat → Nat → Int32) (L : Nat → Nat → Int64) (a : Nat) (f : Nat → Int64) : sL (mk I L) a f = mk I (up1 L a f) := rfl
section MEM
variable (I : Nat → Nat → Int32) (L : Nat → Nat → Int64)
theorem KD_1 : KD 1 = 9 := rfl
theorem kd_1 : mKd (mk I L) 1 = 9 := by rw [mKd_mk, KD_1]
theorem RR_1_0 : RR 1 0 = 2 := rfl
theorem gR_1_0 : gR 9 (mk I L) 1 0 = some 2 := by unfold gR; rw [mKd_mk, mR_mk, KD_1, RR_1_0]; rfl
theorem RR_1_1 : RR 1 1 = 14 := rfl
theorem gR_1_1 : gR 9 (mk I L) 1 1 = some 14 := by unfold gR; rw [mKd_mk, mR_mk, KD_1, RR_1_1]; rfl
theorem RR_1_3 : RR 1 3 = 26 := rfl
theorem gR_1_3 : gR 9 (mk I L) 1 3 = some 26 := by unfold gR; rw [mKd_mk, mR_mk, KD_1, RR_1_3]; rfl
theorem RR_1_4 : RR 1 4 = 31 := rfl
theorem gR_1_4 : gR 9 (mk I L) 1 4 = some 31 := by unfold gR; rw [mKd_mk, mR_mk, KD_1, RR_1_4]; rfl
theorem RR_1_5 : RR 1 5 = 38 := rfl
theorem gR_1_5 : gR 9 (mk I L) 1 5 = some 38 := by unfold gR; rw [mKd_mk, mR_mk, KD_1, RR_1_5]; rfl
theorem RR_1_6 : RR 1 6 = 40 := rfl
theorem gR_1_6 : gR 9 (mk I L) 1 6 = some 40 := by unfold gR; rw [mKd_mk, mR_mk, KD_1, RR_1_6]; rfl
theorem RR_1_7 : RR 1 7 = 45 := rfl
theorem gR_1_7 : gR 9 (mk I L) 1 7 = some 45 := by unfold gR; rw [mKd_mk, mR_mk, KD_1, RR_1_7]; rfl
theorem RR_1_8 : RR 1 8 = 49 := rfl
theorem gR_1_8 : gR 9 (mk I L) 1 8 = some 49 := by unfold gR; rw [mKd_mk, mR_mk, KD_1, RR_1_8]; rfl
theorem gI_1 (k : Nat) : gI 9 (mk I L) 1 k = some (I 1 k) := by unfold gI; rw [mKd_mk, KD_1]; rfl
theorem pI_1 (k : Nat) (v : Int32) : pI 9 (mk I L) 1 k v = some (mk (up1 I 1 (up1 (I 1) k v)) L) := by unfold pI; rw [mKd_mk, KD_1]; rfl
theorem KD_2 : KD 2 = 6 := rfl
theorem kd_2 : mKd (mk I L) 2 = 6 := by rw [mKd_mk, KD_2]
theorem RR_2_0 : RR 2 0 = 3 := rfl
theorem gR_2_0 : gR 6 (mk I L) 2 0 = some 3 := by unfold gR; rw [mKd_mk, mR_mk, KD_2, RR_2_0]; rfl
theorem RR_2_1 : RR 2 1 = 8 := rfl
theorem gR_2_1 : gR 6 (mk I L) 2 1 = some 8 := by unfold gR; rw [mKd_mk, mR_mk, KD_2, RR_2_1]; rfl
theorem RR_2_2 : RR 2 2 = 10 := rfl
theorem gR_2_2 : gR 6 (mk I L) 2 2 = some 10 := by unfold gR; rw [mKd_mk, mR_mk, KD_2, RR_2_2]; rfl
theorem RR_2_3 : RR 2 3 = 12 := rfl
theorem gR_2_3 : gR 6 (mk I L) 2 3 = some 12 := by unfold gR; rw [mKd_mk, mR_mk, KD_2, RR_2_3]; rfl
theorem gI_2 (k : Nat) : gI 6 (mk I L) 2 k = some (I 2 k) := by unfold gI; rw [mKd_mk, KD_2]; rfl
theorem pI_2 (k : Nat) (v : Int32) : pI 6 (mk I L) 2 k v = some (mk (up1 I 2 (up1 (I 2) k v)) L) := by unfold pI; rw [mKd_mk, KD_2]; rfl
theorem KD_3 : KD 3 = 1 := rfl
theorem kd_3 : mKd (mk I L) 3 = 1 := by rw [mKd_mk, KD_3]
theorem RR_3_0 : RR 3 0 = 4 := rfl
theorem gR_3_0 : gR 1 (mk I L) 3 0 = some 4 := by unfold gR; rw [mKd_mk, mR_mk, KD_3, RR_3_0]; rfl
theorem gI_3 (k : Nat) : gI 1 (mk I L) 3 k = some (I 3 k) := by unfold gI; rw [mKd_mk, KD_3]; rfl
theorem pI_3 (k : Nat) (v : Int32) : pI 1 (mk I L) 3 k v = some (mk (up1 I 3 (up1 (I 3) k v)) L) := by unfold pI; rw [mKd_mk, KD_3]; rfl
theorem KD_4 : KD 4 = 2 := rfl
theorem kd_4 : mKd (mk I L) 4 = 2 := by rw [mKd_mk, KD_4]
theorem RR_4_1 : RR 4 1 = 5 := rfl
theorem gR_4_1 : gR 2 (mk I L) 4 1 = some 5 := by unfold gR; rw [mKd_mk, mR_mk, KD_4, RR_4_1]; rfl
theorem RR_4_2 : RR 4 2 = 6 := rfl
theorem gR_4_2 : gR 2 (mk I L) 4 2 = some 6 := by unfold gR; rw [mKd_mk, mR_mk, KD_4, RR_4_2]; rfl
theorem RR_4_3 : RR 4 3 = 7 := rfl
theorem gR_4_3 : gR 2 (mk I L) 4 3 = some 7 := by unfold gR; rw [mKd_mk, mR_mk, KD_4, RR_4_3]; rfl
theorem gI_4 (k : Nat) : gI 2 (mk I L) 4 k = some (I 4 k) := by unfold gI; rw [mKd_mk, KD_4]; rfl
theorem pI_4 (k : Nat) (v : Int32) : pI 2 (mk I L) 4 k v = some (mk (up1 I 4 (up1 (I 4) k v)) L) := by unfold pI; rw [mKd_mk, KD_4]; rfl
theorem KD_5 : KD 5 = 11 := rfl
theorem kd_5 : mKd (mk I L) 5 = 11 := by rw [mKd_mk, KD_5]
theorem LN_5 : LN 5 = 5 := rfl
theorem ln_5 : aLn (mk I L) 5 = some 5 := by unfold aLn; rw [mKd_mk, mLn_mk, KD_5, LN_5]; rfl
theorem xI_5 (i : Int32) : xI 11 (mk I L) 5 i = if ¬ i < 0 ∧ i.toNatClampNeg < 5 then some (I 5 i.toNatClampNeg) else none := by unfold xI; rw [mKd_mk, mLn_mk, KD_5, LN_5]; simp only [true_and]; rfl
theorem yI_5 (i v : Int32) : yI 11 (mk I L) 5 i v = if ¬ i < 0 ∧ i.toNatClampNeg < 5 then some (mk (up1 I 5 (up1 (I 5) i.toNatClampNeg v)) L) else none := by unfold yI; rw [mKd_mk, mLn_mk, KD_5, LN_5]; simp only [true_and]; rfl
theorem KD_6 : KD 6 = 12 := rfl
theorem kd_6 : mKd (mk I L) 6 = 12 := by rw [mKd_mk, KD_6]
theorem LN_6 : LN 6 = 5 := rfl
theorem ln_6 : aLn (mk I L) 6 = some 5 := by unfold aLn; rw [mKd_mk, mLn_mk, KD_6, LN_6]; rfl
theorem xJ_6 (i : Int32) : xJ (mk I L) 6 i = if ¬ i < 0 ∧ i.toNatClampNeg < 5 then some (L 6 i.toNatClampNeg) else none := by unfold xJ; rw [mKd_mk, mLn_mk, KD_6, LN_6]; simp only [true_and]; rfl
theorem yJ_6 (i : Int32) (v : Int64) : yJ (mk I L) 6 i v = if ¬ i < 0 ∧ i.toNatClampNeg < 5 then some (mk I (up1 L 6 (up1 (L 6) i.toNatClampNeg v))) else none := by unfold yJ; rw [mKd_mk, mLn_mk, KD_6, LN_6]; simp only [true_and]; rfl
theorem KD_7 : KD 7 = 12 := rfl
theorem kd_7 : mKd (mk I L) 7 = 12 := by rw [mKd_mk, KD_7]
theorem LN_7 : LN 7 = 5 := rfl
theorem ln_7 : aLn (mk I L) 7 = some 5 := by unfold aLn; rw [mKd_mk, mLn_mk, KD_7, LN_7]; rfl
theorem xJ_7 (i : Int32) : xJ (mk I L) 7 i = if ¬ i < 0 ∧ i.toNatClampNeg < 5 then some (L 7 i.toNatClampNeg) else none := by unfold xJ; rw [mKd_mk, mLn_mk, KD_7, LN_7]; simp only [true_and]; rfl
theorem yJ_7 (i : Int32) (v : Int64) : yJ (mk I L) 7 i v = if ¬ i < 0 ∧ i.toNatClampNeg < 5 then some (mk I (up1 L 7 (up1 (L 7) i.toNatClampNeg v))) else none := by unfold yJ; rw [mKd_mk, mLn_mk, KD_7, LN_7]; simp only [true_and]; rfl
theorem KD_8 : KD 8 = 4 := rfl
theorem kd_8 : mKd (mk I L) 8 = 4 := by rw [mKd_mk, KD_8]
theorem RR_8_1 : RR 8 1 = 9 := rfl
theorem gR_8_1 : gR 4 (mk I L) 8 1 = some 9 := by unfold gR; rw [mKd_mk, mR_mk, KD_8, RR_8_1]; rfl
theorem gI_8 (k : Nat) : gI 4 (mk I L) 8 k = some (I 8 k) := by unfold gI; rw [mKd_mk, KD_8]; rfl
theorem pI_8 (k : Nat) (v : Int32) : pI 4 (mk I L) 8 k v = some (mk (up1 I 8 (up1 (I 8) k v)) L) := by unfold pI; rw [mKd_mk, KD_8]; rfl
theorem KD_9 : KD 9 = 11 := rfl
theorem kd_9 : mKd (mk I L) 9 = 11 := by rw [mKd_mk, KD_9]
theorem LN_9 : LN 9 = 12 := rfl
theorem ln_9 : aLn (mk I L) 9 = some 12 := by unfold aLn; rw [mKd_mk, mLn_mk, KD_9, LN_9]; rfl
theorem xI_9 (i : Int32) : xI 11 (mk I L) 9 i = if ¬ i < 0 ∧ i.toNatClampNeg < 12 then some (I 9 i.toNatClampNeg) else none := by unfold xI; rw [mKd_mk, mLn_mk, KD_9, LN_9]; simp only [true_and]; rfl
theorem yI_9 (i v : Int32) : yI 11 (mk I L) 9 i v = if ¬ i < 0 ∧ i.toNatClampNeg < 12 then some (mk (up1 I 9 (up1 (I 9) i.toNatClampNeg v)) L) else none := by unfold yI; rw [mKd_mk, mLn_mk, KD_9, LN_9]; simp only [true_and]; rfl
theorem KD_10 : KD 10 = 4 := rfl
theorem kd_10 : mKd (mk I L) 10 = 4 := by rw [mKd_mk, KD_10]
theorem RR_10_1 : RR 10 1 = 11 := rfl
theorem gR_10_1 : gR 4 (mk I L) 10 1 = some 11 := by unfold gR; rw [mKd_mk, mR_mk, KD_10, RR_10_1]; rfl
theorem gI_10 (k : Nat) : gI 4 (mk I L) 10 k = some (I 10 k) := by unfold gI; rw [mKd_mk, KD_10]; rfl
theorem pI_10 (k : Nat) (v : Int32) : pI 4 (mk I L) 10 k v = some (mk (up1 I 10 (up1 (I 10) k v)) L) := by unfold pI; rw [mKd_mk, KD_10]; rfl
theorem KD_11 : KD 11 = 11 := rfl
theorem kd_11 : mKd (mk I L) 11 = 11 := by rw [mKd_mk, KD_11]
theorem LN_11 : LN 11 = 24 := rfl
theorem ln_11 : aLn (mk I L) 11 = some 24 := by unfold aLn; rw [mKd_mk, mLn_mk, KD_11, LN_11]; rfl
theorem xI_11 (i : Int32) : xI 11 (mk I L) 11 i = if ¬ i < 0 ∧ i.toNatClampNeg < 24 then some (I 11 i.toNatClampNeg) else none := by unfold xI; rw [mKd_mk, mLn_mk, KD_11, LN_11]; simp only [true_and]; rfl
theorem yI_11 (i v : Int32) : yI 11 (mk I L) 11 i v = if ¬ i < 0 ∧ i.toNatClampNeg < 24 then some (mk (up1 I 11 (up1 (I 11) i.toNatClampNeg v)) L) else none := by unfold yI; rw [mKd_mk, mLn_mk, KD_11, LN_11]; simp only [true_and]; rfl
theorem KD_12 : KD 12 = 4 := rfl
theorem kd_12 : mKd (mk I L) 12 = 4 := by rw [mKd_mk, KD_12]
theorem RR_12_1 : RR 12 1 = 13 := rfl
theorem gR_12_1 : gR 4 (mk I L) 12 1 = some 13 := by unfold gR; rw [mKd_mk, mR_mk, KD_12, RR_12_1]; rfl
theorem gI_12 (k : Nat) : gI 4 (mk I L) 12 k = some (I 12 k) := by unfold gI; rw [mKd_mk, KD_12]; rfl
theorem pI_12 (k : Nat) (v : Int32) : pI 4 (mk I L) 12 k v = some (mk (up1 I 12 (up1 (I 12) k v)) L) := by unfold pI; rw [mKd_mk, KD_12]; rfl
theorem KD_13 : KD 13 = 11 := rfl
theorem kd_13 : mKd (mk I L) 13 = 11 := by rw [mKd_mk, KD_13]
theorem LN_13 : LN 13 = 24 := rfl
theorem ln_13 : aLn (mk I L) 13 = some 24 := by unfold aLn; rw [mKd_mk, mLn_mk, KD_13, LN_13]; rfl
theorem xI_13 (i : Int32) : xI 11 (mk I L) 13 i = if ¬ i < 0 ∧ i.toNatClampNeg < 24 then some (I 13 i.toNatClampNeg) else none := by unfold xI; rw [mKd_mk, mLn_mk, KD_13, LN_13]; simp only [true_and]; rfl
theorem yI_13 (i v : Int32) : yI 11 (mk I L) 13 i v = if ¬ i < 0 ∧ i.toNatClampNeg < 24 then some (mk (up1 I 13 (up1 (I 13) i.toNatClampNeg v)) L) else none := by unfold yI; rw [mKd_mk, mLn_mk, KD_13, LN_13]; simp only [true_and]; rfl
theorem KD_14 : KD 14 = 6 := rfl
theorem kd_14 : mKd (mk I L) 14 = 6 := by rw [mKd_mk, KD_14]
theorem RR_14_0 : RR 14 0 = 15 := rfl
theorem gR_14_0 : gR 6 (mk I L) 14 0 = some 15 := by unfold gR; rw [mKd_mk, mR_mk, KD_14, RR_14_0]; rfl
theorem RR_14_1 : RR 14 1 = 20 := rfl
theorem gR_14_1 : gR 6 (mk I L) 14 1 = some 20 := by unfold gR; rw [mKd_mk, mR_mk, KD_14, RR_14_1]; rfl
theorem RR_14_2 : RR 14 2 = 22 := rfl
theorem gR_14_2 : gR 6 (mk I L) 14 2 = some 22 := by unfold gR; rw [mKd_mk, mR_mk, KD_14, RR_14_2]; rfl
theorem RR_14_3 : RR 14 3 = 24 := rfl
theorem gR_14_3 : gR 6 (mk I L) 14 3 = some 24 := by unfold gR; rw [mKd_mk, mR_mk, KD_14, RR_14_3]; rfl
theorem gI_14 (k : Nat) : gI 6 (mk I L) 14 k = some (I 14 k) := by unfold gI; rw [mKd_mk, KD_14]; rfl
theorem pI_14 (k : Nat) (v : Int32) : pI 6 (mk I L) 14 k v = some (mk (up1 I 14 (up1 (I 14) k v)) L) := by unfold pI; rw [mKd_mk, KD_14]; rfl
theorem KD_15 : KD 15 = 1 := rfl
theorem kd_15 : mKd (mk I L) 15 = 1 := by rw [mKd_mk, KD_15]
theorem RR_15_0 : RR 15 0 = 16 := rfl
theorem gR_15_0 : gR 1 (mk I L) 15 0 = some 16 := by unfold gR; rw [mKd_mk, mR_mk, KD_15, RR_15_0]; rfl
theorem gI_15 (k : Nat) : gI 1 (mk I L) 15 k = some (I 15 k) := by unfold gI; rw [mKd_mk, KD_15]; rfl
theorem pI_15 (k : Nat) (v : Int32) : pI 1 (mk I L) 15 k v = some (mk (up1 I 15 (up1 (I 15) k v)) L) := by unfold pI; rw [mKd_mk, KD_15]; rfl
theorem KD_16 : KD 16 = 2 := rfl
theorem kd_16 : mKd (mk I L) 16 = 2 := by rw [mKd_mk, KD_16]
theorem RR_16_1 : RR 16 1 = 17 := rfl
theorem gR_16_1 : gR 2 (mk I L) 16 1 = some 17 := by unfold gR; rw [mKd_mk, mR_mk, KD_16, RR_16_1]; rfl
theorem RR_16_2 : RR 16 2 = 18 := rfl
theorem gR_16_2 : gR 2 (mk I L) 16 2 = some 18 := by unfold gR; rw [mKd_mk, mR_mk, KD_16, RR_16_2]; rfl
theorem RR_16_3 : RR 16 3 = 19 := rfl
theorem gR_16_3 : gR 2 (mk I L) 16 3 = some 19 := by unfold gR; rw [mKd_mk, mR_mk, KD_16, RR_16_3]; rfl
theorem gI_16 (k : Nat) : gI 2 (mk I L) 16 k = some (I 16 k) := by unfold gI; rw [mKd_mk, KD_16]; rfl
theorem pI_16 (k : Nat) (v : Int32) : pI 2 (mk I L) 16 k v = some (mk (up1 I 16 (up1 (I 16) k v)) L) := by unfold pI; rw [mKd_mk, KD_16]; rfl
theorem KD_17 : KD 17 = 11 := rfl
theorem kd_17 : mKd (mk I L) 17 = 11 := by rw [mKd_mk, KD_17]
theorem LN_17 : LN 17 = 5 := rfl
theorem ln_17 : aLn (mk I L) 17 = some 5 := by unfold aLn; rw [mKd_mk, mLn_mk, KD_17, LN_17]; rfl
theorem xI_17 (i : Int32) : xI 11 (mk I L) 17 i = if ¬ i < 0 ∧ i.toNatClampNeg < 5 then some (I 17 i.toNatClampNeg) else none := by unfold xI; rw [mKd_mk, mLn_mk, KD_17, LN_17]; simp only [true_and]; rfl
theorem yI_17 (i v : Int32) : yI 11 (mk I L) 17 i v = if ¬ i < 0 ∧ i.toNatClampNeg < 5 then some (mk (up1 I 17 (up1 (I 17) i.toNatClampNeg v)) L) else none := by unfold yI; rw [mKd_mk, mLn_mk, KD_17, LN_17]; simp only [true_and]; rfl
theorem KD_18 : KD 18 = 12 := rfl
theorem kd_18 : mKd (mk I L) 18 = 12 := by rw [mKd_mk, KD_18]
theorem LN_18 : LN 18 = 5 := rfl
theorem ln_18 : aLn (mk I L) 18 = some 5 := by unfold aLn; rw [mKd_mk, mLn_mk, KD_18, LN_18]; rfl
theorem xJ_18 (i : Int32) : xJ (mk I L) 18 i = if ¬ i < 0 ∧ i.toNatClampNeg < 5 then some (L 18 i.toNatClampNeg) else none := by unfold xJ; rw [mKd_mk, mLn_mk, KD_18, LN_18]; simp only [true_and]; rfl
theorem yJ_18 (i : Int32) (v : Int64) : yJ (mk I L) 18 i v = if ¬ i < 0 ∧ i.toNatClampNeg < 5 then some (mk I (up1 L 18 (up1 (L 18) i.toNatClampNeg v))) else none := by unfold yJ; rw [mKd_mk, mLn_mk, KD_18, LN_18]; simp only [true_and]; rfl
theorem KD_19 : KD 19 = 12 := rfl
theorem kd_19 : mKd (mk I L) 19 = 12 := by rw [mKd_mk, KD_19]
theorem LN_19 : LN 19 = 5 := rfl
theorem ln_19 : aLn (mk I L) 19 = some 5 := by unfold aLn; rw [mKd_mk, mLn_mk, KD_19, LN_19]; rfl
theorem xJ_19 (i : Int32) : xJ (mk I L) 19 i = if ¬ i < 0 ∧ i.toNatClampNeg < 5 then some (L 19 i.toNatClampNeg) else none := by unfold xJ; rw [mKd_mk, mLn_mk, KD_19, LN_19]; simp only [true_and]; rfl
theorem yJ_19 (i : Int32) (v : Int64) : yJ (mk I L) 19 i v = if ¬ i < 0 ∧ i.toNatClampNeg < 5 then some (mk I (up1 L 19 (up1 (L 19) i.toNatClampNeg v))) else none := by unfold yJ; rw [mKd_mk, mLn_mk, KD_19, LN_19]; simp only [true_and]; rfl
theorem KD_20 : KD 20 = 4 := rfl
theorem kd_20 : mKd (mk I L) 20 = 4 := by rw [mKd_mk, KD_20]
theorem RR_20_1 : RR 20 1 = 21 := rfl
theorem gR_20_1 : gR 4 (mk I L) 20 1 = some 21 := by unfold gR; rw [mKd_mk, mR_mk, KD_20, RR_20_1]; rfl
theorem gI_20 (k : Nat) : gI 4 (mk I L) 20 k = some (I 20 k) := by unfold gI; rw [mKd_mk, KD_20]; rfl
theorem pI_20 (k : Nat) (v : Int32) : pI 4 (mk I L) 20 k v = some (mk (up1 I 20 (up1 (I 20) k v)) L) := by unfold pI; rw [mKd_mk, KD_20]; rfl
theorem KD_21 : KD 21 = 11 := rfl
theorem kd_21 : mKd (mk I L) 21 = 11 := by rw [mKd_mk, KD_21]
theorem LN_21 : LN 21 = 12 := rfl
theorem ln_21 : aLn (mk I L) 21 = some 12 := by unfold aLn; rw [mKd_mk, mLn_mk, KD_21, LN_21]; rfl
theorem xI_21 (i : Int32) : xI 11 (mk I L) 21 i = if ¬ i < 0 ∧ i.toNatClampNeg < 12 then some (I 21 i.toNatClampNeg) else none := by unfold xI; rw [mKd_mk, mLn_mk, KD_21, LN_21]; simp only [true_and]; rfl
theorem yI_21 (i v : Int32) : yI 11 (mk I L) 21 i v = if ¬ i < 0 ∧ i.toNatClampNeg < 12 then some (mk (up1 I 21 (up1 (I 21) i.toNatClampNeg v)) L) else none := by unfold yI; rw [mKd_mk, mLn_mk, KD_21, LN_21]; simp only [true_and]; rfl
theorem KD_22 : KD 22 = 4 := rfl
theorem kd_22 : mKd (mk I L) 22 = 4 := by rw [mKd_mk, KD_22]
theorem RR_22_1 : RR 22 1 = 23 := rfl
theorem gR_22_1 : gR 4 (mk I L) 22 1 = some 23 := by unfold gR; rw [mKd_mk, mR_mk, KD_22, RR_22_1]; rfl
theorem gI_22 (k : Nat) : gI 4 (mk I L) 22 k = some (I 22 k) := by unfold gI; rw [mKd_mk, KD_22]; rfl
theorem pI_22 (k : Nat) (v : Int32) : pI 4 (mk I L) 22 k v = some (mk (up1 I 22 (up1 (I 22) k v)) L) := by unfold pI; rw [mKd_mk, KD_22]; rfl
theorem KD_23 : KD 23 = 11 := rfl
theorem kd_23 : mKd (mk I L) 23 = 11 := by rw [mKd_mk, KD_23]
theorem LN_23 : LN 23 = 24 := rfl
theorem ln_23 : aLn (mk I L) 23 = some 24 := by unfold aLn; rw [mKd_mk, mLn_mk, KD_23, LN_23]; rfl
theorem xI_23 (i : Int32) : xI 11 (mk I L) 23 i = if ¬ i < 0 ∧ i.toNatClampNeg < 24 then some (I 23 i.toNatClampNeg) else none := by unfold xI; rw [mKd_mk, mLn_mk, KD_23, LN_23]; simp only [true_and]; rfl
theorem yI_23 (i v : Int32) : yI 11 (mk I L) 23 i v = if ¬ i < 0 ∧ i.toNatClampNeg < 24 then some (mk (up1 I 23 (up1 (I 23) i.toNatClampNeg v)) L) else none := by unfold yI; rw [mKd_mk, mLn_mk, KD_23, LN_23]; simp only [true_and]; rfl
theorem KD_24 : KD 24 = 4 := rfl
theorem kd_24 : mKd (mk I L) 24 = 4 := by rw [mKd_mk, KD_24]
theorem RR_24_1 : RR 24 1 = 25 := rfl
theorem gR_24_1 : gR 4 (mk I L) 24 1 = some 25 := by unfold gR; rw [mKd_mk, mR_mk, KD_24, RR_24_1]; rfl
theorem gI_24 (k : Nat) : gI 4 (mk I L) 24 k = some (I 24 k) := by unfold gI; rw [mKd_mk, KD_24]; rfl
theorem pI_24 (k : Nat) (v : Int32) : pI 4 (mk I L) 24 k v = some (mk (up1 I 24 (up1 (I 24) k v)) L) := by unfold pI; rw [mKd_mk, KD_24]; rfl
theorem KD_25 : KD 25 = 11 := rfl
theorem kd_25 : mKd (mk I L) 25 = 11 := by rw [mKd_mk, KD_25]
theorem LN_25 : LN 25 = 24 := rfl
theorem ln_25 : aLn (mk I L) 25 = some 24 := by unfold aLn; rw [mKd_mk, mLn_mk, KD_25, LN_25]; rfl
theorem xI_25 (i : Int32) : xI 11 (mk I L) 25 i = if ¬ i < 0 ∧ i.toNatClampNeg < 24 then some (I 25 i.toNatClampNeg) else none := by unfold xI; rw [mKd_mk, mLn_mk, KD_25, LN_25]; simp only [true_and]; rfl
theorem yI_25 (i v : Int32) : yI 11 (mk I L) 25 i v = if ¬ i < 0 ∧ i.toNatClampNeg < 24 then some (mk (up1 I 25 (up1 (I 25) i.toNatClampNeg v)) L) else none := by unfold yI; rw [mKd_mk, mLn_mk, KD_25, LN_25]; simp only [true_and]; rfl
theorem KD_26 : KD 26 = 1 := rfl
theorem kd_26 : mKd (mk I L) 26 = 1 := by rw [mKd_mk, KD_26]
theorem RR_26_0 : RR 26 0 = 27 := rfl
theorem gR_26_0 : gR 1 (mk I L) 26 0 = some 27 := by unfold gR; rw [mKd_mk, mR_mk, KD_26, RR_26_0]; rfl
theorem gI_26 (k : Nat) : gI 1 (mk I L) 26 k = some (I 26 k) := by unfold gI; rw [mKd_mk, KD_26]; rfl
theorem pI_26 (k : Nat) (v : Int32) : pI 1 (mk I L) 26 k v = some (mk (up1 I 26 (up1 (I 26) k v)) L) := by unfold pI; rw [mKd_mk, KD_26]; rfl
theorem KD_27 : KD 27 = 2 := rfl
theorem kd_27 : mKd (mk I L) 27 = 2 := by rw [mKd_mk, KD_27]
theorem RR_27_1 : RR 27 1 = 28 := rfl
theorem gR_27_1 : gR 2 (mk I L) 27 1 = some 28 := by unfold gR; rw [mKd_mk, mR_mk, KD_27, RR_27_1]; rfl
theorem RR_27_2 : RR 27 2 = 29 := rfl
theorem gR_27_2 : gR 2 (mk I L) 27 2 = some 29 := by unfold gR; rw [mKd_mk, mR_mk, KD_27, RR_27_2]; rfl
theorem RR_27_3 : RR 27 3 = 30 := rfl
theorem gR_27_3 : gR 2 (mk I L) 27 3 = some 30 := by unfold gR; rw [mKd_mk, mR_mk, KD_27, RR_27_3]; rfl
theorem gI_27 (k : Nat) : gI 2 (mk I L) 27 k = some (I 27 k) := by unfold gI; rw [mKd_mk, KD_27]; rfl
theorem pI_27 (k : Nat) (v : Int32) : pI 2 (mk I L) 27 k v = some (mk (up1 I 27 (up1 (I 27) k v)) L) := by unfold pI; rw [mKd_mk, KD_27]; rfl
theorem KD_28 : KD 28 = 11 := rfl
theorem kd_28 : mKd (mk I L) 28 = 11 := by rw [mKd_mk, KD_28]
theorem LN_28 : LN 28 = 5 := rfl
theorem ln_28 : aLn (mk I L) 28 = some 5 := by unfold aLn; rw [mKd_mk, mLn_mk, KD_28, LN_28]; rfl
theorem xI_28 (i : Int32) : xI 11 (mk I L) 28 i = if ¬ i < 0 ∧ i.toNatClampNeg < 5 then some (I 28 i.toNatClampNeg) else none := by unfold xI; rw [mKd_mk, mLn_mk, KD_28, LN_28]; simp only [true_and]; rfl
theorem yI_28 (i v : Int32) : yI 11 (mk I L) 28 i v = if ¬ i < 0 ∧ i.toNatClampNeg < 5 then some (mk (up1 I 28 (up1 (I 28) i.toNatClampNeg v)) L) else none := by unfold yI; rw [mKd_mk, mLn_mk, KD_28, LN_28]; simp only [true_and]; rfl
theorem KD_29 : KD 29 = 12 := rfl
theorem kd_29 : mKd (mk I L) 29 = 12 := by rw [mKd_mk, KD_29]
theorem LN_29 : LN 29 = 5 := rfl
theorem ln_29 : aLn (mk I L) 29 = some 5 := by unfold aLn; rw [mKd_mk, mLn_mk, KD_29, LN_29]; rfl
theorem xJ_29 (i : Int32) : xJ (mk I L) 29 i = if ¬ i < 0 ∧ i.toNatClampNeg < 5 then some (L 29 i.toNatClampNeg) else none := by unfold xJ; rw [mKd_mk, mLn_mk, KD_29, LN_29]; simp only [true_and]; rfl
theorem yJ_29 (i : Int32) (v : Int64) : yJ (mk I L) 29 i v = if ¬ i < 0 ∧ i.toNatClampNeg < 5 then some (mk I (up1 L 29 (up1 (L 29) i.toNatClampNeg v))) else none := by unfold yJ; rw [mKd_mk, mLn_mk, KD_29, LN_29]; simp only [true_and]; rfl
theorem KD_30 : KD 30 = 12 := rfl
theorem kd_30 : mKd (mk I L) 30 = 12 := by rw [mKd_mk, KD_30]
theorem LN_30 : LN 30 = 5 := rfl
theorem ln_30 : aLn (mk I L) 30 = some 5 := by unfold aLn; rw [mKd_mk, mLn_mk, KD_30, LN_30]; rfl
theorem xJ_30 (i : Int32) : xJ (mk I L) 30 i = if ¬ i < 0 ∧ i.toNatClampNeg < 5 then some (L 30 i.toNatClampNeg) else none := by unfold xJ; rw [mKd_mk, mLn_mk, KD_30, LN_30]; simp only [true_and]; rfl
theorem yJ_30 (i : Int32) (v : Int64) : yJ (mk I L) 30 i v = if ¬ i < 0 ∧ i.toNatClampNeg < 5 then some (mk I (up1 L 30 (up1 (L 30) i.toNatClampNeg v))) else none := by unfold yJ; rw [mKd_mk, mLn_mk, KD_30, LN_30]; simp only [true_and]; rfl
theorem KD_31 : KD 31 = 0 := rfl
theorem kd_31 : mKd (mk I L) 31 = 0 := by rw [mKd_mk, KD_31]
theorem RR_31_4 : RR 31 4 = 32 := rfl
theorem gR_31_4 : gR 0 (mk I L) 31 4 = some 32 := by unfold gR; rw [mKd_mk, mR_mk, KD_31, RR_31_4]; rfl
theorem RR_31_5 : RR 31 5 = 37 := rfl
theorem gR_31_5 : gR 0 (mk I L) 31 5 = some 37 := by unfold gR; rw [mKd_mk, mR_mk, KD_31, RR_31_5]; rfl
theorem gI_31 (k : Nat) : gI 0 (mk I L) 31 k = some (I 31 k) := by unfold gI; rw [mKd_mk, KD_31]; rfl
theorem pI_31 (k : Nat) (v : Int32) : pI 0 (mk I L) 31 k v = some (mk (up1 I 31 (up1 (I 31) k v)) L) := by unfold pI; rw [mKd_mk, KD_31]; rfl
theorem KD_32 : KD 32 = 1 := rfl
theorem kd_32 : mKd (mk I L) 32 = 1 := by rw [mKd_mk, KD_32]
theorem RR_32_0 : RR 32 0 = 33 := rfl
theorem gR_32_0 : gR 1 (mk I L) 32 0 = some 33 := by unfold gR; rw [mKd_mk, mR_mk, KD_32, RR_32_0]; rfl
theorem gI_32 (k : Nat) : gI 1 (mk I L) 32 k = some (I 32 k) := by unfold gI; rw [mKd_mk, KD_32]; rfl
theorem pI_32 (k : Nat) (v : Int32) : pI 1 (mk I L) 32 k v = some (mk (up1 I 32 (up1 (I 32) k v)) L) := by unfold pI; rw [mKd_mk, KD_32]; rfl
theorem KD_33 : KD 33 = 2 := rfl
theorem kd_33 : mKd (mk I L) 33 = 2 := by rw [mKd_mk, KD_33]
theorem RR_33_1 : RR 33 1 = 34 := rfl
theorem gR_33_1 : gR 2 (mk I L) 33 1 = some 34 := by unfold gR; rw [mKd_mk, mR_mk, KD_33, RR_33_1]; rfl
theorem RR_33_2 : RR 33 2 = 35 := rfl
theorem gR_33_2 : gR 2 (mk I L) 33 2 = some 35 := by unfold gR; rw [mKd_mk, mR_mk, KD_33, RR_33_2]; rfl
theorem RR_33_3 : RR 33 3 = 36 := rfl
theorem gR_33_3 : gR 2 (mk I L) 33 3 = some 36 := by unfold gR; rw [mKd_mk, mR_mk, KD_33, RR_33_3]; rfl
theorem gI_33 (k : Nat) : gI 2 (mk I L) 33 k = some (I 33 k) := by unfold gI; rw [mKd_mk, KD_33]; rfl
theorem pI_33 (k : Nat) (v : Int32) : pI 2 (mk I L) 33 k v = some (mk (up1 I 33 (up1 (I 33) k v)) L) := by unfold pI; rw [mKd_mk, KD_33]; rfl
theorem KD_34 : KD 34 = 11 := rfl
theorem kd_34 : mKd (mk I L) 34 = 11 := by rw [mKd_mk, KD_34]
theorem LN_34 : LN 34 = 5 := rfl
theorem ln_34 : aLn (mk I L) 34 = some 5 := by unfold aLn; rw [mKd_mk, mLn_mk, KD_34, LN_34]; rfl
theorem xI_34 (i : Int32) : xI 11 (mk I L) 34 i = if ¬ i < 0 ∧ i.toNatClampNeg < 5 then some (I 34 i.toNatClampNeg) else none := by unfold xI; rw [mKd_mk, mLn_mk, KD_34, LN_34]; simp only [true_and]; rfl
theorem yI_34 (i v : Int32) : yI 11 (mk I L) 34 i v = if ¬ i < 0 ∧ i.toNatClampNeg < 5 then some (mk (up1 I 34 (up1 (I 34) i.toNatClampNeg v)) L) else none := by unfold yI; rw [mKd_mk, mLn_mk, KD_34, LN_34]; simp only [true_and]; rfl
theorem KD_35 : KD 35 = 12 := rfl
theorem kd_35 : mKd (mk I L) 35 = 12 := by rw [mKd_mk, KD_35]
theorem LN_35 : LN 35 = 5 := rfl
theorem ln_35 : aLn (mk I L) 35 = some 5 := by unfold aLn; rw [mKd_mk, mLn_mk, KD_35, LN_35]; rfl
theorem xJ_35 (i : Int32) : xJ (mk I L) 35 i = if ¬ i < 0 ∧ i.toNatClampNeg < 5 then some (L 35 i.toNatClampNeg) else none := by unfold xJ; rw [mKd_mk, mLn_mk, KD_35, LN_35]; simp only [true_and]; rfl
theorem yJ_35 (i : Int32) (v : Int64) : yJ (mk I L) 35 i v = if ¬ i < 0 ∧ i.toNatClampNeg < 5 then some (mk I (up1 L 35 (up1 (L 35) i.toNatClampNeg v))) else none := by unfold yJ; rw [mKd_mk, mLn_mk, KD_35, LN_35]; simp only [true_and]; rfl
theorem KD_36 : KD 36 = 12 := rfl
theorem kd_36 : mKd (mk I L) 36 = 12 := by rw [mKd_mk, KD_36]
theorem LN_36 : LN 36 = 5 := rfl
theorem ln_36 : aLn (mk I L) 36 = some 5 := by unfold aLn; rw [mKd_mk, mLn_mk, KD_36, LN_36]; rfl
theorem xJ_36 (i : Int32) : xJ (mk I L) 36 i = if ¬ i < 0 ∧ i.toNatClampNeg < 5 then some (L 36 i.toNatClampNeg) else none := by unfold xJ; rw [mKd_mk, mLn_mk, KD_36, LN_36]; simp only [true_and]; rfl
theorem yJ_36 (i : Int32) (v : Int64) : yJ (mk I L) 36 i v = if ¬ i < 0 ∧ i.toNatClampNeg < 5 then some (mk I (up1 L 36 (up1 (L 36) i.toNatClampNeg v))) else none := by unfold yJ; rw [mKd_mk, mLn_mk, KD_36, LN_36]; simp only [true_and]; rfl
theorem KD_37 : KD 37 = 11 := rfl
theorem kd_37 : mKd (mk I L) 37 = 11 := by rw [mKd_mk, KD_37]
theorem LN_37 : LN 37 = 6561 := rfl
theorem ln_37 : aLn (mk I L) 37 = some 6561 := by unfold aLn; rw [mKd_mk, mLn_mk, KD_37, LN_37]; rfl
theorem xI_37 (i : Int32) : xI 11 (mk I L) 37 i = if ¬ i < 0 ∧ i.toNatClampNeg < 6561 then some (I 37 i.toNatClampNeg) else none := by unfold xI; rw [mKd_mk, mLn_mk, KD_37, LN_37]; simp only [true_and]; rfl
theorem yI_37 (i v : Int32) : yI 11 (mk I L) 37 i v = if ¬ i < 0 ∧ i.toNatClampNeg < 6561 then some (mk (up1 I 37 (up1 (I 37) i.toNatClampNeg v)) L) else none := by unfold yI; rw [mKd_mk, mLn_mk, KD_37, LN_37]; simp only [true_and]; rfl
theorem KD_38 : KD 38 = 8 := rfl
theorem kd_38 : mKd (mk I L) 38 = 8 := by rw [mKd_mk, KD_38]
theorem RR_38_1 : RR 38 1 = 39 := rfl
theorem gR_38_1 : gR 8 (mk I L) 38 1 = some 39 := by unfold gR; rw [mKd_mk, mR_mk, KD_38, RR_38_1]; rfl
theorem gI_38 (k : Nat) : gI 8 (mk I L) 38 k = some (I 38 k) := by unfold gI; rw [mKd_mk, KD_38]; rfl
theorem pI_38 (k : Nat) (v : Int32) : pI 8 (mk I L) 38 k v = some (mk (up1 I 38 (up1 (I 38) k v)) L) := by unfold pI; rw [mKd_mk, KD_38]; rfl
theorem KD_39 : KD 39 = 11 := rfl
theorem kd_39 : mKd (mk I L) 39 = 11 := by rw [mKd_mk, KD_39]
theorem LN_39 : LN 39 = 416 := rfl
theorem ln_39 : aLn (mk I L) 39 = some 416 := by unfold aLn; rw [mKd_mk, mLn_mk, KD_39, LN_39]; rfl
theorem xI_39 (i : Int32) : xI 11 (mk I L) 39 i = if ¬ i < 0 ∧ i.toNatClampNeg < 416 then some (I 39 i.toNatClampNeg) else none := by unfold xI; rw [mKd_mk, mLn_mk, KD_39, LN_39]; simp only [true_and]; rfl
theorem yI_39 (i v : Int32) : yI 11 (mk I L) 39 i v = if ¬ i < 0 ∧ i.toNatClampNeg < 416 then some (mk (up1 I 39 (up1 (I 39) i.toNatClampNeg v)) L) else none := by unfold yI; rw [mKd_mk, mLn_mk, KD_39, LN_39]; simp only [true_and]; rfl
theorem KD_40 : KD 40 = 3 := rfl
theorem kd_40 : mKd (mk I L) 40 = 3 := by rw [mKd_mk, KD_40]
theorem RR_40_2 : RR 40 2 = 41 := rfl
theorem gR_40_2 : gR 3 (mk I L) 40 2 = some 41 := by unfold gR; rw [mKd_mk, mR_mk, KD_40, RR_40_2]; rfl
theorem RR_40_3 : RR 40 3 = 42 := rfl
theorem gR_40_3 : gR 3 (mk I L) 40 3 = some 42 := by unfold gR; rw [mKd_mk, mR_mk, KD_40, RR_40_3]; rfl
theorem RR_40_4 : RR 40 4 = 43 := rfl
theorem gR_40_4 : gR 3 (mk I L) 40 4 = some 43 := by unfold gR; rw [mKd_mk, mR_mk, KD_40, RR_40_4]; rfl
theorem RR_40_5 : RR 40 5 = 44 := rfl
theorem gR_40_5 : gR 3 (mk I L) 40 5 = some 44 := by unfold gR; rw [mKd_mk, mR_mk, KD_40, RR_40_5]; rfl
theorem gI_40 (k : Nat) : gI 3 (mk I L) 40 k = some (I 40 k) := by unfold gI; rw [mKd_mk, KD_40]; rfl
theorem pI_40 (k : Nat) (v : Int32) : pI 3 (mk I L) 40 k v = some (mk (up1 I 40 (up1 (I 40) k v)) L) := by unfold pI; rw [mKd_mk, KD_40]; rfl
theorem KD_41 : KD 41 = 12 := rfl
theorem kd_41 : mKd (mk I L) 41 = 12 := by rw [mKd_mk, KD_41]
theorem LN_41 : LN 41 = 5 := rfl
theorem ln_41 : aLn (mk I L) 41 = some 5 := by unfold aLn; rw [mKd_mk, mLn_mk, KD_41, LN_41]; rfl
theorem xJ_41 (i : Int32) : xJ (mk I L) 41 i = if ¬ i < 0 ∧ i.toNatClampNeg < 5 then some (L 41 i.toNatClampNeg) else none := by unfold xJ; rw [mKd_mk, mLn_mk, KD_41, LN_41]; simp only [true_and]; rfl
theorem yJ_41 (i : Int32) (v : Int64) : yJ (mk I L) 41 i v = if ¬ i < 0 ∧ i.toNatClampNeg < 5 then some (mk I (up1 L 41 (up1 (L 41) i.toNatClampNeg v))) else none := by unfold yJ; rw [mKd_mk, mLn_mk, KD_41, LN_41]; simp only [true_and]; rfl
theorem KD_42 : KD 42 = 11 := rfl
theorem kd_42 : mKd (mk I L) 42 = 11 := by rw [mKd_mk, KD_42]
theorem LN_42 : LN 42 = 8 := rfl
theorem ln_42 : aLn (mk I L) 42 = some 8 := by unfold aLn; rw [mKd_mk, mLn_mk, KD_42, LN_42]; rfl
theorem xI_42 (i : Int32) : xI 11 (mk I L) 42 i = if ¬ i < 0 ∧ i.toNatClampNeg < 8 then some (I 42 i.toNatClampNeg) else none := by unfold xI; rw [mKd_mk, mLn_mk, KD_42, LN_42]; simp only [true_and]; rfl
theorem yI_42 (i v : Int32) : yI 11 (mk I L) 42 i v = if ¬ i < 0 ∧ i.toNatClampNeg < 8 then some (mk (up1 I 42 (up1 (I 42) i.toNatClampNeg v)) L) else none := by unfold yI; rw [mKd_mk, mLn_mk, KD_42, LN_42]; simp only [true_and]; rfl
theorem KD_43 : KD 43 = 12 := rfl
theorem kd_43 : mKd (mk I L) 43 = 12 := by rw [mKd_mk, KD_43]
theorem LN_43 : LN 43 = 8 := rfl
theorem ln_43 : aLn (mk I L) 43 = some 8 := by unfold aLn; rw [mKd_mk, mLn_mk, KD_43, LN_43]; rfl
theorem xJ_43 (i : Int32) : xJ (mk I L) 43 i = if ¬ i < 0 ∧ i.toNatClampNeg < 8 then some (L 43 i.toNatClampNeg) else none := by unfold xJ; rw [mKd_mk, mLn_mk, KD_43, LN_43]; simp only [true_and]; rfl
theorem yJ_43 (i : Int32) (v : Int64) : yJ (mk I L) 43 i v = if ¬ i < 0 ∧ i.toNatClampNeg < 8 then some (mk I (up1 L 43 (up1 (L 43) i.toNatClampNeg v))) else none := by unfold yJ; rw [mKd_mk, mLn_mk, KD_43, LN_43]; simp only [true_and]; rfl
theorem KD_44 : KD 44 = 12 := rfl
theorem kd_44 : mKd (mk I L) 44 = 12 := by rw [mKd_mk, KD_44]
theorem LN_44 : LN 44 = 8 := rfl
theorem ln_44 : aLn (mk I L) 44 = some 8 := by unfold aLn; rw [mKd_mk, mLn_mk, KD_44, LN_44]; rfl
theorem xJ_44 (i : Int32) : xJ (mk I L) 44 i = if ¬ i < 0 ∧ i.toNatClampNeg < 8 then some (L 44 i.toNatClampNeg) else none := by unfold xJ; rw [mKd_mk, mLn_mk, KD_44, LN_44]; simp only [true_and]; rfl
theorem yJ_44 (i : Int32) (v : Int64) : yJ (mk I L) 44 i v = if ¬ i < 0 ∧ i.toNatClampNeg < 8 then some (mk I (up1 L 44 (up1 (L 44) i.toNatClampNeg v))) else none := by unfold yJ; rw [mKd_mk, mLn_mk, KD_44, LN_44]; simp only [true_and]; rfl
theorem KD_45 : KD 45 = 5 := rfl
theorem kd_45 : mKd (mk I L) 45 = 5 := by rw [mKd_mk, KD_45]
theorem RR_45_1 : RR 45 1 = 46 := rfl
theorem gR_45_1 : gR 5 (mk I L) 45 1 = some 46 := by unfold gR; rw [mKd_mk, mR_mk, KD_45, RR_45_1]; rfl
theorem RR_45_2 : RR 45 2 = 48 := rfl
theorem gR_45_2 : gR 5 (mk I L) 45 2 = some 48 := by unfold gR; rw [mKd_mk, mR_mk, KD_45, RR_45_2]; rfl
theorem gI_45 (k : Nat) : gI 5 (mk I L) 45 k = some (I 45 k) := by unfold gI; rw [mKd_mk, KD_45]; rfl
theorem pI_45 (k : Nat) (v : Int32) : pI 5 (mk I L) 45 k v = some (mk (up1 I 45 (up1 (I 45) k v)) L) := by unfold pI; rw [mKd_mk, KD_45]; rfl
theorem KD_46 : KD 46 = 4 := rfl
theorem kd_46 : mKd (mk I L) 46 = 4 := by rw [mKd_mk, KD_46]
theorem RR_46_1 : RR 46 1 = 47 := rfl
theorem gR_46_1 : gR 4 (mk I L) 46 1 = some 47 := by unfold gR; rw [mKd_mk, mR_mk, KD_46, RR_46_1]; rfl
theorem gI_46 (k : Nat) : gI 4 (mk I L) 46 k = some (I 46 k) := by unfold gI; rw [mKd_mk, KD_46]; rfl
theorem pI_46 (k : Nat) (v : Int32) : pI 4 (mk I L) 46 k v = some (mk (up1 I 46 (up1 (I 46) k v)) L) := by unfold pI; rw [mKd_mk, KD_46]; rfl
theorem KD_47 : KD 47 = 11 := rfl
theorem kd_47 : mKd (mk I L) 47 = 11 := by rw [mKd_mk, KD_47]
theorem LN_47 : LN 47 = 36 := rfl
theorem ln_47 : aLn (mk I L) 47 = some 36 := by unfold aLn; rw [mKd_mk, mLn_mk, KD_47, LN_47]; rfl
theorem xI_47 (i : Int32) : xI 11 (mk I L) 47 i = if ¬ i < 0 ∧ i.toNatClampNeg < 36 then some (I 47 i.toNatClampNeg) else none := by unfold xI; rw [mKd_mk, mLn_mk, KD_47, LN_47]; simp only [true_and]; rfl
theorem yI_47 (i v : Int32) : yI 11 (mk I L) 47 i v = if ¬ i < 0 ∧ i.toNatClampNeg < 36 then some (mk (up1 I 47 (up1 (I 47) i.toNatClampNeg v)) L) else none := by unfold yI; rw [mKd_mk, mLn_mk, KD_47, LN_47]; simp only [true_and]; rfl
theorem KD_48 : KD 48 = 11 := rfl
theorem kd_48 : mKd (mk I L) 48 = 11 := by rw [mKd_mk, KD_48]
theorem LN_48 : LN 48 = 100 := rfl
theorem ln_48 : aLn (mk I L) 48 = some 100 := by unfold aLn; rw [mKd_mk, mLn_mk, KD_48, LN_48]; rfl
theorem xI_48 (i : Int32) : xI 11 (mk I L) 48 i = if ¬ i < 0 ∧ i.toNatClampNeg < 100 then some (I 48 i.toNatClampNeg) else none := by unfold xI; rw [mKd_mk, mLn_mk, KD_48, LN_48]; simp only [true_and]; rfl
theorem yI_48 (i v : Int32) : yI 11 (mk I L) 48 i v = if ¬ i < 0 ∧ i.toNatClampNeg < 100 then some (mk (up1 I 48 (up1 (I 48) i.toNatClampNeg v)) L) else none := by unfold yI; rw [mKd_mk, mLn_mk, KD_48, LN_48]; simp only [true_and]; rfl
theorem KD_49 : KD 49 = 14 := rfl
theorem kd_49 : mKd (mk I L) 49 = 14 := by rw [mKd_mk, KD_49]
theorem LN_49 : LN 49 = 6 := rfl
theorem ln_49 : aLn (mk I L) 49 = some 6 := by unfold aLn; rw [mKd_mk, mLn_mk, KD_49, LN_49]; rfl
theorem KD_50 : KD 50 = 7 := rfl
theorem kd_50 : mKd (mk I L) 50 = 7 := by rw [mKd_mk, KD_50]
theorem RR_50_1 : RR 50 1 = 51 := rfl
theorem gR_50_1 : gR 7 (mk I L) 50 1 = some 51 := by unfold gR; rw [mKd_mk, mR_mk, KD_50, RR_50_1]; rfl
theorem gI_50 (k : Nat) : gI 7 (mk I L) 50 k = some (I 50 k) := by unfold gI; rw [mKd_mk, KD_50]; rfl
theorem pI_50 (k : Nat) (v : Int32) : pI 7 (mk I L) 50 k v = some (mk (up1 I 50 (up1 (I 50) k v)) L) := by unfold pI; rw [mKd_mk, KD_50]; rfl
theorem KD_51 : KD 51 = 12 := rfl
theorem kd_51 : mKd (mk I L) 51 = 12 := by rw [mKd_mk, KD_51]
theorem LN_51 : LN 51 = 60 := rfl
theorem ln_51 : aLn (mk I L) 51 = some 60 := by unfold aLn; rw [mKd_mk, mLn_mk, KD_51, LN_51]; rfl
theorem xJ_51 (i : Int32) : xJ (mk I L) 51 i = if ¬ i < 0 ∧ i.toNatClampNeg < 60 then some (L 51 i.toNatClampNeg) else none := by unfold xJ; rw [mKd_mk, mLn_mk, KD_51, LN_51]; simp only [true_and]; rfl
theorem yJ_51 (i : Int32) (v : Int64) : yJ (mk I L) 51 i v = if ¬ i < 0 ∧ i.toNatClampNeg < 60 then some (mk I (up1 L 51 (up1 (L 51) i.toNatClampNeg v))) else none := by unfold yJ; rw [mKd_mk, mLn_mk, KD_51, LN_51]; simp only [true_and]; rfl
theorem KD_52 : KD 52 = 7 := rfl
theorem kd_52 : mKd (mk I L) 52 = 7 := by rw [mKd_mk, KD_52]
theorem RR_52_1 : RR 52 1 = 53 := rfl
theorem gR_52_1 : gR 7 (mk I L) 52 1 = some 53 := by unfold gR; rw [mKd_mk, mR_mk, KD_52, RR_52_1]; rfl
theorem gI_52 (k : Nat) : gI 7 (mk I L) 52 k = some (I 52 k) := by unfold gI; rw [mKd_mk, KD_52]; rfl
theorem pI_52 (k : Nat) (v : Int32) : pI 7 (mk I L) 52 k v = some (mk (up1 I 52 (up1 (I 52) k v)) L) := by unfold pI; rw [mKd_mk, KD_52]; rfl
theorem KD_53 : KD 53 = 12 := rfl
theorem kd_53 : mKd (mk I L) 53 = 12 := by rw [mKd_mk, KD_53]
theorem LN_53 : LN 53 = 60 := rfl
theorem ln_53 : aLn (mk I L) 53 = some 60 := by unfold aLn; rw [mKd_mk, mLn_mk, KD_53, LN_53]; rfl
theorem xJ_53 (i : Int32) : xJ (mk I L) 53 i = if ¬ i < 0 ∧ i.toNatClampNeg < 60 then some (L 53 i.toNatClampNeg) else none := by unfold xJ; rw [mKd_mk, mLn_mk, KD_53, LN_53]; simp only [true_and]; rfl
theorem yJ_53 (i : Int32) (v : Int64) : yJ (mk I L) 53 i v = if ¬ i < 0 ∧ i.toNatClampNeg < 60 then some (mk I (up1 L 53 (up1 (L 53) i.toNatClampNeg v))) else none := by unfold yJ; rw [mKd_mk, mLn_mk, KD_53, LN_53]; simp only [true_and]; rfl
theorem KD_54 : KD 54 = 7 := rfl
theorem kd_54 : mKd (mk I L) 54 = 7 := by rw [mKd_mk, KD_54]
theorem RR_54_1 : RR 54 1 = 55 := rfl
theorem gR_54_1 : gR 7 (mk I L) 54 1 = some 55 := by unfold gR; rw [mKd_mk, mR_mk, KD_54, RR_54_1]; rfl
theorem gI_54 (k : Nat) : gI 7 (mk I L) 54 k = some (I 54 k) := by unfold gI; rw [mKd_mk, KD_54]; rfl
theorem pI_54 (k : Nat) (v : Int32) : pI 7 (mk I L) 54 k v = some (mk (up1 I 54 (up1 (I 54) k v)) L) := by unfold pI; rw [mKd_mk, KD_54]; rfl
theorem KD_55 : KD 55 = 12 := rfl
theorem kd_55 : mKd (mk I L) 55 = 12 := by rw [mKd_mk, KD_55]
theorem LN_55 : LN 55 = 60 := rfl
theorem ln_55 : aLn (mk I L) 55 = some 60 := by unfold aLn; rw [mKd_mk, mLn_mk, KD_55, LN_55]; rfl
theorem xJ_55 (i : Int32) : xJ (mk I L) 55 i = if ¬ i < 0 ∧ i.toNatClampNeg < 60 then some (L 55 i.toNatClampNeg) else none := by unfold xJ; rw [mKd_mk, mLn_mk, KD_55, LN_55]; simp only [true_and]; rfl
theorem yJ_55 (i : Int32) (v : Int64) : yJ (mk I L) 55 i v = if ¬ i < 0 ∧ i.toNatClampNeg < 60 then some (mk I (up1 L 55 (up1 (L 55) i.toNatClampNeg v))) else none := by unfold yJ; rw [mKd_mk, mLn_mk, KD_55, LN_55]; simp only [true_and]; rfl
theorem KD_56 : KD 56 = 7 := rfl
theorem kd_56 : mKd (mk I L) 56 = 7 := by rw [mKd_mk, KD_56]
theorem RR_56_1 : RR 56 1 = 57 := rfl
theorem gR_56_1 : gR 7 (mk I L) 56 1 = some 57 := by unfold gR; rw [mKd_mk, mR_mk, KD_56, RR_56_1]; rfl
theorem gI_56 (k : Nat) : gI 7 (mk I L) 56 k = some (I 56 k) := by unfold gI; rw [mKd_mk, KD_56]; rfl
theorem pI_56 (k : Nat) (v : Int32) : pI 7 (mk I L) 56 k v = some (mk (up1 I 56 (up1 (I 56) k v)) L) := by unfold pI; rw [mKd_mk, KD_56]; rfl
theorem KD_57 : KD 57 = 12 := rfl
theorem kd_57 : mKd (mk I L) 57 = 12 := by rw [mKd_mk, KD_57]
theorem LN_57 : LN 57 = 60 := rfl
theorem ln_57 : aLn (mk I L) 57 = some 60 := by unfold aLn; rw [mKd_mk, mLn_mk, KD_57, LN_57]; rfl
theorem xJ_57 (i : Int32) : xJ (mk I L) 57 i = if ¬ i < 0 ∧ i.toNatClampNeg < 60 then some (L 57 i.toNatClampNeg) else none := by unfold xJ; rw [mKd_mk, mLn_mk, KD_57, LN_57]; simp only [true_and]; rfl
theorem yJ_57 (i : Int32) (v : Int64) : yJ (mk I L) 57 i v = if ¬ i < 0 ∧ i.toNatClampNeg < 60 then some (mk I (up1 L 57 (up1 (L 57) i.toNatClampNeg v))) else none := by unfold yJ; rw [mKd_mk, mLn_mk, KD_57, LN_57]; simp only [true_and]; rfl
theorem KD_58 : KD 58 = 7 := rfl
theorem kd_58 : mKd (mk I L) 58 = 7 := by rw [mKd_mk, KD_58]
theorem RR_58_1 : RR 58 1 = 59 := rfl
theorem gR_58_1 : gR 7 (mk I L) 58 1 = some 59 := by unfold gR; rw [mKd_mk, mR_mk, KD_58, RR_58_1]; rfl
theorem gI_58 (k : Nat) : gI 7 (mk I L) 58 k = some (I 58 k) := by unfold gI; rw [mKd_mk, KD_58]; rfl
theorem pI_58 (k : Nat) (v : Int32) : pI 7 (mk I L) 58 k v = some (mk (up1 I 58 (up1 (I 58) k v)) L) := by unfold pI; rw [mKd_mk, KD_58]; rfl
theorem KD_59 : KD 59 = 12 := rfl
theorem kd_59 : mKd (mk I L) 59 = 12 := by rw [mKd_mk, KD_59]
theorem LN_59 : LN 59 = 60 := rfl
theorem ln_59 : aLn (mk I L) 59 = some 60 := by unfold aLn; rw [mKd_mk, mLn_mk, KD_59, LN_59]; rfl
theorem xJ_59 (i : Int32) : xJ (mk I L) 59 i = if ¬ i < 0 ∧ i.toNatClampNeg < 60 then some (L 59 i.toNatClampNeg) else none := by unfold xJ; rw [mKd_mk, mLn_mk, KD_59, LN_59]; simp only [true_and]; rfl
theorem yJ_59 (i : Int32) (v : Int64) : yJ (mk I L) 59 i v = if ¬ i < 0 ∧ i.toNatClampNeg < 60 then some (mk I (up1 L 59 (up1 (L 59) i.toNatClampNeg v))) else none := by unfold yJ; rw [mKd_mk, mLn_mk, KD_59, LN_59]; simp only [true_and]; rfl
theorem KD_60 : KD 60 = 7 := rfl
theorem kd_60 : mKd (mk I L) 60 = 7 := by rw [mKd_mk, KD_60]
theorem RR_60_1 : RR 60 1 = 61 := rfl
theorem gR_60_1 : gR 7 (mk I L) 60 1 = some 61 := by unfold gR; rw [mKd_mk, mR_mk, KD_60, RR_60_1]; rfl
theorem gI_60 (k : Nat) : gI 7 (mk I L) 60 k = some (I 60 k) := by unfold gI; rw [mKd_mk, KD_60]; rfl
theorem pI_60 (k : Nat) (v : Int32) : pI 7 (mk I L) 60 k v = some (mk (up1 I 60 (up1 (I 60) k v)) L) := by unfold pI; rw [mKd_mk, KD_60]; rfl
theorem KD_61 : KD 61 = 12 := rfl
theorem kd_61 : mKd (mk I L) 61 = 12 := by rw [mKd_mk, KD_61]
theorem LN_61 : LN 61 = 60 := rfl
theorem ln_61 : aLn (mk I L) 61 = some 60 := by unfold aLn; rw [mKd_mk, mLn_mk, KD_61, LN_61]; rfl
theorem xJ_61 (i : Int32) : xJ (mk I L) 61 i = if ¬ i < 0 ∧ i.toNatClampNeg < 60 then some (L 61 i.toNatClampNeg) else none := by unfold xJ; rw [mKd_mk, mLn_mk, KD_61, LN_61]; simp only [true_and]; rfl
theorem yJ_61 (i : Int32) (v : Int64) : yJ (mk I L) 61 i v = if ¬ i < 0 ∧ i.toNatClampNeg < 60 then some (mk I (up1 L 61 (up1 (L 61) i.toNatClampNeg v))) else none := by unfold yJ; rw [mKd_mk, mLn_mk, KD_61, LN_61]; simp only [true_and]; rfl
theorem KD_62 : KD 62 = 10 := rfl
theorem kd_62 : mKd (mk I L) 62 = 10 := by rw [mKd_mk, KD_62]
theorem RR_62_1 : RR 62 1 = 63 := rfl
theorem gR_62_1 : gR 10 (mk I L) 62 1 = some 63 := by unfold gR; rw [mKd_mk, mR_mk, KD_62, RR_62_1]; rfl
theorem RR_62_4 : RR 62 4 = 64 := rfl
theorem gR_62_4 : gR 10 (mk I L) 62 4 = some 64 := by unfold gR; rw [mKd_mk, mR_mk, KD_62, RR_62_4]; rfl
theorem RR_62_6 : RR 62 6 = 65 := rfl
theorem gR_62_6 : gR 10 (mk I L) 62 6 = some 65 := by unfold gR; rw [mKd_mk, mR_mk, KD_62, RR_62_6]; rfl
theorem RR_62_8 : RR 62 8 = 66 := rfl
theorem gR_62_8 : gR 10 (mk I L) 62 8 = some 66 := by unfold gR; rw [mKd_mk, mR_mk, KD_62, RR_62_8]; rfl
theorem RR_62_10 : RR 62 10 = 67 := rfl
theorem gR_62_10 : gR 10 (mk I L) 62 10 = some 67 := by unfold gR; rw [mKd_mk, mR_mk, KD_62, RR_62_10]; rfl
theorem RR_62_11 : RR 62 11 = 68 := rfl
theorem gR_62_11 : gR 10 (mk I L) 62 11 = some 68 := by unfold gR; rw [mKd_mk, mR_mk, KD_62, RR_62_11]; rfl
theorem RR_62_12 : RR 62 12 = 69 := rfl
theorem gR_62_12 : gR 10 (mk I L) 62 12 = some 69 := by unfold gR; rw [mKd_mk, mR_mk, KD_62, RR_62_12]; rfl
theorem RR_62_14 : RR 62 14 = 70 := rfl
theorem gR_62_14 : gR 10 (mk I L) 62 14 = some 70 := by unfold gR; rw [mKd_mk, mR_mk, KD_62, RR_62_14]; rfl
theorem RR_62_16 : RR 62 16 = 71 := rfl
theorem gR_62_16 : gR 10 (mk I L) 62 16 = some 71 := by unfold gR; rw [mKd_mk, mR_mk, KD_62, RR_62_16]; rfl
theorem RR_62_17 : RR 62 17 = 72 := rfl
theorem gR_62_17 : gR 10 (mk I L) 62 17 = some 72 := by unfold gR; rw [mKd_mk, mR_mk, KD_62, RR_62_17]; rfl
theorem RR_62_18 : RR 62 18 = 73 := rfl
theorem gR_62_18 : gR 10 (mk I L) 62 18 = some 73 := by unfold gR; rw [mKd_mk, mR_mk, KD_62, RR_62_18]; rfl
theorem RR_62_20 : RR 62 20 = 74 := rfl
theorem gR_62_20 : gR 10 (mk I L) 62 20 = some 74 := by unfold gR; rw [mKd_mk, mR_mk, KD_62, RR_62_20]; rfl
theorem RR_62_21 : RR 62 21 = 75 := rfl
theorem gR_62_21 : gR 10 (mk I L) 62 21 = some 75 := by unfold gR; rw [mKd_mk, mR_mk, KD_62, RR_62_21]; rfl
theorem RR_62_22 : RR 62 22 = 76 := rfl
theorem gR_62_22 : gR 10 (mk I L) 62 22 = some 76 := by unfold gR; rw [mKd_mk, mR_mk, KD_62, RR_62_22]; rfl
theorem RR_62_23 : RR 62 23 = 77 := rfl
theorem gR_62_23 : gR 10 (mk I L) 62 23 = some 77 := by unfold gR; rw [mKd_mk, mR_mk, KD_62, RR_62_23]; rfl
theorem RR_62_24 : RR 62 24 = 78 := rfl
theorem gR_62_24 : gR 10 (mk I L) 62 24 = some 78 := by unfold gR; rw [mKd_mk, mR_mk, KD_62, RR_62_24]; rfl
theorem RR_62_28 : RR 62 28 = 79 := rfl
theorem gR_62_28 : gR 10 (mk I L) 62 28 = some 79 := by unfold gR; rw [mKd_mk, mR_mk, KD_62, RR_62_28]; rfl
theorem RR_62_31 : RR 62 31 = 80 := rfl
theorem gR_62_31 : gR 10 (mk I L) 62 31 = some 80 := by unfold gR; rw [mKd_mk, mR_mk, KD_62, RR_62_31]; rfl
theorem RR_62_32 : RR 62 32 = 81 := rfl
theorem gR_62_32 : gR 10 (mk I L) 62 32 = some 81 := by unfold gR; rw [mKd_mk, mR_mk, KD_62, RR_62_32]; rfl
theorem RR_62_33 : RR 62 33 = 82 := rfl
theorem gR_62_33 : gR 10 (mk I L) 62 33 = some 82 := by unfold gR; rw [mKd_mk, mR_mk, KD_62, RR_62_33]; rfl
theorem RR_62_34 : RR 62 34 = 83 := rfl
theorem gR_62_34 : gR 10 (mk I L) 62 34 = some 83 := by unfold gR; rw [mKd_mk, mR_mk, KD_62, RR_62_34]; rfl
theorem RR_62_35 : RR 62 35 = 84 := rfl
theorem gR_62_35 : gR 10 (mk I L) 62 35 = some 84 := by unfold gR; rw [mKd_mk, mR_mk, KD_62, RR_62_35]; rfl
theorem RR_62_37 : RR 62 37 = 85 := rfl
theorem gR_62_37 : gR 10 (mk I L) 62 37 = some 85 := by unfold gR; rw [mKd_mk, mR_mk, KD_62, RR_62_37]; rfl
theorem RR_62_38 : RR 62 38 = 86 := rfl
theorem gR_62_38 : gR 10 (mk I L) 62 38 = some 86 := by unfold gR; rw [mKd_mk, mR_mk, KD_62, RR_62_38]; rfl
theorem gI_62 (k : Nat) : gI 10 (mk I L) 62 k = some (I 62 k) := by unfold gI; rw [mKd_mk, KD_62]; rfl
theorem pI_62 (k : Nat) (v : Int32) : pI 10 (mk I L) 62 k v = some (mk (up1 I 62 (up1 (I 62) k v)) L) := by unfold pI; rw [mKd_mk, KD_62]; rfl
theorem gJ_62 (k : Nat) : gJ 10 (mk I L) 62 k = some (L 62 k) := by unfold gJ; rw [mKd_mk, KD_62]; rfl
theorem pJ_62 (k : Nat) (v : Int64) : pJ 10 (mk I L) 62 k v = some (mk I (up1 L 62 (up1 (L 62) k v))) := by unfold pJ; rw [mKd_mk, KD_62]; rfl
theorem KD_63 : KD 63 = 12 := rfl
theorem kd_63 : mKd (mk I L) 63 = 12 := by rw [mKd_mk, KD_63]
theorem LN_63 : LN 63 = 5 := rfl
theorem ln_63 : aLn (mk I L) 63 = some 5 := by unfold aLn; rw [mKd_mk, mLn_mk, KD_63, LN_63]; rfl
theorem xJ_63 (i : Int32) : xJ (mk I L) 63 i = if ¬ i < 0 ∧ i.toNatClampNeg < 5 then some (L 63 i.toNatClampNeg) else none := by unfold xJ; rw [mKd_mk, mLn_mk, KD_63, LN_63]; simp only [true_and]; rfl
theorem yJ_63 (i : Int32) (v : Int64) : yJ (mk I L) 63 i v = if ¬ i < 0 ∧ i.toNatClampNeg < 5 then some (mk I (up1 L 63 (up1 (L 63) i.toNatClampNeg v))) else none := by unfold yJ; rw [mKd_mk, mLn_mk, KD_63, LN_63]; simp only [true_and]; rfl
theorem KD_64 : KD 64 = 11 := rfl
theorem kd_64 : mKd (mk I L) 64 = 11 := by rw [mKd_mk, KD_64]
theorem LN_64 : LN 64 = 12 := rfl
theorem ln_64 : aLn (mk I L) 64 = some 12 := by unfold aLn; rw [mKd_mk, mLn_mk, KD_64, LN_64]; rfl
theorem xI_64 (i : Int32) : xI 11 (mk I L) 64 i = if ¬ i < 0 ∧ i.toNatClampNeg < 12 then some (I 64 i.toNatClampNeg) else none := by unfold xI; rw [mKd_mk, mLn_mk, KD_64, LN_64]; simp only [true_and]; rfl
theorem yI_64 (i v : Int32) : yI 11 (mk I L) 64 i v = if ¬ i < 0 ∧ i.toNatClampNeg < 12 then some (mk (up1 I 64 (up1 (I 64) i.toNatClampNeg v)) L) else none := by unfold yI; rw [mKd_mk, mLn_mk, KD_64, LN_64]; simp only [true_and]; rfl
theorem KD_65 : KD 65 = 11 := rfl
theorem kd_65 : mKd (mk I L) 65 = 11 := by rw [mKd_mk, KD_65]
theorem LN_65 : LN 65 = 16 := rfl
theorem ln_65 : aLn (mk I L) 65 = some 16 := by unfold aLn; rw [mKd_mk, mLn_mk, KD_65, LN_65]; rfl
theorem xI_65 (i : Int32) : xI 11 (mk I L) 65 i = if ¬ i < 0 ∧ i.toNatClampNeg < 16 then some (I 65 i.toNatClampNeg) else none := by unfold xI; rw [mKd_mk, mLn_mk, KD_65, LN_65]; simp only [true_and]; rfl
theorem yI_65 (i v : Int32) : yI 11 (mk I L) 65 i v = if ¬ i < 0 ∧ i.toNatClampNeg < 16 then some (mk (up1 I 65 (up1 (I 65) i.toNatClampNeg v)) L) else none := by unfold yI; rw [mKd_mk, mLn_mk, KD_65, LN_65]; simp only [true_and]; rfl
theorem KD_66 : KD 66 = 11 := rfl
theorem kd_66 : mKd (mk I L) 66 = 11 := by rw [mKd_mk, KD_66]
theorem LN_66 : LN 66 = 16 := rfl
theorem ln_66 : aLn (mk I L) 66 = some 16 := by unfold aLn; rw [mKd_mk, mLn_mk, KD_66, LN_66]; rfl
theorem xI_66 (i : Int32) : xI 11 (mk I L) 66 i = if ¬ i < 0 ∧ i.toNatClampNeg < 16 then some (I 66 i.toNatClampNeg) else none := by unfold xI; rw [mKd_mk, mLn_mk, KD_66, LN_66]; simp only [true_and]; rfl
theorem yI_66 (i v : Int32) : yI 11 (mk I L) 66 i v = if ¬ i < 0 ∧ i.toNatClampNeg < 16 then some (mk (up1 I 66 (up1 (I 66) i.toNatClampNeg v)) L) else none := by unfold yI; rw [mKd_mk, mLn_mk, KD_66, LN_66]; simp only [true_and]; rfl
theorem KD_67 : KD 67 = 12 := rfl
theorem kd_67 : mKd (mk I L) 67 = 12 := by rw [mKd_mk, KD_67]
theorem LN_67 : LN 67 = 5 := rfl
theorem ln_67 : aLn (mk I L) 67 = some 5 := by unfold aLn; rw [mKd_mk, mLn_mk, KD_67, LN_67]; rfl
theorem xJ_67 (i : Int32) : xJ (mk I L) 67 i = if ¬ i < 0 ∧ i.toNatClampNeg < 5 then some (L 67 i.toNatClampNeg) else none := by unfold xJ; rw [mKd_mk, mLn_mk, KD_67, LN_67]; simp only [true_and]; rfl
theorem yJ_67 (i : Int32) (v : Int64) : yJ (mk I L) 67 i v = if ¬ i < 0 ∧ i.toNatClampNeg < 5 then some (mk I (up1 L 67 (up1 (L 67) i.toNatClampNeg v))) else none := by unfold yJ; rw [mKd_mk, mLn_mk, KD_67, LN_67]; simp only [true_and]; rfl
theorem KD_68 : KD 68 = 12 := rfl
theorem kd_68 : mKd (mk I L) 68 = 12 := by rw [mKd_mk, KD_68]
theorem LN_68 : LN 68 = 5 := rfl
theorem ln_68 : aLn (mk I L) 68 = some 5 := by unfold aLn; rw [mKd_mk, mLn_mk, KD_68, LN_68]; rfl
theorem xJ_68 (i : Int32) : xJ (mk I L) 68 i = if ¬ i < 0 ∧ i.toNatClampNeg < 5 then some (L 68 i.toNatClampNeg) else none := by unfold xJ; rw [mKd_mk, mLn_mk, KD_68, LN_68]; simp only [true_and]; rfl
theorem yJ_68 (i : Int32) (v : Int64) : yJ (mk I L) 68 i v = if ¬ i < 0 ∧ i.toNatClampNeg < 5 then some (mk I (up1 L 68 (up1 (L 68) i.toNatClampNeg v))) else none := by unfold yJ; rw [mKd_mk, mLn_mk, KD_68, LN_68]; simp only [true_and]; rfl
theorem KD_69 : KD 69 = 11 := rfl
theorem kd_69 : mKd (mk I L) 69 = 11 := by rw [mKd_mk, KD_69]
theorem LN_69 : LN 69 = 13122 := rfl
theorem ln_69 : aLn (mk I L) 69 = some 13122 := by unfold aLn; rw [mKd_mk, mLn_mk, KD_69, LN_69]; rfl
theorem xI_69 (i : Int32) : xI 11 (mk I L) 69 i = if ¬ i < 0 ∧ i.toNatClampNeg < 13122 then some (I 69 i.toNatClampNeg) else none := by unfold xI; rw [mKd_mk, mLn_mk, KD_69, LN_69]; simp only [true_and]; rfl
theorem yI_69 (i v : Int32) : yI 11 (mk I L) 69 i v = if ¬ i < 0 ∧ i.toNatClampNeg < 13122 then some (mk (up1 I 69 (up1 (I 69) i.toNatClampNeg v)) L) else none := by unfold yI; rw [mKd_mk, mLn_mk, KD_69, LN_69]; simp only [true_and]; rfl
theorem KD_70 : KD 70 = 11 := rfl
theorem kd_70 : mKd (mk I L) 70 = 11 := by rw [mKd_mk, KD_70]
theorem LN_70 : LN 70 = 2500 := rfl
theorem ln_70 : aLn (mk I L) 70 = some 2500 := by unfold aLn; rw [mKd_mk, mLn_mk, KD_70, LN_70]; rfl
theorem xI_70 (i : Int32) : xI 11 (mk I L) 70 i = if ¬ i < 0 ∧ i.toNatClampNeg < 2500 then some (I 70 i.toNatClampNeg) else none := by unfold xI; rw [mKd_mk, mLn_mk, KD_70, LN_70]; simp only [true_and]; rfl
theorem yI_70 (i v : Int32) : yI 11 (mk I L) 70 i v = if ¬ i < 0 ∧ i.toNatClampNeg < 2500 then some (mk (up1 I 70 (up1 (I 70) i.toNatClampNeg v)) L) else none := by unfold yI; rw [mKd_mk, mLn_mk, KD_70, LN_70]; simp only [true_and]; rfl
theorem KD_71 : KD 71 = 11 := rfl
theorem kd_71 : mKd (mk I L) 71 = 11 := by rw [mKd_mk, KD_71]
theorem LN_71 : LN 71 = 6561 := rfl
theorem ln_71 : aLn (mk I L) 71 = some 6561 := by unfold aLn; rw [mKd_mk, mLn_mk, KD_71, LN_71]; rfl
theorem xI_71 (i : Int32) : xI 11 (mk I L) 71 i = if ¬ i < 0 ∧ i.toNatClampNeg < 6561 then some (I 71 i.toNatClampNeg) else none := by unfold xI; rw [mKd_mk, mLn_mk, KD_71, LN_71]; simp only [true_and]; rfl
theorem yI_71 (i v : Int32) : yI 11 (mk I L) 71 i v = if ¬ i < 0 ∧ i.toNatClampNeg < 6561 then some (mk (up1 I 71 (up1 (I 71) i.toNatClampNeg v)) L) else none := by unfold yI; rw [mKd_mk, mLn_mk, KD_71, LN_71]; simp only [true_and]; rfl
theorem KD_72 : KD 72 = 11 := rfl
theorem kd_72 : mKd (mk I L) 72 = 11 := by rw [mKd_mk, KD_72]
theorem LN_72 : LN 72 = 6561 := rfl
theorem ln_72 : aLn (mk I L) 72 = some 6561 := by unfold aLn; rw [mKd_mk, mLn_mk, KD_72, LN_72]; rfl
theorem xI_72 (i : Int32) : xI 11 (mk I L) 72 i = if ¬ i < 0 ∧ i.toNatClampNeg < 6561 then some (I 72 i.toNatClampNeg) else none := by unfold xI; rw [mKd_mk, mLn_mk, KD_72, LN_72]; simp only [true_and]; rfl
theorem yI_72 (i v : Int32) : yI 11 (mk I L) 72 i v = if ¬ i < 0 ∧ i.toNatClampNeg < 6561 then some (mk (up1 I 72 (up1 (I 72) i.toNatClampNeg v)) L) else none := by unfold yI; rw [mKd_mk, mLn_mk, KD_72, LN_72]; simp only [true_and]; rfl
theorem KD_73 : KD 73 = 11 := rfl
theorem kd_73 : mKd (mk I L) 73 = 11 := by rw [mKd_mk, KD_73]
theorem LN_73 : LN 73 = 6561 := rfl
theorem ln_73 : aLn (mk I L) 73 = some 6561 := by unfold aLn; rw [mKd_mk, mLn_mk, KD_73, LN_73]; rfl
theorem xI_73 (i : Int32) : xI 11 (mk I L) 73 i = if ¬ i < 0 ∧ i.toNatClampNeg < 6561 then some (I 73 i.toNatClampNeg) else none := by unfold xI; rw [mKd_mk, mLn_mk, KD_73, LN_73]; simp only [true_and]; rfl
theorem yI_73 (i v : Int32) : yI 11 (mk I L) 73 i v = if ¬ i < 0 ∧ i.toNatClampNeg < 6561 then some (mk (up1 I 73 (up1 (I 73) i.toNatClampNeg v)) L) else none := by unfold yI; rw [mKd_mk, mLn_mk, KD_73, LN_73]; simp only [true_and]; rfl
theorem KD_74 : KD 74 = 11 := rfl
theorem kd_74 : mKd (mk I L) 74 = 11 := by rw [mKd_mk, KD_74]
theorem LN_74 : LN 74 = 6 := rfl
theorem ln_74 : aLn (mk I L) 74 = some 6 := by unfold aLn; rw [mKd_mk, mLn_mk, KD_74, LN_74]; rfl
theorem xI_74 (i : Int32) : xI 11 (mk I L) 74 i = if ¬ i < 0 ∧ i.toNatClampNeg < 6 then some (I 74 i.toNatClampNeg) else none := by unfold xI; rw [mKd_mk, mLn_mk, KD_74, LN_74]; simp only [true_and]; rfl
theorem yI_74 (i v : Int32) : yI 11 (mk I L) 74 i v = if ¬ i < 0 ∧ i.toNatClampNeg < 6 then some (mk (up1 I 74 (up1 (I 74) i.toNatClampNeg v)) L) else none := by unfold yI; rw [mKd_mk, mLn_mk, KD_74, LN_74]; simp only [true_and]; rfl
theorem KD_75 : KD 75 = 13 := rfl
theorem kd_75 : mKd (mk I L) 75 = 13 := by rw [mKd_mk, KD_75]
theorem LN_75 : LN 75 = 13 := rfl
theorem ln_75 : aLn (mk I L) 75 = some 13 := by unfold aLn; rw [mKd_mk, mLn_mk, KD_75, LN_75]; rfl
theorem xI_75 (i : Int32) : xI 13 (mk I L) 75 i = if ¬ i < 0 ∧ i.toNatClampNeg < 13 then some (I 75 i.toNatClampNeg) else none := by unfold xI; rw [mKd_mk, mLn_mk, KD_75, LN_75]; simp only [true_and]; rfl
theorem yI_75 (i v : Int32) : yI 13 (mk I L) 75 i v = if ¬ i < 0 ∧ i.toNatClampNeg < 13 then some (mk (up1 I 75 (up1 (I 75) i.toNatClampNeg v)) L) else none := by unfold yI; rw [mKd_mk, mLn_mk, KD_75, LN_75]; simp only [true_and]; rfl
theorem KD_76 : KD 76 = 12 := rfl
theorem kd_76 : mKd (mk I L) 76 = 12 := by rw [mKd_mk, KD_76]
theorem LN_76 : LN 76 = 5 := rfl
theorem ln_76 : aLn (mk I L) 76 = some 5 := by unfold aLn; rw [mKd_mk, mLn_mk, KD_76, LN_76]; rfl
theorem xJ_76 (i : Int32) : xJ (mk I L) 76 i = if ¬ i < 0 ∧ i.toNatClampNeg < 5 then some (L 76 i.toNatClampNeg) else none := by unfold xJ; rw [mKd_mk, mLn_mk, KD_76, LN_76]; simp only [true_and]; rfl
theorem yJ_76 (i : Int32) (v : Int64) : yJ (mk I L) 76 i v = if ¬ i < 0 ∧ i.toNatClampNeg < 5 then some (mk I (up1 L 76 (up1 (L 76) i.toNatClampNeg v))) else none := by unfold yJ; rw [mKd_mk, mLn_mk, KD_76, LN_76]; simp only [true_and]; rfl
theorem KD_77 : KD 77 = 12 := rfl
theorem kd_77 : mKd (mk I L) 77 = 12 := by rw [mKd_mk, KD_77]
theorem LN_77 : LN 77 = 5 := rfl
theorem ln_77 : aLn (mk I L) 77 = some 5 := by unfold aLn; rw [mKd_mk, mLn_mk, KD_77, LN_77]; rfl
theorem xJ_77 (i : Int32) : xJ (mk I L) 77 i = if ¬ i < 0 ∧ i.toNatClampNeg < 5 then some (L 77 i.toNatClampNeg) else none := by unfold xJ; rw [mKd_mk, mLn_mk, KD_77, LN_77]; simp only [true_and]; rfl
theorem yJ_77 (i : Int32) (v : Int64) : yJ (mk I L) 77 i v = if ¬ i < 0 ∧ i.toNatClampNeg < 5 then some (mk I (up1 L 77 (up1 (L 77) i.toNatClampNeg v))) else none := by unfold yJ; rw [mKd_mk, mLn_mk, KD_77, LN_77]; simp only [true_and]; rfl
theorem KD_78 : KD 78 = 11 := rfl
theorem kd_78 : mKd (mk I L) 78 = 11 := by rw [mKd_mk, KD_78]
theorem LN_78 : LN 78 = 8 := rfl
theorem ln_78 : aLn (mk I L) 78 = some 8 := by unfold aLn; rw [mKd_mk, mLn_mk, KD_78, LN_78]; rfl
theorem xI_78 (i : Int32) : xI 11 (mk I L) 78 i = if ¬ i < 0 ∧ i.toNatClampNeg < 8 then some (I 78 i.toNatClampNeg) else none := by unfold xI; rw [mKd_mk, mLn_mk, KD_78, LN_78]; simp only [true_and]; rfl
theorem yI_78 (i v : Int32) : yI 11 (mk I L) 78 i v = if ¬ i < 0 ∧ i.toNatClampNeg < 8 then some (mk (up1 I 78 (up1 (I 78) i.toNatClampNeg v)) L) else none := by unfold yI; rw [mKd_mk, mLn_mk, KD_78, LN_78]; simp only [true_and]; rfl
theorem KD_79 : KD 79 = 11 := rfl
theorem kd_79 : mKd (mk I L) 79 = 11 := by rw [mKd_mk, KD_79]
theorem LN_79 : LN 79 = 100 := rfl
theorem ln_79 : aLn (mk I L) 79 = some 100 := by unfold aLn; rw [mKd_mk, mLn_mk, KD_79, LN_79]; rfl
theorem xI_79 (i : Int32) : xI 11 (mk I L) 79 i = if ¬ i < 0 ∧ i.toNatClampNeg < 100 then some (I 79 i.toNatClampNeg) else none := by unfold xI; rw [mKd_mk, mLn_mk, KD_79, LN_79]; simp only [true_and]; rfl
theorem yI_79 (i v : Int32) : yI 11 (mk I L) 79 i v = if ¬ i < 0 ∧ i.toNatClampNeg < 100 then some (mk (up1 I 79 (up1 (I 79) i.toNatClampNeg v)) L) else none := by unfold yI; rw [mKd_mk, mLn_mk, KD_79, LN_79]; simp only [true_and]; rfl
theorem KD_80 : KD 80 = 11 := rfl
theorem kd_80 : mKd (mk I L) 80 = 11 := by rw [mKd_mk, KD_80]
theorem LN_80 : LN 80 = 36 := rfl
theorem ln_80 : aLn (mk I L) 80 = some 36 := by unfold aLn; rw [mKd_mk, mLn_mk, KD_80, LN_80]; rfl
theorem xI_80 (i : Int32) : xI 11 (mk I L) 80 i = if ¬ i < 0 ∧ i.toNatClampNeg < 36 then some (I 80 i.toNatClampNeg) else none := by unfold xI; rw [mKd_mk, mLn_mk, KD_80, LN_80]; simp only [true_and]; rfl
theorem yI_80 (i v : Int32) : yI 11 (mk I L) 80 i v = if ¬ i < 0 ∧ i.toNatClampNeg < 36 then some (mk (up1 I 80 (up1 (I 80) i.toNatClampNeg v)) L) else none := by unfold yI; rw [mKd_mk, mLn_mk, KD_80, LN_80]; simp only [true_and]; rfl
theorem KD_81 : KD 81 = 12 := rfl
theorem kd_81 : mKd (mk I L) 81 = 12 := by rw [mKd_mk, KD_81]
theorem LN_81 : LN 81 = 5 := rfl
theorem ln_81 : aLn (mk I L) 81 = some 5 := by unfold aLn; rw [mKd_mk, mLn_mk, KD_81, LN_81]; rfl
theorem xJ_81 (i : Int32) : xJ (mk I L) 81 i = if ¬ i < 0 ∧ i.toNatClampNeg < 5 then some (L 81 i.toNatClampNeg) else none := by unfold xJ; rw [mKd_mk, mLn_mk, KD_81, LN_81]; simp only [true_and]; rfl
theorem yJ_81 (i : Int32) (v : Int64) : yJ (mk I L) 81 i v = if ¬ i < 0 ∧ i.toNatClampNeg < 5 then some (mk I (up1 L 81 (up1 (L 81) i.toNatClampNeg v))) else none := by unfold yJ; rw [mKd_mk, mLn_mk, KD_81, LN_81]; simp only [true_and]; rfl
theorem KD_82 : KD 82 = 11 := rfl
theorem kd_82 : mKd (mk I L) 82 = 11 := by rw [mKd_mk, KD_82]
theorem LN_82 : LN 82 = 6 := rfl
theorem ln_82 : aLn (mk I L) 82 = some 6 := by unfold aLn; rw [mKd_mk, mLn_mk, KD_82, LN_82]; rfl
theorem xI_82 (i : Int32) : xI 11 (mk I L) 82 i = if ¬ i < 0 ∧ i.toNatClampNeg < 6 then some (I 82 i.toNatClampNeg) else none := by unfold xI; rw [mKd_mk, mLn_mk, KD_82, LN_82]; simp only [true_and]; rfl
theorem yI_82 (i v : Int32) : yI 11 (mk I L) 82 i v = if ¬ i < 0 ∧ i.toNatClampNeg < 6 then some (mk (up1 I 82 (up1 (I 82) i.toNatClampNeg v)) L) else none := by unfold yI; rw [mKd_mk, mLn_mk, KD_82, LN_82]; simp only [true_and]; rfl
theorem KD_83 : KD 83 = 11 := rfl
theorem kd_83 : mKd (mk I L) 83 = 11 := by rw [mKd_mk, KD_83]
theorem LN_83 : LN 83 = 6 := rfl
theorem ln_83 : aLn (mk I L) 83 = some 6 := by unfold aLn; rw [mKd_mk, mLn_mk, KD_83, LN_83]; rfl
theorem xI_83 (i : Int32) : xI 11 (mk I L) 83 i = if ¬ i < 0 ∧ i.toNatClampNeg < 6 then some (I 83 i.toNatClampNeg) else none := by unfold xI; rw [mKd_mk, mLn_mk, KD_83, LN_83]; simp only [true_and]; rfl
theorem yI_83 (i v : Int32) : yI 11 (mk I L) 83 i v = if ¬ i < 0 ∧ i.toNatClampNeg < 6 then some (mk (up1 I 83 (up1 (I 83) i.toNatClampNeg v)) L) else none := by unfold yI; rw [mKd_mk, mLn_mk, KD_83, LN_83]; simp only [true_and]; rfl
theorem KD_84 : KD 84 = 12 := rfl
theorem kd_84 : mKd (mk I L) 84 = 12 := by rw [mKd_mk, KD_84]
theorem LN_84 : LN 84 = 360 := rfl
theorem ln_84 : aLn (mk I L) 84 = some 360 := by unfold aLn; rw [mKd_mk, mLn_mk, KD_84, LN_84]; rfl
theorem xJ_84 (i : Int32) : xJ (mk I L) 84 i = if ¬ i < 0 ∧ i.toNatClampNeg < 360 then some (L 84 i.toNatClampNeg) else none := by unfold xJ; rw [mKd_mk, mLn_mk, KD_84, LN_84]; simp only [true_and]; rfl
theorem yJ_84 (i : Int32) (v : Int64) : yJ (mk I L) 84 i v = if ¬ i < 0 ∧ i.toNatClampNeg < 360 then some (mk I (up1 L 84 (up1 (L 84) i.toNatClampNeg v))) else none := by unfold yJ; rw [mKd_mk, mLn_mk, KD_84, LN_84]; simp only [true_and]; rfl
theorem KD_85 : KD 85 = 12 := rfl
theorem kd_85 : mKd (mk I L) 85 = 12 := by rw [mKd_mk, KD_85]
theorem LN_85 : LN 85 = 5 := rfl
theorem ln_85 : aLn (mk I L) 85 = some 5 := by unfold aLn; rw [mKd_mk, mLn_mk, KD_85, LN_85]; rfl
theorem xJ_85 (i : Int32) : xJ (mk I L) 85 i = if ¬ i < 0 ∧ i.toNatClampNeg < 5 then some (L 85 i.toNatClampNeg) else none := by unfold xJ; rw [mKd_mk, mLn_mk, KD_85, LN_85]; simp only [true_and]; rfl
theorem yJ_85 (i : Int32) (v : Int64) : yJ (mk I L) 85 i v = if ¬ i < 0 ∧ i.toNatClampNeg < 5 then some (mk I (up1 L 85 (up1 (L 85) i.toNatClampNeg v))) else none := by unfold yJ; rw [mKd_mk, mLn_mk, KD_85, LN_85]; simp only [true_and]; rfl
theorem KD_86 : KD 86 = 11 := rfl
theorem kd_86 : mKd (mk I L) 86 = 11 := by rw [mKd_mk, KD_86]
theorem LN_86 : LN 86 = 50 := rfl
theorem ln_86 : aLn (mk I L) 86 = some 50 := by unfold aLn; rw [mKd_mk, mLn_mk, KD_86, LN_86]; rfl
theorem xI_86 (i : Int32) : xI 11 (mk I L) 86 i = if ¬ i < 0 ∧ i.toNatClampNeg < 50 then some (I 86 i.toNatClampNeg) else none := by unfold xI; rw [mKd_mk, mLn_mk, KD_86, LN_86]; simp only [true_and]; rfl
theorem yI_86 (i v : Int32) : yI 11 (mk I L) 86 i v = if ¬ i < 0 ∧ i.toNatClampNeg < 50 then some (mk (up1 I 86 (up1 (I 86) i.toNatClampNeg v)) L) else none := by unfold yI; rw [mKd_mk, mLn_mk, KD_86, LN_86]; simp only [true_and]; rfl
theorem RR_49_0 : RR 49 0 = 50 := rfl
theorem RR_49_1 : RR 49 1 = 52 := rfl
theorem RR_49_2 : RR 49 2 = 54 := rfl
theorem RR_49_3 : RR 49 3 = 56 := rfl
theorem RR_49_4 : RR 49 4 = 58 := rfl
theorem RR_49_5 : RR 49 5 = 60 := rfl
theorem xR_49 (i : Int32) : xR (mk I L) 49 i = if (¬ i < 0 ∧ i.toNatClampNeg < 6) ∧ RR 49 i.toNatClampNeg ≠ 0 then some (RR 49 i.toNatClampNeg) else none := by unfold xR; rw [mKd_mk, mLn_mk, mR_mk, KD_49, LN_49]; simp only [true_and]
end MEM
/-! numbers as ints -/
theorem i32_lt {x y : Int32} : x < y ↔ x.toInt < y.toInt := Int32.lt_iff_toInt_lt
theorem i32_le {x y : Int32} : x ≤ y ↔ x.toInt ≤ y.toInt := Int32.le_iff_toInt_le
theorem i32_eq {x y : Int32} : x = y ↔ x.toInt = y.toInt := Int32.toInt_inj.symm
theorem i64_lt {x y : Int64} : x < y ↔ x.toInt < y.toInt := Int64.lt_iff_toInt_lt
theorem i64_le {x y : Int64} : x ≤ y ↔ x.toInt ≤ y.toInt := Int64.le_iff_toInt_le
theorem i64_eq {x y : Int64} : x = y ↔ x.toInt = y.toInt := Int64.toInt_inj.symm
theorem i64_of32 (x : Int32) : x.toInt64.toInt = x.toInt := Int32.toInt_toInt64 x
def nn (n : Nat) : Int32 := Int32.ofNat n
theorem nn_toInt {n : Nat} (h : n < 2147483648) : (nn n).toInt = n := Int32.toInt_ofNat_of_lt h
theorem nn_nat {n : Nat} (h : n < 2147483648) : (nn n).toNatClampNeg = n := Int32.toNatClampNeg_ofNat_of_lt h
theorem nn_nn {n : Nat} (h : n < 2147483648) : ¬ nn n < 0 := by
  rw [i32_lt, nn_toInt h]
  exact Int.not_lt.mpr (Int.natCast_nonneg n)
theorem nn_lt {m n : Nat} (h1 : m < 2147483648) (h2 : n < 2147483648) : nn m < nn n ↔ m < n := by rw [i32_lt, nn_toInt h1, nn_toInt h2]; omega
theorem nn_le {m n : Nat} (h1 : m < 2147483648) (h2 : n < 2147483648) : nn m ≤ nn n ↔ m ≤ n := by rw [i32_le, nn_toInt h1, nn_toInt h2]; omega
theorem nn_s (n : Nat) : nn n + 1 = nn (n + 1) := (Int32.ofNat_add n 1).symm
theorem nat_toInt {x : Int32} (h : 0 ≤ x.toInt) : (x.toNatClampNeg : Int) = x.toInt := by
  show ((x.toInt.toNat : Nat) : Int) = x.toInt
  omega
theorem i32_nn {x : Int32} (h : 0 ≤ x.toInt) : x = nn x.toNatClampNeg := by
  rw [i32_eq, nn_toInt (by have := nat_toInt h; have := x.toInt_lt; omega), nat_toInt h]
/-! loops that count -/
theorem lp_for {σ ρ : Type} {f : (σ → Option ρ) → σ → Option ρ} (s : Nat → σ) {x : Option ρ} : ∀ (N : Nat), (∀ i, i < N → ∀ k, f k (s i) = k (s (i + 1))) → (∀ k, f k (s N) = x) → ∀ n, N < n → lpF f n (s 0) = x := by
  have key : ∀ (N m : Nat), (∀ i, i < N + m → ∀ k, f k (s i) = k (s (i + 1))) → (∀ k, f k (s (N + m)) = x) → ∀ n, N < n → lpF f n (s m) = x := by
    intro N
    induction N with
    | zero =>
      intro m _ he n hn
      cases n with
      | zero => omega
      | succ n => rw [Nat.zero_add] at he; exact he _
    | succ N ih =>
      intro m hs he n hn
      cases n with
      | zero => omega
      | succ n =>
        show f (lpF f n) (s m) = x
        rw [hs m (by omega)]
        exact ih (m + 1) (fun i hi => hs i (by omega)) (by rw [show N + (m + 1) = N + 1 + m by omega]; exact he) n (by omega)
  intro N hs he n hn
  exact key N 0 (fun i hi => hs i (by omega)) he n hn
theorem FU_gt {n : Nat} (h : n < 1000000) : n < FU := by rw [FU_eq]; exact h

