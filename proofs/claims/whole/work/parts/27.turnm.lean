section TM
variable (I : Nat → Nat → Int32) (L : Nat → Nat → Int64)
theorem nn_neg0 : ¬ nn 0 < 0 := nn_nn (by omega)
theorem nn_m1 : (0 : Int32) + (-1) < 0 := by decide
theorem nn0_le (n : Nat) (h : n < 2147483648) : nn n ≤ 0 ↔ n = 0 := nn_le0 n h
/-- the reference's product after its loop: as the class's multiply -/
theorem multM_s (u v : Int64) : fX10_multiplies 62 u v (mk I L) = some ((), mk I (up1 L 68 (fun k => if k < 5 then mulp u v (L 68) k else L 68 k))) := by
  unfold fX10_multiplies
  refine lp_for' (fun i => (if i = 5 then -1 else nn (4 - i), mk I (up1 L 68 (fun k => if 5 - i ≤ k ∧ k < 5 then mulp u v (L 68) k else L 68 k)))) ?_ 5 (fun i hi k => ?_) (fun k => ?_) (FU_gt (by omega))
  · rw [show (fun k => if 5 - 0 ≤ k ∧ k < 5 then mulp u v (L 68) k else L 68 k) = L 68 from by
      funext k
      rw [if_neg (by omega)], up1_id]
    rfl
  · obtain ⟨m, hm⟩ : ∃ m, 4 - i = m := ⟨4 - i, rfl⟩
    have hm2 : 5 - i = m + 1 := by omega
    have hm3 : 5 - (i + 1) = m := by omega
    have hi5 : ¬ i = 5 := by omega
    simp only [hm, hm2, hm3, hi5, if_false, nn_lt0 m (by omega), kd_62, gI_62, pI_62, gR_62_1, gR_62_4, gR_62_6, gR_62_8, gR_62_10, gR_62_11, gR_62_12, gR_62_14, gR_62_16, gR_62_17, gR_62_18, gR_62_20, gR_62_21, gR_62_22, gR_62_23, gR_62_24, gR_62_28, gR_62_31, gR_62_32, gR_62_33, gR_62_34, gR_62_35, gR_62_37, gR_62_38, gJ_62, pJ_62, ln_63, xJ_63, yJ_63, ln_64, xI_64, yI_64, ln_65, xI_65, yI_65, ln_66, xI_66, yI_66, ln_67, xJ_67, yJ_67, ln_68, xJ_68, yJ_68, ln_69, xI_69, yI_69, ln_70, xI_70, yI_70, ln_71, xI_71, yI_71, ln_72, xI_72, yI_72, ln_73, xI_73, yI_73, ln_74, xI_74, yI_74, ln_75, xI_75, yI_75, ln_76, xJ_76, yJ_76, ln_77, xJ_77, yJ_77, ln_78, xI_78, yI_78, ln_79, xI_79, yI_79, ln_80, xI_80, yI_80, ln_81, xJ_81, yJ_81, ln_82, xI_82, yI_82, ln_83, xI_83, yI_83, ln_84, xJ_84, yJ_84, ln_85, xJ_85, yJ_85, ln_86, xI_86, yI_86, nn0_le m (by omega), Option.bind_some, nn_nat (show m < 2147483648 by omega), show m < 5 by omega, not_false_eq_true, and_self, if_true, up1_s, up1_up1, show ¬ m + 1 ≤ m by omega, false_and, nm]
    have hrow : ∀ x, x = mulp u v (L 68) m → up1 (fun k => if m + 1 ≤ k ∧ k < 5 then mulp u v (L 68) k else L 68 k) m x = (fun k => if m ≤ k ∧ k < 5 then mulp u v (L 68) k else L 68 k) := by
      intro x hx
      funext j
      simp only [up1_e]
      by_cases hj : j = m
      · subst hj
        simp [hx, show j < 5 by omega]
      · rw [if_neg hj]
        by_cases h2 : m + 1 ≤ j ∧ j < 5
        · rw [if_pos h2, if_pos (by omega)]
        · rw [if_neg h2, if_neg (by omega)]
    by_cases h0 : m = 0
    · subst h0
      simp only [if_true]
      rw [hrow _ (by unfold mulp; simp)]
      rw [if_pos (show i + 1 = 5 by omega)]
      rfl
    · obtain ⟨q, rfl⟩ : ∃ q, m = q + 1 := ⟨m - 1, by omega⟩
      have hi6 : ¬ i + 1 = 5 := by omega
      have hm4 : 4 - (i + 1) = q := by omega
      simp only [h0, if_false, nn_pred, nn_lt0 q (by omega), nn_nat (show q < 2147483648 by omega), show q < 5 by omega, not_false_eq_true, and_self, if_true, Option.bind_some, show ¬ q + 1 + 1 ≤ q by omega, false_and, nn_dec, hi6, hm4]
      rw [hrow _ (by unfold mulp; simp)]
  · simp only [if_true, Int32.reduceLT, Nat.sub_self, Nat.zero_le, true_and]
/-- turned by nothing yet, by the first n numbers .. -/
theorem tlz (r : Nat → Int64) : tl r (fun _ => 0) = fun k => if k < 5 then 0 else r k := rfl
theorem TS_s (a : Nat → Int64) (u v w z : Int64) (d n k : Nat) : TS a u v w z d (n + 1) k = TS a u v w z d n k + pr a u v w z d n k := rfl
/-- the product's row as the reference makes it for the number i, after n turns of its inner loop -/
def pn (a : Nat → Int64) (u v w z : Int64) (d i : Nat) : Nat → Nat → Int64
  | 0 => e0 (a i)
  | n + 1 => if n < d - i then mulp u v (pn a u v w z d i n) else mulp w z (pn a u v w z d i n)
theorem pn_pr (a : Nat → Int64) (u v w z : Int64) (d i : Nat) (h : i ≤ d) : pn a u v w z d i d = pr a u v w z d i := by
  have k1 : ∀ n, n ≤ d - i → pn a u v w z d i n = itr (mulp u v) n (e0 (a i)) := by
    intro n
    induction n with
    | zero => intro _; rfl
    | succ n ih =>
      intro hn
      show (if n < d - i then mulp u v (pn a u v w z d i n) else _) = mulp u v _
      rw [if_pos (by omega), ih (by omega)]
  have k2 : ∀ n, pn a u v w z d i (d - i + n) = itr (mulp w z) n (itr (mulp u v) (d - i) (e0 (a i))) := by
    intro n
    induction n with
    | zero => exact k1 _ (Nat.le_refl _)
    | succ n ih =>
      show (if d - i + n < d - i then _ else mulp w z (pn a u v w z d i (d - i + n))) = mulp w z _
      rw [if_neg (by omega), ih]
  have := k2 i
  rw [show d - i + i = d by omega] at this
  exact this
/-- turned + product, up to j -/
def mixA (d j : Nat) (t p : Nat → Int64) : Nat → Int64 := fun k => if k < j ∧ k ≤ d then t k + p k else t k
def Td (a : Nat → Int64) (u v w z : Int64) (d i : Nat) : Nat → Int64 := fun k => if k ≤ d then TS a u v w z d i k else 0
def Pst (a : Nat → Int64) (u v w z : Int64) (d : Nat) (r : Nat → Int64) : Nat → Nat → Int64
  | 0 => r
  | i + 1 => tl r (pr a u v w z d i)
theorem mixA_end (a : Nat → Int64) (u v w z : Int64) (d i : Nat) : mixA d (d + 1) (Td a u v w z d i) (pr a u v w z d i) = Td a u v w z d (i + 1) := by
  funext k
  unfold mixA Td
  by_cases h : k ≤ d
  · simp only [h, show k < d + 1 by omega, and_self, if_true]
    rfl
  · simp only [h, and_false, if_false]
theorem mixA_0 (d : Nat) (t p : Nat → Int64) : mixA d 0 t p = t := by
  funext k
  unfold mixA
  simp
theorem mixA_s (r : Nat → Int64) (d j : Nat) (t p : Nat → Int64) (hj : j < 5) (hd : j ≤ d) : up1 (tl r (mixA d j t p)) j (t j + p j) = tl r (mixA d (j + 1) t p) := by
  funext k
  unfold tl mixA
  simp only [up1_e]
  by_cases h : k = j
  · subst h
    simp [hj, hd]
  · by_cases h2 : k < j
    · simp [h, h2, show k < j + 1 by omega]
    · simp [h, h2, show ¬ k < j + 1 by omega]
theorem mixA_at (r : Nat → Int64) (d j : Nat) (t p : Nat → Int64) (hj : j < 5) : tl r (mixA d j t p) j = t j := by
  unfold tl mixA
  simp [hj]
theorem Pst_tl (a : Nat → Int64) (u v w z : Int64) (d i : Nat) (r q : Nat → Int64) : (fun k => if k < 5 then q k else Pst a u v w z d r i k) = tl r q := by
  funext k
  cases i with
  | zero => rfl
  | succ i =>
    show (if k < 5 then q k else if k < 5 then _ else r k) = if k < 5 then q k else r k
    split <;> rfl
theorem nn_eq0 (n : Nat) (h : n < 2147483648) : nn n = 0 ↔ n = 0 := by
  rw [i32_eq, nn_toInt h]
  show (n : Int) = 0 ↔ _
  omega
theorem turnsM_s (d : Nat) (hd : 2 ≤ d ∧ d ≤ 4) (hI : I 62 0 = nn d) (u v w z : Int64) : fX10_turns 62 u v w z (mk I L) = some ((), mk I (up1 (up1 L 67 (tl (L 67) (Td (L 63) u v w z d (d + 1)))) 68 (tl (L 68) (pr (L 63) u v w z d d)))) := by
  unfold fX10_turns
  refine lp_for' (fun i => (nn i, mk I (up1 L 67 (fun j => if j < i then 0 else L 67 j)))) ?_ 5 (fun i hi k => ?_) (fun k => ?_) (FU_gt (by omega))
  · simp only [fill0, up1_id]
    rfl
  · simp only [nn5_le i (by omega), show ¬ 5 ≤ i by omega, if_false, gR_62_10, yJ_67, nn_lt0 i (by omega), nn_nat (show i < 2147483648 by omega), hi, not_false_eq_true, and_self, if_true, Option.bind_some, nm, up1_s, up1_up1, fillup, nn_s]
  simp only [nn5_le 5 (by omega), Nat.le_refl, if_true]
  refine lp_for' (fun i => (nn i, mk I (up1 (up1 L 67 (tl (L 67) (Td (L 63) u v w z d i))) 68 (Pst (L 63) u v w z d (L 68) i)))) ?_ (d + 1) (fun i hi k => ?_) (fun k => ?_) (FU_gt (by omega))
  · rw [show Pst (L 63) u v w z d (L 68) 0 = (up1 L 67 (tl (L 67) (Td (L 63) u v w z d 0))) 68 from rfl, up1_id]
    show (nn 0, _) = (nn 0, _)
    congr 4
    funext k
    unfold tl Td
    split
    · split <;> rfl
    · rfl
  · simp only [gI_62, hI, Option.bind_some, nn_lt (show d < 2147483648 by omega) (show i < 2147483648 by omega), show ¬ d < i by omega, if_false]
    refine lp_for' (fun j => (nn j, mk I (up1 (up1 L 67 (tl (L 67) (Td (L 63) u v w z d i))) 68 (fun k => if k < j then e0 (L 63 i) k else Pst (L 63) u v w z d (L 68) i k)))) ?_ 5 (fun j hj k2 => ?_) (fun k2 => ?_) (FU_gt (by omega))
    · show (nn 0, _) = (nn 0, _)
      congr 3
    · have hrow : ∀ x, x = e0 (L 63 i) j → up1 (fun k => if k < j then e0 (L 63 i) k else Pst (L 63) u v w z d (L 68) i k) j x = (fun k => if k < j + 1 then e0 (L 63 i) k else Pst (L 63) u v w z d (L 68) i k) := by
        intro x hx
        funext q
        simp only [up1_e]
        by_cases hq : q = j
        · subst hq
          simp [hx]
        · by_cases h2 : q < j
          · simp [hq, h2, show q < j + 1 by omega]
          · simp [hq, h2, show ¬ q < j + 1 by omega]
      simp only [nn5_le j (by omega), show ¬ 5 ≤ j by omega, if_false, gR_62_11, gR_62_1, Option.bind_some, nn_eq0 j (by omega), xJ_63, yJ_68, nn_lt0 i (by omega), nn_lt0 j (by omega), nn_nat (show i < 2147483648 by omega), nn_nat (show j < 2147483648 by omega), show i < 5 by omega, hj, not_false_eq_true, and_self, if_true, up1_e, Nat.reduceEqDiff, reduceIte, up1_up1, nm, nn_s]
      by_cases h0 : j = 0
      · subst h0
        simp only [if_true]
        rw [hrow (L 63 i) (by unfold e0; rw [if_pos rfl])]
      · simp only [h0, if_false]
        rw [hrow _ (by unfold e0; rw [if_neg h0])]
    simp only [nn5_le 5 (by omega), Nat.le_refl, if_true, Pst_tl]
    refine lp_for' (fun n => (nn n, mk I (up1 (up1 L 67 (tl (L 67) (Td (L 63) u v w z d i))) 68 (tl (L 68) (pn (L 63) u v w z d i n))))) rfl d (fun n hn k3 => ?_) (fun k3 => ?_) (FU_gt (by omega))
    · simp only [gI_62, hI, Option.bind_some, nn_le (show d < 2147483648 by omega) (show n < 2147483648 by omega), show ¬ d ≤ n by omega, if_false, jn, nn_sub (show i ≤ d by omega), nn_le (show d - i < 2147483648 by omega) (show n < 2147483648 by omega)]
      by_cases hc : d - i ≤ n
      · simp only [hc, if_true, kd_62, multM_s, up1_e, Nat.reduceEqDiff, reduceIte, Option.bind_some, m5_tl, up1_up1, nm, nn_s]
        rw [show pn (L 63) u v w z d i (n + 1) = mulp w z (pn (L 63) u v w z d i n) from if_neg (by omega)]
      · simp only [hc, if_false, if_true, kd_62, multM_s, up1_e, Nat.reduceEqDiff, reduceIte, Option.bind_some, m5_tl, up1_up1, nm, nn_s]
        rw [show pn (L 63) u v w z d i (n + 1) = mulp u v (pn (L 63) u v w z d i n) from if_pos (by omega)]
    simp only [gI_62, hI, Option.bind_some, Int32.le_refl, if_true, pn_pr _ _ _ _ _ d i (show i ≤ d by omega)]
    refine lp_for' (fun j => (nn j, mk I (up1 (up1 L 67 (tl (L 67) (mixA d j (Td (L 63) u v w z d i) (pr (L 63) u v w z d i)))) 68 (tl (L 68) (pr (L 63) u v w z d i))))) (by rw [mixA_0]; rfl) (d + 1) (fun j hj k4 => ?_) (fun k4 => ?_) (FU_gt (by omega))
    · simp only [gI_62, hI, Option.bind_some, nn_lt (show d < 2147483648 by omega) (show j < 2147483648 by omega), show ¬ d < j by omega, if_false, gR_62_10, gR_62_11, xJ_67, xJ_68, yJ_67, nn_lt0 j (by omega), nn_nat (show j < 2147483648 by omega), show j < 5 by omega, not_false_eq_true, and_self, if_true, up1_e, Nat.reduceEqDiff, reduceIte, mixA_at _ _ _ _ _ (show j < 5 by omega), tl_at _ _ (show j < 5 by omega), up1_mid L _ _ _ (show 67 ≠ 68 by decide), nm, nn_s]
      rw [mixA_s _ _ _ _ _ (by omega) (by omega)]
    · simp only [gI_62, hI, Option.bind_some, nn_lt (show d < 2147483648 by omega) (show d + 1 < 2147483648 by omega), Nat.lt_succ_self, if_true, mixA_end, nm, nn_s]
      rfl
  · simp only [gI_62, hI, Option.bind_some, nn_lt (show d < 2147483648 by omega) (show d + 1 < 2147483648 by omega), Nat.lt_succ_self, if_true]
    rfl
end TM
