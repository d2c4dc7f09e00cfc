def mulp (u v : Int64) (p : Nat → Int64) : Nat → Int64 := fun k => u * p k + (if k = 0 then 0 else v * p (k - 1))
def e0 (c : Int64) : Nat → Int64 := fun k => if k = 0 then c else 0
def padd (p q : Nat → Int64) : Nat → Int64 := fun k => p k + q k
def psc (c : Int64) (p : Nat → Int64) : Nat → Int64 := fun k => c * p k
def itr {α : Type} (f : α → α) : Nat → α → α
  | 0, x => x
  | n + 1, x => f (itr f n x)
def tl {α : Type} (r p : Nat → α) : Nat → α := fun k => if k < 5 then p k else r k
theorem i64_ac (a b c d : Int64) : a + b + (c + d) = a + c + (b + d) := by
  rw [Int64.add_assoc, Int64.add_assoc, ← Int64.add_assoc b c d, Int64.add_comm b c, Int64.add_assoc c b d]
theorem mulp_comm (u v w z : Int64) (p : Nat → Int64) : mulp u v (mulp w z p) = mulp w z (mulp u v p) := by
  funext k
  unfold mulp
  by_cases h0 : k = 0
  · simp only [h0, if_true]
    grind
  · by_cases h1 : k - 1 = 0
    · simp only [h0, h1, if_true, if_false]
      grind
    · simp only [h0, h1, if_false]
      grind
theorem mulp_add (u v : Int64) (p q : Nat → Int64) : mulp u v (padd p q) = padd (mulp u v p) (mulp u v q) := by
  funext k
  unfold mulp padd
  by_cases h0 : k = 0
  · simp only [h0, if_true]
    grind
  · simp only [h0, if_false]
    grind
theorem mulp_sc (u v c : Int64) (p : Nat → Int64) : mulp u v (psc c p) = psc c (mulp u v p) := by
  funext k
  unfold mulp psc
  by_cases h0 : k = 0
  · simp only [h0, if_true]
    grind
  · simp only [h0, if_false]
    grind
theorem e0_sc (c : Int64) : e0 c = psc c (e0 1) := by
  funext k
  show (if k = 0 then c else 0) = c * (if k = 0 then 1 else 0)
  split <;> simp
theorem itr_comm {α : Type} {f g : α → α} (h : ∀ x, f (g x) = g (f x)) (n : Nat) (x : α) : f (itr g n x) = itr g n (f x) := by
  induction n with
  | zero => rfl
  | succ n ih => show f (g (itr g n x)) = g (itr g n (f x)); rw [h, ih]
theorem itr_sc (u v c : Int64) (p : Nat → Int64) (n : Nat) : itr (mulp u v) n (psc c p) = psc c (itr (mulp u v) n p) := by
  induction n with
  | zero => rfl
  | succ n ih => show mulp u v (itr (mulp u v) n (psc c p)) = psc c (mulp u v (itr (mulp u v) n p)); rw [ih, mulp_sc]
theorem padd_z (p : Nat → Int64) : padd (fun _ => 0) p = p := by
  funext k
  exact Int64.zero_add _
theorem padd_as (p q r : Nat → Int64) : padd (padd p q) r = padd p (padd q r) := by
  funext k
  exact Int64.add_assoc _ _ _
section TP
variable (a : Nat → Int64) (u v w z : Int64)
/-- the powers of the second row, and what the class has after i turns of its loop -/
def fp : Nat → Nat → Int64
  | 0 => e0 1
  | i + 1 => mulp w z (fp i)
def ft : Nat → Nat → Int64
  | 0 => e0 (a 0)
  | i + 1 => padd (mulp u v (ft i)) (psc (a (i + 1)) (fp w z (i + 1)))
/-- what the reference adds at i -/
def pr (d i : Nat) : Nat → Int64 := itr (mulp w z) i (itr (mulp u v) (d - i) (e0 (a i)))
def TS (d : Nat) : Nat → Nat → Int64
  | 0 => fun _ => 0
  | n + 1 => padd (TS d n) (pr a u v w z d n)
theorem fp_itr (i : Nat) : fp w z i = itr (mulp w z) i (e0 1) := by
  induction i with
  | zero => rfl
  | succ i ih => show mulp w z (fp w z i) = mulp w z _; rw [ih]
theorem pr_alt (d i : Nat) : pr a u v w z d i = itr (mulp u v) (d - i) (psc (a i) (fp w z i)) := by
  unfold pr
  have h1 : itr (mulp w z) i (itr (mulp u v) (d - i) (e0 (a i))) = itr (mulp u v) (d - i) (itr (mulp w z) i (e0 (a i))) := by
    generalize e0 (a i) = q
    induction i generalizing d with
    | zero => rfl
    | succ i ih =>
      have h2 : ∀ n, itr (mulp w z) i (itr (mulp u v) n q) = itr (mulp u v) n (itr (mulp w z) i q) := fun n => by
        have := ih (n + i)
        rwa [Nat.add_sub_cancel] at this
      show mulp w z (itr (mulp w z) i (itr (mulp u v) (d - (i + 1)) q)) = itr (mulp u v) (d - (i + 1)) (mulp w z (itr (mulp w z) i q))
      rw [h2, itr_comm (mulp_comm w z u v)]
  rw [h1, e0_sc, itr_sc, fp_itr]
theorem TS_up (d n : Nat) (hn : n ≤ d + 1) : mulp u v (TS a u v w z d n) = TS a u v w z (d + 1) n := by
  induction n with
  | zero =>
    funext k
    show u * 0 + (if k = 0 then 0 else v * 0) = 0
    split <;> simp
  | succ n ih =>
    show mulp u v (padd _ _) = padd _ _
    rw [mulp_add, ih (by omega), pr_alt, pr_alt, show d + 1 - n = (d - n) + 1 by omega]
    rfl
theorem ft_TS (d : Nat) : ft a u v w z d = TS a u v w z d (d + 1) := by
  induction d with
  | zero =>
    show e0 (a 0) = padd (fun _ => 0) (pr a u v w z 0 0)
    rw [padd_z]
    rfl
  | succ d ih =>
    show padd (mulp u v (ft a u v w z d)) (psc (a (d + 1)) (fp w z (d + 1))) = padd (TS a u v w z (d + 1) (d + 1)) (pr a u v w z (d + 1) (d + 1))
    rw [ih, TS_up _ _ _ _ _ _ _ (Nat.le_refl _), pr_alt (i := d + 1), Nat.sub_self]
    rfl
theorem fp_hi (i k : Nat) (h : i < k) : fp w z i k = 0 := by
  induction i generalizing k with
  | zero => show (if k = 0 then (1 : Int64) else 0) = 0; rw [if_neg (by omega)]
  | succ i ih =>
    show w * fp w z i k + (if k = 0 then 0 else z * fp w z i (k - 1)) = 0
    rw [ih k (by omega), ih (k - 1) (by omega)]
    split <;> simp
theorem ft_hi (i k : Nat) (h : i < k) : ft a u v w z i k = 0 := by
  induction i generalizing k with
  | zero => show (if k = 0 then a 0 else 0) = 0; rw [if_neg (by omega)]
  | succ i ih =>
    show u * ft a u v w z i k + (if k = 0 then 0 else v * ft a u v w z i (k - 1)) + a (i + 1) * fp w z (i + 1) k = 0
    rw [ih k (by omega), ih (k - 1) (by omega), fp_hi w z (i + 1) k h]
    split <;> simp
end TP
theorem nn_dec (n : Nat) : nn (n + 1) + (-1) = nn n := by
  rw [← nn_s, Int32.add_assoc]
  show nn n + 0 = nn n
  simp
theorem nn_pred (n : Nat) : nn (n + 1) - 1 = nn n := nn_sub (b := 1) (by omega)
theorem nn_le0 (n : Nat) (h : n < 2147483648) : nn n ≤ 0 ↔ n = 0 := by
  rw [show (0 : Int32) = nn 0 from rfl, nn_le h (by omega)]
  omega
theorem m5_tl (u v : Int64) (r p : Nat → Int64) : (fun k => if k < 5 then mulp u v (tl r p) k else tl r p k) = tl r (mulp u v p) := by
  funext k
  unfold tl
  by_cases h : k < 5
  · simp only [if_pos h]
    unfold mulp
    simp only [if_pos h, if_pos (show k - 1 < 5 by omega)]
  · simp only [if_neg h]
section TC
variable (I : Nat → Nat → Int32) (L : Nat → Nat → Int64)
theorem mult_6 (u v : Int32) : fX2_multiply 6 u v (mk I L) = some ((), mk I (up1 L 6 (fun k => if k < 5 then mulp u.toInt64 v.toInt64 (L 6) k else L 6 k))) := by
  unfold fX2_multiply
  simp only [ln_6, Option.bind_some, Option.bind_none, up1_e, reduceIte, Nat.reduceEqDiff, nm, jn, one0]
  refine lp_for' (fun i => (nn (4 - i), mk I (up1 L 6 (fun k => if 4 - i < k ∧ k < 5 then mulp u.toInt64 v.toInt64 (L 6) k else L 6 k)))) ?_ 4 (fun i hi k => ?_) (fun k => ?_) (FU_gt (by omega))
  · rw [show (fun k => if 4 - 0 < k ∧ k < 5 then mulp u.toInt64 v.toInt64 (L 6) k else L 6 k) = L 6 from by
      funext k
      rw [if_neg (by omega)], up1_id]
    rfl
  · obtain ⟨m, hm⟩ : ∃ m, 4 - i = m + 1 := ⟨3 - i, by omega⟩
    have hm2 : 4 - (i + 1) = m := by omega
    simp only [hm, hm2, nn_le0 (m + 1) (by omega), show ¬ m + 1 = 0 by omega, if_false, xJ_6, yJ_6, nn_pred, nn_lt0 (m + 1) (by omega), nn_lt0 m (by omega), nn_nat (show m + 1 < 2147483648 by omega), nn_nat (show m < 2147483648 by omega), show m + 1 < 5 by omega, show m < 5 by omega, not_false_eq_true, and_self, if_true, Option.bind_some, nm, up1_s, up1_up1, Nat.lt_irrefl, false_and, show ¬ m + 1 < m by omega, nn_dec]
    congr 3
    congr 1
    congr 1
    funext j
    simp only [up1_e]
    by_cases hj : j = m + 1
    · subst hj
      simp only [if_true, show m < m + 1 by omega, show m + 1 < 5 by omega, and_self]
      unfold mulp
      simp
    · rw [if_neg hj]
      by_cases h2 : m < j ∧ j < 5
      · rw [if_pos h2, if_pos (by omega)]
      · rw [if_neg h2, if_neg (by omega)]
  · simp only [show nn (4 - 4) = 0 from rfl, Int32.le_refl, if_true, xJ_6, yJ_6, Int32.reduceLT, Int32.reduceToNatClampNeg, show (0 : Nat) < 5 by omega, not_false_eq_true, and_self, Option.bind_some, up1_s, up1_up1, Nat.sub_self, Nat.lt_irrefl, false_and, if_false]
    congr 3
    congr 1
    funext j
    simp only [up1_e]
    by_cases hj : j = 0
    · subst hj
      unfold mulp
      simp
    · rw [if_neg hj]
      by_cases h2 : 0 < j ∧ j < 5
      · rw [if_pos h2, if_pos h2.2]
      · rw [if_neg h2, if_neg (by omega)]
theorem mult_7 (u v : Int32) : fX2_multiply 7 u v (mk I L) = some ((), mk I (up1 L 7 (fun k => if k < 5 then mulp u.toInt64 v.toInt64 (L 7) k else L 7 k))) := by
  unfold fX2_multiply
  simp only [ln_7, Option.bind_some, Option.bind_none, up1_e, reduceIte, Nat.reduceEqDiff, nm, jn, one0]
  refine lp_for' (fun i => (nn (4 - i), mk I (up1 L 7 (fun k => if 4 - i < k ∧ k < 5 then mulp u.toInt64 v.toInt64 (L 7) k else L 7 k)))) ?_ 4 (fun i hi k => ?_) (fun k => ?_) (FU_gt (by omega))
  · rw [show (fun k => if 4 - 0 < k ∧ k < 5 then mulp u.toInt64 v.toInt64 (L 7) k else L 7 k) = L 7 from by
      funext k
      rw [if_neg (by omega)], up1_id]
    rfl
  · obtain ⟨m, hm⟩ : ∃ m, 4 - i = m + 1 := ⟨3 - i, by omega⟩
    have hm2 : 4 - (i + 1) = m := by omega
    simp only [hm, hm2, nn_le0 (m + 1) (by omega), show ¬ m + 1 = 0 by omega, if_false, xJ_7, yJ_7, nn_pred, nn_lt0 (m + 1) (by omega), nn_lt0 m (by omega), nn_nat (show m + 1 < 2147483648 by omega), nn_nat (show m < 2147483648 by omega), show m + 1 < 5 by omega, show m < 5 by omega, not_false_eq_true, and_self, if_true, Option.bind_some, nm, up1_s, up1_up1, Nat.lt_irrefl, false_and, show ¬ m + 1 < m by omega, nn_dec]
    congr 3
    congr 1
    congr 1
    funext j
    simp only [up1_e]
    by_cases hj : j = m + 1
    · subst hj
      simp only [if_true, show m < m + 1 by omega, show m + 1 < 5 by omega, and_self]
      unfold mulp
      simp
    · rw [if_neg hj]
      by_cases h2 : m < j ∧ j < 5
      · rw [if_pos h2, if_pos (by omega)]
      · rw [if_neg h2, if_neg (by omega)]
  · simp only [show nn (4 - 4) = 0 from rfl, Int32.le_refl, if_true, xJ_7, yJ_7, Int32.reduceLT, Int32.reduceToNatClampNeg, show (0 : Nat) < 5 by omega, not_false_eq_true, and_self, Option.bind_some, up1_s, up1_up1, Nat.sub_self, Nat.lt_irrefl, false_and, if_false]
    congr 3
    congr 1
    funext j
    simp only [up1_e]
    by_cases hj : j = 0
    · subst hj
      unfold mulp
      simp
    · rw [if_neg hj]
      by_cases h2 : 0 < j ∧ j < 5
      · rw [if_pos h2, if_pos h2.2]
      · rw [if_neg h2, if_neg (by omega)]
theorem mult_29 (u v : Int32) : fX2_multiply 29 u v (mk I L) = some ((), mk I (up1 L 29 (fun k => if k < 5 then mulp u.toInt64 v.toInt64 (L 29) k else L 29 k))) := by
  unfold fX2_multiply
  simp only [ln_29, Option.bind_some, Option.bind_none, up1_e, reduceIte, Nat.reduceEqDiff, nm, jn, one0]
  refine lp_for' (fun i => (nn (4 - i), mk I (up1 L 29 (fun k => if 4 - i < k ∧ k < 5 then mulp u.toInt64 v.toInt64 (L 29) k else L 29 k)))) ?_ 4 (fun i hi k => ?_) (fun k => ?_) (FU_gt (by omega))
  · rw [show (fun k => if 4 - 0 < k ∧ k < 5 then mulp u.toInt64 v.toInt64 (L 29) k else L 29 k) = L 29 from by
      funext k
      rw [if_neg (by omega)], up1_id]
    rfl
  · obtain ⟨m, hm⟩ : ∃ m, 4 - i = m + 1 := ⟨3 - i, by omega⟩
    have hm2 : 4 - (i + 1) = m := by omega
    simp only [hm, hm2, nn_le0 (m + 1) (by omega), show ¬ m + 1 = 0 by omega, if_false, xJ_29, yJ_29, nn_pred, nn_lt0 (m + 1) (by omega), nn_lt0 m (by omega), nn_nat (show m + 1 < 2147483648 by omega), nn_nat (show m < 2147483648 by omega), show m + 1 < 5 by omega, show m < 5 by omega, not_false_eq_true, and_self, if_true, Option.bind_some, nm, up1_s, up1_up1, Nat.lt_irrefl, false_and, show ¬ m + 1 < m by omega, nn_dec]
    congr 3
    congr 1
    congr 1
    funext j
    simp only [up1_e]
    by_cases hj : j = m + 1
    · subst hj
      simp only [if_true, show m < m + 1 by omega, show m + 1 < 5 by omega, and_self]
      unfold mulp
      simp
    · rw [if_neg hj]
      by_cases h2 : m < j ∧ j < 5
      · rw [if_pos h2, if_pos (by omega)]
      · rw [if_neg h2, if_neg (by omega)]
  · simp only [show nn (4 - 4) = 0 from rfl, Int32.le_refl, if_true, xJ_29, yJ_29, Int32.reduceLT, Int32.reduceToNatClampNeg, show (0 : Nat) < 5 by omega, not_false_eq_true, and_self, Option.bind_some, up1_s, up1_up1, Nat.sub_self, Nat.lt_irrefl, false_and, if_false]
    congr 3
    congr 1
    funext j
    simp only [up1_e]
    by_cases hj : j = 0
    · subst hj
      unfold mulp
      simp
    · rw [if_neg hj]
      by_cases h2 : 0 < j ∧ j < 5
      · rw [if_pos h2, if_pos h2.2]
      · rw [if_neg h2, if_neg (by omega)]
theorem mult_30 (u v : Int32) : fX2_multiply 30 u v (mk I L) = some ((), mk I (up1 L 30 (fun k => if k < 5 then mulp u.toInt64 v.toInt64 (L 30) k else L 30 k))) := by
  unfold fX2_multiply
  simp only [ln_30, Option.bind_some, Option.bind_none, up1_e, reduceIte, Nat.reduceEqDiff, nm, jn, one0]
  refine lp_for' (fun i => (nn (4 - i), mk I (up1 L 30 (fun k => if 4 - i < k ∧ k < 5 then mulp u.toInt64 v.toInt64 (L 30) k else L 30 k)))) ?_ 4 (fun i hi k => ?_) (fun k => ?_) (FU_gt (by omega))
  · rw [show (fun k => if 4 - 0 < k ∧ k < 5 then mulp u.toInt64 v.toInt64 (L 30) k else L 30 k) = L 30 from by
      funext k
      rw [if_neg (by omega)], up1_id]
    rfl
  · obtain ⟨m, hm⟩ : ∃ m, 4 - i = m + 1 := ⟨3 - i, by omega⟩
    have hm2 : 4 - (i + 1) = m := by omega
    simp only [hm, hm2, nn_le0 (m + 1) (by omega), show ¬ m + 1 = 0 by omega, if_false, xJ_30, yJ_30, nn_pred, nn_lt0 (m + 1) (by omega), nn_lt0 m (by omega), nn_nat (show m + 1 < 2147483648 by omega), nn_nat (show m < 2147483648 by omega), show m + 1 < 5 by omega, show m < 5 by omega, not_false_eq_true, and_self, if_true, Option.bind_some, nm, up1_s, up1_up1, Nat.lt_irrefl, false_and, show ¬ m + 1 < m by omega, nn_dec]
    congr 3
    congr 1
    congr 1
    funext j
    simp only [up1_e]
    by_cases hj : j = m + 1
    · subst hj
      simp only [if_true, show m < m + 1 by omega, show m + 1 < 5 by omega, and_self]
      unfold mulp
      simp
    · rw [if_neg hj]
      by_cases h2 : m < j ∧ j < 5
      · rw [if_pos h2, if_pos (by omega)]
      · rw [if_neg h2, if_neg (by omega)]
  · simp only [show nn (4 - 4) = 0 from rfl, Int32.le_refl, if_true, xJ_30, yJ_30, Int32.reduceLT, Int32.reduceToNatClampNeg, show (0 : Nat) < 5 by omega, not_false_eq_true, and_self, Option.bind_some, up1_s, up1_up1, Nat.sub_self, Nat.lt_irrefl, false_and, if_false]
    congr 3
    congr 1
    funext j
    simp only [up1_e]
    by_cases hj : j = 0
    · subst hj
      unfold mulp
      simp
    · rw [if_neg hj]
      by_cases h2 : 0 < j ∧ j < 5
      · rw [if_pos h2, if_pos h2.2]
      · rw [if_neg h2, if_neg (by omega)]
theorem mult_35 (u v : Int32) : fX2_multiply 35 u v (mk I L) = some ((), mk I (up1 L 35 (fun k => if k < 5 then mulp u.toInt64 v.toInt64 (L 35) k else L 35 k))) := by
  unfold fX2_multiply
  simp only [ln_35, Option.bind_some, Option.bind_none, up1_e, reduceIte, Nat.reduceEqDiff, nm, jn, one0]
  refine lp_for' (fun i => (nn (4 - i), mk I (up1 L 35 (fun k => if 4 - i < k ∧ k < 5 then mulp u.toInt64 v.toInt64 (L 35) k else L 35 k)))) ?_ 4 (fun i hi k => ?_) (fun k => ?_) (FU_gt (by omega))
  · rw [show (fun k => if 4 - 0 < k ∧ k < 5 then mulp u.toInt64 v.toInt64 (L 35) k else L 35 k) = L 35 from by
      funext k
      rw [if_neg (by omega)], up1_id]
    rfl
  · obtain ⟨m, hm⟩ : ∃ m, 4 - i = m + 1 := ⟨3 - i, by omega⟩
    have hm2 : 4 - (i + 1) = m := by omega
    simp only [hm, hm2, nn_le0 (m + 1) (by omega), show ¬ m + 1 = 0 by omega, if_false, xJ_35, yJ_35, nn_pred, nn_lt0 (m + 1) (by omega), nn_lt0 m (by omega), nn_nat (show m + 1 < 2147483648 by omega), nn_nat (show m < 2147483648 by omega), show m + 1 < 5 by omega, show m < 5 by omega, not_false_eq_true, and_self, if_true, Option.bind_some, nm, up1_s, up1_up1, Nat.lt_irrefl, false_and, show ¬ m + 1 < m by omega, nn_dec]
    congr 3
    congr 1
    congr 1
    funext j
    simp only [up1_e]
    by_cases hj : j = m + 1
    · subst hj
      simp only [if_true, show m < m + 1 by omega, show m + 1 < 5 by omega, and_self]
      unfold mulp
      simp
    · rw [if_neg hj]
      by_cases h2 : m < j ∧ j < 5
      · rw [if_pos h2, if_pos (by omega)]
      · rw [if_neg h2, if_neg (by omega)]
  · simp only [show nn (4 - 4) = 0 from rfl, Int32.le_refl, if_true, xJ_35, yJ_35, Int32.reduceLT, Int32.reduceToNatClampNeg, show (0 : Nat) < 5 by omega, not_false_eq_true, and_self, Option.bind_some, up1_s, up1_up1, Nat.sub_self, Nat.lt_irrefl, false_and, if_false]
    congr 3
    congr 1
    funext j
    simp only [up1_e]
    by_cases hj : j = 0
    · subst hj
      unfold mulp
      simp
    · rw [if_neg hj]
      by_cases h2 : 0 < j ∧ j < 5
      · rw [if_pos h2, if_pos h2.2]
      · rw [if_neg h2, if_neg (by omega)]
theorem mult_36 (u v : Int32) : fX2_multiply 36 u v (mk I L) = some ((), mk I (up1 L 36 (fun k => if k < 5 then mulp u.toInt64 v.toInt64 (L 36) k else L 36 k))) := by
  unfold fX2_multiply
  simp only [ln_36, Option.bind_some, Option.bind_none, up1_e, reduceIte, Nat.reduceEqDiff, nm, jn, one0]
  refine lp_for' (fun i => (nn (4 - i), mk I (up1 L 36 (fun k => if 4 - i < k ∧ k < 5 then mulp u.toInt64 v.toInt64 (L 36) k else L 36 k)))) ?_ 4 (fun i hi k => ?_) (fun k => ?_) (FU_gt (by omega))
  · rw [show (fun k => if 4 - 0 < k ∧ k < 5 then mulp u.toInt64 v.toInt64 (L 36) k else L 36 k) = L 36 from by
      funext k
      rw [if_neg (by omega)], up1_id]
    rfl
  · obtain ⟨m, hm⟩ : ∃ m, 4 - i = m + 1 := ⟨3 - i, by omega⟩
    have hm2 : 4 - (i + 1) = m := by omega
    simp only [hm, hm2, nn_le0 (m + 1) (by omega), show ¬ m + 1 = 0 by omega, if_false, xJ_36, yJ_36, nn_pred, nn_lt0 (m + 1) (by omega), nn_lt0 m (by omega), nn_nat (show m + 1 < 2147483648 by omega), nn_nat (show m < 2147483648 by omega), show m + 1 < 5 by omega, show m < 5 by omega, not_false_eq_true, and_self, if_true, Option.bind_some, nm, up1_s, up1_up1, Nat.lt_irrefl, false_and, show ¬ m + 1 < m by omega, nn_dec]
    congr 3
    congr 1
    congr 1
    funext j
    simp only [up1_e]
    by_cases hj : j = m + 1
    · subst hj
      simp only [if_true, show m < m + 1 by omega, show m + 1 < 5 by omega, and_self]
      unfold mulp
      simp
    · rw [if_neg hj]
      by_cases h2 : m < j ∧ j < 5
      · rw [if_pos h2, if_pos (by omega)]
      · rw [if_neg h2, if_neg (by omega)]
  · simp only [show nn (4 - 4) = 0 from rfl, Int32.le_refl, if_true, xJ_36, yJ_36, Int32.reduceLT, Int32.reduceToNatClampNeg, show (0 : Nat) < 5 by omega, not_false_eq_true, and_self, Option.bind_some, up1_s, up1_up1, Nat.sub_self, Nat.lt_irrefl, false_and, if_false]
    congr 3
    congr 1
    funext j
    simp only [up1_e]
    by_cases hj : j = 0
    · subst hj
      unfold mulp
      simp
    · rw [if_neg hj]
      by_cases h2 : 0 < j ∧ j < 5
      · rw [if_pos h2, if_pos h2.2]
      · rw [if_neg h2, if_neg (by omega)]
end TC
