/-- values of a row that was multiplied -/
theorem vsum_up (d : Nat) (p : Nat → Int64) (x y : Int64) : ∀ n, n ≤ d + 1 → vsum (d + 1) p x y n = x * vsum d p x y n
  | 0, _ => by
    show (0 : Int64) = x * 0
    rw [Int64.mul_zero]
  | n + 1, h => by
    show vsum (d + 1) p x y n + p n * pw x (d + 1 - n) * pw y n = x * (vsum d p x y n + p n * pw x (d - n) * pw y n)
    rw [vsum_up d p x y n (by omega), show d + 1 - n = (d - n) + 1 by omega, show pw x (d - n + 1) = pw x (d - n) * x from rfl]
    grind
theorem vsum_mul (i : Nat) (u v : Int64) (p : Nat → Int64) (x y : Int64) : ∀ n, n ≤ i + 1 → vsum (i + 1) (mulp u v p) x y (n + 1) = u * vsum (i + 1) p x y (n + 1) + v * (y * vsum i p x y n)
  | 0, _ => by
    show 0 + (u * p 0 + (if (0 : Nat) = 0 then 0 else v * p (0 - 1))) * pw x (i + 1 - 0) * pw y 0 = u * (0 + p 0 * pw x (i + 1 - 0) * pw y 0) + v * (y * 0)
    rw [if_pos rfl]
    grind
  | n + 1, h => by
    show vsum (i + 1) (mulp u v p) x y (n + 1) + (u * p (n + 1) + (if n + 1 = 0 then 0 else v * p (n + 1 - 1))) * pw x (i + 1 - (n + 1)) * pw y (n + 1) = u * (vsum (i + 1) p x y (n + 1) + p (n + 1) * pw x (i + 1 - (n + 1)) * pw y (n + 1)) + v * (y * (vsum i p x y n + p n * pw x (i - n) * pw y n))
    rw [vsum_mul i u v p x y n (by omega), if_neg (Nat.succ_ne_zero n), Nat.add_sub_cancel, show i + 1 - (n + 1) = i - n by omega, show pw y (n + 1) = pw y n * y from rfl]
    grind
theorem V_mul (i : Nat) (u v : Int64) (p : Nat → Int64) (x y : Int64) (h : p (i + 1) = 0) : V (i + 1) (mulp u v p) x y = (u * x + v * y) * V i p x y := by
  unfold V
  rw [vsum_mul i u v p x y (i + 1) (Nat.le_refl _)]
  show u * (vsum (i + 1) p x y (i + 1) + p (i + 1) * pw x (i + 1 - (i + 1)) * pw y (i + 1)) + v * (y * vsum i p x y (i + 1)) = _
  rw [h, vsum_up i p x y (i + 1) (Nat.le_refl _)]
  grind
theorem vsum_add (d : Nat) (p q : Nat → Int64) (x y : Int64) : ∀ n, vsum d (padd p q) x y n = vsum d p x y n + vsum d q x y n
  | 0 => (Int64.add_zero 0).symm
  | n + 1 => by
    show vsum d (padd p q) x y n + (p n + q n) * pw x (d - n) * pw y n = (vsum d p x y n + p n * pw x (d - n) * pw y n) + (vsum d q x y n + q n * pw x (d - n) * pw y n)
    rw [vsum_add d p q x y n]
    grind
theorem vsum_sc (d : Nat) (c : Int64) (p : Nat → Int64) (x y : Int64) : ∀ n, vsum d (psc c p) x y n = c * vsum d p x y n
  | 0 => (Int64.mul_zero).symm
  | n + 1 => by
    show vsum d (psc c p) x y n + (c * p n) * pw x (d - n) * pw y n = c * (vsum d p x y n + p n * pw x (d - n) * pw y n)
    rw [vsum_sc d c p x y n]
    grind
theorem V_fp (w z x y : Int64) : ∀ i, V i (fp w z i) x y = pw (w * x + z * y) i
  | 0 => by
    show 0 + (if (0 : Nat) = 0 then (1 : Int64) else 0) * 1 * 1 = 1
    rw [if_pos rfl]
    decide
  | i + 1 => by
    show V (i + 1) (mulp w z (fp w z i)) x y = pw (w * x + z * y) i * (w * x + z * y)
    rw [V_mul i w z _ x y (fp_hi w z i (i + 1) (Nat.lt_succ_self i)), V_fp w z x y i, Int64.mul_comm]
theorem V_s (i : Nat) (a : Nat → Int64) (x y : Int64) : V (i + 1) a x y = x * V i a x y + a (i + 1) * pw y (i + 1) := by
  unfold V
  show vsum (i + 1) a x y (i + 1) + a (i + 1) * pw x (i + 1 - (i + 1)) * pw y (i + 1) = _
  rw [vsum_up i a x y (i + 1) (Nat.le_refl _), Nat.sub_self, show pw x 0 = 1 from rfl, Int64.mul_one]
/-- a form turned, at x, y -/
theorem V_ft (a : Nat → Int64) (u v w z x y : Int64) : ∀ i, V i (ft a u v w z i) x y = V i a (u * x + v * y) (w * x + z * y)
  | 0 => by
    show 0 + (if (0 : Nat) = 0 then a 0 else 0) * 1 * 1 = 0 + a 0 * 1 * 1
    rw [if_pos rfl]
  | i + 1 => by
    show V (i + 1) (padd (mulp u v (ft a u v w z i)) (psc (a (i + 1)) (fp w z (i + 1)))) x y = _
    rw [V_s i a (u * x + v * y) (w * x + z * y), ← V_ft a u v w z x y i, ← V_mul i u v _ x y (ft_hi a u v w z i (i + 1) (Nat.lt_succ_self i)), ← V_fp w z x y (i + 1)]
    unfold V
    rw [vsum_add, vsum_sc]
/-- turned twice -/
theorem ft_add (p q : Nat → Int64) (u v w z : Int64) : ∀ i, ft (padd p q) u v w z i = padd (ft p u v w z i) (ft q u v w z i)
  | 0 => by
    funext k
    show (if k = 0 then p 0 + q 0 else 0) = (if k = 0 then p 0 else 0) + (if k = 0 then q 0 else 0)
    split
    · rfl
    · exact (Int64.add_zero 0).symm
  | i + 1 => by
    show padd (mulp u v (ft (padd p q) u v w z i)) (psc (p (i + 1) + q (i + 1)) (fp w z (i + 1))) = padd (padd (mulp u v (ft p u v w z i)) (psc (p (i + 1)) (fp w z (i + 1)))) (padd (mulp u v (ft q u v w z i)) (psc (q (i + 1)) (fp w z (i + 1))))
    rw [ft_add p q u v w z i, mulp_add]
    funext k
    show (mulp u v (ft p u v w z i) k + mulp u v (ft q u v w z i) k) + (p (i + 1) + q (i + 1)) * fp w z (i + 1) k = (mulp u v (ft p u v w z i) k + p (i + 1) * fp w z (i + 1) k) + (mulp u v (ft q u v w z i) k + q (i + 1) * fp w z (i + 1) k)
    grind
theorem ft_sc (c : Int64) (p : Nat → Int64) (u v w z : Int64) : ∀ i, ft (psc c p) u v w z i = psc c (ft p u v w z i)
  | 0 => by
    funext k
    show (if k = 0 then c * p 0 else 0) = c * (if k = 0 then p 0 else 0)
    split
    · rfl
    · exact (Int64.mul_zero).symm
  | i + 1 => by
    show padd (mulp u v (ft (psc c p) u v w z i)) (psc (c * p (i + 1)) (fp w z (i + 1))) = psc c (padd (mulp u v (ft p u v w z i)) (psc (p (i + 1)) (fp w z (i + 1))))
    rw [ft_sc c p u v w z i, mulp_sc]
    funext k
    show c * mulp u v (ft p u v w z i) k + c * p (i + 1) * fp w z (i + 1) k = c * (mulp u v (ft p u v w z i) k + p (i + 1) * fp w z (i + 1) k)
    grind
/-- a row multiplied, then turned: one step on -/
theorem ft_mul1 (u v : Int64) (p : Nat → Int64) (u' v' w' z' : Int64) : ∀ n, ft (mulp u v p) u' v' w' z' (n + 1) = padd (psc u (ft p u' v' w' z' (n + 1))) (psc v (mulp w' z' (ft p u' v' w' z' n)))
  | 0 => by
    funext k
    show (u' * (if k = 0 then mulp u v p 0 else 0) + (if k = 0 then 0 else v' * (if k - 1 = 0 then mulp u v p 0 else 0))) + mulp u v p 1 * (w' * (if k = 0 then 1 else 0) + (if k = 0 then 0 else z' * (if k - 1 = 0 then 1 else 0)))
      = u * ((u' * (if k = 0 then p 0 else 0) + (if k = 0 then 0 else v' * (if k - 1 = 0 then p 0 else 0))) + p 1 * (w' * (if k = 0 then 1 else 0) + (if k = 0 then 0 else z' * (if k - 1 = 0 then 1 else 0)))) + v * (w' * (if k = 0 then p 0 else 0) + (if k = 0 then 0 else z' * (if k - 1 = 0 then p 0 else 0)))
    rw [show mulp u v p 0 = u * p 0 + 0 from rfl, show mulp u v p 1 = u * p 1 + v * p 0 from rfl]
    by_cases h0 : k = 0
    · simp only [if_pos h0]
      grind
    · by_cases h1 : k - 1 = 0
      · simp only [if_neg h0, if_pos h1]
        grind
      · simp only [if_neg h0, if_neg h1]
        grind
  | n + 1 => by
    show padd (mulp u' v' (ft (mulp u v p) u' v' w' z' (n + 1))) (psc (mulp u v p (n + 2)) (fp w' z' (n + 2))) = padd (psc u (padd (mulp u' v' (ft p u' v' w' z' (n + 1))) (psc (p (n + 2)) (fp w' z' (n + 2))))) (psc v (mulp w' z' (padd (mulp u' v' (ft p u' v' w' z' n)) (psc (p (n + 1)) (fp w' z' (n + 1))))))
    rw [ft_mul1 u v p u' v' w' z' n, mulp_add, mulp_sc, mulp_sc, mulp_add, mulp_sc, mulp_comm u' v' w' z', show mulp u v p (n + 2) = u * p (n + 2) + v * p (n + 1) from rfl, show fp w' z' (n + 2) = mulp w' z' (fp w' z' (n + 1)) from rfl]
    funext k
    show (u * mulp u' v' (ft p u' v' w' z' (n + 1)) k + v * mulp w' z' (mulp u' v' (ft p u' v' w' z' n)) k) + (u * p (n + 2) + v * p (n + 1)) * mulp w' z' (fp w' z' (n + 1)) k = u * (mulp u' v' (ft p u' v' w' z' (n + 1)) k + p (n + 2) * mulp w' z' (fp w' z' (n + 1)) k) + v * (mulp w' z' (mulp u' v' (ft p u' v' w' z' n)) k + p (n + 1) * mulp w' z' (fp w' z' (n + 1)) k)
    grind
theorem ft_mul (u v : Int64) (p : Nat → Int64) (u' v' w' z' : Int64) (n : Nat) (h : p (n + 1) = 0) : ft (mulp u v p) u' v' w' z' (n + 1) = mulp (u * u' + v * w') (u * v' + v * z') (ft p u' v' w' z' n) := by
  rw [ft_mul1]
  show padd (psc u (padd (mulp u' v' (ft p u' v' w' z' n)) (psc (p (n + 1)) (fp w' z' (n + 1))))) (psc v (mulp w' z' (ft p u' v' w' z' n))) = _
  rw [h]
  funext k
  show u * ((u' * ft p u' v' w' z' n k + (if k = 0 then 0 else v' * ft p u' v' w' z' n (k - 1))) + 0 * fp w' z' (n + 1) k) + v * (w' * ft p u' v' w' z' n k + (if k = 0 then 0 else z' * ft p u' v' w' z' n (k - 1))) = (u * u' + v * w') * ft p u' v' w' z' n k + (if k = 0 then 0 else (u * v' + v * z') * ft p u' v' w' z' n (k - 1))
  by_cases h0 : k = 0
  · simp only [if_pos h0]
    grind
  · simp only [if_neg h0]
    grind
theorem ft_fp (w z u' v' w' z' : Int64) : ∀ i, ft (fp w z i) u' v' w' z' i = fp (w * u' + z * w') (w * v' + z * z') i
  | 0 => rfl
  | i + 1 => by
    show ft (mulp w z (fp w z i)) u' v' w' z' (i + 1) = mulp _ _ (fp _ _ i)
    rw [ft_mul w z (fp w z i) u' v' w' z' i (fp_hi w z i (i + 1) (Nat.lt_succ_self i)), ft_fp w z u' v' w' z' i]
theorem ft_ft (a : Nat → Int64) (u v w z u' v' w' z' : Int64) : ∀ i, ft (ft a u v w z i) u' v' w' z' i = ft a (u * u' + v * w') (u * v' + v * z') (w * u' + z * w') (w * v' + z * z') i
  | 0 => rfl
  | i + 1 => by
    show ft (padd (mulp u v (ft a u v w z i)) (psc (a (i + 1)) (fp w z (i + 1)))) u' v' w' z' (i + 1) = padd (mulp _ _ (ft a _ _ _ _ i)) (psc (a (i + 1)) (fp _ _ (i + 1)))
    rw [ft_add, ft_sc, ft_fp, ft_mul u v _ u' v' w' z' i (ft_hi a u v w z i (i + 1) (Nat.lt_succ_self i)), ft_ft a u v w z u' v' w' z' i]
theorem fp_id : ∀ i k, fp 0 1 i k = if k = i then 1 else 0
  | 0, k => rfl
  | i + 1, k => by
    show 0 * fp 0 1 i k + (if k = 0 then 0 else 1 * fp 0 1 i (k - 1)) = _
    rw [fp_id i k, fp_id i (k - 1)]
    by_cases h0 : k = 0
    · rw [if_pos h0, if_neg (show ¬ k = i + 1 by omega)]
      grind
    · rw [if_neg h0]
      by_cases h1 : k - 1 = i
      · rw [if_pos h1, if_pos (show k = i + 1 by omega)]
        grind
      · rw [if_neg h1, if_neg (show ¬ k = i + 1 by omega)]
        grind
theorem ft_id (a : Nat → Int64) : ∀ i k, ft a 1 0 0 1 i k = if k ≤ i then a k else 0
  | 0, k => by
    show (if k = 0 then a 0 else 0) = _
    by_cases h : k = 0
    · rw [if_pos h, if_pos (by omega), h]
    · rw [if_neg h, if_neg (by omega)]
  | i + 1, k => by
    show (1 * ft a 1 0 0 1 i k + (if k = 0 then 0 else 0 * ft a 1 0 0 1 i (k - 1))) + a (i + 1) * fp 0 1 (i + 1) k = _
    rw [ft_id a i k, fp_id (i + 1) k]
    have h2 : (if k = 0 then (0 : Int64) else 0 * ft a 1 0 0 1 i (k - 1)) = 0 := by
      split
      · rfl
      · exact Int64.zero_mul
    rw [h2]
    by_cases h : k = i + 1
    · rw [if_neg (show ¬ k ≤ i by omega), if_pos h, if_pos (show k ≤ i + 1 by omega), h]
      grind
    · by_cases h1 : k ≤ i
      · rw [if_pos h1, if_neg h, if_pos (show k ≤ i + 1 by omega)]
        grind
      · rw [if_neg h1, if_neg h, if_neg (show ¬ k ≤ i + 1 by omega)]
        grind
/-- the turn that undoes one -/
def uInv (c : Nat) : Nat := if uE c 0 * uE c 3 - uE c 1 * uE c 2 = 1 then (c % 5 * 5 + (4 - c / 25 % 5)) * 25 + (4 - c / 5 % 5) * 5 + c / 125 else ((4 - c % 5) * 5 + c / 25 % 5) * 25 + c / 5 % 5 * 5 + (4 - c / 125)
def uQ (c k : Nat) : Int64 := (uE c k).toInt64
def invB (c : Nat) : Bool := decide (uInv c < 625) && (decide (uDet (uInv c) = true) && (decide (uQ c 0 * uQ (uInv c) 0 + uQ c 1 * uQ (uInv c) 2 = 1) && (decide (uQ c 0 * uQ (uInv c) 1 + uQ c 1 * uQ (uInv c) 3 = 0) && (decide (uQ c 2 * uQ (uInv c) 0 + uQ c 3 * uQ (uInv c) 2 = 0) && (decide (uQ c 2 * uQ (uInv c) 1 + uQ c 3 * uQ (uInv c) 3 = 1) && (decide (uE (uInv c) 0 * uE c 0 + uE (uInv c) 1 * uE c 2 = 1) && (decide (uE (uInv c) 0 * uE c 1 + uE (uInv c) 1 * uE c 3 = 0) && (decide (uE (uInv c) 2 * uE c 0 + uE (uInv c) 3 * uE c 2 = 0) && (decide (uE (uInv c) 2 * uE c 1 + uE (uInv c) 3 * uE c 3 = 1))))))))))
theorem invB_all : ∀ q, q < 25 → ∀ r, r < 25 → (!uDet (q * 25 + r) || invB (q * 25 + r)) = true := by decide +kernel
theorem uInv_s {s : Sq} (hV : VSt s) {u : Nat} (hu : u < 625) (h : Ub s u = true) : uInv u < 625 ∧ Ub s (uInv u) = true ∧ (uE (uInv u) 0 * uE u 0 + uE (uInv u) 1 * uE u 2 = 1 ∧ uE (uInv u) 0 * uE u 1 + uE (uInv u) 1 * uE u 3 = 0 ∧ uE (uInv u) 2 * uE u 0 + uE (uInv u) 3 * uE u 2 = 0 ∧ uE (uInv u) 2 * uE u 1 + uE (uInv u) 3 * uE u 3 = 1) := by
  have hd := hV.1.1
  unfold Ub at h
  rw [Bool.and_eq_true] at h
  obtain ⟨h1, h2⟩ := h
  have hall := invB_all (u / 25) (by omega) (u % 25) (by omega)
  rw [show u / 25 * 25 + u % 25 = u by omega, h1, Bool.not_true, Bool.false_or] at hall
  unfold invB at hall
  simp only [Bool.and_eq_true, decide_eq_true_eq] at hall
  obtain ⟨g1, g2, q1, q2, q3, q4, g4⟩ := hall
  refine ⟨g1, ?_, g4⟩
  unfold Ub
  rw [g2, Bool.true_and]
  unfold lft at h2 ⊢
  rw [allB_iff] at h2 ⊢
  have e1 : ∀ j, j < 5 → ft s.2.1 (uQ u 0) (uQ u 1) (uQ u 2) (uQ u 3) s.1 j = s.2.1 j := fun j hj => of_decide_eq_true (h2 j hj)
  intro j hj
  refine decide_eq_true ?_
  show ft s.2.1 (uQ (uInv u) 0) (uQ (uInv u) 1) (uQ (uInv u) 2) (uQ (uInv u) 3) s.1 j = s.2.1 j
  rw [← ft_congr (a := ft s.2.1 (uQ u 0) (uQ u 1) (uQ u 2) (uQ u 3) s.1) (b := s.2.1) _ _ _ _ s.1 (fun i hi => e1 i (by omega)), ft_ft, q1, q2, q3, q4, ft_id]
  by_cases hjd : j ≤ s.1
  · rw [if_pos hjd]
  · rw [if_neg hjd, hV.1.2.2 j hj (by omega)]
