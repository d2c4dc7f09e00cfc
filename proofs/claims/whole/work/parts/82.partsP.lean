/-- the value of a row at t, the greatest power first -/
def hs (r : Nat → Int64) (t : Int64) : Nat → Int64
  | 0 => 0
  | i + 1 => hs r t i * t + r i
def pv (d : Nat) (r : Nat → Int64) (n : Nat) : Int64 := hs r (nn n).toInt64 (d + 1)
/-- a part may be n -/
def cnd (d : Nat) (r : Nat → Int64) (n : Nat) : Bool := decide (pv d r n = 0) || (decide (0 < pv d r n ∧ pv d r (n + 1) < 0) || decide (pv d r n < 0 ∧ 0 < pv d r (n + 1)))
def pE (d : Nat) (r : Nat → Int64) (l : Nat) : Nat := ff (fun e => !cnd d r (99 - e)) (100 - l)
def pF (d : Nat) (r : Nat → Int64) (l : Nat) : Bool := decide (pE d r l < 100 - l)
def pN (d : Nat) (r : Nat → Int64) (l : Nat) : Nat := 99 - pE d r l
def pRs (d : Nat) (r : Nat → Int64) (l : Nat) : Int32 := if pF d r l = true then nn (pN d r l) else -1
/-- the row behind, as the reference makes it -/
def nq (d : Nat) (n : Int64) (r : Nat → Int64) : Nat → Nat → Int64
  | 0 => fun _ => 0
  | i + 1 => fun j => if j ≤ d then n * nq d n r i j + (if j = 0 then r i else nq d n r i (j - 1)) else 0
/-- .. and as the class does: one pass up to m, all passes -/
def ci (n : Int64) (r : Nat → Int64) : Nat → Nat → Int64
  | 0 => r
  | m + 1 => up1 (ci n r m) (m + 1) (ci n r m (m + 1) + n * ci n r m m)
def co (d : Nat) (n : Int64) (r : Nat → Int64) : Nat → Nat → Int64
  | 0 => r
  | e + 1 => ci n (co d n r e) (d - e)
def nxt (d n : Nat) (r : Nat → Int64) : Nat → Int64 := fun j => if j ≤ d then co d (nn n).toInt64 r d (d - j) else 0
theorem co_hi (d : Nat) (n : Int64) (r : Nat → Int64) {k : Nat} (hk : d < k) : ∀ e, co d n r e k = r k := by
  have h1 : ∀ (q : Nat → Int64) m, m ≤ d → ci n q m k = q k := by
    intro q m
    induction m with
    | zero => intro _; rfl
    | succ m ih =>
      intro hm
      show up1 (ci n q m) (m + 1) _ k = _
      rw [up1_n _ _ (by omega), ih (by omega)]
  intro e
  induction e with
  | zero => rfl
  | succ e ih =>
    show ci n (co d n r e) (d - e) k = _
    rw [h1 _ _ (by omega), ih]
/-- one pass: Horner's row -/
def hr (n : Int64) (r : Nat → Int64) : Nat → Int64
  | 0 => r 0
  | m + 1 => r (m + 1) + n * hr n r m
theorem ci_hr (n : Int64) (r : Nat → Int64) : ∀ m k, ci n r m k = if k ≤ m then hr n r k else r k := by
  intro m
  induction m with
  | zero =>
    intro k
    by_cases h : k ≤ 0
    · rw [if_pos h, show k = 0 by omega]
      rfl
    · rw [if_neg h]
      rfl
  | succ m ih =>
    intro k
    show up1 (ci n r m) (m + 1) (ci n r m (m + 1) + n * ci n r m m) k = _
    rw [up1_e, ih, ih, ih, if_neg (show ¬ m + 1 ≤ m by omega), if_pos (Nat.le_refl m)]
    by_cases h : k = m + 1
    · rw [if_pos h, if_pos (show k ≤ m + 1 by omega), h]
      rfl
    · by_cases h2 : k ≤ m
      · rw [if_neg h, if_pos h2, if_pos (show k ≤ m + 1 by omega)]
      · rw [if_neg h, if_neg h2, if_neg (show ¬ k ≤ m + 1 by omega)]
theorem co_nq (d : Nat) (hd : 2 ≤ d ∧ d ≤ 4) (n : Int64) (r : Nat → Int64) {j : Nat} (hj : j ≤ d) : nq d n r (d + 1) j = co d n r d (d - j) := by
  rcases (show d = 2 ∨ d = 3 ∨ d = 4 by omega) with rfl | rfl | rfl
  · rcases (show j = 0 ∨ j = 1 ∨ j = 2 by omega) with rfl | rfl | rfl
    all_goals
      simp only [nq, co, ci_hr, hr, Nat.reduceSub, Nat.reduceLeDiff, Nat.reduceEqDiff, ↓reduceIte, Nat.le_refl, Nat.zero_le, Nat.sub_zero, Nat.sub_self, Nat.succ_ne_self]
      grind
  · rcases (show j = 0 ∨ j = 1 ∨ j = 2 ∨ j = 3 by omega) with rfl | rfl | rfl | rfl
    all_goals
      simp only [nq, co, ci_hr, hr, Nat.reduceSub, Nat.reduceLeDiff, Nat.reduceEqDiff, ↓reduceIte, Nat.le_refl, Nat.zero_le, Nat.sub_zero, Nat.sub_self, Nat.succ_ne_self]
      grind
  · rcases (show j = 0 ∨ j = 1 ∨ j = 2 ∨ j = 3 ∨ j = 4 by omega) with rfl | rfl | rfl | rfl | rfl
    all_goals
      simp only [nq, co, ci_hr, hr, Nat.reduceSub, Nat.reduceLeDiff, Nat.reduceEqDiff, ↓reduceIte, Nat.le_refl, Nat.zero_le, Nat.sub_zero, Nat.sub_self, Nat.succ_ne_self]
      grind
def inE9 (x : Int64) : Bool := decide (-1000000000 ≤ x.toInt ∧ x.toInt ≤ 1000000000)
def inRw (r : Nat → Int64) (n : Nat) : Bool := allB n (fun j => inE9 (r j))
/-- row, part, and whether it goes on -/
def lst (k : Nat) : Nat := if k = 0 then 0 else 1
def rwk (d : Nat) (a : Nat → Int64) : Nat → Nat → Int64
  | 0 => a
  | k + 1 => nxt d (pN d (rwk d a k) (lst k)) (rwk d a k)
def pGo (d : Nat) (a : Nat → Int64) (k : Nat) : Bool := pF d (rwk d a k) (lst k) && (!decide (pv d (rwk d a k) (pN d (rwk d a k) (lst k)) = 0) && inRw (rwk d a (k + 1)) (d + 1))
def pK (d : Nat) (a : Nat → Int64) : Nat := ff (pGo d a) 8
/-- how many parts -/
def pM (d : Nat) (a : Nat → Int64) : Nat := if pK d a < 8 then (if pF d (rwk d a (pK d a)) (lst (pK d a)) = true then pK d a + 1 else pK d a) else 8
def pT (d : Nat) (a : Nat → Int64) (k : Nat) : Nat := pN d (rwk d a k) (lst k)
def gA (d : Nat) (a : Nat → Int64) : Nat → Int64
  | 0 => 0
  | 1 => 1
  | k + 2 => (nn (pT d a k)).toInt64 * gA d a (k + 1) + gA d a k
def gB (d : Nat) (a : Nat → Int64) : Nat → Int64
  | 0 => 1
  | 1 => 0
  | k + 2 => (nn (pT d a k)).toInt64 * gB d a (k + 1) + gB d a k
theorem rwk_hi (d : Nat) (a : Nat → Int64) (ha : ∀ j, j < 5 → d < j → a j = 0) : ∀ k j, j < 5 → d < j → rwk d a k j = 0
  | 0 => ha
  | k + 1 => fun j _ hj => by
    show (if j ≤ d then _ else (0 : Int64)) = 0
    rw [if_neg (by omega)]
theorem pE_le (d : Nat) (r : Nat → Int64) (l : Nat) : pE d r l ≤ 100 - l := (ff_all _ _).1
theorem pN_le (d : Nat) (r : Nat → Int64) (l : Nat) : pN d r l ≤ 99 := by
  unfold pN
  omega
theorem lst_le (k : Nat) : lst k ≤ 1 := by
  unfold lst
  split <;> omega
theorem pM_le (d : Nat) (a : Nat → Int64) : pM d a ≤ 8 := by
  unfold pM
  split
  · split <;> omega
  · omega
theorem hs_congr {r r' : Nat → Int64} (t : Int64) : ∀ (m : Nat), (∀ j, j < m → r j = r' j) → hs r t m = hs r' t m
  | 0, _ => rfl
  | m + 1, h => by
    show hs r t m * t + r m = hs r' t m * t + r' m
    rw [hs_congr t m (fun j hj => h j (by omega)), h m (by omega)]
theorem pv_congr {d : Nat} {r r' : Nat → Int64} (h : ∀ j, j ≤ d → r j = r' j) (n : Nat) : pv d r n = pv d r' n := hs_congr _ _ (fun j hj => h j (by omega))
theorem pR_congr {d : Nat} {r r' : Nat → Int64} (h : ∀ j, j ≤ d → r j = r' j) (l : Nat) : pRs d r l = pRs d r' l ∧ pF d r l = pF d r' l ∧ pN d r l = pN d r' l := by
  have h1 : pE d r l = pE d r' l := ff_congr _ (fun e _ => by
    unfold cnd
    rw [pv_congr h, pv_congr h])
  refine ⟨?_, ?_, ?_⟩
  · unfold pRs pF pN
    rw [h1]
  · unfold pF
    rw [h1]
  · unfold pN
    rw [h1]
