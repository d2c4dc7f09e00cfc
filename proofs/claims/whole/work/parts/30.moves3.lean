theorem ft_congr {a b : Nat → Int64} (u v w z : Int64) (i : Nat) (h : ∀ j, j ≤ i → a j = b j) : ft a u v w z i = ft b u v w z i := by
  induction i with
  | zero => show e0 (a 0) = e0 (b 0); rw [h 0 (Nat.le_refl 0)]
  | succ i ih =>
    show padd (mulp u v (ft a u v w z i)) (psc (a (i + 1)) (fp w z (i + 1))) = padd (mulp u v (ft b u v w z i)) (psc (b (i + 1)) (fp w z (i + 1)))
    rw [ih (fun j hj => h j (by omega)), h (i + 1) (Nat.le_refl _)]
theorem l32_64 {x : Int64} (h : -99 ≤ x.toInt ∧ x.toInt ≤ 99) : x.toInt32.toInt64 = x := by
  rw [i64_eq, i64_of32, Int64.toInt_toInt32]
  apply Int.bmod_eq_of_le <;> omega
/-- numbers as they may be -/
def VA (d : Nat) (a : Nat → Int64) : Prop := (2 ≤ d ∧ d ≤ 4) ∧ (∀ j, j < 5 → -99 ≤ (a j).toInt ∧ (a j).toInt ≤ 99) ∧ ∀ j, j < 5 → d < j → a j = 0
def tnOK (d : Nat) (a : Nat → Int64) (u v w z : Int64) : Bool := allB 5 (fun j => decide (-99 ≤ (ft a u v w z d j).toInt ∧ (ft a u v w z d j).toInt ≤ 99))
def tnA (d : Nat) (a : Nat → Int64) (u v w z : Int64) : Nat → Int64 := if tnOK d a u v w z = true then ft a u v w z d else a
def mvOK (d : Nat) (a : Nat → Int64) (m : Int32) : Bool := if m = 0 then tnOK d a 1 1 0 1 else if m = 1 then tnOK d a 1 (-1) 0 1 else if m = 2 then tnOK d a 0 1 1 0 else if m = 3 then tnOK d a (-1) 0 0 1 else true
def mvA (d : Nat) (a : Nat → Int64) (m : Int32) : Nat → Int64 := if m = 0 then tnA d a 1 1 0 1 else if m = 1 then tnA d a 1 (-1) 0 1 else if m = 2 then tnA d a 0 1 1 0 else if m = 3 then tnA d a (-1) 0 0 1 else fun j => -a j
def AC (F : Nat) (I : Nat → Nat → Int32) (d : Nat) (a : Nat → Int64) : Prop := I F 0 = nn d ∧ ∀ j, j < 5 → (I (F + 1) j).toInt64 = a j
def AM (I : Nat → Nat → Int32) (L : Nat → Nat → Int64) (d : Nat) (a : Nat → Int64) : Prop := I 62 0 = nn d ∧ ∀ j, j < 5 → L 63 j = a j
theorem tnOK_iff {d : Nat} {a : Nat → Int64} {u v w z : Int64} : tnOK d a u v w z = true ↔ ∀ j, j < 5 → -99 ≤ (ft a u v w z d j).toInt ∧ (ft a u v w z d j).toInt ≤ 99 := by
  unfold tnOK
  rw [allB_iff]
  exact ⟨fun h j hj => of_decide_eq_true (h j hj), fun h j hj => decide_eq_true (h j hj)⟩
theorem VA_tn {d : Nat} {a : Nat → Int64} (h : VA d a) (u v w z : Int64) : VA d (tnA d a u v w z) := by
  unfold tnA
  split
  · rename_i hk
    exact ⟨h.1, tnOK_iff.mp hk, fun j hj hd => ft_hi a u v w z d j hd⟩
  · exact h
theorem neg_toInt {x : Int64} (h : -99 ≤ x.toInt ∧ x.toInt ≤ 99) : (-x).toInt = -x.toInt := by
  rw [Int64.toInt_neg]
  apply Int.bmod_eq_of_le <;> omega
theorem neg_toInt32 {x : Int32} (h : -99 ≤ x.toInt ∧ x.toInt ≤ 99) : (-x).toInt = -x.toInt := by
  rw [Int32.toInt_neg]
  apply Int.bmod_eq_of_le <;> omega
theorem VA_mv {d : Nat} {a : Nat → Int64} (h : VA d a) (m : Int32) : VA d (mvA d a m) := by
  unfold mvA
  by_cases h0 : m = 0
  · rw [if_pos h0]
    exact VA_tn h _ _ _ _
  rw [if_neg h0]
  by_cases h1 : m = 1
  · rw [if_pos h1]
    exact VA_tn h _ _ _ _
  rw [if_neg h1]
  by_cases h2 : m = 2
  · rw [if_pos h2]
    exact VA_tn h _ _ _ _
  rw [if_neg h2]
  by_cases h3 : m = 3
  · rw [if_pos h3]
    exact VA_tn h _ _ _ _
  rw [if_neg h3]
  refine ⟨h.1, fun j hj => ?_, fun j hj hd => ?_⟩
  · have h1 := h.2.1 j hj
    rw [neg_toInt h1]
    omega
  · show -a j = 0
    rw [h.2.2 j hj hd]
    rfl
section MW
variable (I : Nat → Nat → Int32) (L : Nat → Nat → Int64)
theorem turnC_4 {d : Nat} {a : Nat → Int64} (hA : AC 4 I d a) (hV : VA d a) (u v w z : Int32) : ∃ I' L', fX2_turnBy 4 u v w z (mk I L) = some (if tnOK d a u.toInt64 v.toInt64 w.toInt64 z.toInt64 = true then 1 else 0, mk I' L') ∧ AC 4 I' d (tnA d a u.toInt64 v.toInt64 w.toInt64 z.toInt64) ∧ (∀ r, r ≠ 5 → I' r = I r) ∧ (∀ r, r ≠ 6 → r ≠ 7 → L' r = L r) := by
  rw [turnBy_4 I L d hV.1 hA.1]
  have e1 : tw I 4 d u v w z = ft a u.toInt64 v.toInt64 w.toInt64 z.toInt64 d := ft_congr _ _ _ _ d (fun j hj => hA.2 j (by have := hV.1; omega))
  rw [e1]
  by_cases hk : tnOK d a u.toInt64 v.toInt64 w.toInt64 z.toInt64 = true
  · rw [if_pos (show allB 5 _ = true from hk), if_pos hk]
    refine ⟨_, _, rfl, ⟨?_, fun j hj => ?_⟩, fun r hr => up1_n _ _ hr, fun r h1 h2 => LT_n I L 4 d u v w z h1 h2⟩
    · rw [up1_n _ _ (by decide)]
      exact hA.1
    · rw [up1_s, if_pos hj]
      unfold tnA
      rw [if_pos hk, l32_64 (tnOK_iff.mp hk j hj)]
  · rw [if_neg (show ¬ allB 5 _ = true from hk), if_neg hk]
    refine ⟨_, _, rfl, ?_, fun r hr => rfl, fun r h1 h2 => LT_n I L 4 d u v w z h1 h2⟩
    unfold tnA
    rw [if_neg hk]
    exact hA
theorem turnC_27 {d : Nat} {a : Nat → Int64} (hA : AC 27 I d a) (hV : VA d a) (u v w z : Int32) : ∃ I' L', fX2_turnBy 27 u v w z (mk I L) = some (if tnOK d a u.toInt64 v.toInt64 w.toInt64 z.toInt64 = true then 1 else 0, mk I' L') ∧ AC 27 I' d (tnA d a u.toInt64 v.toInt64 w.toInt64 z.toInt64) ∧ (∀ r, r ≠ 28 → I' r = I r) ∧ (∀ r, r ≠ 29 → r ≠ 30 → L' r = L r) := by
  rw [turnBy_27 I L d hV.1 hA.1]
  have e1 : tw I 27 d u v w z = ft a u.toInt64 v.toInt64 w.toInt64 z.toInt64 d := ft_congr _ _ _ _ d (fun j hj => hA.2 j (by have := hV.1; omega))
  rw [e1]
  by_cases hk : tnOK d a u.toInt64 v.toInt64 w.toInt64 z.toInt64 = true
  · rw [if_pos (show allB 5 _ = true from hk), if_pos hk]
    refine ⟨_, _, rfl, ⟨?_, fun j hj => ?_⟩, fun r hr => up1_n _ _ hr, fun r h1 h2 => LT_n I L 27 d u v w z h1 h2⟩
    · rw [up1_n _ _ (by decide)]
      exact hA.1
    · rw [up1_s, if_pos hj]
      unfold tnA
      rw [if_pos hk, l32_64 (tnOK_iff.mp hk j hj)]
  · rw [if_neg (show ¬ allB 5 _ = true from hk), if_neg hk]
    refine ⟨_, _, rfl, ?_, fun r hr => rfl, fun r h1 h2 => LT_n I L 27 d u v w z h1 h2⟩
    unfold tnA
    rw [if_neg hk]
    exact hA
theorem Td_ft (d : Nat) (a b : Nat → Int64) (u v w z : Int64) (h : ∀ j, j ≤ d → b j = a j) {k : Nat} (hk : k ≤ d) : Td b u v w z d (d + 1) k = ft a u v w z d k := by
  unfold Td
  rw [if_pos hk, ← ft_TS, ft_congr u v w z d h]
theorem turnM {d : Nat} {a : Nat → Int64} (hA : AM I L d a) (hV : VA d a) (u v w z : Int64) : ∃ L1 L', fX10_turns 62 u v w z (mk I L) = some ((), mk I L1) ∧ fX10_becomesTurned 62 (mk I L1) = some (if tnOK d a u v w z = true then 1 else 0, mk I L') ∧ AM I L' d (tnA d a u v w z) ∧ (∀ r, r ≠ 63 → r ≠ 67 → r ≠ 68 → L' r = L r) := by
  have hd := hV.1
  have hT : ∀ k, k ≤ d → Td (L 63) u v w z d (d + 1) k = ft a u v w z d k := fun k hk => Td_ft d a (L 63) u v w z (fun j hj => hA.2 j (by omega)) hk
  have h67 : ∀ k, k ≤ d → (up1 (up1 L 67 (tl (L 67) (Td (L 63) u v w z d (d + 1)))) 68 (tl (L 68) (pr (L 63) u v w z d d))) 67 k = ft a u v w z d k := fun k hk => by
    rw [up1_n _ _ (by decide), up1_s, tl_at _ _ (by omega), hT k hk]
  have hR : inR ((up1 (up1 L 67 (tl (L 67) (Td (L 63) u v w z d (d + 1)))) 68 (tl (L 68) (pr (L 63) u v w z d d))) 67) (d + 1) ↔ tnOK d a u v w z = true := by
    rw [tnOK_iff]
    unfold inR
    constructor
    · intro h j hj
      by_cases hjd : j ≤ d
      · rw [← h67 j hjd]
        exact h j (by omega)
      · rw [ft_hi a u v w z d j (by omega)]
        decide
    · intro h j hj
      rw [h67 j (by omega)]
      exact h j (by omega)
  rcases becomes_s I (up1 (up1 L 67 (tl (L 67) (Td (L 63) u v w z d (d + 1)))) 68 (tl (L 68) (pr (L 63) u v w z d d))) d hd hA.1 with ⟨h1, h2⟩ | ⟨h1, h2⟩
  · have hk := hR.mp h1
    refine ⟨_, _, turnsM_s I L d hd hA.1 u v w z, by rw [h2, if_pos hk], ⟨hA.1, fun j hj => ?_⟩, fun r r1 r2 r3 => ?_⟩
    · rw [up1_s]
      unfold tnA
      rw [if_pos hk]
      by_cases hjd : j ≤ d
      · rw [if_pos (by omega), h67 j hjd]
      · rw [if_neg (by omega), up1_n _ _ (by decide), up1_n _ _ (by decide), hA.2 j hj, hV.2.2 j hj (by omega), ft_hi a u v w z d j (by omega)]
    · rw [up1_n _ _ r1, up1_n _ _ r3, up1_n _ _ r2]
  · have hk : ¬ tnOK d a u v w z = true := fun h => h1 (hR.mpr h)
    refine ⟨_, _, turnsM_s I L d hd hA.1 u v w z, by rw [h2, if_neg hk], ⟨hA.1, fun j hj => ?_⟩, fun r r1 r2 r3 => ?_⟩
    · rw [up1_n _ _ (by decide), up1_n _ _ (by decide), hA.2 j hj]
      unfold tnA
      rw [if_neg hk]
    · rw [up1_n _ _ r3, up1_n _ _ r2]
theorem isMove_s (m : Int32) (h : Mem) : fX2_isMove m h = some (if 0 ≤ m.toInt ∧ m.toInt < 5 then 1 else 0, h) := by
  unfold fX2_isMove
  simp only [i32_lt, i32_le, Int32.reduceToInt]
  repeat' split
  all_goals first | rfl | (exfalso; omega)
theorem mv_cases {m : Int32} (h : 0 ≤ m.toInt ∧ m.toInt < 5) : m = 0 ∨ m = 1 ∨ m = 2 ∨ m = 3 ∨ m = 4 := by
  simp only [i32_eq, Int32.reduceToInt]
  omega
theorem bool_ret {α : Type} {c : Prop} [Decidable c] {M : α} {r : Option (Int32 × α)} (h : r = some (if c then 1 else 0, M)) : r.bind (fun ((v23, h22) : Int32 × α) => if v23 = 0 ∨ v23 = 1 then some (v23, h22) else none) = some (if c then 1 else 0, M) := by
  rw [h]
  by_cases hc : c <;> simp [hc]
theorem moveC_4 {d : Nat} {a : Nat → Int64} (hA : AC 4 I d a) (hV : VA d a) (m : Int32) (hm : 0 ≤ m.toInt ∧ m.toInt < 5) : ∃ I' L', fX2_moveBy 4 m (mk I L) = some (if mvOK d a m = true then 1 else 0, mk I' L') ∧ AC 4 I' d (mvA d a m) ∧ (∀ r, r ≠ 5 → I' r = I r) ∧ (∀ r, r ≠ 6 → r ≠ 7 → L' r = L r) := by
  unfold fX2_moveBy
  rw [isMove_s, if_pos hm]
  simp only [Option.bind_some, show ¬ (1 : Int32) = 0 by decide, if_false, nm, jn]
  rcases mv_cases hm with rfl | rfl | rfl | rfl | rfl
  · obtain ⟨I', L', h1, h2⟩ := turnC_4 I L hA hV 1 1 0 1
    refine ⟨I', L', ?_, h2⟩
    rw [if_neg (by decide), if_neg (by decide), show xT tabM 16 (0 * 4) = some 1 from rfl, show xT tabM 16 (0 * 4 + 1) = some 1 from rfl, show xT tabM 16 (0 * 4 + 2) = some 0 from rfl, show xT tabM 16 (0 * 4 + 3) = some 1 from rfl]
    simp only [Option.bind_some, kd_4, if_true]
    exact bool_ret h1
  · obtain ⟨I', L', h1, h2⟩ := turnC_4 I L hA hV 1 (-1) 0 1
    refine ⟨I', L', ?_, h2⟩
    rw [if_neg (by decide), if_neg (by decide), show xT tabM 16 (1 * 4) = some 1 from rfl, show xT tabM 16 (1 * 4 + 1) = some (-1) from rfl, show xT tabM 16 (1 * 4 + 2) = some 0 from rfl, show xT tabM 16 (1 * 4 + 3) = some 1 from rfl]
    simp only [Option.bind_some, kd_4, if_true]
    exact bool_ret h1
  · obtain ⟨I', L', h1, h2⟩ := turnC_4 I L hA hV 0 1 1 0
    refine ⟨I', L', ?_, h2⟩
    rw [if_neg (by decide), if_neg (by decide), show xT tabM 16 (2 * 4) = some 0 from rfl, show xT tabM 16 (2 * 4 + 1) = some 1 from rfl, show xT tabM 16 (2 * 4 + 2) = some 1 from rfl, show xT tabM 16 (2 * 4 + 3) = some 0 from rfl]
    simp only [Option.bind_some, kd_4, if_true]
    exact bool_ret h1
  · obtain ⟨I', L', h1, h2⟩ := turnC_4 I L hA hV (-1) 0 0 1
    refine ⟨I', L', ?_, h2⟩
    rw [if_neg (by decide), if_neg (by decide), show xT tabM 16 (3 * 4) = some (-1) from rfl, show xT tabM 16 (3 * 4 + 1) = some 0 from rfl, show xT tabM 16 (3 * 4 + 2) = some 0 from rfl, show xT tabM 16 (3 * 4 + 3) = some 1 from rfl]
    simp only [Option.bind_some, kd_4, if_true]
    exact bool_ret h1
  · rw [if_pos (by decide)]
    refine ⟨up1 I 5 (fun k => if k < 5 then -(I 5 k) else I 5 k), L, ?_, ⟨?_, fun j hj => ?_⟩, fun r hr => up1_n _ _ hr, fun _ _ _ => rfl⟩
    · refine lp_for' (fun i => (nn i, mk (up1 I 5 (fun k => if k < i then -(I 5 k) else I 5 k)) L)) ?_ 5 (fun i hi k => ?_) (fun k => ?_) (FU_gt (by omega))
      · rw [show (fun k => if k < 0 then -(I 5 k) else I 5 k) = I 5 from by funext k; simp, up1_id]
        rfl
      · simp only [gR_4_1, ln_5, Option.bind_some, nn5_le i (by omega), show ¬ 5 ≤ i by omega, if_false, xI_5, yI_5, nn_lt0 (i) (by omega), nn_nat (show i < 2147483648 by omega), show i < 5 by omega, not_false_eq_true, and_self, if_true, up1_s, up1_up1, Nat.lt_irrefl, nn_s]
        congr 4
        funext q
        simp only [up1_e]
        by_cases hq : q = i
        · subst hq
          simp
        · by_cases h2 : q < i
          · simp [hq, h2, show q < i + 1 by omega]
          · simp [hq, h2, show ¬ q < i + 1 by omega]
      · simp only [gR_4_1, ln_5, Option.bind_some, nn5_le 5 (by omega), Nat.le_refl, if_true]
        rfl
    · rw [up1_n _ _ (by decide)]
      exact hA.1
    · rw [up1_s, if_pos hj]
      have h1 := hA.2 j hj
      have h2 := hV.2.1 j hj
      show (-(I 5 j)).toInt64 = -a j
      rw [← h1, i64_of32] at h2
      rw [i64_eq, i64_of32, neg_toInt32 h2, neg_toInt (by rw [← h1, i64_of32]; exact h2), ← h1, i64_of32]
theorem moveC_27 {d : Nat} {a : Nat → Int64} (hA : AC 27 I d a) (hV : VA d a) (m : Int32) (hm : 0 ≤ m.toInt ∧ m.toInt < 5) : ∃ I' L', fX2_moveBy 27 m (mk I L) = some (if mvOK d a m = true then 1 else 0, mk I' L') ∧ AC 27 I' d (mvA d a m) ∧ (∀ r, r ≠ 28 → I' r = I r) ∧ (∀ r, r ≠ 29 → r ≠ 30 → L' r = L r) := by
  unfold fX2_moveBy
  rw [isMove_s, if_pos hm]
  simp only [Option.bind_some, show ¬ (1 : Int32) = 0 by decide, if_false, nm, jn]
  rcases mv_cases hm with rfl | rfl | rfl | rfl | rfl
  · obtain ⟨I', L', h1, h2⟩ := turnC_27 I L hA hV 1 1 0 1
    refine ⟨I', L', ?_, h2⟩
    rw [if_neg (by decide), if_neg (by decide), show xT tabM 16 (0 * 4) = some 1 from rfl, show xT tabM 16 (0 * 4 + 1) = some 1 from rfl, show xT tabM 16 (0 * 4 + 2) = some 0 from rfl, show xT tabM 16 (0 * 4 + 3) = some 1 from rfl]
    simp only [Option.bind_some, kd_27, if_true]
    exact bool_ret h1
  · obtain ⟨I', L', h1, h2⟩ := turnC_27 I L hA hV 1 (-1) 0 1
    refine ⟨I', L', ?_, h2⟩
    rw [if_neg (by decide), if_neg (by decide), show xT tabM 16 (1 * 4) = some 1 from rfl, show xT tabM 16 (1 * 4 + 1) = some (-1) from rfl, show xT tabM 16 (1 * 4 + 2) = some 0 from rfl, show xT tabM 16 (1 * 4 + 3) = some 1 from rfl]
    simp only [Option.bind_some, kd_27, if_true]
    exact bool_ret h1
  · obtain ⟨I', L', h1, h2⟩ := turnC_27 I L hA hV 0 1 1 0
    refine ⟨I', L', ?_, h2⟩
    rw [if_neg (by decide), if_neg (by decide), show xT tabM 16 (2 * 4) = some 0 from rfl, show xT tabM 16 (2 * 4 + 1) = some 1 from rfl, show xT tabM 16 (2 * 4 + 2) = some 1 from rfl, show xT tabM 16 (2 * 4 + 3) = some 0 from rfl]
    simp only [Option.bind_some, kd_27, if_true]
    exact bool_ret h1
  · obtain ⟨I', L', h1, h2⟩ := turnC_27 I L hA hV (-1) 0 0 1
    refine ⟨I', L', ?_, h2⟩
    rw [if_neg (by decide), if_neg (by decide), show xT tabM 16 (3 * 4) = some (-1) from rfl, show xT tabM 16 (3 * 4 + 1) = some 0 from rfl, show xT tabM 16 (3 * 4 + 2) = some 0 from rfl, show xT tabM 16 (3 * 4 + 3) = some 1 from rfl]
    simp only [Option.bind_some, kd_27, if_true]
    exact bool_ret h1
  · rw [if_pos (by decide)]
    refine ⟨up1 I 28 (fun k => if k < 5 then -(I 28 k) else I 28 k), L, ?_, ⟨?_, fun j hj => ?_⟩, fun r hr => up1_n _ _ hr, fun _ _ _ => rfl⟩
    · refine lp_for' (fun i => (nn i, mk (up1 I 28 (fun k => if k < i then -(I 28 k) else I 28 k)) L)) ?_ 5 (fun i hi k => ?_) (fun k => ?_) (FU_gt (by omega))
      · rw [show (fun k => if k < 0 then -(I 28 k) else I 28 k) = I 28 from by funext k; simp, up1_id]
        rfl
      · simp only [gR_27_1, ln_28, Option.bind_some, nn5_le i (by omega), show ¬ 5 ≤ i by omega, if_false, xI_28, yI_28, nn_lt0 (i) (by omega), nn_nat (show i < 2147483648 by omega), show i < 5 by omega, not_false_eq_true, and_self, if_true, up1_s, up1_up1, Nat.lt_irrefl, nn_s]
        congr 4
        funext q
        simp only [up1_e]
        by_cases hq : q = i
        · subst hq
          simp
        · by_cases h2 : q < i
          · simp [hq, h2, show q < i + 1 by omega]
          · simp [hq, h2, show ¬ q < i + 1 by omega]
      · simp only [gR_27_1, ln_28, Option.bind_some, nn5_le 5 (by omega), Nat.le_refl, if_true]
        rfl
    · rw [up1_n _ _ (by decide)]
      exact hA.1
    · rw [up1_s, if_pos hj]
      have h1 := hA.2 j hj
      have h2 := hV.2.1 j hj
      show (-(I 28 j)).toInt64 = -a j
      rw [← h1, i64_of32] at h2
      rw [i64_eq, i64_of32, neg_toInt32 h2, neg_toInt (by rw [← h1, i64_of32]; exact h2), ← h1, i64_of32]
end MW
