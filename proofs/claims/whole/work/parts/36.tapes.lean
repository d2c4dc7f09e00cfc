theorem t6 {t : Nat} (h : t < 6) : t = 0 ∨ t = 1 ∨ t = 2 ∨ t = 3 ∨ t = 4 ∨ t = 5 := by omega
theorem tp_K0 {t : Nat} (h : t < 6) : KD (50 + 2 * t) = 7 := by rcases t6 h with rfl | rfl | rfl | rfl | rfl | rfl <;> rfl
theorem tp_K1 {t : Nat} (h : t < 6) : KD (51 + 2 * t) = 12 := by rcases t6 h with rfl | rfl | rfl | rfl | rfl | rfl <;> rfl
theorem tp_N1 {t : Nat} (h : t < 6) : LN (51 + 2 * t) = 60 := by rcases t6 h with rfl | rfl | rfl | rfl | rfl | rfl <;> rfl
theorem tp_R1 {t : Nat} (h : t < 6) : RR (50 + 2 * t) 1 = 51 + 2 * t := by rcases t6 h with rfl | rfl | rfl | rfl | rfl | rfl <;> rfl
theorem tp_R49 {t : Nat} (h : t < 6) : RR 49 t = 50 + 2 * t := by rcases t6 h with rfl | rfl | rfl | rfl | rfl | rfl <;> rfl
theorem i32_ex {x : Int32} (h : 0 ≤ x.toInt) : ∃ k, k < 2147483648 ∧ x = nn k := by
  refine ⟨x.toInt.toNat, ?_, ?_⟩
  · have := x.toInt_lt
    omega
  · have := x.toInt_lt
    rw [i32_eq, nn_toInt (by omega)]
    omega
theorem nn_lt60 (k : Nat) (h : k < 2147483648) : nn k < 60 ↔ k < 60 := nn_lt (n := 60) h (by omega)
section TP
variable (I : Nat → Nat → Int32) (L : Nat → Nat → Int64)
theorem tp_kd {t : Nat} (ht : t < 6) : mKd (mk I L) (50 + 2 * t) = 7 := by rw [mKd_mk, tp_K0 ht]
theorem tp_gI {t : Nat} (ht : t < 6) (k : Nat) : gI 7 (mk I L) (50 + 2 * t) k = some (I (50 + 2 * t) k) := by unfold gI; rw [mKd_mk, tp_K0 ht]; rfl
theorem tp_pI {t : Nat} (ht : t < 6) (k : Nat) (v : Int32) : pI 7 (mk I L) (50 + 2 * t) k v = some (mk (up1 I (50 + 2 * t) (up1 (I (50 + 2 * t)) k v)) L) := by unfold pI; rw [mKd_mk, tp_K0 ht]; rfl
theorem tp_gR {t : Nat} (ht : t < 6) : gR 7 (mk I L) (50 + 2 * t) 1 = some (51 + 2 * t) := by unfold gR; rw [mKd_mk, mR_mk, tp_K0 ht, tp_R1 ht, if_pos ⟨rfl, by omega⟩]
theorem tp_ln {t : Nat} (ht : t < 6) : aLn (mk I L) (51 + 2 * t) = some 60 := by unfold aLn; rw [mKd_mk, mLn_mk, tp_K1 ht, tp_N1 ht]; rfl
theorem tp_xJ {t : Nat} (ht : t < 6) (i : Int32) : xJ (mk I L) (51 + 2 * t) i = if ¬ i < 0 ∧ i.toNatClampNeg < 60 then some (L (51 + 2 * t) i.toNatClampNeg) else none := by unfold xJ; rw [mKd_mk, mLn_mk, tp_K1 ht, tp_N1 ht]; simp only [true_and]; rfl
theorem tp_yJ {t : Nat} (ht : t < 6) (i : Int32) (v : Int64) : yJ (mk I L) (51 + 2 * t) i v = if ¬ i < 0 ∧ i.toNatClampNeg < 60 then some (mk I (up1 L (51 + 2 * t) (up1 (L (51 + 2 * t)) i.toNatClampNeg v))) else none := by unfold yJ; rw [mKd_mk, mLn_mk, tp_K1 ht, tp_N1 ht]; simp only [true_and]; rfl
theorem tp_fill {t : Nat} (ht : t < 6) (v : Int64) : fJ7_fill_d0a16 (51 + 2 * t) v (mk I L) = some ((), mk I (up1 L (51 + 2 * t) (fun j => if j < 60 then v else L (51 + 2 * t) j))) := fillJ (by decide) (fun I L i v => tp_yJ I L ht i v) (fun I L => tp_ln I L ht) I L v
theorem tp_at {t : Nat} (ht : t < 6) (a : Int32) (h : a = nn t) : fX9_tapeAt 1 a (mk I L) = some (50 + 2 * t, mk I L) := by
  unfold fX9_tapeAt
  have h6 : ¬ (6 : Int32) ≤ nn t := by
    rw [show (6 : Int32) = nn 6 from rfl, nn_le (by omega) (by omega)]
    omega
  subst h
  simp only [kd_1, gI_1, pI_1, gR_1_0, gR_1_1, gR_1_3, gR_1_4, gR_1_5, gR_1_6, gR_1_7, gR_1_8, ln_49, xR_49, ln_49, xR_49, Option.bind_some, h6, if_false, nn_lt0 (t) (by omega), nn_nat (show t < 2147483648 by omega), show t < 6 by omega, not_false_eq_true, and_self, if_true, tp_R49 ht, show ¬ 50 + 2 * t = 0 by omega, ne_eq]
theorem tp_holds {t : Nat} (ht : t < 6) : fX7_holdsNothing (50 + 2 * t) (mk I L) = some (if I (50 + 2 * t) 0 = -1 then 1 else 0, mk I L) := by
  unfold fX7_holdsNothing
  simp only [tp_gI I L ht, Option.bind_some]
  split <;> rfl
theorem tp_has {t : Nat} (ht : t < 6) {n : Nat} (hn : n ≤ 60) (e : I (50 + 2 * t) 2 = nn n) (i : Int32) : fX7_has (50 + 2 * t) i (mk I L) = some (if 0 ≤ i.toInt ∧ i.toInt < n then 1 else 0, mk I L) := by
  unfold fX7_has
  simp only [tp_gI I L ht, tp_gR I L ht, tp_ln I L ht, Option.bind_some, e, i32_lt, i32_le, Int32.reduceToInt, nn_toInt (show n < 2147483648 by omega)]
  repeat' split
  all_goals first | rfl | (exfalso; omega)
theorem tp_get {t : Nat} (ht : t < 6) {n : Nat} (hn : n ≤ 60) (e : I (50 + 2 * t) 2 = nn n) (i : Int32) : fX7_get (50 + 2 * t) i (mk I L) = some (if 0 ≤ i.toInt ∧ i.toInt < n then L (51 + 2 * t) i.toNatClampNeg else 0, mk I L) := by
  unfold fX7_get
  simp only [tp_kd I L ht, if_true, tp_has I L ht hn e, tp_gR I L ht, Option.bind_some, ite10]
  by_cases h : 0 ≤ i.toInt ∧ i.toInt < n
  · have h1 := nat_toInt h.1
    have h2 : ¬ i < 0 ∧ i.toNatClampNeg < 60 := ⟨by rw [i32_lt]; simp; omega, by omega⟩
    simp only [if_pos h, tp_xJ I L ht, if_pos h2, Option.bind_some]
  · simp only [if_neg h]
theorem tp_hasAll {t : Nat} (ht : t < 6) {n : Nat} (hn : n ≤ 60) (e : I (50 + 2 * t) 2 = nn n) (i m : Int32) : fX7_hasAll (50 + 2 * t) i m (mk I L) = some (if 0 ≤ i.toInt ∧ 0 ≤ m.toInt ∧ i.toInt + m.toInt ≤ n then 1 else 0, mk I L) := by
  unfold fX7_hasAll
  by_cases h1 : 0 ≤ i.toInt
  rotate_left
  · rw [if_pos (by rw [i32_lt]; simp; omega), if_neg (by omega)]
  rw [if_neg (by rw [i32_lt]; simp; omega)]
  by_cases h2 : 0 ≤ m.toInt
  rotate_left
  · rw [if_pos (by rw [i32_lt]; simp; omega), if_neg (by omega)]
  rw [if_neg (by rw [i32_lt]; simp; omega)]
  simp only [tp_gI I L ht, Option.bind_some, e, i32_lt]
  have h3 : (nn n - m).toInt = n - m.toInt := by
    rw [Int32.toInt_sub, nn_toInt (by omega)]
    have := m.toInt_lt
    apply Int.bmod_eq_of_le <;> omega
  rw [h3]
  by_cases h4 : i.toInt + m.toInt ≤ n
  · rw [if_neg (by omega), if_pos ⟨h1, h2, h4⟩]
  · rw [if_pos (by omega), if_neg (by omega)]
theorem tp_become {t : Nat} (ht : t < 6) (s : Int32) (m : Nat) (hm : m ≤ 60) : fX7_become (50 + 2 * t) s (nn m) (mk I L) = some ((), mk (up1 I (50 + 2 * t) (up1 (up1 (I (50 + 2 * t)) 0 s) 2 (nn m))) (up1 L (51 + 2 * t) (fun j => if j < 60 then 0 else L (51 + 2 * t) j))) := by
  unfold fX7_become
  have h1 : (nn m).toInt ≤ (60 : Int32).toInt := by
    rw [nn_toInt (by omega)]
    simp
    omega
  have h2 : ¬ (nn m).toInt ≤ (0 : Int32).toInt ∨ nn m = 0 := by
    by_cases h : m = 0
    · right
      rw [h]
      rfl
    · left
      rw [nn_toInt (by omega)]
      simp
      omega
  simp only [tp_pI _ L ht, tp_gR _ L ht, tp_ln _ L ht, Option.bind_some, min_s, max_s, if_pos h1, tp_fill _ L ht, up1_up1, up1_s]
  rcases h2 with h2 | h2
  · rw [if_neg h2]
  · rw [h2]
    rfl
theorem tp_shape {t : Nat} (ht : t < 6) {s : Nat} (hs : s < 6) (i j n : Int32) (h : ¬ i < 0 ∧ ¬ j < 0 ∧ ¬ n < 0) (h1 : i.toNatClampNeg + n.toNatClampNeg ≤ 60) (h2 : j.toNatClampNeg + n.toNatClampNeg ≤ 60) : cpJ (mk I L) (51 + 2 * s) i (51 + 2 * t) j n = some (mk I (up1 L (51 + 2 * t) (fun k => if j.toNatClampNeg ≤ k ∧ k < j.toNatClampNeg + n.toNatClampNeg then L (51 + 2 * s) (i.toNatClampNeg + (k - j.toNatClampNeg)) else L (51 + 2 * t) k))) := by
  unfold cpJ
  rw [mKd_mk, mKd_mk, mLn_mk, mLn_mk, tp_K1 ht, tp_K1 hs, tp_N1 ht, tp_N1 hs, if_pos ⟨⟨rfl, rfl⟩, h, h1, h2⟩]
  rfl
end TP
