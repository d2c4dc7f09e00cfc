/-- the rest of v by p -/
def rm (p : Nat) (v : Int) : Nat := (v % (p : Int)).toNat
theorem rm_lt {p : Nat} (hp : 0 < p) (v : Int) : rm p v < p := by
  unfold rm
  have h1 := Int.emod_nonneg v (show (p : Int) ≠ 0 by omega)
  have h2 := Int.emod_lt_of_pos v (show (0 : Int) < p by omega)
  omega
theorem rm_int {p : Nat} (hp : 0 < p) (v : Int) : (rm p v : Int) = v % (p : Int) := by
  unfold rm
  have h1 := Int.emod_nonneg v (show (p : Int) ≠ 0 by omega)
  omega
/-- the rest that a machine's division leaves, made a number from 0 on -/
theorem tmod_rm {p : Nat} (hp : 0 < p) (v : Int) : (if 0 ≤ v then v.tmod p else if v.tmod p = 0 then v.tmod p else v.tmod p + p) = rm p v := by
  rw [rm_int hp]
  have h1 := Int.emod_nonneg v (show (p : Int) ≠ 0 by omega)
  have h2 := Int.emod_lt_of_pos v (show (0 : Int) < p by omega)
  by_cases h0 : 0 ≤ v
  · rw [if_pos h0, Int.tmod_eq_emod_of_nonneg h0]
  · rw [if_neg h0, Int.tmod_eq_emod]
    by_cases hd : (p : Int) ∣ v
    · have h3 : v % (p : Int) = 0 := Int.emod_eq_zero_of_dvd hd
      rw [if_pos (Or.inr hd), h3]
      rfl
    · have h4 : ((p : Int).natAbs : Int) = p := by omega
      have h5 : ¬ (0 ≤ v ∨ (p : Int) ∣ v) := by
        rintro (h | h)
        · exact h0 h
        · exact hd h
      rw [if_neg h5, h4, if_neg (by omega)]
      omega
theorem tmod_rm2 {p : Nat} (hp : 0 < p) (v : Int) : 0 ≤ v.tmod p + p ∧ v.tmod p + p < 2 * p ∧ (v.tmod p + p) % (p : Int) = rm p v := by
  have h1 := Int.lt_tmod_of_pos v (show (0 : Int) < p by omega)
  have h2 := Int.tmod_lt_of_pos v (show (0 : Int) < p by omega)
  refine ⟨by omega, by omega, ?_⟩
  rw [rm_int hp, ← Int.emod_eq_add_self_emod]
  have h3 := Int.tmod_add_tdiv_mul v p
  rw [show v.tmod p = v - v.tdiv p * p by omega, Int.sub_mul_emod_self_right]
theorem xor_sign {x y : Int64} (hy : 0 ≤ y.toInt) : 0 ≤ (x ^^^ y).toInt ↔ 0 ≤ x.toInt := by
  have h : ∀ z : Int64, 0 ≤ z.toInt ↔ z.toBitVec.msb = false := fun z => by
    show 0 ≤ z.toBitVec.toInt ↔ _
    rw [BitVec.msb_eq_toInt]
    simp
  rw [h, h, Int64.toBitVec_xor, BitVec.msb_xor, (h y).mp hy, Bool.xor_false]
theorem xor_sign32 {x y : Int32} (hy : 0 ≤ y.toInt) : 0 ≤ (x ^^^ y).toInt ↔ 0 ≤ x.toInt := by
  have h : ∀ z : Int32, 0 ≤ z.toInt ↔ z.toBitVec.msb = false := fun z => by
    show 0 ≤ z.toBitVec.toInt ↔ _
    rw [BitVec.msb_eq_toInt]
    simp
  rw [h, h, Int32.toBitVec_xor, BitVec.msb_xor, (h y).mp hy, Bool.xor_false]
theorem tm32 {x p : Int32} (hp : 0 < p.toInt) : (x - x / p * p).toInt = x.toInt.tmod p.toInt := by
  have h1 := x.toInt_lt
  have h2 := x.le_toInt
  have hq : (x / p).toInt = x.toInt.tdiv p.toInt := Int32.toInt_div_of_ne_right x p (fun e => by
    rw [e] at hp
    exact absurd hp (by decide))
  have e1 := Int.tmod_add_tdiv_mul x.toInt p.toInt
  have e2 : (x.toInt.tmod p.toInt).natAbs ≤ x.toInt.natAbs := by
    rw [Int.natAbs_tmod]
    exact Nat.mod_le _ _
  have e3 : (0 ≤ x.toInt → 0 ≤ x.toInt.tmod p.toInt) ∧ (x.toInt ≤ 0 → x.toInt.tmod p.toInt ≤ 0) := by
    refine ⟨fun h => Int.tmod_nonneg _ h, fun h => ?_⟩
    have h3 := Int.tmod_nonneg (a := -x.toInt) p.toInt (by omega)
    rw [Int.neg_tmod] at h3
    omega
  rw [Int32.toInt_sub, Int32.toInt_mul, hq]
  have e4 : x.toInt.tdiv p.toInt * p.toInt = x.toInt - x.toInt.tmod p.toInt := by omega
  rw [e4]
  generalize x.toInt.tmod p.toInt = t at *
  rw [Int.bmod_eq_of_le (n := x.toInt - t) (by omega) (by omega)]
  rw [Int.bmod_eq_of_le (by omega) (by omega)]
  omega
theorem nn64_toInt {p : Nat} (hp : p < 2147483648) : (nn p).toInt64.toInt = p := by rw [i64_of32, nn_toInt hp]
theorem nn64_ne0 {p : Nat} (h0 : 0 < p) (hp : p < 2147483648) : ¬ (nn p).toInt64 = 0 := fun e => by
  have := nn64_toInt hp
  rw [e] at this
  have h : (0 : Int64).toInt = 0 := by decide
  omega
theorem nn_ne0 {p : Nat} (h0 : 0 < p) (hp : p < 2147483648) : ¬ nn p = 0 := fun e => by
  have := (nn_eq (b := 0) hp (by omega)).mp e
  omega
theorem flo64 {p : Nat} (h0 : 0 < p) (hp : p < 1000) (v : Int64) (h : Mem) : fJ9_floorMod_1978a v (nn p) h = some (nn (rm p v.toInt), h) := by
  have e0 := nn64_toInt (p := p) (by omega)
  have ht := tm (x := v) (p := (nn p).toInt64) (by rw [e0]; omega)
  rw [e0] at ht
  have hr := rm_lt h0 v.toInt
  have hm := tmod_rm h0 v.toInt
  have hb := Int.lt_tmod_of_pos v.toInt (show (0 : Int) < p by omega)
  have hb2 := Int.tmod_lt_of_pos v.toInt (show (0 : Int) < p by omega)
  have hfin : ∀ z : Int64, z.toInt = rm p v.toInt → z.toInt32 = nn (rm p v.toInt) := fun z hz => by
    rw [i32_eq, Int64.toInt_toInt32, hz, nn_toInt (by omega)]
    apply Int.bmod_eq_of_le <;> omega
  have hz : v - v / (nn p).toInt64 * (nn p).toInt64 = 0 ↔ v.toInt.tmod p = 0 := by
    rw [i64_eq, ht]
    rfl
  unfold fJ9_floorMod_1978a fJ9_floorMod_f86c9
  simp only [if_neg (nn64_ne0 h0 (show p < 2147483648 by omega)), nm, lg_cmp_ge, i64_le, Int64.reduceToInt, xor_sign (x := v) (y := (nn p).toInt64) (by rw [e0]; omega), lg_cmp_eq, hz]
  by_cases hv : 0 ≤ v.toInt
  · rw [if_pos hv] at hm
    simp only [if_pos hv, Option.bind_some, hfin _ (ht.trans hm)]
  · rw [if_neg hv] at hm
    by_cases h1 : v.toInt.tmod p = 0
    · rw [if_pos h1] at hm
      simp only [if_neg hv, if_pos h1, Option.bind_some, hfin _ (ht.trans hm)]
    · rw [if_neg h1] at hm
      have : (v - v / (nn p).toInt64 * (nn p).toInt64 + (nn p).toInt64).toInt = rm p v.toInt := by
        rw [Int64.toInt_add, ht, e0, Int.bmod_eq_of_le (by omega) (by omega)]
        exact hm
      simp only [if_neg hv, if_neg h1, Option.bind_some, hfin _ this]
theorem flo32 {p : Nat} (h0 : 0 < p) (hp : p < 1000) (v : Int32) (h : Mem) : fJ9_floorMod_7cf53 v (nn p) h = some (nn (rm p v.toInt), h) := by
  have e0 := nn_toInt (n := p) (by omega)
  have ht := tm32 (x := v) (p := nn p) (by rw [e0]; omega)
  rw [e0] at ht
  have hr := rm_lt h0 v.toInt
  have hm := tmod_rm h0 v.toInt
  have hb := Int.lt_tmod_of_pos v.toInt (show (0 : Int) < p by omega)
  have hb2 := Int.tmod_lt_of_pos v.toInt (show (0 : Int) < p by omega)
  have hfin : ∀ z : Int32, z.toInt = rm p v.toInt → z = nn (rm p v.toInt) := fun z hz => by
    rw [i32_eq, hz, nn_toInt (by omega)]
  unfold fJ9_floorMod_7cf53
  simp only [if_neg (nn_ne0 h0 (show p < 2147483648 by omega)), nm, i32_le, Int32.reduceToInt, xor_sign32 (x := v) (y := nn p) (by rw [e0]; omega)]
  by_cases hv : 0 ≤ v.toInt
  · rw [if_pos hv] at hm
    simp only [if_pos hv, hfin _ (ht.trans hm)]
  · rw [if_neg hv] at hm
    by_cases h1 : v.toInt.tmod p = 0
    · rw [if_pos h1] at hm
      have h2 : v - v / nn p * nn p = 0 := by
        rw [i32_eq, ht, h1]
        rfl
      rw [if_neg hv, if_pos h2, hfin _ (ht.trans hm)]
    · rw [if_neg h1] at hm
      have h2 : ¬ v - v / nn p * nn p = 0 := fun e => by
        rw [e] at ht
        exact h1 ht.symm
      have : (v - v / nn p * nn p + nn p).toInt = rm p v.toInt := by
        rw [Int32.toInt_add, ht, e0, Int.bmod_eq_of_le (by omega) (by omega)]
        exact hm
      simp only [if_neg hv, if_neg h2, hfin _ this]
theorem ref64 {p : Nat} (h0 : 0 < p) (hp : p < 1000) (v : Int64) : (((v - v / (nn p).toInt64 * (nn p).toInt64) + (nn p).toInt64) - ((v - v / (nn p).toInt64 * (nn p).toInt64) + (nn p).toInt64) / (nn p).toInt64 * (nn p).toInt64).toInt32 = nn (rm p v.toInt) := by
  have e0 := nn64_toInt (p := p) (by omega)
  have ht := tm (x := v) (p := (nn p).toInt64) (by rw [e0]; omega)
  rw [e0] at ht
  obtain ⟨h1, h2, h3⟩ := tmod_rm2 h0 v.toInt
  have hr := rm_lt h0 v.toInt
  have hs : ((v - v / (nn p).toInt64 * (nn p).toInt64) + (nn p).toInt64).toInt = v.toInt.tmod p + p := by
    rw [Int64.toInt_add, ht, e0]
    apply Int.bmod_eq_of_le <;> omega
  rw [i32_eq, Int64.toInt_toInt32, tm (by rw [e0]; omega), hs, e0, Int.tmod_eq_emod_of_nonneg h1, h3, nn_toInt (by omega)]
  apply Int.bmod_eq_of_le <;> omega
theorem ref32 {p : Nat} (h0 : 0 < p) (hp : p < 1000) (v : Int32) : ((v - v / nn p * nn p) + nn p) - ((v - v / nn p * nn p) + nn p) / nn p * nn p = nn (rm p v.toInt) := by
  have e0 := nn_toInt (n := p) (by omega)
  have ht := tm32 (x := v) (p := nn p) (by rw [e0]; omega)
  rw [e0] at ht
  obtain ⟨h1, h2, h3⟩ := tmod_rm2 h0 v.toInt
  have hr := rm_lt h0 v.toInt
  have hs : ((v - v / nn p * nn p) + nn p).toInt = v.toInt.tmod p + p := by
    rw [Int32.toInt_add, ht, e0]
    apply Int.bmod_eq_of_le <;> omega
  rw [i32_eq, tm32 (by rw [e0]; omega), hs, e0, Int.tmod_eq_emod_of_nonneg h1, h3, nn_toInt (by omega)]
/-- what is met, after c twos -/
def vp (d : Nat) (a : Nat → Int64) (p c : Nat) : Int64 := V d a (nn (c / p)).toInt64 (nn (c % p)).toInt64
def Qs (d : Nat) (a : Nat → Int64) (p : Nat) : Nat → Nat → Bool
  | 0 => fun _ => false
  | c + 1 => fun k => if k = rm p (vp d a p c).toInt then true else Qs d a p c k
/-- what is met, as bits -/
def Mt (Q : Nat → Bool) (x : Int32) : Prop := ∀ i, i < 32 → bt x i = (decide (i < 13) && Q i)
theorem Mt_0 : Mt (fun _ => false) 0 := fun i _ => by
  rw [b_0, Bool.and_false]
theorem bt_1 (i : Nat) : bt 1 i = decide (i = 0) := by
  rcases Nat.lt_or_ge i 32 with h | h
  · exact (by decide +kernel : ∀ i, i < 32 → bt 1 i = decide (i = 0)) i h
  · rw [b_big h, decide_eq_false (by omega)]
theorem Mt_s {Q : Nat → Bool} {x : Int32} (h : Mt Q x) {r : Nat} (hr : r < 13) : Mt (fun k => if k = r then true else Q k) (x ||| (1 <<< (nn r &&& 31))) := fun i hi => by
  rw [b_or, h i hi, show bt ((1 : Int32) <<< (nn r &&& 31)) i = (decide (r ≤ i) && bt 1 (i - r)) from b_shl r (by omega) 1 hi, bt_1]
  by_cases e : i = r
  · subst e
    simp [hr]
  · have h2 : (decide (r ≤ i) && decide (i - r = 0)) = false := by
      rw [Bool.and_eq_false_iff, decide_eq_false_iff_not, decide_eq_false_iff_not]
      omega
    rw [h2, Bool.or_false]
    show _ = (decide (i < 13) && (if i = r then true else Q i))
    rw [if_neg e]
theorem Mt_bar {Q : Nat → Bool} {x : Int32} (h : Mt Q x) {r : Nat} (hr : r < 13) : ((x >>> (nn r &&& 31)) &&& 1) = 0 ↔ ¬ Q r = true := by
  have h0 : ∀ i, i < 32 → bt ((x >>> (nn r &&& 31)) &&& 1) i = (decide (i = 0) && Q r) := fun i hi => by
    rw [b_and, bt_1]
    by_cases e : i = 0
    · subst e
      rw [show bt (x >>> (nn r &&& 31)) 0 = (if r + 0 < 32 then bt x (r + 0) else bt x 31) from b_sshr r (by omega) x (by omega), if_pos (by omega), Nat.add_zero, h r (by omega)]
      simp [hr]
    · simp [e]
  constructor
  · intro e q
    have := h0 0 (by omega)
    rw [e, b_0, q] at this
    exact absurd this (by decide)
  · intro q
    refine b_ext (fun i hi => ?_)
    rw [h0 i hi, b_0, show Q r = false by simpa using q, Bool.and_false]
theorem Mt_count {Q : Nat → Bool} {x : Int32} (h : Mt Q x) : bc x = nn (fb_ct Q 13) := by
  have ht : ∀ i, x.toBitVec.toNat.testBit i = (decide (i < 13) && Q i) := fun i => by
    rcases Nat.lt_or_ge i 32 with h1 | h1
    · exact h i h1
    · rw [show x.toBitVec.toNat.testBit i = bt x i from rfl, b_big h1, decide_eq_false (by omega), Bool.false_and]
  have hlt : x.toBitVec.toNat < 8192 := Nat.lt_pow_two_of_testBit (n := 13) _ (fun i hi => by
    rw [ht, decide_eq_false (by omega), Bool.false_and])
  have hx : x = nn x.toBitVec.toNat := by
    apply Int32.toBitVec_inj.1
    show x.toBitVec = BitVec.ofNat 32 x.toBitVec.toNat
    rw [BitVec.ofNat_toNat]
    simp
  have h1 := bc_all (x.toBitVec.toNat / 128) (by omega) (x.toBitVec.toNat % 128) (by omega)
  rw [show x.toBitVec.toNat / 128 * 128 + x.toBitVec.toNat % 128 = x.toBitVec.toNat by omega, ← hx] at h1
  rw [h1]
  congr 1
  exact fb_ct_cong (fun k hk => by rw [ht, decide_eq_true hk, Bool.true_and])
