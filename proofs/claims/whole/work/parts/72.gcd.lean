def ll (n : Nat) : Int64 := Int64.ofNat n
theorem ll_toInt {n : Nat} (h : n < 9223372036854775808) : (ll n).toInt = n := Int64.toInt_ofNat_of_lt h
theorem ll_ex {x : Int64} (h : 0 ≤ x.toInt) : x = ll x.toInt.toNat := by
  have h1 := x.toInt_lt
  rw [i64_eq, ll_toInt (by omega)]
  omega
/-- what is left when one divides -/
theorem tm {x p : Int64} (hp : 0 < p.toInt) : (x - x / p * p).toInt = x.toInt.tmod p.toInt := by
  have h1 := x.toInt_lt
  have h2 := x.le_toInt
  have hq : (x / p).toInt = x.toInt.tdiv p.toInt := Int64.toInt_div_of_ne_right x p (fun e => by
    rw [e] at hp
    exact absurd hp (by decide))
  have e1 := Int.tmod_add_tdiv_mul x.toInt p.toInt
  have e2 : (x.toInt.tmod p.toInt).natAbs ≤ x.toInt.natAbs := by
    rw [Int.natAbs_tmod]
    exact Nat.mod_le _ _
  have e3 : (0 ≤ x.toInt → 0 ≤ x.toInt.tmod p.toInt) ∧ (x.toInt ≤ 0 → x.toInt.tmod p.toInt ≤ 0) := by
    refine ⟨fun h => Int.tmod_nonneg _ h, fun h => ?_⟩
    have h3 := Int.tmod_nonneg (a := -x.toInt) p.toInt (by omega)
    rw [Int.neg_tmod] at h3
    omega
  rw [Int64.toInt_sub, Int64.toInt_mul, hq]
  have e4 : x.toInt.tdiv p.toInt * p.toInt = x.toInt - x.toInt.tmod p.toInt := by omega
  rw [e4]
  generalize x.toInt.tmod p.toInt = t at *
  rw [Int.bmod_eq_of_le (n := x.toInt - t) (by omega) (by omega)]
  rw [Int.bmod_eq_of_le (by omega) (by omega)]
  omega
theorem ll_rem {a b : Nat} (ha : a < 9223372036854775808) (hb : b < 9223372036854775808) (h0 : 0 < b) : ll a - ll a / ll b * ll b = ll (a % b) := by
  have hm : a % b ≤ a := Nat.mod_le _ _
  rw [i64_eq, tm (by rw [ll_toInt hb]; omega), ll_toInt ha, ll_toInt hb, ll_toInt (by omega), Int.tmod_eq_emod_of_nonneg (by omega)]
  omega
theorem ll_eq0 {a : Nat} (ha : a < 9223372036854775808) : ll a = 0 ↔ a = 0 := by
  rw [i64_eq, ll_toInt ha]
  show (a : Int) = 0 ↔ _
  omega
/-- the steps to the common divisor -/
def gs (x y : Nat) : Nat → Nat × Nat
  | 0 => (x, y)
  | i + 1 => if (gs x y i).2 = 0 then gs x y i else ((gs x y i).2, (gs x y i).1 % (gs x y i).2)
theorem gs_sh (x y : Nat) (h : ¬ y = 0) : ∀ i, gs x y (i + 1) = gs y (x % y) i
  | 0 => by
    show (if (gs x y 0).2 = 0 then _ else _) = _
    rw [if_neg (show ¬ (gs x y 0).2 = 0 from h)]
    rfl
  | i + 1 => by
    show (if (gs x y (i + 1)).2 = 0 then gs x y (i + 1) else ((gs x y (i + 1)).2, (gs x y (i + 1)).1 % (gs x y (i + 1)).2)) = _
    rw [gs_sh x y h i]
    rfl
theorem gs_end : ∀ (j x y : Nat), y < 2 ^ j → ∃ N, N ≤ 2 * j ∧ (gs x y N).2 = 0 ∧ ∀ i, i < N → ¬ (gs x y i).2 = 0 := by
  intro j
  induction j with
  | zero =>
    intro x y h
    exact ⟨0, by omega, by show y = 0; omega, fun i hi => absurd hi (Nat.not_lt_zero i)⟩
  | succ j ih =>
    intro x y h
    by_cases h0 : y = 0
    · exact ⟨0, by omega, h0, fun i hi => absurd hi (Nat.not_lt_zero i)⟩
    by_cases h1 : x % y = 0
    · refine ⟨1, by omega, by rw [gs_sh x y h0]; exact h1, fun i hi => ?_⟩
      rw [show i = 0 by omega]
      exact h0
    have hr : x % y < y := Nat.mod_lt _ (by omega)
    have hh : 2 * (y % (x % y)) < y := by
      by_cases h2 : 2 * (x % y) ≤ y
      · have := Nat.mod_lt y (show 0 < x % y by omega)
        omega
      · rw [Nat.mod_eq_sub_mod (by omega), Nat.mod_eq_of_lt (by omega)]
        omega
    obtain ⟨N, n1, n2, n3⟩ := ih (x % y) (y % (x % y)) (by rw [Nat.pow_succ] at h; omega)
    refine ⟨N + 2, by omega, by rw [gs_sh x y h0, gs_sh y _ h1]; exact n2, fun i hi => ?_⟩
    match i with
    | 0 => exact h0
    | 1 =>
      rw [gs_sh x y h0]
      exact h1
    | i + 2 =>
      rw [gs_sh x y h0, gs_sh y _ h1]
      exact n3 i (by omega)
theorem gs_lt (x y K : Nat) (hx : x < K) (hy : y < K) : ∀ i, (gs x y i).1 < K ∧ (gs x y i).2 < K
  | 0 => ⟨hx, hy⟩
  | i + 1 => by
    have h := gs_lt x y K hx hy i
    show (if (gs x y i).2 = 0 then gs x y i else ((gs x y i).2, (gs x y i).1 % (gs x y i).2)).1 < K ∧ (if (gs x y i).2 = 0 then gs x y i else ((gs x y i).2, (gs x y i).1 % (gs x y i).2)).2 < K
    split
    · exact h
    · exact ⟨h.2, Nat.lt_of_le_of_lt (Nat.mod_le _ _) h.1⟩
theorem gs_pos (x y : Nat) (h : 0 < x ∨ 0 < y) : ∀ i, 0 < (gs x y i).1 ∨ 0 < (gs x y i).2
  | 0 => h
  | i + 1 => by
    have h := gs_pos x y h i
    show 0 < (if (gs x y i).2 = 0 then gs x y i else ((gs x y i).2, (gs x y i).1 % (gs x y i).2)).1 ∨ 0 < (if (gs x y i).2 = 0 then gs x y i else ((gs x y i).2, (gs x y i).1 % (gs x y i).2)).2
    split
    · exact h
    · exact Or.inl (by omega)
theorem abs_s (a : Int64) (h : Mem) (ha : ¬ a.toInt = -9223372036854775808) : fJ9_abs_067f4 a h = some (ll a.toInt.natAbs, h) := by
  have h1 := a.toInt_lt
  have h2 := a.le_toInt
  unfold fJ9_abs_067f4
  simp only [lg_cmp_ge, i64_le, Int64.reduceToInt]
  by_cases h0 : 0 ≤ a.toInt
  · rw [if_pos h0, show a = ll a.toInt.natAbs from by rw [i64_eq, ll_toInt (by omega)]; omega, ll_toInt (by omega), Int.natAbs_natCast]
  · rw [if_neg h0, show -a = ll a.toInt.natAbs from by rw [i64_eq, ll_toInt (by omega), Int64.toInt_neg, Int.bmod_eq_of_le (by omega) (by omega)]; omega]
/-- both: what is in lowest terms -/
theorem lowest_s (a : Int64) (ha : ¬ a.toInt = -9223372036854775808) (t : Nat) (ht : 0 < t) (ht2 : t < 8192) (p : Int32) : ∃ r, (∀ h, fX9_lowest a (ll t) p h = some (r, h)) ∧ ∀ h, fX10_lowest a (ll t) p h = some (r, h) := by
  have h1 := a.toInt_lt
  have h2 := a.le_toInt
  obtain ⟨N, n1, n2, n3⟩ := gs_end 13 a.toInt.natAbs t ht2
  have hK := gs_lt a.toInt.natAbs t 9223372036854775808 (by omega) (by omega)
  have hpos := gs_pos a.toInt.natAbs t (Or.inr ht) N
  have hN := hK N
  have hg0 : ¬ ll (gs a.toInt.natAbs t N).1 = 0 := fun e => by
    have := (ll_eq0 hN.1).mp e
    omega
  refine ⟨if p = 0 then a / ll (gs a.toInt.natAbs t N).1 else ll t / ll (gs a.toInt.natAbs t N).1, fun h => ?_, fun h => ?_⟩
  · unfold fX9_lowest fX9_commonDivisor
    simp only [abs_s a h ha, Option.bind_some]
    have hl : lpF (fun k4 ((v1, v2, v3) : Int64 × Int64 × Int32) =>
        if 128 ≤ v3 then
         some ((v1 : Int64), h)
        else
         if (lg_cmp v2 0) = 0 then
          some ((v1 : Int64), h)
         else
          if v2 = 0 then none else
          nm (v1 - v1 / v2 * v2 : Int64) fun v6 =>
          nm (v3 + 1 : Int32) fun v7 =>
          k4 (v2, v6, v7)) FU (ll a.toInt.natAbs, ll t, 0) = some (ll (gs a.toInt.natAbs t N).1, h) := by
      refine lp_for' (fun i => (ll (gs a.toInt.natAbs t i).1, ll (gs a.toInt.natAbs t i).2, nn i)) rfl N (fun i hi k => ?_) (fun k => ?_) (FU_gt (by omega))
      · have q := n3 i hi
        have q0 : ¬ ll (gs a.toInt.natAbs t i).2 = 0 := fun e => q ((ll_eq0 (hK i).2).mp e)
        have q1 : ¬ (128 : Int32) ≤ nn i := fun e => by
          have := (nn_le (m := 128) (by omega) (by omega)).mp e
          omega
        have q2 : gs a.toInt.natAbs t (i + 1) = ((gs a.toInt.natAbs t i).2, (gs a.toInt.natAbs t i).1 % (gs a.toInt.natAbs t i).2) := if_neg q
        simp only [if_neg q1, lg_cmp_eq, if_neg q0, ll_rem (hK i).1 (hK i).2 (Nat.pos_of_ne_zero q), nm, nn_s, q2]
      · have q1 : ¬ (128 : Int32) ≤ nn N := fun e => by
          have := (nn_le (m := 128) (by omega) (by omega)).mp e
          omega
        have q3 : ll (gs a.toInt.natAbs t N).2 = 0 := by
          rw [n2]
          rfl
        simp only [if_neg q1, lg_cmp_eq, if_pos q3]
    simp only [hl, Option.bind_some, lg_cmp_ge, i64_le, ll_toInt hN.1]
    rw [if_pos (show (1 : Int64).toInt ≤ ((gs a.toInt.natAbs t N).1 : Int) from by
      show (1 : Int) ≤ _
      omega)]
    simp only [if_neg hg0]
    split <;> rfl
  · unfold fX10_lowest
    have hj : (if 0 ≤ lg_cmp a 0 then a else -a) = ll a.toInt.natAbs := by
      have := abs_s a h ha
      unfold fJ9_abs_067f4 at this
      split at this
      · rename_i hc
        rw [if_pos hc]
        exact (Prod.mk.inj (Option.some.inj this)).1
      · rename_i hc
        rw [if_neg hc]
        exact (Prod.mk.inj (Option.some.inj this)).1
    have hj2 : ∀ {β : Type} (f : Int64 → β), (if 0 ≤ lg_cmp a 0 then f a else f (-a)) = f (ll a.toInt.natAbs) := fun f => by
      rw [← hj]
      split <;> rfl
    simp only [jn]
    rw [hj2 (fun v1 => lpF (fun k6 ((v4, v5) : Int64 × Int64) =>
        if (lg_cmp v5 0) = 0 then
         if p = 0 then
          if v4 = 0 then none else
          some ((a / v4 : Int64), h)
         else
          if v4 = 0 then none else
          some ((ll t / v4 : Int64), h)
        else
         if v5 = 0 then none else
         nm (v4 - v4 / v5 * v5 : Int64) fun v8 =>
         k6 (v5, v8)) FU (v1, ll t))]
    refine lp_for' (fun i => (ll (gs a.toInt.natAbs t i).1, ll (gs a.toInt.natAbs t i).2)) rfl N (fun i hi k => ?_) (fun k => ?_) (FU_gt (by omega))
    · have q := n3 i hi
      have q0 : ¬ ll (gs a.toInt.natAbs t i).2 = 0 := fun e => q ((ll_eq0 (hK i).2).mp e)
      have q2 : gs a.toInt.natAbs t (i + 1) = ((gs a.toInt.natAbs t i).2, (gs a.toInt.natAbs t i).1 % (gs a.toInt.natAbs t i).2) := if_neg q
      simp only [lg_cmp_eq, if_neg q0, ll_rem (hK i).1 (hK i).2 (Nat.pos_of_ne_zero q), nm, q2]
    · have q3 : ll (gs a.toInt.natAbs t N).2 = 0 := by
        rw [n2]
        rfl
      simp only [lg_cmp_eq, if_pos q3, if_neg hg0]
      split <;> rfl
/-- numbers that are not far from 0 -/
def bnd (x : Int64) (K : Nat) : Prop := x.toInt.natAbs ≤ K
theorem bnd_add {x y : Int64} {A B : Nat} (hx : bnd x A) (hy : bnd y B) (h : A + B < 9223372036854775808) : bnd (x + y) (A + B) := by
  unfold bnd at *
  rw [Int64.toInt_add, Int.bmod_eq_of_le (by omega) (by omega)]
  omega
theorem bnd_mul {x y : Int64} {A B : Nat} (hx : bnd x A) (hy : bnd y B) (h : A * B < 9223372036854775808) : bnd (x * y) (A * B) := by
  unfold bnd at *
  have h1 : (x.toInt * y.toInt).natAbs ≤ A * B := by
    rw [Int.natAbs_mul]
    exact Nat.mul_le_mul hx hy
  rw [Int64.toInt_mul, Int.bmod_eq_of_le (by omega) (by omega)]
  exact h1
theorem bnd_mono {x : Int64} {A B : Nat} (hx : bnd x A) (h : A ≤ B) : bnd x B := Nat.le_trans hx h
theorem bnd_pw {x : Int64} (h : bnd x 40) : ∀ n, n ≤ 4 → bnd (pw x n) (40 ^ n)
  | 0, _ => by
    show (1 : Int64).toInt.natAbs ≤ 1
    decide
  | n + 1, hn => by
    have h1 := bnd_pw h n (by omega)
    have h2 : 40 ^ (n + 1) ≤ 40 ^ 4 := Nat.pow_le_pow_right (by omega) hn
    rw [Nat.pow_succ] at h2 ⊢
    exact bnd_mul h1 h (by omega)
theorem bnd_vsum {d : Nat} (hd : d ≤ 4) {a : Nat → Int64} (ha : ∀ j, j < 5 → bnd (a j) 99) {x y : Int64} (hx : bnd x 40) (hy : bnd y 40) : ∀ n, n ≤ d + 1 → bnd (vsum d a x y n) (n * 253440000)
  | 0, _ => by
    show (0 : Int64).toInt.natAbs ≤ _
    decide
  | n + 1, hn => by
    have h1 := bnd_vsum hd ha hx hy n (by omega)
    have h2 := bnd_pw hx (d - n) (by omega)
    have h3 := bnd_pw hy n (by omega)
    have h4 : 40 ^ (d - n) * 40 ^ n ≤ 2560000 := by
      rw [← Nat.pow_add]
      exact Nat.pow_le_pow_right (by omega) (show d - n + n ≤ 4 by omega)
    have h6 : 40 ^ (d - n) ≤ 40 ^ 4 := Nat.pow_le_pow_right (by omega) (by omega)
    have h5 : bnd (a n * pw x (d - n)) (99 * 40 ^ (d - n)) := bnd_mul (ha n (by omega)) h2 (by omega)
    have h7 : 99 * 40 ^ (d - n) * 40 ^ n ≤ 253440000 := by
      rw [Nat.mul_assoc]
      omega
    have h8 : bnd (a n * pw x (d - n) * pw y n) 253440000 := bnd_mono (bnd_mul h5 h3 (by omega)) h7
    show bnd (vsum d a x y n + a n * pw x (d - n) * pw y n) _
    rw [Nat.succ_mul]
    exact bnd_add h1 h8 (by omega)
theorem bnd_wx {B i : Nat} (hB : B ≤ 40) (hi : i < 2 * B + 1) : bnd (wx B i).toInt64 40 := by
  unfold bnd
  rw [i64_of32, wx_toInt (by omega) (by omega)]
  omega
theorem bnd_Vc {s : Sq} (hV : VSt s) {B : Nat} (hB : B ≤ 40) {c : Nat} (hc : c < (2 * B + 1) * (2 * B + 1)) : bnd (Vc s B c) 1267200000 := by
  have hd := hV.1.1
  have h1 : c / (2 * B + 1) < 2 * B + 1 := Nat.div_lt_of_lt_mul hc
  have h2 : c % (2 * B + 1) < 2 * B + 1 := Nat.mod_lt _ (by omega)
  refine bnd_mono (bnd_vsum (d := s.1) (by omega) (a := s.2.1) (fun j hj => ?_) (bnd_wx hB h1) (bnd_wx hB h2) (s.1 + 1) (Nat.le_refl _)) (by omega)
  have := hV.1.2.1 j hj
  unfold bnd
  omega
theorem bnd_sV {s : Sq} (hV : VSt s) {B : Nat} (hB : B ≤ 40) : ∀ c, c ≤ (2 * B + 1) * (2 * B + 1) → bnd (sV s B c) (c * 1267200000)
  | 0, _ => by
    show (0 : Int64).toInt.natAbs ≤ _
    decide
  | c + 1, hc => by
    have hW : (2 * B + 1) * (2 * B + 1) ≤ 81 * 81 := Nat.mul_le_mul (by omega) (by omega)
    show bnd (sV s B c + Vc s B c) _
    rw [Nat.succ_mul]
    exact bnd_add (bnd_sV hV hB c (by omega)) (bnd_Vc hV hB (by omega)) (by omega)
theorem bnd_sA {s : Sq} {B : Nat} (hB : B ≤ 40) : ∀ c, c ≤ (2 * B + 1) * (2 * B + 1) → bnd (sA s B c) (c * 1)
  | 0, _ => by
    show (0 : Int64).toInt.natAbs ≤ _
    decide
  | c + 1, hc => by
    have hW : (2 * B + 1) * (2 * B + 1) ≤ 81 * 81 := Nat.mul_le_mul (by omega) (by omega)
    show bnd (sA s B c + (if Pa s B c = true then 1 else 0)) _
    rw [Nat.succ_mul]
    refine bnd_add (bnd_sA hB c (by omega)) ?_ (by omega)
    unfold bnd
    split <;> decide
theorem bnd_ne {x : Int64} {K : Nat} (h : bnd x K) (hK : K < 9223372036854775808) : ¬ x.toInt = -9223372036854775808 := by
  unfold bnd at h
  omega
theorem twos_ll {B : Nat} (hB : B ≤ 40) : (2 * (nn B).toInt64 + 1) * (2 * (nn B).toInt64 + 1) = ll ((2 * B + 1) * (2 * B + 1)) := by
  have hW : (2 * B + 1) * (2 * B + 1) ≤ 81 * 81 := Nat.mul_le_mul (by omega) (by omega)
  have h0 : (nn B).toInt64 = ll B := by
    rw [i64_eq, i64_of32, nn_toInt (by omega), ll_toInt (by omega)]
  rw [h0]
  have h1 : (2 : Int64) * ll B + 1 = ll (2 * B + 1) := by
    show Int64.ofNat 2 * Int64.ofNat B + Int64.ofNat 1 = Int64.ofNat (2 * B + 1)
    rw [Int64.ofNat_add, Int64.ofNat_mul]
  rw [h1]
  exact (Int64.ofNat_mul _ _).symm
