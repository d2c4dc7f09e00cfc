theorem i32_mul_of {x y : Int32} {A B : Nat} (hx : x.toInt.natAbs ≤ A) (hy : y.toInt.natAbs ≤ B) (h : A * B < 1000000) : (x * y).toInt = x.toInt * y.toInt ∧ (x * y).toInt.natAbs ≤ A * B := by
  have h1 : (x.toInt * y.toInt).natAbs ≤ A * B := by
    rw [Int.natAbs_mul]
    exact Nat.mul_le_mul hx hy
  have h2 : (x * y).toInt = x.toInt * y.toInt := by
    rw [Int32.toInt_mul]
    apply Int.bmod_eq_of_le <;> omega
  exact ⟨h2, by rw [h2]; exact h1⟩
/-- a place's image, small as it is, is the same as long -/
theorem img64 {u v x y : Int32} (hu : u.toInt.natAbs ≤ 2) (hv : v.toInt.natAbs ≤ 2) (hx : x.toInt.natAbs ≤ 40) (hy : y.toInt.natAbs ≤ 40) : (u * x + v * y).toInt64 = u.toInt64 * x.toInt64 + v.toInt64 * y.toInt64 := by
  obtain ⟨h1, h2⟩ := i32_mul_of hu hx (by omega)
  obtain ⟨h3, h4⟩ := i32_mul_of hv hy (by omega)
  have b1 : bnd u.toInt64 2 := by
    unfold bnd
    rw [i64_of32]
    exact hu
  have b2 : bnd v.toInt64 2 := by
    unfold bnd
    rw [i64_of32]
    exact hv
  have b3 : bnd x.toInt64 40 := by
    unfold bnd
    rw [i64_of32]
    exact hx
  have b4 : bnd y.toInt64 40 := by
    unfold bnd
    rw [i64_of32]
    exact hy
  have m1 : (u.toInt64 * x.toInt64).toInt = u.toInt * x.toInt := by
    rw [Int64.toInt_mul, i64_of32, i64_of32, ← h1]
    apply Int.bmod_eq_of_le <;> omega
  have m2 : (v.toInt64 * y.toInt64).toInt = v.toInt * y.toInt := by
    rw [Int64.toInt_mul, i64_of32, i64_of32, ← h3]
    apply Int.bmod_eq_of_le <;> omega
  rw [i64_eq, i64_of32, Int32.toInt_add, Int64.toInt_add, m1, m2, ← h1, ← h3, Int.bmod_eq_of_le (by omega) (by omega), Int.bmod_eq_of_le (by omega) (by omega)]
theorem uE_abs (c k : Nat) (hc : c < 625) : (uE c k).toInt.natAbs ≤ 2 := by
  unfold uE
  repeat' split
  all_goals
    rw [wx_toInt (by omega) (by omega)]
    omega
theorem cXY_abs {B c : Nat} (hB : B ≤ 40) (hc : c < (2 * B + 1) * (2 * B + 1)) : (cX B c).toInt.natAbs ≤ 40 ∧ (cY B c).toInt.natAbs ≤ 40 := by
  obtain ⟨i, j, hi, hj, rfl⟩ := c_ij hc
  rw [cX_at hj, cY_at hj, wx_toInt (by omega) (by omega), wx_toInt (by omega) (by omega)]
  omega
/-- the image of a place by a turn -/
def mX (B u c : Nat) : Int32 := uE u 0 * cX B c + uE u 1 * cY B c
def mY (B u c : Nat) : Int32 := uE u 2 * cX B c + uE u 3 * cY B c
theorem unit_V {s : Sq} (hV : VSt s) {u : Nat} (h : Ub s u = true) (x y : Int64) : V s.1 s.2.1 ((uE u 0).toInt64 * x + (uE u 1).toInt64 * y) ((uE u 2).toInt64 * x + (uE u 3).toInt64 * y) = V s.1 s.2.1 x y := by
  have hd := hV.1.1
  unfold Ub at h
  rw [Bool.and_eq_true] at h
  have h2 := h.2
  unfold lft at h2
  rw [allB_iff] at h2
  rw [← V_ft]
  exact V_congr (fun j hj => of_decide_eq_true (h2 j (by omega))) x y
/-- a unit carries an answer to an answer, if the window has the place -/
theorem unit_P {s : Sq} (hV : VSt s) {B u c c' : Nat} (hB : B ≤ 40) (hu : u < 625) (h : Ub s u = true) (hc : c < (2 * B + 1) * (2 * B + 1)) (hp : Pc s B c = true) (hx : cX B c' = mX B u c) (hy : cY B c' = mY B u c) : Pc s B c' = true := by
  obtain ⟨a1, a2⟩ := cXY_abs hB hc
  unfold Pc at hp ⊢
  have hp := of_decide_eq_true hp
  refine decide_eq_true ?_
  unfold Vc at hp ⊢
  rw [hx, hy]
  unfold mX mY
  rw [img64 (uE_abs u 0 hu) (uE_abs u 1 hu) a1 a2, img64 (uE_abs u 2 hu) (uE_abs u 3 hu) a1 a2, unit_V hV h]
  exact hp
/-- and back by the turn that undoes it -/
theorem mXY_inv {s : Sq} (hV : VSt s) {B u c c' : Nat} (hu : u < 625) (h : Ub s u = true) (hx : cX B c' = mX B u c) (hy : cY B c' = mY B u c) : cX B c = mX B (uInv u) c' ∧ cY B c = mY B (uInv u) c' := by
  obtain ⟨-, -, h1, h2, h3, h4⟩ := uInv_s hV hu h
  unfold mX mY at *
  rw [hx, hy]
  generalize uE (uInv u) 0 = p0 at *
  generalize uE (uInv u) 1 = p1 at *
  generalize uE (uInv u) 2 = p2 at *
  generalize uE (uInv u) 3 = p3 at *
  generalize uE u 0 = q0 at *
  generalize uE u 1 = q1 at *
  generalize uE u 2 = q2 at *
  generalize uE u 3 = q3 at *
  constructor
  · have : p0 * (q0 * cX B c + q1 * cY B c) + p1 * (q2 * cX B c + q3 * cY B c) = (p0 * q0 + p1 * q2) * cX B c + (p0 * q1 + p1 * q3) * cY B c := by grind
    rw [this, h1, h2]
    grind
  · have : p2 * (q0 * cX B c + q1 * cY B c) + p3 * (q2 * cX B c + q3 * cY B c) = (p2 * q0 + p3 * q2) * cX B c + (p2 * q1 + p3 * q3) * cY B c := by grind
    rw [this, h3, h4]
    grind
/-- how many answers, a link between the numbers of two -/
def nA (s : Sq) (B : Nat) : Nat := fb_ct (Pc s B) ((2 * B + 1) * (2 * B + 1))
def Ed (s : Sq) (B i j : Nat) : Prop := ∃ u c c', u < 625 ∧ Ub s u = true ∧ c < (2 * B + 1) * (2 * B + 1) ∧ Pc s B c = true ∧ c' < (2 * B + 1) * (2 * B + 1) ∧ Pc s B c' = true ∧ cX B c' = mX B u c ∧ cY B c' = mY B u c ∧ fb_ct (Pc s B) c = i ∧ fb_ct (Pc s B) c' = j
theorem Ed_sy {s : Sq} (hV : VSt s) {B i j : Nat} (h : Ed s B i j) : Ed s B j i := by
  obtain ⟨u, c, c', h1, h2, h3, h4, h5, h6, h7, h8, h9, h10⟩ := h
  obtain ⟨g1, g2, -⟩ := uInv_s hV h1 h2
  obtain ⟨k1, k2⟩ := mXY_inv hV h1 h2 h7 h8
  exact ⟨uInv u, c', c, g1, g2, h5, h6, h3, h4, k1, k2, h10, h9⟩
theorem Ed_lt {s : Sq} {B i j : Nat} (h : Ed s B i j) : i < nA s B ∧ j < nA s B := by
  obtain ⟨u, c, c', h1, h2, h3, h4, h5, h6, h7, h8, h9, h10⟩ := h
  have k1 := fb_ct_mono (Pc s B) (show c + 1 ≤ (2 * B + 1) * (2 * B + 1) by omega)
  have k2 := fb_ct_mono (Pc s B) (show c' + 1 ≤ (2 * B + 1) * (2 * B + 1) by omega)
  rw [ct_y h4] at k1
  rw [ct_y h6] at k2
  unfold nA
  omega
/-- reached from one another -/
def Rh (s : Sq) (B i j : Nat) : Prop := ∀ S : Nat → Prop, S i → (∀ a b, S a → Ed s B a b → S b) → S j
theorem Rh_rf (s : Sq) (B i : Nat) : Rh s B i i := fun _ h _ => h
theorem Rh_tr {s : Sq} {B i j k : Nat} (h1 : Rh s B i j) (h2 : Rh s B j k) : Rh s B i k := fun S hi hs => h2 S (h1 S hi hs) hs
theorem Rh_ed {s : Sq} {B i j : Nat} (h : Ed s B i j) : Rh s B i j := fun S hi hs => hs i j hi h
theorem Rh_sy {s : Sq} (hV : VSt s) {B i j : Nat} (h : Rh s B i j) : Rh s B j i :=
  h (fun k => Rh s B k i) (Rh_rf s B i) (fun a b ha hab => Rh_tr (Rh_ed (Ed_sy hV hab)) ha)
theorem Rh_lt {s : Sq} {B i j : Nat} (h : Rh s B i j) (hi : i < nA s B) : j < nA s B := h (fun k => k < nA s B) hi (fun _ _ _ hab => (Ed_lt hab).2)
noncomputable def RhB (s : Sq) (B i j : Nat) : Bool := @decide (Rh s B i j) (Classical.propDecidable _)
theorem RhB_iff {s : Sq} {B i j : Nat} : RhB s B i j = true ↔ Rh s B i j := by
  unfold RhB
  exact @decide_eq_true_iff (Rh s B i j) (Classical.propDecidable _)
/-- the least that is reached -/
noncomputable def ldr (s : Sq) (B i : Nat) : Nat := ff (fun j => !RhB s B i j) i
theorem ldr_le (s : Sq) (B i : Nat) : ldr s B i ≤ i := (ff_all _ i).1
theorem ldr_R (s : Sq) (B i : Nat) : Rh s B i (ldr s B i) := by
  obtain ⟨h1, h2, h3⟩ := ff_all (fun j => !RhB s B i j) i
  by_cases h : ff (fun j => !RhB s B i j) i < i
  · have := h3 h
    show Rh s B i (ff (fun j => !RhB s B i j) i)
    exact RhB_iff.mp (by simpa using this)
  · have e : ldr s B i = i := by
      unfold ldr
      omega
    rw [e]
    exact Rh_rf s B i
theorem ldr_min {s : Sq} {B i j : Nat} (h : Rh s B i j) : ldr s B i ≤ j := by
  obtain ⟨h1, h2, h3⟩ := ff_all (fun j => !RhB s B i j) i
  apply Classical.byContradiction
  intro hn
  have := h2 j (by unfold ldr at hn; omega)
  rw [RhB_iff.mpr h] at this
  exact absurd this (by decide)
theorem ldr_eq {s : Sq} (hV : VSt s) {B i j : Nat} (h : Rh s B i j) : ldr s B i = ldr s B j := by
  have h1 := ldr_min (Rh_tr h (ldr_R s B j))
  have h2 := ldr_min (Rh_tr (Rh_sy hV h) (ldr_R s B i))
  omega
theorem ldr_ld {s : Sq} (hV : VSt s) (B i : Nat) : ldr s B (ldr s B i) = ldr s B i := (ldr_eq hV (ldr_R s B i)).symm
noncomputable def isL (s : Sq) (B i : Nat) : Bool := decide (ldr s B i = i)
/-- the number of a family, how many there are -/
noncomputable def fm (s : Sq) (B i : Nat) : Nat := fb_ct (isL s B) (ldr s B i)
noncomputable def nF (s : Sq) (B : Nat) : Nat := fb_ct (isL s B) (nA s B)
theorem fm_ld {s : Sq} {B i : Nat} (h : ldr s B i = i) : fm s B i = fb_ct (isL s B) i := by
  unfold fm
  rw [h]
theorem nA_lt {s : Sq} {B : Nat} (hB : B ≤ 40) : nA s B ≤ 6561 := by
  have h1 := fb_ct_le (Pc s B) ((2 * B + 1) * (2 * B + 1))
  have h2 : (2 * B + 1) * (2 * B + 1) ≤ 81 * 81 := Nat.mul_le_mul (by omega) (by omega)
  unfold nA
  omega
