def mt (d : Nat) (a : Nat → Int64) (p : Nat) : Nat → Int32
  | 0 => 0
  | c + 1 => mt d a p c ||| (1 <<< (nn (rm p (vp d a p c).toInt) &&& 31))
theorem mt_Q (d : Nat) (a : Nat → Int64) {p : Nat} (h0 : 0 < p) (hp : p ≤ 13) : ∀ c, Mt (Qs d a p c) (mt d a p c)
  | 0 => Mt_0
  | c + 1 => Mt_s (mt_Q d a h0 hp c) (Nat.lt_of_lt_of_le (rm_lt h0 _) hp)
theorem ij_div {p i j : Nat} (hj : j < p) : (i * p + j) / p = i := by
  rw [Nat.mul_comm, Nat.mul_add_div (by omega), Nat.div_eq_of_lt hj, Nat.add_zero]
theorem ij_mod {p i j : Nat} (hj : j < p) : (i * p + j) % p = j := by
  rw [Nat.mul_comm, Nat.mul_add_mod, Nat.mod_eq_of_lt hj]
theorem ij_s (p i : Nat) : (i + 1) * p = i * p + p := Nat.succ_mul i p
/-- the array of the reference by what is met -/
def qr (Q : Nat → Bool) (n : Nat) (r : Nat → Int32) : Nat → Int32 := fun k => if k < n then (if Q k = true then 1 else 0) else r k
theorem qr_s (Q : Nat → Bool) (r : Nat → Int32) {j : Nat} (hj : j < 13) : up1 (qr Q 13 r) j 1 = qr (fun k => if k = j then true else Q k) 13 r := by
  funext k
  unfold qr
  simp only [up1_e]
  by_cases h : k = j
  · subst h
    simp [hj]
  · simp only [if_neg h]
theorem qr_z (r : Nat → Int32) {j : Nat} : up1 (qr (fun _ => false) j r) j 0 = qr (fun _ => false) (j + 1) r := by
  funext k
  unfold qr
  simp only [up1_e]
  by_cases h : k = j
  · subst h
    simp
  · by_cases h2 : k < j
    · simp [h, h2, show k < j + 1 by omega]
    · simp [h, h2, show ¬ k < j + 1 by omega]
/-- the primes -/
def pm (i : Nat) : Nat := if i = 0 then 2 else if i = 1 then 3 else if i = 2 then 5 else if i = 3 then 7 else if i = 4 then 11 else 13
theorem pm_r (i : Nat) : 2 ≤ pm i ∧ pm i ≤ 13 := by
  unfold pm
  repeat' split
  all_goals omega
theorem xT_P {i : Nat} (h : i < 6) : xT tabP 6 (nn i) = some (nn (pm i)) := by
  rcases (show i = 0 ∨ i = 1 ∨ i = 2 ∨ i = 3 ∨ i = 4 ∨ i = 5 by omega) with rfl | rfl | rfl | rfl | rfl | rfl <;> rfl
def RelC (I : Nat → Nat → Int32) : Prop := ∀ i, i < 6 → I 74 i = nn (pm i)
section PR
variable (I : Nat → Nat → Int32) (L : Nat → Nat → Int64)
theorem rests_4 {d : Nat} {a : Nat → Int64} (hA : AC 4 I d a) (hd : 2 ≤ d ∧ d ≤ 4) {p : Nat} (h0 : 2 ≤ p) (hp : p ≤ 13) : fX2_remaindersBy 4 (nn p) (mk I L) = some (mt d a p (p * p), mk I L) := by
  have hat : ∀ x y, fX2_at 4 x y (mk I L) = some (V d a x y, mk I L) := fun x y => by
    rw [at_4 I L d hd hA.1, V_congr (a := cf I 4) (b := a) (fun j hj => hA.2 j (by omega))]
  unfold fX2_remaindersBy
  rw [if_pos (show (2 : Int32) ≤ nn p from (nn_le (m := 2) (by omega) (by omega)).mpr h0)]
  refine lp_for' (fun i => (mt d a p (i * p), nn i, mk I L)) (by rw [Nat.zero_mul]; rfl) p (fun i hi k => ?_) (fun k => ?_) (FU_gt (by omega))
  · simp only [nn_le (show p < 2147483648 by omega) (show i < 2147483648 by omega), if_neg (show ¬ p ≤ i by omega)]
    refine lp_for' (fun j => (mt d a p (i * p + j), nn j, mk I L)) rfl p (fun j hj k2 => ?_) (fun k2 => ?_) (FU_gt (by omega))
    · have e1 : V d a (nn i).toInt64 (nn j).toInt64 = vp d a p (i * p + j) := by
        unfold vp
        rw [ij_div hj, ij_mod hj]
      simp only [nn_le (show p < 2147483648 by omega) (show j < 2147483648 by omega), if_neg (show ¬ p ≤ j by omega), kd_4, if_true, hat, Option.bind_some, flo64 (show 0 < p by omega) (show p < 1000 by omega), e1, nm, nn_s]
      rfl
    · simp only [nn_le (show p < 2147483648 by omega) (show p < 2147483648 by omega), Nat.le_refl, if_true, nm, nn_s, ij_s]
  · simp only [nn_le (show p < 2147483648 by omega) (show p < 2147483648 by omega), Nat.le_refl, if_true]
/-- whether p bars -/
theorem barred_3 {s : Sq} (hE : ESt 3 I s) (hd : 2 ≤ s.1 ∧ s.1 ≤ 4) {p : Nat} (h0 : 2 ≤ p) (hp : p ≤ 13) : fX1_isBarredBy 3 (nn p) (mk I L) = some (if Qs s.1 s.2.1 p (p * p) (rm p s.2.2.1.toInt) = true then 0 else 1, mk I L) := by
  unfold fX1_isBarredBy
  rw [if_pos (show (2 : Int32) ≤ nn p from (nn_le (m := 2) (by omega) (by omega)).mpr h0)]
  simp only [gR_3_0, kd_4, if_true, Option.bind_some, rests_4 I L hE.1 hd h0 hp, gI_3, hE.2.1, flo32 (show 0 < p by omega) (show p < 1000 by omega), Mt_bar (mt_Q s.1 s.2.1 (show 0 < p by omega) hp (p * p)) (Nat.lt_of_lt_of_le (rm_lt (show 0 < p by omega) s.2.2.1.toInt) hp)]
  by_cases h : Qs s.1 s.2.1 p (p * p) (rm p s.2.2.1.toInt) = true
  · rw [if_neg (not_not_intro h), if_pos h]
  · rw [if_pos h, if_neg h]
theorem firstBar_3 {s : Sq} (hE : ESt 3 I s) (hd : 2 ≤ s.1 ∧ s.1 ≤ 4) : fX1_firstBar 3 (mk I L) = some (if ff (fun i => Qs s.1 s.2.1 (pm i) (pm i * pm i) (rm (pm i) s.2.2.1.toInt)) 6 < 6 then nn (pm (ff (fun i => Qs s.1 s.2.1 (pm i) (pm i * pm i) (rm (pm i) s.2.2.1.toInt)) 6)) else -5, mk I L) := by
  unfold fX1_firstBar
  refine lp_ff (s := fun i => (nn i, mk I L)) (y := fun i => some (if i < 6 then nn (pm i) else -5, mk I L)) rfl 6 (fun i => Qs s.1 s.2.1 (pm i) (pm i * pm i) (rm (pm i) s.2.2.1.toInt)) (fun i hi hP k => ?_) (fun i hi hP k => ?_) (fun k => ?_) (FU_gt (by omega))
  · have q : ¬ (6 : Int32) ≤ nn i := fun e => by
      have := (nn_le (m := 6) (by omega) (by omega)).mp e
      omega
    simp only [if_neg q, xT_P hi, Option.bind_some, kd_3, if_true, barred_3 I L hE hd (pm_r i).1 (pm_r i).2, if_pos hP, nm, nn_s]
  · have q : ¬ (6 : Int32) ≤ nn i := fun e => by
      have := (nn_le (m := 6) (by omega) (by omega)).mp e
      omega
    simp only [if_neg q, xT_P hi, Option.bind_some, kd_3, if_true, barred_3 I L hE hd (pm_r i).1 (pm_r i).2, hP, Bool.false_eq_true, if_false, one0, if_pos hi]
  · simp only [show (6 : Int32) ≤ nn 6 from Int32.le_refl _, if_true, Nat.lt_irrefl, if_false]
theorem rests_27 {d : Nat} {a : Nat → Int64} (hA : AC 27 I d a) (hd : 2 ≤ d ∧ d ≤ 4) {p : Nat} (h0 : 2 ≤ p) (hp : p ≤ 13) : fX2_remaindersBy 27 (nn p) (mk I L) = some (mt d a p (p * p), mk I L) := by
  have hat : ∀ x y, fX2_at 27 x y (mk I L) = some (V d a x y, mk I L) := fun x y => by
    rw [at_27 I L d hd hA.1, V_congr (a := cf I 27) (b := a) (fun j hj => hA.2 j (by omega))]
  unfold fX2_remaindersBy
  rw [if_pos (show (2 : Int32) ≤ nn p from (nn_le (m := 2) (by omega) (by omega)).mpr h0)]
  refine lp_for' (fun i => (mt d a p (i * p), nn i, mk I L)) (by rw [Nat.zero_mul]; rfl) p (fun i hi k => ?_) (fun k => ?_) (FU_gt (by omega))
  · simp only [nn_le (show p < 2147483648 by omega) (show i < 2147483648 by omega), if_neg (show ¬ p ≤ i by omega)]
    refine lp_for' (fun j => (mt d a p (i * p + j), nn j, mk I L)) rfl p (fun j hj k2 => ?_) (fun k2 => ?_) (FU_gt (by omega))
    · have e1 : V d a (nn i).toInt64 (nn j).toInt64 = vp d a p (i * p + j) := by
        unfold vp
        rw [ij_div hj, ij_mod hj]
      simp only [nn_le (show p < 2147483648 by omega) (show j < 2147483648 by omega), if_neg (show ¬ p ≤ j by omega), kd_27, if_true, hat, Option.bind_some, flo64 (show 0 < p by omega) (show p < 1000 by omega), e1, nm, nn_s]
      rfl
    · simp only [nn_le (show p < 2147483648 by omega) (show p < 2147483648 by omega), Nat.le_refl, if_true, nm, nn_s, ij_s]
  · simp only [nn_le (show p < 2147483648 by omega) (show p < 2147483648 by omega), Nat.le_refl, if_true]
/-- whether p bars -/
theorem barred_26 {s : Sq} (hE : ESt 26 I s) (hd : 2 ≤ s.1 ∧ s.1 ≤ 4) {p : Nat} (h0 : 2 ≤ p) (hp : p ≤ 13) : fX1_isBarredBy 26 (nn p) (mk I L) = some (if Qs s.1 s.2.1 p (p * p) (rm p s.2.2.1.toInt) = true then 0 else 1, mk I L) := by
  unfold fX1_isBarredBy
  rw [if_pos (show (2 : Int32) ≤ nn p from (nn_le (m := 2) (by omega) (by omega)).mpr h0)]
  simp only [gR_26_0, kd_27, if_true, Option.bind_some, rests_27 I L hE.1 hd h0 hp, gI_26, hE.2.1, flo32 (show 0 < p by omega) (show p < 1000 by omega), Mt_bar (mt_Q s.1 s.2.1 (show 0 < p by omega) hp (p * p)) (Nat.lt_of_lt_of_le (rm_lt (show 0 < p by omega) s.2.2.1.toInt) hp)]
  by_cases h : Qs s.1 s.2.1 p (p * p) (rm p s.2.2.1.toInt) = true
  · rw [if_neg (not_not_intro h), if_pos h]
  · rw [if_pos h, if_neg h]
theorem firstBar_26 {s : Sq} (hE : ESt 26 I s) (hd : 2 ≤ s.1 ∧ s.1 ≤ 4) : fX1_firstBar 26 (mk I L) = some (if ff (fun i => Qs s.1 s.2.1 (pm i) (pm i * pm i) (rm (pm i) s.2.2.1.toInt)) 6 < 6 then nn (pm (ff (fun i => Qs s.1 s.2.1 (pm i) (pm i * pm i) (rm (pm i) s.2.2.1.toInt)) 6)) else -5, mk I L) := by
  unfold fX1_firstBar
  refine lp_ff (s := fun i => (nn i, mk I L)) (y := fun i => some (if i < 6 then nn (pm i) else -5, mk I L)) rfl 6 (fun i => Qs s.1 s.2.1 (pm i) (pm i * pm i) (rm (pm i) s.2.2.1.toInt)) (fun i hi hP k => ?_) (fun i hi hP k => ?_) (fun k => ?_) (FU_gt (by omega))
  · have q : ¬ (6 : Int32) ≤ nn i := fun e => by
      have := (nn_le (m := 6) (by omega) (by omega)).mp e
      omega
    simp only [if_neg q, xT_P hi, Option.bind_some, kd_26, if_true, barred_26 I L hE hd (pm_r i).1 (pm_r i).2, if_pos hP, nm, nn_s]
  · have q : ¬ (6 : Int32) ≤ nn i := fun e => by
      have := (nn_le (m := 6) (by omega) (by omega)).mp e
      omega
    simp only [if_neg q, xT_P hi, Option.bind_some, kd_26, if_true, barred_26 I L hE hd (pm_r i).1 (pm_r i).2, hP, Bool.false_eq_true, if_false, one0, if_pos hi]
  · simp only [show (6 : Int32) ≤ nn 6 from Int32.le_refl _, if_true, Nat.lt_irrefl, if_false]
/-- the reference's -/
theorem rests_M {d : Nat} {a : Nat → Int64} (hA : AM I L d a) (hd : 2 ≤ d ∧ d ≤ 4) {p : Nat} (h0 : 2 ≤ p) (hp : p ≤ 13) : fX10_remainders 62 (nn p) (mk I L) = some (nn (fb_ct (Qs d a p (p * p)) 13), mk (up1 I 75 (qr (Qs d a p (p * p)) 13 (I 75))) L) := by
  have hat : ∀ J x y, fX10_valueAt 62 x y (mk (up1 I 75 J) L) = some (V d a x y, mk (up1 I 75 J) L) := fun J x y => by
    rw [valueAt_s (up1 I 75 J) L d hd (by rw [up1_n _ _ (by decide)]; exact hA.1), V_congr (b := a) (fun j hj => hA.2 j (by omega))]
  unfold fX10_remainders
  refine lp_for' (fun i => (nn i, mk (up1 I 75 (qr (fun _ => false) i (I 75))) L)) ?_ 13 (fun i hi k => ?_) (fun k => ?_) (FU_gt (by omega))
  · rw [show qr (fun _ => false) 0 (I 75) = I 75 from rfl, up1_id]
    rfl
  · have q : ¬ (13 : Int32) ≤ nn i := fun e => by
      have := (nn_le (m := 13) (by omega) (by omega)).mp e
      omega
    simp only [if_neg q, gR_62_21, yI_75, nn_lt0 (i) (by omega), nn_nat (show i < 2147483648 by omega), show i < 13 by omega, not_false_eq_true, and_self, if_true, Option.bind_some, up1_s, up1_up1, qr_z, nm, nn_s]
  simp only [show (13 : Int32) ≤ nn 13 from Int32.le_refl _, if_true]
  refine lp_for' (fun i => (nn i, mk (up1 I 75 (qr (Qs d a p (i * p)) 13 (I 75))) L)) (by rw [Nat.zero_mul]; rfl) p (fun i hi k => ?_) (fun k => ?_) (FU_gt (by omega))
  · simp only [nn_le (show p < 2147483648 by omega) (show i < 2147483648 by omega), if_neg (show ¬ p ≤ i by omega)]
    refine lp_for' (fun j => (nn j, mk (up1 I 75 (qr (Qs d a p (i * p + j)) 13 (I 75))) L)) rfl p (fun j hj k2 => ?_) (fun k2 => ?_) (FU_gt (by omega))
    · have e1 : V d a (nn i).toInt64 (nn j).toInt64 = vp d a p (i * p + j) := by
        unfold vp
        rw [ij_div hj, ij_mod hj]
      have e2 := rm_lt (show 0 < p by omega) (vp d a p (i * p + j)).toInt
      simp only [nn_le (show p < 2147483648 by omega) (show j < 2147483648 by omega), if_neg (show ¬ p ≤ j by omega), gR_62_21, kd_62, if_true, hat, Option.bind_some, if_neg (nn64_ne0 (show 0 < p by omega) (show p < 2147483648 by omega)), e1, ref64 (show 0 < p by omega) (show p < 1000 by omega), yI_75, nn_lt0 (rm p (vp d a p (i * p + j)).toInt) (by omega), nn_nat (show rm p (vp d a p (i * p + j)).toInt < 2147483648 by omega), show rm p (vp d a p (i * p + j)).toInt < 13 by omega, not_false_eq_true, and_self, if_true, up1_s, up1_up1, nm, nn_s]
      rw [qr_s _ _ (show rm p (vp d a p (i * p + j)).toInt < 13 by omega)]
      rfl
    · simp only [nn_le (show p < 2147483648 by omega) (show p < 2147483648 by omega), Nat.le_refl, if_true, nm, nn_s, ij_s]
  simp only [nn_le (show p < 2147483648 by omega) (show p < 2147483648 by omega), Nat.le_refl, if_true]
  refine lp_for' (fun i => (nn (fb_ct (Qs d a p (p * p)) i), nn i)) rfl 13 (fun i hi k2 => ?_) (fun k2 => ?_) (FU_gt (by omega))
  · have q : ¬ (13 : Int32) ≤ nn i := fun e => by
      have := (nn_le (m := 13) (by omega) (by omega)).mp e
      omega
    have hq : qr (Qs d a p (p * p)) 13 (I 75) i = if Qs d a p (p * p) i = true then 1 else 0 := if_pos hi
    simp only [if_neg q, gR_62_21, xI_75, nn_lt0 (i) (by omega), nn_nat (show i < 2147483648 by omega), show i < 13 by omega, not_false_eq_true, and_self, if_true, Option.bind_some, up1_s, hq, ite10, nm, nn_s, fb_ct_succ, Int32.add_zero]
    split <;> simp only [nn_s, Nat.add_zero]
  · simp only [show (13 : Int32) ≤ nn 13 from Int32.le_refl _, if_true]
theorem bars_M {s : Sq} (hM : MSt I L s) (hd : 2 ≤ s.1 ∧ s.1 ≤ 4) {p : Nat} (h0 : 2 ≤ p) (hp : p ≤ 13) : ∃ J, fX10_bars 62 (nn p) (mk I L) = some (if Qs s.1 s.2.1 p (p * p) (rm p s.2.2.1.toInt) = true then 0 else 1, mk (up1 I 75 J) L) := by
  refine ⟨qr (Qs s.1 s.2.1 p (p * p)) 13 (I 75), ?_⟩
  unfold fX10_bars
  have e2 := rm_lt (show 0 < p by omega) s.2.2.1.toInt
  have hq : qr (Qs s.1 s.2.1 p (p * p)) 13 (I 75) (rm p s.2.2.1.toInt) = if Qs s.1 s.2.1 p (p * p) (rm p s.2.2.1.toInt) = true then 1 else 0 := if_pos (by omega)
  simp only [kd_62, if_true, rests_M I L hM.1 hd h0 hp, Option.bind_some, gR_62_21, gI_62, up1_n I _ (show 62 ≠ 75 by decide), hM.2.1, if_neg (nn_ne0 (show 0 < p by omega) (show p < 2147483648 by omega)), ref32 (show 0 < p by omega) (show p < 1000 by omega), xI_75, nn_lt0 (rm p s.2.2.1.toInt) (by omega), nn_nat (show rm p s.2.2.1.toInt < 2147483648 by omega), show rm p s.2.2.1.toInt < 13 by omega, not_false_eq_true, and_self, if_true, up1_s, hq, ite10]
  split <;> rfl
theorem firstBar_M {s : Sq} (hM : MSt I L s) (hd : 2 ≤ s.1 ∧ s.1 ≤ 4) (hC : RelC I) : ∃ J, fX10_firstBar 62 (mk I L) = some (if ff (fun i => Qs s.1 s.2.1 (pm i) (pm i * pm i) (rm (pm i) s.2.2.1.toInt)) 6 < 6 then nn (pm (ff (fun i => Qs s.1 s.2.1 (pm i) (pm i * pm i) (rm (pm i) s.2.2.1.toInt)) 6)) else -5, mk (up1 I 75 J) L) := by
  have hM' : ∀ J, MSt (up1 I 75 J) L s := fun J => ⟨⟨by rw [up1_n _ _ (by decide)]; exact hM.1.1, hM.1.2⟩, by rw [up1_n _ _ (by decide)]; exact hM.2.1, by rw [up1_n _ _ (by decide)]; exact hM.2.2⟩
  have hC' : ∀ J i, i < 6 → (up1 I 75 J) 74 i = nn (pm i) := fun J i hi => by
    rw [up1_n _ _ (by decide)]
    exact hC i hi
  obtain ⟨g1, g2, g3⟩ := ff_all (fun i => Qs s.1 s.2.1 (pm i) (pm i * pm i) (rm (pm i) s.2.2.1.toInt)) 6
  generalize ff (fun i => Qs s.1 s.2.1 (pm i) (pm i * pm i) (rm (pm i) s.2.2.1.toInt)) 6 = F at g1 g2 g3 ⊢
  have key : ∃ r, fX10_firstBar 62 (mk I L) = some r ∧ ∃ J, r = (if F < 6 then nn (pm F) else -5, mk (up1 I 75 J) L) := by
    unfold fX10_firstBar
    refine lp_ex (fun i (s1 : Int32 × Mem) => s1.1 = nn i ∧ ∃ J, s1.2 = mk (up1 I 75 J) L) (fun r => ∃ J, r = (if F < 6 then nn (pm F) else -5, mk (up1 I 75 J) L)) F (0, mk I L) ⟨rfl, I 75, by rw [up1_id]⟩ ?_ ?_ FU (FU_gt (by omega))
    · rintro i hi ⟨v, h⟩ ⟨hv, J, hh⟩
      simp only at hv hh
      subst hv hh
      have q : ¬ (6 : Int32) ≤ nn i := fun e => by
        have := (nn_le (m := 6) (by omega) (by omega)).mp e
        omega
      obtain ⟨J2, hb⟩ := bars_M (up1 I 75 J) L (hM' J) hd (pm_r i).1 (pm_r i).2
      refine ⟨(nn (i + 1), mk (up1 I 75 J2) L), fun k => ?_, rfl, J2, rfl⟩
      simp only [if_neg q, gR_62_20, xI_74, nn_lt0 (i) (by omega), nn_nat (show i < 2147483648 by omega), show i < 6 by omega, not_false_eq_true, and_self, if_true, Option.bind_some, hC' J i (by omega), kd_62, hb, g2 i hi, nm, nn_s, up1_up1]
    · rintro ⟨v, h⟩ ⟨hv, J, hh⟩
      simp only at hv hh
      subst hv hh
      by_cases h6 : F < 6
      · have q : ¬ (6 : Int32) ≤ nn F := fun e => by
          have := (nn_le (m := 6) (by omega) (by omega)).mp e
          omega
        obtain ⟨J2, hb⟩ := bars_M (up1 I 75 J) L (hM' J) hd (pm_r F).1 (pm_r F).2
        refine ⟨(if F < 6 then nn (pm F) else -5, mk (up1 I 75 J2) L), fun k => ?_, J2, rfl⟩
        simp only [if_neg q, gR_62_20, xI_74, nn_lt0 (F) (by omega), nn_nat (show F < 2147483648 by omega), show F < 6 by omega, not_false_eq_true, and_self, if_true, Option.bind_some, hC' _ F (by omega), kd_62, hb, g3 h6, Bool.false_eq_true, if_false, one0, up1_up1, if_pos h6]
      · have e6 : F = 6 := by omega
        subst e6
        refine ⟨(if 6 < 6 then nn (pm 6) else -5, mk (up1 I 75 J) L), fun k => ?_, J, rfl⟩
        simp only [show (6 : Int32) ≤ nn 6 from Int32.le_refl _, if_true, Nat.lt_irrefl, if_false]
  obtain ⟨r, h1, J, h2⟩ := key
  exact ⟨J, h1.trans (congrArg some h2)⟩
theorem nn_i {x : Int32} {n : Nat} (h : 0 ≤ x.toInt ∧ x.toInt ≤ n) : ∃ k, k ≤ n ∧ x = nn k := by
  have := nat_toInt h.1
  exact ⟨x.toNatClampNeg, by omega, i32_nn h.1⟩
theorem pair_prime (i w : Int32) (N : RelN I L) (M : RelM I) (B : RelB I) (C : RelC I) : Both (fX9_prime 1 i w) (fX10_prime 62 i w) I L (fun I' L' => Ch [75] [] [] I L I' L') := by
  obtain ⟨s, hE, hM, hV⟩ := st_of I L N M B
  have hd := hV.1.1
  by_cases hi : 0 ≤ i.toInt ∧ i.toInt ≤ (5 : Nat)
  rotate_left
  · refine ⟨-1, I, L, I, L, ?_, ?_, Ch.rf I L⟩
    · unfold fX9_prime
      simp only [i32_lt, Int32.reduceToInt]
      by_cases h0 : i.toInt < 0
      · rw [if_pos h0]
      · rw [if_neg h0, if_neg (by omega)]
    · unfold fX10_prime
      simp only [in_s, i64_of32, Int64.reduceToInt, if_neg (show ¬ (0 ≤ i.toInt ∧ i.toInt ≤ 5) by omega), Option.bind_some, if_true]
  obtain ⟨n, hn, rfl⟩ := nn_i hi
  have q0 : ¬ nn n < 0 := nn_nn (by omega)
  have q6 : nn n < 6 := (nn_lt (n := 6) (by omega) (by omega)).mpr (by omega)
  by_cases hw : 0 ≤ w.toInt ∧ w.toInt ≤ (2 : Nat)
  rotate_left
  · have w0 : ¬ w = 0 := fun e => by
      rw [e] at hw
      exact hw (by decide)
    have w1 : ¬ w = 1 := fun e => by
      rw [e] at hw
      exact hw (by decide)
    have w2 : ¬ w = 2 := fun e => by
      rw [e] at hw
      exact hw (by decide)
    refine ⟨-1, I, L, I, L, ?_, ?_, Ch.rf I L⟩
    · unfold fX9_prime
      simp only [if_neg q0, if_pos q6, xT_P (show n < 6 by omega), Option.bind_some, if_neg w0, if_neg w1, if_neg w2]
    · unfold fX10_prime
      simp only [in_s, i64_of32, Int64.reduceToInt, nn_toInt (show n < 2147483648 by omega), if_pos (show 0 ≤ (n : Int) ∧ (n : Int) ≤ 5 by omega), Option.bind_some, one0, if_false, if_neg (show ¬ (0 ≤ w.toInt ∧ w.toInt ≤ 2) by omega), if_true]
  obtain ⟨v, hv, rfl⟩ := nn_i hw
  have hC := C n (by omega)
  obtain ⟨p1, p2⟩ := pm_r n
  unfold fX9_prime fX10_prime Both
  simp only [if_neg q0, if_pos q6, xT_P (show n < 6 by omega), in_s, i64_of32, Int64.reduceToInt, nn_toInt (show n < 2147483648 by omega), nn_toInt (show v < 2147483648 by omega), if_pos (show 0 ≤ (n : Int) ∧ (n : Int) ≤ 5 by omega), if_pos (show 0 ≤ (v : Int) ∧ (v : Int) ≤ 2 by omega), Option.bind_some, one0, if_false]
  rcases (show v = 0 ∨ v = 1 ∨ v = 2 by omega) with rfl | rfl | rfl
  · refine ⟨nn (pm n), I, L, I, L, rfl, ?_, Ch.rf I L⟩
    simp only [gR_62_20, xI_74, nn_lt0 (n) (by omega), nn_nat (show n < 2147483648 by omega), show n < 6 by omega, not_false_eq_true, and_self, if_true, Option.bind_some, hC, show nn 0 = 0 from rfl, if_true]
  · refine ⟨nn (fb_ct (Qs s.1 s.2.1 (pm n) (pm n * pm n)) 13), I, L, up1 I 75 (qr (Qs s.1 s.2.1 (pm n) (pm n * pm n)) 13 (I 75)), L, ?_, ?_, ChI I L [75] [] [] (by simp) (by decide)⟩
    · simp only [show ¬ nn 1 = 0 by decide, if_false, show nn 1 = 1 from rfl, if_true, kd_1, gI_1, pI_1, gR_1_0, gR_1_1, gR_1_3, gR_1_4, gR_1_5, gR_1_6, gR_1_7, gR_1_8, ln_49, xR_49, kd_2, gI_2, pI_2, gR_2_0, gR_2_1, gR_2_2, gR_2_3, kd_3, gI_3, pI_3, gR_3_0, kd_4, rests_4 I L hE.1 hd p1 p2, Option.bind_some, bitCount_s, Mt_count (mt_Q s.1 s.2.1 (show 0 < pm n by omega) p2 _), one0]
    · simp only [gR_62_20, xI_74, nn_lt0 (n) (by omega), nn_nat (show n < 2147483648 by omega), show n < 6 by omega, not_false_eq_true, and_self, if_true, Option.bind_some, hC, show ¬ nn 1 = 0 by decide, if_false, show nn 1 = 1 from rfl, if_true, kd_62, rests_M I L hM.1 hd p1 p2, one0]
  · obtain ⟨J, hb⟩ := bars_M I L hM hd p1 p2
    refine ⟨if Qs s.1 s.2.1 (pm n) (pm n * pm n) (rm (pm n) s.2.2.1.toInt) = true then 0 else 1, I, L, up1 I 75 J, L, ?_, ?_, ChI I L [75] [] [] (by simp) (by decide)⟩
    · simp only [show ¬ nn 2 = 0 by decide, show ¬ nn 2 = 1 by decide, if_false, show nn 2 = 2 from rfl, if_true, kd_1, gI_1, pI_1, gR_1_0, gR_1_1, gR_1_3, gR_1_4, gR_1_5, gR_1_6, gR_1_7, gR_1_8, ln_49, xR_49, kd_2, gI_2, pI_2, gR_2_0, gR_2_1, gR_2_2, gR_2_3, kd_3, barred_3 I L hE hd p1 p2, Option.bind_some, show ¬ (2 : Int32) = 0 by decide, show ¬ (2 : Int32) = 1 by decide]
      split <;> simp only [one0, if_false, if_true]
    · simp only [gR_62_20, xI_74, nn_lt0 (n) (by omega), nn_nat (show n < 2147483648 by omega), show n < 6 by omega, not_false_eq_true, and_self, if_true, Option.bind_some, hC, show ¬ nn 2 = 0 by decide, show ¬ nn 2 = 1 by decide, if_false, kd_62, if_true, hb]
      split <;> simp only [one0, if_false, if_true]
end PR
