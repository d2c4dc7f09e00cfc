theorem nn_div {a b : Nat} (ha : a < 2147483648) (hb : b < 2147483648) : nn a / nn b = nn (a / b) := by
  have h : a / b ≤ a := Nat.div_le_self _ _
  rw [i32_eq, Int32.toInt_div, nn_toInt ha, nn_toInt hb, nn_toInt (by omega), Int.tdiv_eq_ediv_of_nonneg (by omega)]
  rw [show ((a : Int) / (b : Int)) = ((a / b : Nat) : Int) from rfl]
  generalize a / b = q at h ⊢
  apply Int.bmod_eq_of_le <;> omega
theorem nn_mod5 {a : Nat} (ha : a < 2147483648) : nn a - nn a / 5 * 5 = nn (a % 5) := by
  rw [show nn a / 5 = nn (a / 5) from nn_div (b := 5) ha (by omega), show nn (a / 5) * 5 = nn (a / 5 * 5) from nn_mul _ 5, nn_sub (by omega)]
  congr 1
  omega
/-- entry k of the turn number c -/
def uE (c k : Nat) : Int32 := if k = 0 then wx 2 (c / 125) else if k = 1 then wx 2 (c / 25 % 5) else if k = 2 then wx 2 (c / 5 % 5) else wx 2 (c % 5)
def uDet (c : Nat) : Bool := decide (uE c 0 * uE c 3 - uE c 1 * uE c 2 = 1) || decide (uE c 0 * uE c 3 - uE c 1 * uE c 2 = -1)
def lft (d : Nat) (a : Nat → Int64) (u v w z : Int32) : Bool := allB 5 (fun j => decide (ft a u.toInt64 v.toInt64 w.toInt64 z.toInt64 d j = a j))
/-- whether the turn number c is a unit -/
def Ub (s : Sq) (c : Nat) : Bool := uDet c && lft s.1 s.2.1 (uE c 0) (uE c 1) (uE c 2) (uE c 3)
def un (s : Sq) (c : Nat) : Nat := fb_ct (Ub s) c
theorem un_104 (s : Sq) : un s 625 ≤ 104 := by
  have h1 : fb_ct uDet 625 = 104 := by decide +kernel
  rw [← h1]
  refine fb_ct_sub (fun k _ h => ?_)
  unfold Ub at h
  rw [Bool.and_eq_true] at h
  exact h.1
theorem un_lt (s : Sq) {c : Nat} (hc : c < 625) (h : Ub s c = true) : un s c < un s 625 := by
  have h1 := fb_ct_mono (Ub s) (show c + 1 ≤ 625 by omega)
  rw [fb_ct_succ, if_pos h] at h1
  exact h1
theorem un_mono (s : Sq) {c c' : Nat} (h : c' < c) (h1 : Ub s c' = true) : un s c' < un s c := by
  have h2 := fb_ct_mono (Ub s) (show c' + 1 ≤ c by omega)
  rw [fb_ct_succ, if_pos h1] at h2
  exact h2
theorem un_s (s : Sq) (c : Nat) : un s (c + 1) = un s c + (if Ub s c = true then 1 else 0) := rfl
/-- the units as they lie: how many at S k, their entries in row A -/
def UAt (s : Sq) (A : Nat) (I : Nat → Nat → Int32) (n : Nat) : Prop := ∀ c, c < n → Ub s c = true → ∀ k, k < 4 → I A (4 * un s c + k) = uE c k
def U4 (I : Nat → Nat → Int32) (A m c : Nat) : Nat → Nat → Int32 := up1 I A (up1 (up1 (up1 (up1 (I A) (4 * m) (uE c 0)) (4 * m + 1) (uE c 1)) (4 * m + 2) (uE c 2)) (4 * m + 3) (uE c 3))
theorem UAt_put {s : Sq} {A : Nat} {I I' : Nat → Nat → Int32} {n : Nat} (h : UAt s A I n) (hI : I' A = U4 I A (un s n) n A) : UAt s A I' (n + 1) := by
  intro c hc hu k hk
  rw [hI]
  unfold U4
  rw [up1_s]
  simp only [up1_e]
  by_cases e : c = n
  · subst e
    rcases (show k = 0 ∨ k = 1 ∨ k = 2 ∨ k = 3 by omega) with rfl | rfl | rfl | rfl
    · rw [if_neg (by omega), if_neg (by omega), if_neg (by omega), if_pos (by omega)]
    · rw [if_neg (by omega), if_neg (by omega), if_pos (by omega)]
    · rw [if_neg (by omega), if_pos (by omega)]
    · rw [if_pos (by omega)]
  · have h1 := un_mono s (show c < n by omega) hu
    rw [if_neg (by omega), if_neg (by omega), if_neg (by omega), if_neg (by omega)]
    exact h c (by omega) hu k hk
theorem UAt_no {s : Sq} {A : Nat} {I I' : Nat → Nat → Int32} {n : Nat} (h : UAt s A I n) (hu : ¬ Ub s n = true) (hI : I' A = I A) : UAt s A I' (n + 1) := by
  intro c hc hu' k hk
  rw [hI]
  by_cases e : c = n
  · rw [e] at hu'
    exact absurd hu' hu
  · exact h c (by omega) hu' k hk
/-- the class's units, on the way -/
def UIc (s : Sq) (T : List Nat) (I : Nat → Nat → Int32) (L : Nat → Nat → Int64) (c : Nat) (h : Mem) : Prop := ∃ I' L', h = mk I' L' ∧ Ch [38, 39] [] T I L I' L' ∧ I' 38 0 = nn (un s c) ∧ UAt s 39 I' c
def UIm (s : Sq) (I : Nat → Nat → Int32) (L : Nat → Nat → Int64) (c : Nat) (h : Mem) : Prop := ∃ I' L', h = mk I' L' ∧ Ch [70] [15] [67, 68] I L I' L' ∧ I' 62 15 = nn (un s c) ∧ UAt s 70 I' c
def sU (P : Nat → Mem → Prop) (c0 : Nat) (i : Nat) (s : Int32 × Mem) : Prop := s.1 = wx 2 i ∧ P (c0 + i) s.2
def sU5 (P : Nat → Mem → Prop) (c0 : Nat) (i : Nat) (s : Int32 × Mem) : Prop := s.1 = wx 2 i ∧ P (c0 + i * 5) s.2
def sU25 (P : Nat → Mem → Prop) (c0 : Nat) (i : Nat) (s : Int32 × Mem) : Prop := s.1 = wx 2 i ∧ P (c0 + i * 25) s.2
def sU125 (P : Nat → Mem → Prop) (i : Nat) (s : Int32 × Mem) : Prop := s.1 = wx 2 i ∧ P (i * 125) s.2
theorem wx2_lt {i : Nat} (h : i < 100) : 2 < wx 2 i ↔ 4 < i := wx_lt (B := 2) (by omega) (by omega)
theorem m2_wx : (-2 : Int32) = wx 2 0 := by decide
section UN
variable (I : Nat → Nat → Int32) (L : Nat → Nat → Int64)
theorem uadd_38 (c m : Nat) (hm : m < 104) (h : I 38 0 = nn m) : fX8_add 38 (uE c 0) (uE c 1) (uE c 2) (uE c 3) (mk I L) = some ((), mk (up1 (U4 I 39 m c) 38 (up1 (I 38) 0 (nn (m + 1)))) L) := by
  unfold fX8_add U4
  have e1 : nn m * 4 = nn (4 * m) := by rw [Nat.mul_comm]; exact nn_mul m 4
  have e3 : nn (4 * m) + 3 = nn (4 * m + 3) := nn_add _ 3
  have q : nn (4 * m + 3) < 416 := (nn_lt (n := 416) (by omega) (by omega)).mpr (by omega)
  simp only [kd_38, gI_38, pI_38, gR_38_1, ln_39, xI_39, yI_39, h, Option.bind_some, nm, e1, nn_lt0 (4 * m) (by omega), if_false, nn_p1, nn_p2, e3, if_pos q, nn_lt0 (4 * m) (by omega), nn_nat (show 4 * m < 2147483648 by omega), show 4 * m < 416 by omega, not_false_eq_true, and_self, if_true, nn_lt0 (4 * m + 1) (by omega), nn_nat (show 4 * m + 1 < 2147483648 by omega), show 4 * m + 1 < 416 by omega, not_false_eq_true, and_self, if_true, nn_lt0 (4 * m + 2) (by omega), nn_nat (show 4 * m + 2 < 2147483648 by omega), show 4 * m + 2 < 416 by omega, not_false_eq_true, and_self, if_true, nn_lt0 (4 * m + 3) (by omega), nn_nat (show 4 * m + 3 < 2147483648 by omega), show 4 * m + 3 < 416 by omega, not_false_eq_true, and_self, if_true, up1_s, up1_up1, up1_n I _ (show 38 ≠ 39 by decide), nn_s]
theorem left_4 {s : Sq} (hA : AC 4 I s.1 s.2.1) (hV : VSt s) (u v w z : Int32) : ∃ L', fX2_isLeftBy 4 u v w z (mk I L) = some (if lft s.1 s.2.1 u v w z = true then 1 else 0, mk I L') ∧ ∀ r, r ≠ 6 → r ≠ 7 → L' r = L r := by
  have hd := hV.1.1
  refine ⟨LT' I L 4 s.1 u v w z, ?_, fun r h1 h2 => LT_n I L 4 s.1 u v w z h1 h2⟩
  rw [isLeft_4 I L s.1 hd hA.1]
  have e1 : tw I 4 s.1 u v w z = ft s.2.1 u.toInt64 v.toInt64 w.toInt64 z.toInt64 s.1 := ft_congr _ _ _ _ s.1 (fun j hj => hA.2 j (by omega))
  have e2 : allB 5 (fun j => decide (tw I 4 s.1 u v w z j = cf I 4 j)) = lft s.1 s.2.1 u v w z := by
    unfold lft
    rw [Bool.eq_iff_iff, allB_iff, allB_iff]
    constructor
    · intro h j hj
      have := of_decide_eq_true (h j hj)
      rw [e1, show cf I 4 j = s.2.1 j from hA.2 j hj] at this
      exact decide_eq_true this
    · intro h j hj
      have := of_decide_eq_true (h j hj)
      rw [e1, show cf I 4 j = s.2.1 j from hA.2 j hj]
      exact decide_eq_true this
  rw [e2]
theorem units_4 {s : Sq} (hA : AC 4 I s.1 s.2.1) (hV : VSt s) : ∃ r, fX8_look 38 4 (mk I L) = some r ∧ UIc s [6, 7] I L 625 r.2 := by
  unfold fX8_look
  simp only [pI_38, Option.bind_some, m2_wx]
  refine lp_ex (sU125 (UIc s [6, 7] I L)) (fun (r : Unit × Mem) => UIc s [6, 7] I L 625 r.2) 5 (wx 2 0, mk (up1 I 38 (up1 (I 38) 0 0)) L) ⟨rfl, up1 I 38 (up1 (I 38) 0 0), L, rfl, ChI I L [38, 39] [] [6, 7] (by simp) (by decide), by rw [up1_s, up1_s]; rfl, fun c hc => absurd hc (by omega)⟩ ?_ ?_ FU (FU_gt (by omega))
  rotate_left
  · rintro ⟨v, h⟩ ⟨hv, hP⟩
    simp only at hv hP
    subst hv
    refine ⟨((), h), fun k => ?_, hP⟩
    simp only [wx2_lt (show 5 < 100 by omega), if_pos (show 4 < 5 by omega)]
  rintro i1 hi1 ⟨v, h⟩ ⟨hv, hP⟩
  simp only at hv hP
  subst hv
  simp only [wx2_lt (show i1 < 100 by omega), if_neg (show ¬ 4 < i1 by omega)]
  refine Exists.imp (fun t h => ⟨fun k => h.1 k, h.2⟩) (lpK (g := fun (k : Int32 × Mem → Option (Unit × Mem)) t => k t) (sU25 (UIc s [6, 7] I L) (i1 * 125)) 5 ⟨rfl, hP⟩ ?_ ?_ (FU_gt (by omega)))
  rotate_left
  · rintro ⟨v, h⟩ ⟨hv, hP⟩
    simp only at hv hP
    subst hv
    refine ⟨(wx 2 (i1 + 1), h), fun k _ => ?_, rfl, ?_⟩
    · simp only [wx2_lt (show 5 < 100 by omega), if_pos (show 4 < 5 by omega), nm, wx_s]
    · rw [show (i1 + 1) * 125 = i1 * 125 + 5 * 25 by omega]
      exact hP
  rintro i2 hi2 ⟨v, h⟩ ⟨hv, hP⟩
  simp only at hv hP
  subst hv
  simp only [wx2_lt (show i2 < 100 by omega), if_neg (show ¬ 4 < i2 by omega)]
  refine Exists.imp (fun t h => ⟨fun _ k => h.1 k, h.2⟩) (lpK (g := fun (k : Int32 × Mem → Option (Unit × Mem)) t => k t) (sU5 (UIc s [6, 7] I L) (i1 * 125 + i2 * 25)) 5 ⟨rfl, hP⟩ ?_ ?_ (FU_gt (by omega)))
  rotate_left
  · rintro ⟨v, h⟩ ⟨hv, hP⟩
    simp only at hv hP
    subst hv
    refine ⟨(wx 2 (i2 + 1), h), fun k _ => ?_, rfl, ?_⟩
    · simp only [wx2_lt (show 5 < 100 by omega), if_pos (show 4 < 5 by omega), nm, wx_s]
    · show UIc s [6, 7] I L (i1 * 125 + (i2 + 1) * 25) h
      rw [show i1 * 125 + (i2 + 1) * 25 = i1 * 125 + i2 * 25 + 5 * 5 by omega]
      exact hP
  rintro i3 hi3 ⟨v, h⟩ ⟨hv, hP⟩
  simp only at hv hP
  subst hv
  simp only [wx2_lt (show i3 < 100 by omega), if_neg (show ¬ 4 < i3 by omega)]
  refine Exists.imp (fun t h => ⟨fun _ k => h.1 k, h.2⟩) (lpK (g := fun (k : Int32 × Mem → Option (Unit × Mem)) t => k t) (sU (UIc s [6, 7] I L) (i1 * 125 + i2 * 25 + i3 * 5)) 5 ⟨rfl, hP⟩ ?_ ?_ (FU_gt (by omega)))
  rotate_left
  · rintro ⟨v, h⟩ ⟨hv, hP⟩
    simp only at hv hP
    subst hv
    refine ⟨(wx 2 (i3 + 1), h), fun k _ => ?_, rfl, ?_⟩
    · simp only [wx2_lt (show 5 < 100 by omega), if_pos (show 4 < 5 by omega), nm, wx_s]
    · show UIc s [6, 7] I L (i1 * 125 + i2 * 25 + (i3 + 1) * 5) h
      rw [show i1 * 125 + i2 * 25 + (i3 + 1) * 5 = i1 * 125 + i2 * 25 + i3 * 5 + 5 by omega]
      exact hP
  rintro i4 hi4 ⟨v, h⟩ ⟨hv, hP⟩
  simp only at hv hP
  subst hv
  obtain ⟨c, hc⟩ : ∃ c, c = i1 * 125 + i2 * 25 + i3 * 5 + i4 := ⟨_, rfl⟩
  have u0 : wx 2 i1 = uE c 0 := by
    rw [show i1 = c / 125 by omega]
    rfl
  have u1 : wx 2 i2 = uE c 1 := by
    rw [show i2 = c / 25 % 5 by omega]
    rfl
  have u2 : wx 2 i3 = uE c 2 := by
    rw [show i3 = c / 5 % 5 by omega]
    rfl
  have u3 : wx 2 i4 = uE c 3 := by
    rw [show i4 = c % 5 by omega]
    rfl
  rw [← hc] at hP
  obtain ⟨I1, L1, rfl, q1, q2, q3⟩ := hP
  have hA1 : AC 4 I1 s.1 s.2.1 := hA.ch q1 (by decide) (by decide) (by decide) (by decide)
  by_cases hdet : uDet c = true
  rotate_left
  · have hu : ¬ Ub s c = true := fun e => by
      unfold Ub at e
      rw [Bool.and_eq_true] at e
      exact hdet e.1
    have hd2 : ¬ uE c 0 * uE c 3 - uE c 1 * uE c 2 = 1 ∧ ¬ uE c 0 * uE c 3 - uE c 1 * uE c 2 = -1 := by
      unfold uDet at hdet
      simpa using hdet
    refine ⟨(wx 2 (i4 + 1), mk I1 L1), fun _ k => ?_, rfl, ?_⟩
    · simp only [wx2_lt (show i4 < 100 by omega), if_neg (show ¬ 4 < i4 by omega), nm, jn, wx_s]
      rw [u0, u1, u2, u3, if_neg hd2.1, if_neg hd2.2]
    · show UIc s [6, 7] I L (i1 * 125 + i2 * 25 + i3 * 5 + (i4 + 1)) (mk I1 L1)
      rw [show i1 * 125 + i2 * 25 + i3 * 5 + (i4 + 1) = c + 1 by omega]
      exact ⟨I1, L1, rfl, q1, by rw [un_s, if_neg hu]; exact q2, UAt_no q3 hu rfl⟩
  · have hd2 : uE c 0 * uE c 3 - uE c 1 * uE c 2 = 1 ∨ uE c 0 * uE c 3 - uE c 1 * uE c 2 = -1 := by
      unfold uDet at hdet
      simpa using hdet
    obtain ⟨L2, l1, l2⟩ := left_4 I1 L1 hA1 hV (uE c 0) (uE c 1) (uE c 2) (uE c 3)
    have q4 : Ch [38, 39] [] [6, 7] I L I1 L2 := ⟨q1.1, q1.2.1, fun r hr => (l2 r (fun e => hr (by simp [e])) (fun e => hr (by simp [e]))).trans (q1.2.2 r hr)⟩
    by_cases hl : lft s.1 s.2.1 (uE c 0) (uE c 1) (uE c 2) (uE c 3) = true
    · have hu : Ub s c = true := by
        unfold Ub
        rw [hdet, hl]
        rfl
      have hun : un s c < 104 := by
        have := un_lt s (show c < 625 by omega) hu
        have := un_104 s
        omega
      refine ⟨(wx 2 (i4 + 1), mk (up1 (U4 I1 39 (un s c) c) 38 (up1 (I1 38) 0 (nn (un s c + 1)))) L2), fun _ k => ?_, rfl, ?_⟩
      · simp only [wx2_lt (show i4 < 100 by omega), if_neg (show ¬ 4 < i4 by omega), nm, jn, wx_s]
        rw [u0, u1, u2, u3]
        rcases hd2 with e | e
        · simp only [e, if_true, kd_4, kd_38, l1, if_pos hl, Option.bind_some, one0, if_false, uadd_38 I1 L2 c (un s c) hun q2]
        · simp only [e, show ¬ (-1 : Int32) = 1 by decide, if_false, if_true, kd_4, kd_38, l1, if_pos hl, Option.bind_some, one0, uadd_38 I1 L2 c (un s c) hun q2]
      · show UIc s [6, 7] I L (i1 * 125 + i2 * 25 + i3 * 5 + (i4 + 1)) _
        rw [show i1 * 125 + i2 * 25 + i3 * 5 + (i4 + 1) = c + 1 by omega]
        refine ⟨_, L2, rfl, ⟨fun r hr h0 => ?_, fun j hj => ?_, q4.2.2⟩, by rw [up1_s, up1_s, un_s, if_pos hu], UAt_put q3 (up1_n _ _ (by decide))⟩
        · rw [up1_n _ _ (fun e => hr (by simp [e]))]
          unfold U4
          rw [up1_n _ _ (fun e => hr (by simp [e]))]
          exact q4.1 r hr h0
        · rw [up1_n _ _ (by decide)]
          unfold U4
          rw [up1_n _ _ (by decide)]
          exact q4.2.1 j hj
    · have hu : ¬ Ub s c = true := fun e => by
        unfold Ub at e
        rw [Bool.and_eq_true] at e
        exact hl e.2
      refine ⟨(wx 2 (i4 + 1), mk I1 L2), fun _ k => ?_, rfl, ?_⟩
      · simp only [wx2_lt (show i4 < 100 by omega), if_neg (show ¬ 4 < i4 by omega), nm, jn, wx_s]
        rw [u0, u1, u2, u3]
        rcases hd2 with e | e
        · simp only [e, if_true, kd_4, l1, if_neg hl, Option.bind_some]
        · simp only [e, show ¬ (-1 : Int32) = 1 by decide, if_false, if_true, kd_4, l1, if_neg hl, Option.bind_some]
      · show UIc s [6, 7] I L (i1 * 125 + i2 * 25 + i3 * 5 + (i4 + 1)) (mk I1 L2)
        rw [show i1 * 125 + i2 * 25 + i3 * 5 + (i4 + 1) = c + 1 by omega]
        exact ⟨I1, L2, rfl, q4, by rw [un_s, if_neg hu]; exact q2, UAt_no q3 hu rfl⟩
theorem left_27 {s : Sq} (hA : AC 27 I s.1 s.2.1) (hV : VSt s) (u v w z : Int32) : ∃ L', fX2_isLeftBy 27 u v w z (mk I L) = some (if lft s.1 s.2.1 u v w z = true then 1 else 0, mk I L') ∧ ∀ r, r ≠ 29 → r ≠ 30 → L' r = L r := by
  have hd := hV.1.1
  refine ⟨LT' I L 27 s.1 u v w z, ?_, fun r h1 h2 => LT_n I L 27 s.1 u v w z h1 h2⟩
  rw [isLeft_27 I L s.1 hd hA.1]
  have e1 : tw I 27 s.1 u v w z = ft s.2.1 u.toInt64 v.toInt64 w.toInt64 z.toInt64 s.1 := ft_congr _ _ _ _ s.1 (fun j hj => hA.2 j (by omega))
  have e2 : allB 5 (fun j => decide (tw I 27 s.1 u v w z j = cf I 27 j)) = lft s.1 s.2.1 u v w z := by
    unfold lft
    rw [Bool.eq_iff_iff, allB_iff, allB_iff]
    constructor
    · intro h j hj
      have := of_decide_eq_true (h j hj)
      rw [e1, show cf I 27 j = s.2.1 j from hA.2 j hj] at this
      exact decide_eq_true this
    · intro h j hj
      have := of_decide_eq_true (h j hj)
      rw [e1, show cf I 27 j = s.2.1 j from hA.2 j hj]
      exact decide_eq_true this
  rw [e2]
theorem units_27 {s : Sq} (hA : AC 27 I s.1 s.2.1) (hV : VSt s) : ∃ r, fX8_look 38 27 (mk I L) = some r ∧ UIc s [29, 30] I L 625 r.2 := by
  unfold fX8_look
  simp only [pI_38, Option.bind_some, m2_wx]
  refine lp_ex (sU125 (UIc s [29, 30] I L)) (fun (r : Unit × Mem) => UIc s [29, 30] I L 625 r.2) 5 (wx 2 0, mk (up1 I 38 (up1 (I 38) 0 0)) L) ⟨rfl, up1 I 38 (up1 (I 38) 0 0), L, rfl, ChI I L [38, 39] [] [29, 30] (by simp) (by decide), by rw [up1_s, up1_s]; rfl, fun c hc => absurd hc (by omega)⟩ ?_ ?_ FU (FU_gt (by omega))
  rotate_left
  · rintro ⟨v, h⟩ ⟨hv, hP⟩
    simp only at hv hP
    subst hv
    refine ⟨((), h), fun k => ?_, hP⟩
    simp only [wx2_lt (show 5 < 100 by omega), if_pos (show 4 < 5 by omega)]
  rintro i1 hi1 ⟨v, h⟩ ⟨hv, hP⟩
  simp only at hv hP
  subst hv
  simp only [wx2_lt (show i1 < 100 by omega), if_neg (show ¬ 4 < i1 by omega)]
  refine Exists.imp (fun t h => ⟨fun k => h.1 k, h.2⟩) (lpK (g := fun (k : Int32 × Mem → Option (Unit × Mem)) t => k t) (sU25 (UIc s [29, 30] I L) (i1 * 125)) 5 ⟨rfl, hP⟩ ?_ ?_ (FU_gt (by omega)))
  rotate_left
  · rintro ⟨v, h⟩ ⟨hv, hP⟩
    simp only at hv hP
    subst hv
    refine ⟨(wx 2 (i1 + 1), h), fun k _ => ?_, rfl, ?_⟩
    · simp only [wx2_lt (show 5 < 100 by omega), if_pos (show 4 < 5 by omega), nm, wx_s]
    · rw [show (i1 + 1) * 125 = i1 * 125 + 5 * 25 by omega]
      exact hP
  rintro i2 hi2 ⟨v, h⟩ ⟨hv, hP⟩
  simp only at hv hP
  subst hv
  simp only [wx2_lt (show i2 < 100 by omega), if_neg (show ¬ 4 < i2 by omega)]
  refine Exists.imp (fun t h => ⟨fun _ k => h.1 k, h.2⟩) (lpK (g := fun (k : Int32 × Mem → Option (Unit × Mem)) t => k t) (sU5 (UIc s [29, 30] I L) (i1 * 125 + i2 * 25)) 5 ⟨rfl, hP⟩ ?_ ?_ (FU_gt (by omega)))
  rotate_left
  · rintro ⟨v, h⟩ ⟨hv, hP⟩
    simp only at hv hP
    subst hv
    refine ⟨(wx 2 (i2 + 1), h), fun k _ => ?_, rfl, ?_⟩
    · simp only [wx2_lt (show 5 < 100 by omega), if_pos (show 4 < 5 by omega), nm, wx_s]
    · show UIc s [29, 30] I L (i1 * 125 + (i2 + 1) * 25) h
      rw [show i1 * 125 + (i2 + 1) * 25 = i1 * 125 + i2 * 25 + 5 * 5 by omega]
      exact hP
  rintro i3 hi3 ⟨v, h⟩ ⟨hv, hP⟩
  simp only at hv hP
  subst hv
  simp only [wx2_lt (show i3 < 100 by omega), if_neg (show ¬ 4 < i3 by omega)]
  refine Exists.imp (fun t h => ⟨fun _ k => h.1 k, h.2⟩) (lpK (g := fun (k : Int32 × Mem → Option (Unit × Mem)) t => k t) (sU (UIc s [29, 30] I L) (i1 * 125 + i2 * 25 + i3 * 5)) 5 ⟨rfl, hP⟩ ?_ ?_ (FU_gt (by omega)))
  rotate_left
  · rintro ⟨v, h⟩ ⟨hv, hP⟩
    simp only at hv hP
    subst hv
    refine ⟨(wx 2 (i3 + 1), h), fun k _ => ?_, rfl, ?_⟩
    · simp only [wx2_lt (show 5 < 100 by omega), if_pos (show 4 < 5 by omega), nm, wx_s]
    · show UIc s [29, 30] I L (i1 * 125 + i2 * 25 + (i3 + 1) * 5) h
      rw [show i1 * 125 + i2 * 25 + (i3 + 1) * 5 = i1 * 125 + i2 * 25 + i3 * 5 + 5 by omega]
      exact hP
  rintro i4 hi4 ⟨v, h⟩ ⟨hv, hP⟩
  simp only at hv hP
  subst hv
  obtain ⟨c, hc⟩ : ∃ c, c = i1 * 125 + i2 * 25 + i3 * 5 + i4 := ⟨_, rfl⟩
  have u0 : wx 2 i1 = uE c 0 := by
    rw [show i1 = c / 125 by omega]
    rfl
  have u1 : wx 2 i2 = uE c 1 := by
    rw [show i2 = c / 25 % 5 by omega]
    rfl
  have u2 : wx 2 i3 = uE c 2 := by
    rw [show i3 = c / 5 % 5 by omega]
    rfl
  have u3 : wx 2 i4 = uE c 3 := by
    rw [show i4 = c % 5 by omega]
    rfl
  rw [← hc] at hP
  obtain ⟨I1, L1, rfl, q1, q2, q3⟩ := hP
  have hA1 : AC 27 I1 s.1 s.2.1 := hA.ch q1 (by decide) (by decide) (by decide) (by decide)
  by_cases hdet : uDet c = true
  rotate_left
  · have hu : ¬ Ub s c = true := fun e => by
      unfold Ub at e
      rw [Bool.and_eq_true] at e
      exact hdet e.1
    have hd2 : ¬ uE c 0 * uE c 3 - uE c 1 * uE c 2 = 1 ∧ ¬ uE c 0 * uE c 3 - uE c 1 * uE c 2 = -1 := by
      unfold uDet at hdet
      simpa using hdet
    refine ⟨(wx 2 (i4 + 1), mk I1 L1), fun _ k => ?_, rfl, ?_⟩
    · simp only [wx2_lt (show i4 < 100 by omega), if_neg (show ¬ 4 < i4 by omega), nm, jn, wx_s]
      rw [u0, u1, u2, u3, if_neg hd2.1, if_neg hd2.2]
    · show UIc s [29, 30] I L (i1 * 125 + i2 * 25 + i3 * 5 + (i4 + 1)) (mk I1 L1)
      rw [show i1 * 125 + i2 * 25 + i3 * 5 + (i4 + 1) = c + 1 by omega]
      exact ⟨I1, L1, rfl, q1, by rw [un_s, if_neg hu]; exact q2, UAt_no q3 hu rfl⟩
  · have hd2 : uE c 0 * uE c 3 - uE c 1 * uE c 2 = 1 ∨ uE c 0 * uE c 3 - uE c 1 * uE c 2 = -1 := by
      unfold uDet at hdet
      simpa using hdet
    obtain ⟨L2, l1, l2⟩ := left_27 I1 L1 hA1 hV (uE c 0) (uE c 1) (uE c 2) (uE c 3)
    have q4 : Ch [38, 39] [] [29, 30] I L I1 L2 := ⟨q1.1, q1.2.1, fun r hr => (l2 r (fun e => hr (by simp [e])) (fun e => hr (by simp [e]))).trans (q1.2.2 r hr)⟩
    by_cases hl : lft s.1 s.2.1 (uE c 0) (uE c 1) (uE c 2) (uE c 3) = true
    · have hu : Ub s c = true := by
        unfold Ub
        rw [hdet, hl]
        rfl
      have hun : un s c < 104 := by
        have := un_lt s (show c < 625 by omega) hu
        have := un_104 s
        omega
      refine ⟨(wx 2 (i4 + 1), mk (up1 (U4 I1 39 (un s c) c) 38 (up1 (I1 38) 0 (nn (un s c + 1)))) L2), fun _ k => ?_, rfl, ?_⟩
      · simp only [wx2_lt (show i4 < 100 by omega), if_neg (show ¬ 4 < i4 by omega), nm, jn, wx_s]
        rw [u0, u1, u2, u3]
        rcases hd2 with e | e
        · simp only [e, if_true, kd_27, kd_38, l1, if_pos hl, Option.bind_some, one0, if_false, uadd_38 I1 L2 c (un s c) hun q2]
        · simp only [e, show ¬ (-1 : Int32) = 1 by decide, if_false, if_true, kd_27, kd_38, l1, if_pos hl, Option.bind_some, one0, uadd_38 I1 L2 c (un s c) hun q2]
      · show UIc s [29, 30] I L (i1 * 125 + i2 * 25 + i3 * 5 + (i4 + 1)) _
        rw [show i1 * 125 + i2 * 25 + i3 * 5 + (i4 + 1) = c + 1 by omega]
        refine ⟨_, L2, rfl, ⟨fun r hr h0 => ?_, fun j hj => ?_, q4.2.2⟩, by rw [up1_s, up1_s, un_s, if_pos hu], UAt_put q3 (up1_n _ _ (by decide))⟩
        · rw [up1_n _ _ (fun e => hr (by simp [e]))]
          unfold U4
          rw [up1_n _ _ (fun e => hr (by simp [e]))]
          exact q4.1 r hr h0
        · rw [up1_n _ _ (by decide)]
          unfold U4
          rw [up1_n _ _ (by decide)]
          exact q4.2.1 j hj
    · have hu : ¬ Ub s c = true := fun e => by
        unfold Ub at e
        rw [Bool.and_eq_true] at e
        exact hl e.2
      refine ⟨(wx 2 (i4 + 1), mk I1 L2), fun _ k => ?_, rfl, ?_⟩
      · simp only [wx2_lt (show i4 < 100 by omega), if_neg (show ¬ 4 < i4 by omega), nm, jn, wx_s]
        rw [u0, u1, u2, u3]
        rcases hd2 with e | e
        · simp only [e, if_true, kd_27, l1, if_neg hl, Option.bind_some]
        · simp only [e, show ¬ (-1 : Int32) = 1 by decide, if_false, if_true, kd_27, l1, if_neg hl, Option.bind_some]
      · show UIc s [29, 30] I L (i1 * 125 + i2 * 25 + i3 * 5 + (i4 + 1)) (mk I1 L2)
        rw [show i1 * 125 + i2 * 25 + i3 * 5 + (i4 + 1) = c + 1 by omega]
        exact ⟨I1, L2, rfl, q4, by rw [un_s, if_neg hu]; exact q2, UAt_no q3 hu rfl⟩
theorem left_33 {s : Sq} (hA : AC 33 I s.1 s.2.1) (hV : VSt s) (u v w z : Int32) : ∃ L', fX2_isLeftBy 33 u v w z (mk I L) = some (if lft s.1 s.2.1 u v w z = true then 1 else 0, mk I L') ∧ ∀ r, r ≠ 35 → r ≠ 36 → L' r = L r := by
  have hd := hV.1.1
  refine ⟨LT' I L 33 s.1 u v w z, ?_, fun r h1 h2 => LT_n I L 33 s.1 u v w z h1 h2⟩
  rw [isLeft_33 I L s.1 hd hA.1]
  have e1 : tw I 33 s.1 u v w z = ft s.2.1 u.toInt64 v.toInt64 w.toInt64 z.toInt64 s.1 := ft_congr _ _ _ _ s.1 (fun j hj => hA.2 j (by omega))
  have e2 : allB 5 (fun j => decide (tw I 33 s.1 u v w z j = cf I 33 j)) = lft s.1 s.2.1 u v w z := by
    unfold lft
    rw [Bool.eq_iff_iff, allB_iff, allB_iff]
    constructor
    · intro h j hj
      have := of_decide_eq_true (h j hj)
      rw [e1, show cf I 33 j = s.2.1 j from hA.2 j hj] at this
      exact decide_eq_true this
    · intro h j hj
      have := of_decide_eq_true (h j hj)
      rw [e1, show cf I 33 j = s.2.1 j from hA.2 j hj]
      exact decide_eq_true this
  rw [e2]
theorem units_33 {s : Sq} (hA : AC 33 I s.1 s.2.1) (hV : VSt s) : ∃ r, fX8_look 38 33 (mk I L) = some r ∧ UIc s [35, 36] I L 625 r.2 := by
  unfold fX8_look
  simp only [pI_38, Option.bind_some, m2_wx]
  refine lp_ex (sU125 (UIc s [35, 36] I L)) (fun (r : Unit × Mem) => UIc s [35, 36] I L 625 r.2) 5 (wx 2 0, mk (up1 I 38 (up1 (I 38) 0 0)) L) ⟨rfl, up1 I 38 (up1 (I 38) 0 0), L, rfl, ChI I L [38, 39] [] [35, 36] (by simp) (by decide), by rw [up1_s, up1_s]; rfl, fun c hc => absurd hc (by omega)⟩ ?_ ?_ FU (FU_gt (by omega))
  rotate_left
  · rintro ⟨v, h⟩ ⟨hv, hP⟩
    simp only at hv hP
    subst hv
    refine ⟨((), h), fun k => ?_, hP⟩
    simp only [wx2_lt (show 5 < 100 by omega), if_pos (show 4 < 5 by omega)]
  rintro i1 hi1 ⟨v, h⟩ ⟨hv, hP⟩
  simp only at hv hP
  subst hv
  simp only [wx2_lt (show i1 < 100 by omega), if_neg (show ¬ 4 < i1 by omega)]
  refine Exists.imp (fun t h => ⟨fun k => h.1 k, h.2⟩) (lpK (g := fun (k : Int32 × Mem → Option (Unit × Mem)) t => k t) (sU25 (UIc s [35, 36] I L) (i1 * 125)) 5 ⟨rfl, hP⟩ ?_ ?_ (FU_gt (by omega)))
  rotate_left
  · rintro ⟨v, h⟩ ⟨hv, hP⟩
    simp only at hv hP
    subst hv
    refine ⟨(wx 2 (i1 + 1), h), fun k _ => ?_, rfl, ?_⟩
    · simp only [wx2_lt (show 5 < 100 by omega), if_pos (show 4 < 5 by omega), nm, wx_s]
    · rw [show (i1 + 1) * 125 = i1 * 125 + 5 * 25 by omega]
      exact hP
  rintro i2 hi2 ⟨v, h⟩ ⟨hv, hP⟩
  simp only at hv hP
  subst hv
  simp only [wx2_lt (show i2 < 100 by omega), if_neg (show ¬ 4 < i2 by omega)]
  refine Exists.imp (fun t h => ⟨fun _ k => h.1 k, h.2⟩) (lpK (g := fun (k : Int32 × Mem → Option (Unit × Mem)) t => k t) (sU5 (UIc s [35, 36] I L) (i1 * 125 + i2 * 25)) 5 ⟨rfl, hP⟩ ?_ ?_ (FU_gt (by omega)))
  rotate_left
  · rintro ⟨v, h⟩ ⟨hv, hP⟩
    simp only at hv hP
    subst hv
    refine ⟨(wx 2 (i2 + 1), h), fun k _ => ?_, rfl, ?_⟩
    · simp only [wx2_lt (show 5 < 100 by omega), if_pos (show 4 < 5 by omega), nm, wx_s]
    · show UIc s [35, 36] I L (i1 * 125 + (i2 + 1) * 25) h
      rw [show i1 * 125 + (i2 + 1) * 25 = i1 * 125 + i2 * 25 + 5 * 5 by omega]
      exact hP
  rintro i3 hi3 ⟨v, h⟩ ⟨hv, hP⟩
  simp only at hv hP
  subst hv
  simp only [wx2_lt (show i3 < 100 by omega), if_neg (show ¬ 4 < i3 by omega)]
  refine Exists.imp (fun t h => ⟨fun _ k => h.1 k, h.2⟩) (lpK (g := fun (k : Int32 × Mem → Option (Unit × Mem)) t => k t) (sU (UIc s [35, 36] I L) (i1 * 125 + i2 * 25 + i3 * 5)) 5 ⟨rfl, hP⟩ ?_ ?_ (FU_gt (by omega)))
  rotate_left
  · rintro ⟨v, h⟩ ⟨hv, hP⟩
    simp only at hv hP
    subst hv
    refine ⟨(wx 2 (i3 + 1), h), fun k _ => ?_, rfl, ?_⟩
    · simp only [wx2_lt (show 5 < 100 by omega), if_pos (show 4 < 5 by omega), nm, wx_s]
    · show UIc s [35, 36] I L (i1 * 125 + i2 * 25 + (i3 + 1) * 5) h
      rw [show i1 * 125 + i2 * 25 + (i3 + 1) * 5 = i1 * 125 + i2 * 25 + i3 * 5 + 5 by omega]
      exact hP
  rintro i4 hi4 ⟨v, h⟩ ⟨hv, hP⟩
  simp only at hv hP
  subst hv
  obtain ⟨c, hc⟩ : ∃ c, c = i1 * 125 + i2 * 25 + i3 * 5 + i4 := ⟨_, rfl⟩
  have u0 : wx 2 i1 = uE c 0 := by
    rw [show i1 = c / 125 by omega]
    rfl
  have u1 : wx 2 i2 = uE c 1 := by
    rw [show i2 = c / 25 % 5 by omega]
    rfl
  have u2 : wx 2 i3 = uE c 2 := by
    rw [show i3 = c / 5 % 5 by omega]
    rfl
  have u3 : wx 2 i4 = uE c 3 := by
    rw [show i4 = c % 5 by omega]
    rfl
  rw [← hc] at hP
  obtain ⟨I1, L1, rfl, q1, q2, q3⟩ := hP
  have hA1 : AC 33 I1 s.1 s.2.1 := hA.ch q1 (by decide) (by decide) (by decide) (by decide)
  by_cases hdet : uDet c = true
  rotate_left
  · have hu : ¬ Ub s c = true := fun e => by
      unfold Ub at e
      rw [Bool.and_eq_true] at e
      exact hdet e.1
    have hd2 : ¬ uE c 0 * uE c 3 - uE c 1 * uE c 2 = 1 ∧ ¬ uE c 0 * uE c 3 - uE c 1 * uE c 2 = -1 := by
      unfold uDet at hdet
      simpa using hdet
    refine ⟨(wx 2 (i4 + 1), mk I1 L1), fun _ k => ?_, rfl, ?_⟩
    · simp only [wx2_lt (show i4 < 100 by omega), if_neg (show ¬ 4 < i4 by omega), nm, jn, wx_s]
      rw [u0, u1, u2, u3, if_neg hd2.1, if_neg hd2.2]
    · show UIc s [35, 36] I L (i1 * 125 + i2 * 25 + i3 * 5 + (i4 + 1)) (mk I1 L1)
      rw [show i1 * 125 + i2 * 25 + i3 * 5 + (i4 + 1) = c + 1 by omega]
      exact ⟨I1, L1, rfl, q1, by rw [un_s, if_neg hu]; exact q2, UAt_no q3 hu rfl⟩
  · have hd2 : uE c 0 * uE c 3 - uE c 1 * uE c 2 = 1 ∨ uE c 0 * uE c 3 - uE c 1 * uE c 2 = -1 := by
      unfold uDet at hdet
      simpa using hdet
    obtain ⟨L2, l1, l2⟩ := left_33 I1 L1 hA1 hV (uE c 0) (uE c 1) (uE c 2) (uE c 3)
    have q4 : Ch [38, 39] [] [35, 36] I L I1 L2 := ⟨q1.1, q1.2.1, fun r hr => (l2 r (fun e => hr (by simp [e])) (fun e => hr (by simp [e]))).trans (q1.2.2 r hr)⟩
    by_cases hl : lft s.1 s.2.1 (uE c 0) (uE c 1) (uE c 2) (uE c 3) = true
    · have hu : Ub s c = true := by
        unfold Ub
        rw [hdet, hl]
        rfl
      have hun : un s c < 104 := by
        have := un_lt s (show c < 625 by omega) hu
        have := un_104 s
        omega
      refine ⟨(wx 2 (i4 + 1), mk (up1 (U4 I1 39 (un s c) c) 38 (up1 (I1 38) 0 (nn (un s c + 1)))) L2), fun _ k => ?_, rfl, ?_⟩
      · simp only [wx2_lt (show i4 < 100 by omega), if_neg (show ¬ 4 < i4 by omega), nm, jn, wx_s]
        rw [u0, u1, u2, u3]
        rcases hd2 with e | e
        · simp only [e, if_true, kd_33, kd_38, l1, if_pos hl, Option.bind_some, one0, if_false, uadd_38 I1 L2 c (un s c) hun q2]
        · simp only [e, show ¬ (-1 : Int32) = 1 by decide, if_false, if_true, kd_33, kd_38, l1, if_pos hl, Option.bind_some, one0, uadd_38 I1 L2 c (un s c) hun q2]
      · show UIc s [35, 36] I L (i1 * 125 + i2 * 25 + i3 * 5 + (i4 + 1)) _
        rw [show i1 * 125 + i2 * 25 + i3 * 5 + (i4 + 1) = c + 1 by omega]
        refine ⟨_, L2, rfl, ⟨fun r hr h0 => ?_, fun j hj => ?_, q4.2.2⟩, by rw [up1_s, up1_s, un_s, if_pos hu], UAt_put q3 (up1_n _ _ (by decide))⟩
        · rw [up1_n _ _ (fun e => hr (by simp [e]))]
          unfold U4
          rw [up1_n _ _ (fun e => hr (by simp [e]))]
          exact q4.1 r hr h0
        · rw [up1_n _ _ (by decide)]
          unfold U4
          rw [up1_n _ _ (by decide)]
          exact q4.2.1 j hj
    · have hu : ¬ Ub s c = true := fun e => by
        unfold Ub at e
        rw [Bool.and_eq_true] at e
        exact hl e.2
      refine ⟨(wx 2 (i4 + 1), mk I1 L2), fun _ k => ?_, rfl, ?_⟩
      · simp only [wx2_lt (show i4 < 100 by omega), if_neg (show ¬ 4 < i4 by omega), nm, jn, wx_s]
        rw [u0, u1, u2, u3]
        rcases hd2 with e | e
        · simp only [e, if_true, kd_33, l1, if_neg hl, Option.bind_some]
        · simp only [e, show ¬ (-1 : Int32) = 1 by decide, if_false, if_true, kd_33, l1, if_neg hl, Option.bind_some]
      · show UIc s [35, 36] I L (i1 * 125 + i2 * 25 + i3 * 5 + (i4 + 1)) (mk I1 L2)
        rw [show i1 * 125 + i2 * 25 + i3 * 5 + (i4 + 1) = c + 1 by omega]
        exact ⟨I1, L2, rfl, q4, by rw [un_s, if_neg hu]; exact q2, UAt_no q3 hu rfl⟩
end UN
