def Sh (s : Sq) : Prop := ∀ j, 5 ≤ j → s.2.1 j = 0
theorem VA_sh {d : Nat} {a : Nat → Int64} (h : VA d a) : VA d (fun j => if j < 5 then a j else 0) := by
  refine ⟨h.1, fun j hj => ?_, fun j hj hd => ?_⟩
  · show -99 ≤ (if j < 5 then a j else 0).toInt ∧ (if j < 5 then a j else 0).toInt ≤ 99
    rw [if_pos hj]
    exact h.2.1 j hj
  · show (if j < 5 then a j else 0) = 0
    rw [if_pos hj]
    exact h.2.2 j hj hd
theorem st_sh (I : Nat → Nat → Int32) (L : Nat → Nat → Int64) (N : RelN I L) (M : RelM I) (B : RelB I) : ∃ s : Sq, ESt 3 I s ∧ MSt I L s ∧ VSt s ∧ Sh s := by
  obtain ⟨d, a, hC, hM, hV⟩ := N
  refine ⟨(d, (fun j => if j < 5 then a j else 0), I 3 1, I 3 2), ⟨⟨hC.1, fun j hj => ?_⟩, rfl, rfl⟩, ⟨⟨hM.1, fun j hj => ?_⟩, M.1, B.1⟩, ⟨VA_sh hV, M.2, B.2⟩, fun j hj => if_neg (by omega)⟩
  · show _ = if j < 5 then a j else 0
    rw [if_pos hj]
    exact hC.2 j hj
  · show _ = if j < 5 then a j else 0
    rw [if_pos hj]
    exact hM.2 j hj
/-- what the class keeps of its answers -/
def LabA (s : Sq) (B : Nat) (I : Nat → Nat → Int32) : Prop := ∀ e, e < 6561 → I 37 e = if Pe s B e = true then -2 else -1
def LabF (s : Sq) (B : Nat) (I : Nat → Nat → Int32) : Prop := ∀ e, e < 6561 → I 37 e = if Pe s B e = true then nn (fm s B (fb_ct (Pe s B) e)) else -1
def Kept (s : Sq) (B : Nat) (I : Nat → Nat → Int32) : Prop := I 31 0 = nn (nA s B) ∧ ((I 31 3 = 0 ∧ I 31 1 = 0 ∧ LabA s B I) ∨ (I 31 3 = 1 ∧ I 31 1 = nn (nF s B) ∧ LabF s B I))
def RelA (I : Nat → Nat → Int32) : Prop := I 31 2 = 0 ∨ (I 31 2 = 1 ∧ ∃ s B, VSt s ∧ Sh s ∧ s.2.2.2 = nn B ∧ B ≤ 40 ∧ ESt 32 I s ∧ Kept s B I)
theorem Kept_ch {s : Sq} {B : Nat} {I I' : Nat → Nat → Int32} (h : Kept s B I) (h1 : I' 31 = I 31) (h2 : I' 37 = I 37) : Kept s B I' := by
  unfold Kept LabA LabF at *
  rw [h1, h2]
  exact h
section LK
variable (I : Nat → Nat → Int32) (L : Nat → Nat → Int64)
def lkB (I : Nat → Nat → Int32) : Bool := decide (I 32 1 = I 3 1) && (decide (I 32 2 = I 3 2) && (allB 5 (fun j => decide (I 34 j = I 5 j)) && decide (I 33 0 = I 4 0)))
theorem isLike_s : fX1_isLike 32 3 (mk I L) = some (if lkB I = true then 1 else 0, mk I L) := by
  have hF : fX2_isLike 33 4 (mk I L) = some (if (allB 5 (fun j => decide (I 34 j = I 5 j)) && decide (I 33 0 = I 4 0)) = true then 1 else 0, mk I L) := by
    unfold fX2_isLike
    refine (lp_findi (s := fun j => nn j) (x := some ((if I 33 0 = I 4 0 then 1 else 0 : Int32), mk I L)) (y := some ((0 : Int32), mk I L)) rfl 5 (fun j => decide (I 34 j = I 5 j)) ?_ ?_ ?_ (FU_gt (by omega))).trans ?_
    rotate_left 3
    · by_cases h1 : allB 5 (fun j => decide (I 34 j = I 5 j)) = true
      · rw [if_pos h1, h1, Bool.true_and]
        simp only [decide_eq_true_eq]
      · rw [if_neg h1, show allB 5 (fun j => decide (I 34 j = I 5 j)) = false by simpa using h1, Bool.false_and]
        rfl
    · intro j hj hP k
      replace hP := of_decide_eq_true hP
      simp only [gR_33_1, gR_4_1, ln_34, Option.bind_some, nn5_le j (by omega), show ¬ 5 ≤ j by omega, if_false, xI_34, xI_5, nn_lt0 (j) (by omega), nn_nat (show j < 2147483648 by omega), show j < 5 by omega, not_false_eq_true, and_self, if_true, hP, nm, nn_s]
    · intro j hj hP _ k
      replace hP := of_decide_eq_false hP
      simp only [gR_33_1, gR_4_1, ln_34, Option.bind_some, nn5_le j (by omega), show ¬ 5 ≤ j by omega, if_false, xI_34, xI_5, nn_lt0 (j) (by omega), nn_nat (show j < 2147483648 by omega), show j < 5 by omega, not_false_eq_true, and_self, if_true, hP]
    · intro k
      simp only [gR_33_1, ln_34, Option.bind_some, nn5_le 5 (by omega), Nat.le_refl, if_true, gI_33, gI_4]
      split <;> rfl
  unfold fX1_isLike lkB
  simp only [gI_32, gI_3, Option.bind_some, gR_32_0, gR_3_0, kd_33, if_true, hF, ite10]
  by_cases h1 : I 32 1 = I 3 1
  · rw [if_pos h1, decide_eq_true h1, Bool.true_and]
    by_cases h2 : I 32 2 = I 3 2
    · rw [if_pos h2, decide_eq_true h2, Bool.true_and]
      split <;> rfl
    · rw [if_neg h2, decide_eq_false h2, Bool.false_and]
      rfl
  · rw [if_neg h1, decide_eq_false h1, Bool.false_and]
    rfl
theorem like_eq {s s' : Sq} (hE : ESt 3 I s) (hE' : ESt 32 I s') (hV : VSt s) (hV' : VSt s') (hS : Sh s) (hS' : Sh s') (h : lkB I = true) : s' = s := by
  unfold lkB at h
  simp only [Bool.and_eq_true, decide_eq_true_eq, allB_iff] at h
  obtain ⟨h1, h2, h3, h4⟩ := h
  obtain ⟨d, a, m, b⟩ := s
  obtain ⟨d', a', m', b'⟩ := s'
  have hd : 2 ≤ d ∧ d ≤ 4 := hV.1.1
  have hd' : 2 ≤ d' ∧ d' ≤ 4 := hV'.1.1
  have e1 : d' = d := by
    have k1 : I 33 0 = nn d' := hE'.1.1
    have k2 : I 4 0 = nn d := hE.1.1
    exact (nn_eq (by omega) (by omega)).mp (k1.symm.trans (h4.trans k2))
  have e2 : a' = a := by
    funext j
    by_cases hj : j < 5
    · have k1 : (I 34 j).toInt64 = a' j := hE'.1.2 j hj
      have k2 : (I 5 j).toInt64 = a j := hE.1.2 j hj
      rw [← k1, ← k2, h3 j hj]
    · have k1 : a' j = 0 := hS' j (by omega)
      have k2 : a j = 0 := hS j (by omega)
      rw [k1, k2]
  have e3 : m' = m := by
    have k1 : I 32 1 = m' := hE'.2.1
    have k2 : I 3 1 = m := hE.2.1
    rw [← k1, ← k2, h1]
  have e4 : b' = b := by
    have k1 : I 32 2 = b' := hE'.2.2
    have k2 : I 3 2 = b := hE.2.2
    rw [← k1, ← k2, h2]
  rw [e1, e2, e3, e4]
theorem setLabel_s {e : Nat} (he : e < 6561) (v : Int32) : fX0_setLabel 31 (nn e) v (mk I L) = some ((), mk (up1 I 37 (up1 (I 37) e v)) L) := by
  unfold fX0_setLabel
  have q : ¬ (6561 : Int32) ≤ nn e := fun h => by
    have := (nn_le (m := 6561) (by omega) (by omega)).mp h
    omega
  simp only [kd_31, gI_31, pI_31, gR_31_4, gR_31_5, ln_37, xI_37, yI_37, nn_lt0 e (by omega), if_false, Option.bind_some, if_neg q, nn_lt0 (e) (by omega), nn_nat (show e < 2147483648 by omega), show e < 6561 by omega, not_false_eq_true, and_self, if_true]
theorem labelAt_s {e : Nat} (he : e < 6561) : fX0_labelAt 31 (nn e) (mk I L) = some (I 37 e, mk I L) := by
  unfold fX0_labelAt
  have q : ¬ (6561 : Int32) ≤ nn e := fun h => by
    have := (nn_le (m := 6561) (by omega) (by omega)).mp h
    omega
  simp only [kd_31, gI_31, pI_31, gR_31_4, gR_31_5, ln_37, xI_37, yI_37, nn_lt0 e (by omega), if_false, Option.bind_some, if_neg q, nn_lt0 (e) (by omega), nn_nat (show e < 2147483648 by omega), show e < 6561 by omega, not_false_eq_true, and_self, if_true]
theorem wx_p40 {B i : Nat} (hB : B ≤ 40) : wx B i + 40 = nn (i + 40 - B) := by
  rw [← wx_shift hB (i := i), Int32.sub_add_cancel]
theorem inW_iff {B : Nat} {x : Int32} (hB : B ≤ 40) : inW B x.toInt64 = true ↔ ∃ i, i < 2 * B + 1 ∧ x = wx B i := by
  unfold inW
  rw [decide_eq_true_eq, i64_of32]
  constructor
  · intro h
    refine ⟨(x.toInt + B).toNat, by omega, ?_⟩
    rw [i32_eq, wx_toInt (by omega) (by omega)]
    omega
  · rintro ⟨i, hi, rfl⟩
    rw [wx_toInt (by omega) (by omega)]
    omega
theorem cellAt_in {B : Nat} (hB : B ≤ 40) (hb : I 32 2 = nn B) {i j : Nat} (hi : i < 2 * B + 1) (hj : j < 2 * B + 1) : fX0_cellAt 31 (wx B i) (wx B j) (mk I L) = some (nn (wE B (i * (2 * B + 1) + j)), mk I L) := by
  unfold fX0_cellAt
  have h1 : inW B (wx B i).toInt64 = true := (inW_iff hB).mpr ⟨i, hi, rfl⟩
  have h2 : inW B (wx B j).toInt64 = true := (inW_iff hB).mpr ⟨j, hj, rfl⟩
  simp only [gR_31_4, kd_32, if_true, Option.bind_some, inWindow_32 I L (show B < 100000 by omega) hb, h1, h2, Bool.true_and, one0, if_false]
  rw [wx_p40 hB, Int32.add_assoc, wx_p40 hB, show nn (i + 40 - B) * 81 = nn ((i + 40 - B) * 81) from nn_mul _ 81, nn_add, wE_at hj]
theorem cellAt_out {B : Nat} (hB : B ≤ 40) (hb : I 32 2 = nn B) {x y : Int32} (h : ¬ (inW B x.toInt64 && inW B y.toInt64) = true) : fX0_cellAt 31 x y (mk I L) = some (-1, mk I L) := by
  unfold fX0_cellAt
  simp only [gR_31_4, kd_32, if_true, Option.bind_some, inWindow_32 I L (show B < 100000 by omega) hb, if_neg h]
/-- looking, on the way -/
def LI (s : Sq) (B : Nat) (I1 : Nat → Nat → Int32) (L : Nat → Nat → Int64) (c : Nat) (h : Mem) : Prop := ∃ I', h = mk I' L ∧ Ch [31, 37] [] [] I1 L I' L ∧ (I' 31 0 = nn (fb_ct (Pc s B) c) ∧ I' 31 1 = 0 ∧ I' 31 2 = 1 ∧ I' 31 3 = 0) ∧ ∀ e, e < 6561 → I' 37 e = if Pe s B e = true ∧ wC B e < c then -2 else -1
theorem LI_y {s : Sq} {B : Nat} (hB : B ≤ 40) {I1 I' : Nat → Nat → Int32} {c : Nat} (hc : c < (2 * B + 1) * (2 * B + 1)) (q1 : Ch [31, 37] [] [] I1 L I' L) (q2 : I' 31 0 = nn (fb_ct (Pc s B) c) ∧ I' 31 1 = 0 ∧ I' 31 2 = 1 ∧ I' 31 3 = 0) (q3 : ∀ e, e < 6561 → I' 37 e = if Pe s B e = true ∧ wC B e < c then -2 else -1) (hp : Pc s B c = true) : LI s B I1 L (c + 1) (mk (up1 (up1 I' 37 (up1 (I' 37) (wE B c) (-2))) 31 (up1 (I' 31) 0 (nn (fb_ct (Pc s B) c + 1)))) L) := by
  refine ⟨_, rfl, ⟨fun r hr h0 => ?_, fun j hj => ?_, fun _ _ => rfl⟩, ?_, fun e he => ?_⟩
  · rw [up1_n _ _ (fun e => hr (by simp [e])), up1_n _ _ (fun e => hr (by simp [e]))]
    exact q1.1 r hr h0
  · rw [up1_n _ _ (by decide), up1_n _ _ (by decide)]
    exact q1.2.1 j hj
  · rw [up1_s, up1_s, up1_n _ _ (by decide), up1_n _ _ (by decide), up1_n _ _ (by decide), ct_y hp]
    exact ⟨rfl, q2.2⟩
  · rw [up1_n (up1 I' 37 _) _ (show 37 ≠ 31 by decide), up1_s, up1_e]
    by_cases h : e = wE B c
    · rw [if_pos h, h, if_pos ⟨by rw [Pe_E hB hc]; exact hp, by rw [(wC_E hB hc).2]; exact Nat.lt_succ_self c⟩]
    · rw [if_neg h, q3 e he]
      by_cases h1 : Pe s B e = true
      · have h2 : wW B e = true := by
          unfold Pe at h1
          rw [Bool.and_eq_true] at h1
          exact h1.1
        have h3 : ¬ wC B e = c := fun q => h (by rw [← q, (wE_C hB h2).2])
        by_cases h4 : wC B e < c
        · rw [if_pos ⟨h1, h4⟩, if_pos ⟨h1, by omega⟩]
        · rw [if_neg (fun q => h4 q.2), if_neg (fun q => h4 (by have := q.2; omega))]
      · rw [if_neg (fun q => h1 q.1), if_neg (fun q => h1 q.1)]
theorem LI_n {s : Sq} {B : Nat} (hB : B ≤ 40) {I1 I' : Nat → Nat → Int32} {c : Nat} (hc : c < (2 * B + 1) * (2 * B + 1)) (q1 : Ch [31, 37] [] [] I1 L I' L) (q2 : I' 31 0 = nn (fb_ct (Pc s B) c) ∧ I' 31 1 = 0 ∧ I' 31 2 = 1 ∧ I' 31 3 = 0) (q3 : ∀ e, e < 6561 → I' 37 e = if Pe s B e = true ∧ wC B e < c then -2 else -1) (hp : ¬ Pc s B c = true) : LI s B I1 L (c + 1) (mk I' L) := by
  refine ⟨I', rfl, q1, by rw [ct_n hp]; exact q2, fun e he => ?_⟩
  rw [q3 e he]
  by_cases h1 : Pe s B e = true
  · have h2 : wW B e = true ∧ Pc s B (wC B e) = true := by
      unfold Pe at h1
      rw [Bool.and_eq_true] at h1
      exact h1
    have h3 : ¬ wC B e = c := fun q => hp (q ▸ h2.2)
    by_cases h4 : wC B e < c
    · rw [if_pos ⟨h1, h4⟩, if_pos ⟨h1, by omega⟩]
    · rw [if_neg (fun q => h4 q.2), if_neg (fun q => h4 (by have := q.2; omega))]
  · rw [if_neg (fun q => h1 q.1), if_neg (fun q => h1 q.1)]
def lkI (I : Nat → Nat → Int32) : Nat → Nat → Int32 := up1 (up1 (up1 (up1 (up1 (up1 I 31 (up1 (I 31) 2 1)) 33 (up1 (I 33) 0 (I 4 0))) 34 (fun k => if k < 5 then I 5 k else I 34 k)) 32 (up1 (up1 (I 32) 1 (I 3 1)) 2 (I 3 2))) 31 (up1 (up1 (up1 (up1 (I 31) 2 1) 0 0) 1 0) 3 0)) 37 (fun j => if j < 6561 then -1 else I 37 j)
theorem lkpre (K : Mem → Option (Unit × Mem)) : ((pI 0 (mk I L) 31 2 1).bind fun h5 =>
  (gR 0 h5 31 4).bind fun v6 =>
  if mKd h5 v6 = 1 then (fX1_copy v6 3 h5).bind (fun ((_u, h7) : Unit × Mem) =>
   (pI 0 h7 31 0 0).bind fun h8 =>
   (pI 0 h8 31 1 0).bind fun h9 =>
   (pI 0 h9 31 3 0).bind fun h10 =>
   (gR 0 h10 31 5).bind fun v11 =>
   (fJ7_fill_53178 v11 (-1) h10).bind (fun ((_u, h12) : Unit × Mem) => K h12)) else none) = K (mk (lkI I) L) := by
  unfold lkI
  simp (disch := decide) only [pI_31, gR_31_4, kd_32, if_true, Option.bind_some, ecopy_3_32, gR_31_5, fill_37, up1_s, up1_n, ne_eq, up1_up1]
noncomputable def lkK (h12 : Mem) : Option (Unit × Mem) :=
    (gR 0 h12 31 4).bind fun v13 =>
    (gI 1 h12 v13 2).bind fun v14 =>
    nm (-v14 : Int32) fun v15 =>
    lpF (fun k18 ((v16, h17) : Int32 × Mem) =>
     (gR 0 h17 31 4).bind fun v20 =>
     (gI 1 h17 v20 2).bind fun v21 =>
     if v21 < v16 then
      some ((), h17)
     else
      (gR 0 h17 31 4).bind fun v22 =>
      (gI 1 h17 v22 2).bind fun v23 =>
      nm (-v23 : Int32) fun v24 =>
      lpF (fun k27 ((v25, h26) : Int32 × Mem) =>
       (gR 0 h26 31 4).bind fun v29 =>
       (gI 1 h26 v29 2).bind fun v30 =>
       if v30 < v25 then
        nm (v16 + 1 : Int32) fun v42 =>
        k18 (v42, h26)
       else
        (gR 0 h26 31 4).bind fun v31 =>
        if mKd h26 v31 = 1 then (fX1_isAnswer v31 v16.toInt64 v25.toInt64 h26).bind (fun ((v33, h32) : Int32 × Mem) =>
         if v33 = 0 then
          nm (v25 + 1 : Int32) fun v40 =>
          k27 (v40, h32)
         else
          if mKd h32 31 = 0 then (fX0_cellAt 31 v16 v25 h32).bind (fun ((v35, h34) : Int32 × Mem) =>
           if mKd h34 31 = 0 then (fX0_setLabel 31 v35 (-2) h34).bind (fun ((_u, h36) : Unit × Mem) =>
            (gI 0 h36 31 0).bind fun v37 =>
            (pI 0 h36 31 0 (v37 + 1)).bind fun h38 =>
            nm (v25 + 1 : Int32) fun v39 =>
            k27 (v39, h38)) else none) else none) else none) FU (v24, h17)) FU (v15, h12)
theorem look_31 {s : Sq} (A : RelA I) (hE : ESt 3 I s) (hV : VSt s) (hS : Sh s) {B : Nat} (hB : B ≤ 40) (hb : s.2.2.2 = nn B) : ∃ I', fX0_look 31 3 (mk I L) = some ((), mk I' L) ∧ Ch [31, 32, 33, 34, 37] [] [] I L I' L ∧ I' 31 2 = 1 ∧ ESt 32 I' s ∧ Kept s B I' := by
  have hre : ∃ I', (jn (fun (h2 : Mem) =>
  (pI 0 h2 31 2 1).bind fun h5 =>
  (gR 0 h5 31 4).bind fun v6 =>
  if mKd h5 v6 = 1 then (fX1_copy v6 3 h5).bind (fun ((_u, h7) : Unit × Mem) =>
   (pI 0 h7 31 0 0).bind fun h8 =>
   (pI 0 h8 31 1 0).bind fun h9 =>
   (pI 0 h9 31 3 0).bind fun h10 =>
   (gR 0 h10 31 5).bind fun v11 =>
   (fJ7_fill_53178 v11 (-1) h10).bind (fun ((_u, h12) : Unit × Mem) =>
    (gR 0 h12 31 4).bind fun v13 =>
    (gI 1 h12 v13 2).bind fun v14 =>
    nm (-v14 : Int32) fun v15 =>
    lpF (fun k18 ((v16, h17) : Int32 × Mem) =>
     (gR 0 h17 31 4).bind fun v20 =>
     (gI 1 h17 v20 2).bind fun v21 =>
     if v21 < v16 then
      some ((), h17)
     else
      (gR 0 h17 31 4).bind fun v22 =>
      (gI 1 h17 v22 2).bind fun v23 =>
      nm (-v23 : Int32) fun v24 =>
      lpF (fun k27 ((v25, h26) : Int32 × Mem) =>
       (gR 0 h26 31 4).bind fun v29 =>
       (gI 1 h26 v29 2).bind fun v30 =>
       if v30 < v25 then
        nm (v16 + 1 : Int32) fun v42 =>
        k18 (v42, h26)
       else
        (gR 0 h26 31 4).bind fun v31 =>
        if mKd h26 v31 = 1 then (fX1_isAnswer v31 v16.toInt64 v25.toInt64 h26).bind (fun ((v33, h32) : Int32 × Mem) =>
         if v33 = 0 then
          nm (v25 + 1 : Int32) fun v40 =>
          k27 (v40, h32)
         else
          if mKd h32 31 = 0 then (fX0_cellAt 31 v16 v25 h32).bind (fun ((v35, h34) : Int32 × Mem) =>
           if mKd h34 31 = 0 then (fX0_setLabel 31 v35 (-2) h34).bind (fun ((_u, h36) : Unit × Mem) =>
            (gI 0 h36 31 0).bind fun v37 =>
            (pI 0 h36 31 0 (v37 + 1)).bind fun h38 =>
            nm (v25 + 1 : Int32) fun v39 =>
            k27 (v39, h38)) else none) else none) else none) FU (v24, h17)) FU (v15, h12))) else none)) (fun k3 => k3 (mk I L)) = some ((), mk I' L) ∧ Ch [31, 32, 33, 34, 37] [] [] I L I' L ∧ I' 31 2 = 1 ∧ ESt 32 I' s ∧ Kept s B I' := by
    have hc1 : Ch [31, 32, 33, 34, 37] [] [] I L (lkI I) L := by
      refine ⟨fun r hr h0 => ?_, fun j hj => ?_, fun _ _ => rfl⟩
      · unfold lkI
        rw [up1_n _ _ (fun e => hr (by simp [e])), up1_n _ _ (fun e => hr (by simp [e])), up1_n _ _ (fun e => hr (by simp [e])), up1_n _ _ (fun e => hr (by simp [e])), up1_n _ _ (fun e => hr (by simp [e])), up1_n _ _ (fun e => hr (by simp [e]))]
      · unfold lkI
        rw [up1_n _ _ (by decide), up1_n _ _ (by decide), up1_n _ _ (by decide), up1_n _ _ (by decide), up1_n _ _ (by decide), up1_n _ _ (by decide)]
    have hE1 : ESt 32 (lkI I) s := by
      unfold lkI
      refine ⟨⟨?_, fun j hj => ?_⟩, ?_, ?_⟩
      · simp (disch := decide) only [up1_s, up1_n, ne_eq, Nat.reduceAdd]
        exact hE.1.1
      · simp (disch := decide) only [up1_s, up1_n, ne_eq, Nat.reduceAdd]
        rw [if_pos hj]
        exact hE.1.2 j hj
      · simp (disch := decide) only [up1_s, up1_n, ne_eq]
        exact hE.2.1
      · simp (disch := decide) only [up1_s, up1_n, ne_eq]
        exact hE.2.2
    have h31 : lkI I 31 = up1 (up1 (up1 (up1 (I 31) 2 1) 0 0) 1 0) 3 0 := by
      unfold lkI
      rw [up1_n _ _ (by decide), up1_s]
    have h37 : ∀ e, e < 6561 → lkI I 37 e = -1 := fun e he => by
      unfold lkI
      rw [up1_s, if_pos he]
    have hb1 : lkI I 32 2 = nn B := hE1.2.2.trans hb
    have hpre := lkpre I L lkK
    have h0 : LI s B (lkI I) L 0 (mk (lkI I) L) := by
      refine ⟨lkI I, rfl, Ch.rf _ L, ?_, fun e he => by rw [h37 e he, if_neg (fun q => absurd q.2 (Nat.not_lt_zero _))]⟩
      rw [h31]
      simp (disch := decide) only [up1_s, up1_n, ne_eq]
      exact ⟨rfl, trivial, trivial, trivial⟩
    generalize lkI I = I1 at *
    have hbc : ∀ I', Ch [31, 37] [] [] I1 L I' L → I' 32 2 = nn B := fun I' c => by
      rw [c.1 32 (by decide) (by decide)]
      exact hb1
    have key : ∃ r, lkK (mk I1 L) = some r ∧ LI s B I1 L ((2 * B + 1) * (2 * B + 1)) r.2 := by
      unfold lkK
      simp only [gR_31_4, gI_32, Option.bind_some, hb1, nm, wx_0]
      refine lp_ex (sW0 (LI s B I1 L) B) (fun (r : Unit × Mem) => LI s B I1 L ((2 * B + 1) * (2 * B + 1)) r.2) (2 * B + 1) (wx B 0, mk I1 L) ⟨rfl, by rw [Nat.zero_mul]; exact h0⟩ ?_ ?_ FU (FU_gt (by omega))
      rotate_left
      · rintro ⟨v, h⟩ ⟨hv, I2, hh, q1, q2⟩
        simp only at hv hh
        subst hv hh
        refine ⟨((), mk I2 L), fun k => ?_, I2, rfl, q1, q2⟩
        simp only [gR_31_4, gI_32, Option.bind_some, hbc I2 q1, wx_lt (show B < 100000 by omega) (show 2 * B + 1 < 100000 by omega), if_pos (show 2 * B < 2 * B + 1 by omega)]
      rintro i hi ⟨v, h⟩ ⟨hv, I2, hh, q1, q2⟩
      simp only at hv hh
      subst hv hh
      simp only [gR_31_4, gI_32, Option.bind_some, hbc I2 q1, wx_lt (show B < 100000 by omega) (show i < 100000 by omega), if_neg (show ¬ 2 * B < i by omega), wx_0]
      refine Exists.imp (fun t h => ⟨fun k => h.1 k, h.2⟩) (lpK (g := fun (k : Int32 × Mem → Option (Unit × Mem)) t => k t) (sW (LI s B I1 L) B (i * (2 * B + 1))) (2 * B + 1) ⟨rfl, I2, rfl, q1, q2⟩ ?_ ?_ (FU_gt (by omega)))
      rotate_left
      · rintro ⟨v, h⟩ ⟨hv, I3, hh, r1, r2⟩
        simp only at hv hh
        subst hv hh
        refine ⟨(wx B (i + 1), mk I3 L), fun k _ => ?_, rfl, ?_⟩
        · simp only [gR_31_4, gI_32, Option.bind_some, hbc I3 r1, wx_lt (show B < 100000 by omega) (show 2 * B + 1 < 100000 by omega), if_pos (show 2 * B < 2 * B + 1 by omega), wx_s]
        · show LI s B I1 L ((i + 1) * (2 * B + 1)) (mk I3 L)
          rw [nnW2]
          exact ⟨I3, rfl, r1, r2⟩
      rintro j hj ⟨v, h⟩ ⟨hv, I3, hh, r1, r2, r3⟩
      simp only at hv hh
      subst hv hh
      have hcc : i * (2 * B + 1) + j < (2 * B + 1) * (2 * B + 1) := by
        have := Nat.mul_le_mul_right (2 * B + 1) (show i + 1 ≤ 2 * B + 1 by omega)
        rw [Nat.succ_mul] at this
        omega
      have hv : V s.1 s.2.1 (wx B i).toInt64 (wx B j).toInt64 = Vc s B (i * (2 * B + 1) + j) := by
        unfold Vc
        rw [cX_at hj, cY_at hj]
      have hE3 : ESt 32 I3 s := ⟨hE1.1.ch r1 (by decide) (by decide) (by decide) (by decide), by rw [r1.1 32 (by decide) (by decide)]; exact hE1.2.1, by rw [r1.1 32 (by decide) (by decide)]; exact hE1.2.2⟩
      have hw1 : inW B (wx B i).toInt64 = true := (inW_iff hB).mpr ⟨i, hi, rfl⟩
      have hw2 : inW B (wx B j).toInt64 = true := (inW_iff hB).mpr ⟨j, hj, rfl⟩
      have hans : fX1_isAnswer 32 (wx B i).toInt64 (wx B j).toInt64 (mk I3 L) = some (if Pc s B (i * (2 * B + 1) + j) = true then 1 else 0, mk I3 L) := by
        rw [isAns_32 I3 L hE3 hV (show B < 100000 by omega) hb, hw1, hw2, Bool.true_and, Bool.true_and, hv]
        rfl
      have hcell := cellAt_in I3 L hB (hbc I3 r1) hi hj
      have hset := setLabel_s I3 L (wE_lt hB hcc) (-2)
      by_cases hp : Pc s B (i * (2 * B + 1) + j) = true
      · refine ⟨(wx B (j + 1), mk (up1 (up1 I3 37 (up1 (I3 37) (wE B (i * (2 * B + 1) + j)) (-2))) 31 (up1 (I3 31) 0 (nn (fb_ct (Pc s B) (i * (2 * B + 1) + j) + 1)))) L), fun _ k => ?_, rfl, LI_y L hB hcc r1 r2 r3 hp⟩
        have r20 := r2.1
        generalize fb_ct (Pc s B) (i * (2 * B + 1) + j) = m at *
        simp only [gR_31_4, gI_32, Option.bind_some, hbc I3 r1, wx_lt (show B < 100000 by omega) (show j < 100000 by omega), if_neg (show ¬ 2 * B < j by omega), kd_32, kd_31, if_true, hans, if_pos hp, one0, if_false, hcell, hset, gI_31, pI_31, up1_n I3 _ (show 31 ≠ 37 by decide), r20, nn_s, wx_s]
      · refine ⟨(wx B (j + 1), mk I3 L), fun _ k => ?_, rfl, LI_n L hB hcc r1 r2 r3 hp⟩
        simp only [gR_31_4, gI_32, Option.bind_some, hbc I3 r1, wx_lt (show B < 100000 by omega) (show j < 100000 by omega), if_neg (show ¬ 2 * B < j by omega), kd_32, if_true, hans, if_neg hp, wx_s]
    obtain ⟨⟨_, hm⟩, k1, I2, k2, k3, k4, k5⟩ := key
    simp only at k2
    subst k2
    refine ⟨I2, hpre.trans k1, (hc1.tr k3).mono (by simp) (by simp) (by simp), k4.2.2.1, ⟨hE1.1.ch k3 (by decide) (by decide) (by decide) (by decide), by rw [k3.1 32 (by decide) (by decide)]; exact hE1.2.1, by rw [k3.1 32 (by decide) (by decide)]; exact hE1.2.2⟩, k4.1, Or.inl ⟨k4.2.2.2, k4.2.1, fun e he => ?_⟩⟩
    rw [k5 e he]
    by_cases h1 : Pe s B e = true
    · have h2 : wW B e = true := by
        unfold Pe at h1
        rw [Bool.and_eq_true] at h1
        exact h1.1
      rw [if_pos ⟨h1, (wE_C hB h2).1⟩, if_pos h1]
    · rw [if_neg (fun q => h1 q.1), if_neg h1]
  unfold fX0_look
  simp only [gI_31, Option.bind_some]
  rcases A with h0 | ⟨h1, s', B', hV', hS', hb', hB', hE', hK⟩
  · simp only [h0, if_true]
    exact hre
  · simp only [h1, one0, if_false, gR_31_4, Option.bind_some, kd_32, if_true, isLike_s, ite10]
    by_cases hl : lkB I = true
    · have es := like_eq I hE hE' hV hV' hS hS' hl
      subst es
      have eB : B' = B := (nn_eq (by omega) (by omega)).mp (hb'.symm.trans hb)
      subst eB
      refine ⟨I, ?_, Ch.rf I L, h1, hE', hK⟩
      simp only [jn, if_pos hl]
    · simp only [if_neg hl]
      exact hre
end LK
