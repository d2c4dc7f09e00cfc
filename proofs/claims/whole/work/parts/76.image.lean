def RelAll (I : Nat → Nat → Int32) (L : Nat → Nat → Int64) : Prop := RelN I L ∧ RelM I ∧ RelB I ∧ RelS I ∧ RelE I ∧ RelK I
/-- the places that THE IMAGE speaks of are the same -/
def Same (I : Nat → Nat → Int32) (L : Nat → Nat → Int64) (I' : Nat → Nat → Int32) (L' : Nat → Nat → Int64) : Prop :=
  (I' 3 1 = I 3 1 ∧ I' 3 2 = I 3 2 ∧ I' 4 0 = I 4 0 ∧ I' 8 0 = I 8 0 ∧ I' 10 0 = I 10 0 ∧ I' 12 0 = I 12 0) ∧
  (I' 62 0 = I 62 0 ∧ I' 62 2 = I 62 2 ∧ I' 62 3 = I 62 3 ∧ I' 62 5 = I 62 5 ∧ I' 62 7 = I 62 7 ∧ I' 62 9 = I 62 9) ∧
  ((∀ j, j < 5 → I' 5 j = I 5 j) ∧ (∀ j, j < 12 → I' 9 j = I 9 j) ∧ (∀ j, j < 24 → I' 11 j = I 11 j) ∧ (∀ j, j < 24 → I' 13 j = I 13 j)) ∧
  ((∀ j, j < 5 → L' 63 j = L 63 j) ∧ (∀ j, j < 12 → I' 64 j = I 64 j) ∧ (∀ j, j < 16 → I' 65 j = I 65 j) ∧ (∀ j, j < 16 → I' 66 j = I 66 j))
theorem RelAll_same {I I' : Nat → Nat → Int32} {L L' : Nat → Nat → Int64} (h : Same I L I' L') (R : RelAll I L) : RelAll I' L' := by
  obtain ⟨⟨a1, a2, a3, a4, a5, a6⟩, ⟨b1, b2, b3, b4, b5, b6⟩, ⟨c1, c2, c3, c4⟩, ⟨d1, d2, d3, d4⟩⟩ := h
  obtain ⟨⟨d, a, hC, hM, hV⟩, hMm, hB, ⟨ns, s0, s1, s2, s3⟩, ⟨ne, e0, e1, e2, e3⟩, ⟨nk, k0, k1, k2, k3⟩⟩ := R
  refine ⟨⟨d, a, ⟨a3.trans hC.1, fun j hj => by rw [c1 j hj]; exact hC.2 j hj⟩, ⟨b1.trans hM.1, fun j hj => by rw [d1 j hj]; exact hM.2 j hj⟩, hV⟩, ?_, ?_, ⟨ns, s0, a4.trans s1, b4.trans s2, fun j hj => by rw [d2 j hj, c2 j hj]; exact s3 j hj⟩, ⟨ne, e0, a5.trans e1, b5.trans e2, fun k hk => by rw [d3 _ (by omega), d3 _ (by omega), c3 _ (by omega), c3 _ (by omega)]; exact e3 k hk⟩, ⟨nk, k0, a6.trans k1, b6.trans k2, fun k hk => by rw [d4 _ (by omega), d4 _ (by omega), c4 _ (by omega), c4 _ (by omega)]; exact k3 k hk⟩⟩
  · unfold RelM at *
    rw [b2, a1]
    exact hMm
  · unfold RelB at *
    rw [b3, a2]
    exact hB
/-- what THE IMAGE holds, as if it were there now -/
def vI (I : Nat → Nat → Int32) : Nat → Nat → Int32 := fun r k =>
  if r = 3 then I 15 k else if r = 4 then I 16 k else if r = 5 then I 17 k else if r = 8 then I 20 k else if r = 9 then I 21 k else if r = 10 then I 22 k else if r = 11 then I 23 k else if r = 12 then I 24 k else if r = 13 then I 25 k
  else if r = 62 then I 86 (if k = 0 then 0 else if k = 2 then 1 else if k = 3 then 2 else if k = 5 then 3 else if k = 7 then 4 else 5)
  else if r = 64 then I 86 (6 + k) else if r = 65 then I 86 (18 + k) else if r = 66 then I 86 (34 + k) else I r k
def vL (L : Nat → Nat → Int64) : Nat → Nat → Int64 := fun r k => if r = 63 then L 85 k else L r k
def RelI (I : Nat → Nat → Int32) (L : Nat → Nat → Int64) : Prop := I 62 36 = I 1 2 ∧ (I 1 2 = 0 ∨ (I 1 2 = 1 ∧ RelAll (vI I) (vL L)))
section IM
variable (I : Nat → Nat → Int32) (L : Nat → Nat → Int64)
/-- the class's copy of a state -/
def cpS (I : Nat → Nat → Int32) (E F A B C E' F' A' B' C' : Nat) : Nat → Nat → Int32 :=
  up1 (up1 (up1 (up1 (up1 (up1 (up1 (up1 (up1 I F' (up1 (I F') 0 (I F 0))) (F' + 1) (fun k => if k < 5 then I (F + 1) k else I (F' + 1) k)) E' (up1 (up1 (I E') 1 (I E 1)) 2 (I E 2))) A' (up1 (I A') 0 (I A 0))) (A' + 1) (fun k => if k < 12 then I (A + 1) k else I (A' + 1) k)) B' (up1 (I B') 0 (I B 0))) (B' + 1) (fun k => if k < 24 then I (B + 1) k else I (B' + 1) k)) C' (up1 (I C') 0 (I C 0))) (C' + 1) (fun k => if k < 24 then I (C + 1) k else I (C' + 1) k)
theorem scopy_2_14 : fX6_copy 14 2 (mk I L) = some ((), mk (cpS I 3 4 8 10 12 15 16 20 22 24) L) := by
  unfold fX6_copy cpS
  simp only [kd_14, gI_14, pI_14, gR_14_0, gR_14_1, gR_14_2, gR_14_3, kd_2, gI_2, pI_2, gR_2_0, gR_2_1, gR_2_2, gR_2_3, kd_15, kd_20, kd_22, kd_24, if_true, Option.bind_some, ecopy_3_15, rcopy_8_20, rcopy_10_22, rcopy_12_24, up1_e, Nat.reduceEqDiff, reduceIte]
theorem scopy_14_2 : fX6_copy 2 14 (mk I L) = some ((), mk (cpS I 15 16 20 22 24 3 4 8 10 12) L) := by
  unfold fX6_copy cpS
  simp only [kd_14, gI_14, pI_14, gR_14_0, gR_14_1, gR_14_2, gR_14_3, kd_2, gI_2, pI_2, gR_2_0, gR_2_1, gR_2_2, gR_2_3, kd_3, kd_8, kd_10, kd_12, if_true, Option.bind_some, ecopy_15_3, rcopy_20_8, rcopy_22_10, rcopy_24_12, up1_e, Nat.reduceEqDiff, reduceIte]
/-- the two memories behind image and undo -/
def imI (I : Nat → Nat → Int32) : Nat → Nat → Int32 := up1 (cpS I 3 4 8 10 12 15 16 20 22 24) 1 (up1 (I 1) 2 1)
def imJ (I : Nat → Nat → Int32) : Nat → Nat → Int32 := layI (up1 (imI I) 62 (up1 (I 62) 36 1)) 0
def unI (I : Nat → Nat → Int32) : Nat → Nat → Int32 := cpS I 15 16 20 22 24 3 4 8 10 12
def unJ (I : Nat → Nat → Int32) : Nat → Nat → Int32 := layI (unI I) 1
theorem image_C : fX9_image 1 (mk I L) = some (I 4 0, mk (imI I) L) := by
  unfold fX9_image
  simp only [kd_1, gI_1, pI_1, gR_1_0, gR_1_1, gR_1_3, gR_1_4, gR_1_5, gR_1_6, gR_1_7, gR_1_8, ln_49, xR_49, kd_2, gI_2, pI_2, gR_2_0, gR_2_1, gR_2_2, gR_2_3, kd_3, gI_3, pI_3, gR_3_0, kd_14, gI_4, if_true, Option.bind_some, scopy_2_14]
  unfold imI cpS
  simp only [up1_e, Nat.reduceEqDiff, reduceIte]
theorem undo_C (h : I 1 2 = 1) : fX9_undo 1 (mk I L) = some (I 16 0, mk (unI I) L) := by
  unfold fX9_undo
  simp only [kd_1, gI_1, pI_1, gR_1_0, gR_1_1, gR_1_3, gR_1_4, gR_1_5, gR_1_6, gR_1_7, gR_1_8, ln_49, xR_49, kd_2, gI_2, pI_2, gR_2_0, gR_2_1, gR_2_2, gR_2_3, kd_3, gI_3, pI_3, gR_3_0, kd_2, gI_4, if_true, Option.bind_some, scopy_14_2, h, one0, if_false]
  unfold unI cpS
  simp only [up1_e, Nat.reduceEqDiff, reduceIte]
theorem image_M : fX10_image 62 (mk I L) = some (layI (up1 I 62 (up1 (I 62) 36 1)) 0 62 0, mk (layI (up1 I 62 (up1 (I 62) 36 1)) 0) (layL L 0)) := by
  unfold fX10_image
  simp only [pI_62, kd_62, if_true, Option.bind_some, lays_s, gI_62]
theorem undo_M (h : I 62 36 = 1) : fX10_undo 62 (mk I L) = some (layI I 1 62 0, mk (layI I 1) (layL L 1)) := by
  unfold fX10_undo
  simp only [gI_62, h, one0, if_false, kd_62, if_true, Option.bind_some, lays_s]
theorem j86 (j : Nat) : (6 ≤ 6 + j) = True ∧ (18 ≤ 18 + j) = True ∧ (34 ≤ 34 + j) = True ∧ 6 + j - 6 = j ∧ 18 + j - 18 = j ∧ 34 + j - 34 = j := by
  refine ⟨eq_true (by omega), eq_true (by omega), eq_true (by omega), by omega, by omega, by omega⟩
theorem imSame : Same I L (imJ I) (layL L 0) := by
  refine ⟨⟨?_, ?_, ?_, ?_, ?_, ?_⟩, ⟨?_, ?_, ?_, ?_, ?_, ?_⟩, ⟨fun j hj => ?_, fun j hj => ?_, fun j hj => ?_, fun j hj => ?_⟩, ⟨fun j hj => ?_, fun j hj => ?_, fun j hj => ?_, fun j hj => ?_⟩⟩
  all_goals
    simp (disch := omega) only [imJ, imI, layI, lay6, layL, cpS, lr_e, ls_e, lrS, up1_e, Nat.reduceEqDiff, reduceIte, Nat.reduceAdd, if_pos, if_neg]
theorem imSameV : Same I L (vI (imJ I)) (vL (layL L 0)) := by
  refine ⟨⟨?_, ?_, ?_, ?_, ?_, ?_⟩, ⟨?_, ?_, ?_, ?_, ?_, ?_⟩, ⟨fun j hj => ?_, fun j hj => ?_, fun j hj => ?_, fun j hj => ?_⟩, ⟨fun j hj => ?_, fun j hj => ?_, fun j hj => ?_, fun j hj => ?_⟩⟩
  all_goals
    simp (disch := omega) only [vI, vL, imJ, imI, layI, lay6, layL, cpS, lr_e, ls_e, lrS, up1_e, Nat.reduceEqDiff, reduceIte, Nat.reduceAdd, if_pos, if_neg, j86]
theorem unSame : Same (vI I) (vL L) (unJ I) (layL L 1) := by
  refine ⟨⟨?_, ?_, ?_, ?_, ?_, ?_⟩, ⟨?_, ?_, ?_, ?_, ?_, ?_⟩, ⟨fun j hj => ?_, fun j hj => ?_, fun j hj => ?_, fun j hj => ?_⟩, ⟨fun j hj => ?_, fun j hj => ?_, fun j hj => ?_, fun j hj => ?_⟩⟩
  all_goals
    simp (disch := omega) only [vI, vL, unJ, unI, layI, lay6, layL, cpS, lr_e, ls_e, lrS, up1_e, Nat.reduceEqDiff, reduceIte, Nat.reduceAdd, if_pos, if_neg, one0, j86]
theorem unSameV : Same (vI I) (vL L) (vI (unJ I)) (vL (layL L 1)) := by
  refine ⟨⟨?_, ?_, ?_, ?_, ?_, ?_⟩, ⟨?_, ?_, ?_, ?_, ?_, ?_⟩, ⟨fun j hj => ?_, fun j hj => ?_, fun j hj => ?_, fun j hj => ?_⟩, ⟨fun j hj => ?_, fun j hj => ?_, fun j hj => ?_, fun j hj => ?_⟩⟩
  all_goals
    simp (disch := omega) only [vI, vL, unJ, unI, layI, lay6, layL, cpS, lr_e, ls_e, lrS, up1_e, Nat.reduceEqDiff, reduceIte, Nat.reduceAdd, if_pos, if_neg, one0, j86]
theorem im12 : imJ I 62 36 = 1 ∧ imJ I 1 2 = 1 ∧ imJ I 62 0 = I 62 0 := by
  refine ⟨?_, ?_, ?_⟩
  all_goals simp only [imJ, imI, layI, lay6, cpS, lr_e, ls_e, up1_e, Nat.reduceEqDiff, reduceIte, Nat.reduceAdd]
theorem un12 : unJ I 62 36 = I 62 36 ∧ unJ I 1 2 = I 1 2 ∧ unJ I 62 0 = I 86 0 := by
  refine ⟨?_, ?_, ?_⟩
  all_goals simp only [unJ, unI, layI, lay6, cpS, lr_e, ls_e, up1_e, Nat.reduceEqDiff, reduceIte, Nat.reduceAdd, one0]
theorem im_ch : Ch [1, 15, 16, 17, 20, 21, 22, 23, 24, 25, 86, 64, 65, 66] [0, 2, 3, 5, 7, 9, 36] [85, 63] I L (imJ I) (layL L 0) := by
  refine ⟨fun r hr h0 => ?_, fun k hk => ?_, fun r hr => ?_⟩
  · simp only [List.mem_cons, List.not_mem_nil, or_false, not_or] at hr
    funext k
    simp only [imJ, imI, layI, lay6, cpS, lr_e, ls_e, up1_e, Nat.reduceAdd, hr, h0, if_false]
  · simp only [List.mem_cons, List.not_mem_nil, or_false, not_or] at hk
    simp only [imJ, imI, layI, lay6, cpS, lr_e, ls_e, up1_e, Nat.reduceAdd, Nat.reduceEqDiff, reduceIte, hk]
  · simp only [List.mem_cons, List.not_mem_nil, or_false, not_or] at hr
    funext k
    simp only [layL, up1_e, hr, if_false]
theorem un_ch : Ch [3, 4, 5, 8, 9, 10, 11, 12, 13, 86, 64, 65, 66] [0, 2, 3, 5, 7, 9] [85, 63] I L (unJ I) (layL L 1) := by
  refine ⟨fun r hr h0 => ?_, fun k hk => ?_, fun r hr => ?_⟩
  · simp only [List.mem_cons, List.not_mem_nil, or_false, not_or] at hr
    funext k
    simp only [unJ, unI, layI, lay6, cpS, lr_e, ls_e, up1_e, Nat.reduceAdd, hr, h0, if_false]
  · simp only [List.mem_cons, List.not_mem_nil, or_false, not_or] at hk
    simp only [unJ, unI, layI, lay6, cpS, lr_e, ls_e, up1_e, Nat.reduceAdd, Nat.reduceEqDiff, reduceIte, hk]
  · simp only [List.mem_cons, List.not_mem_nil, or_false, not_or] at hr
    funext k
    simp only [layL, up1_e, hr, if_false]
theorem pair_image (R : RelAll I L) : Both (fX9_image 1) (fX10_image 62) I L (fun I' L' => RelAll I' L' ∧ RelI I' L' ∧ Ch [1, 15, 16, 17, 20, 21, 22, 23, 24, 25, 86, 64, 65, 66] [0, 2, 3, 5, 7, 9, 36] [85, 63] I L I' L') := by
  obtain ⟨i1, i2, i3⟩ := im12 I
  obtain ⟨d, a, hC, hM, hV⟩ := id R.1
  have h62 : imI I 62 = I 62 := by
    funext k
    simp only [imI, cpS, up1_e, Nat.reduceEqDiff, reduceIte, Nat.reduceAdd]
  have hM' := image_M (imI I) L
  rw [h62] at hM'
  refine ⟨I 4 0, imI I, L, imJ I, layL L 0, image_C I L, ?_, RelAll_same (imSame I L) R, ⟨i1.trans i2.symm, Or.inr ⟨i2, RelAll_same (imSameV I L) R⟩⟩, im_ch I L⟩
  show _ = some (I 4 0, mk (layI (up1 (imI I) 62 (up1 (I 62) 36 1)) 0) (layL L 0))
  rw [hM', show layI (up1 (imI I) 62 (up1 (I 62) 36 1)) 0 62 0 = I 4 0 from by rw [show layI (up1 (imI I) 62 (up1 (I 62) 36 1)) 0 = imJ I from rfl, i3, hM.1, hC.1]]
theorem pair_undo (R : RelAll I L) (RI : RelI I L) : Both (fX9_undo 1) (fX10_undo 62) I L (fun I' L' => RelAll I' L' ∧ RelI I' L' ∧ Ch [3, 4, 5, 8, 9, 10, 11, 12, 13, 86, 64, 65, 66] [0, 2, 3, 5, 7, 9] [85, 63] I L I' L') := by
  obtain ⟨h0, h1 | ⟨h1, RV⟩⟩ := id RI
  · refine ⟨-3, I, L, I, L, ?_, ?_, R, RI, Ch.rf I L⟩
    · unfold fX9_undo
      simp only [gI_1, Option.bind_some, h1, if_true]
    · unfold fX10_undo
      simp only [gI_62, Option.bind_some, h0, h1, if_true]
  · obtain ⟨i1, i2, i3⟩ := un12 I
    obtain ⟨d, a, hC, hM, hV⟩ := id RV.1
    have e1 : I 16 0 = nn d := hC.1
    have e2 : I 86 0 = nn d := hM.1
    have h36 : unI I 62 36 = 1 := by
      rw [show unI I 62 36 = I 62 36 from by simp only [unI, cpS, up1_e, Nat.reduceEqDiff, reduceIte, Nat.reduceAdd], h0, h1]
    refine ⟨I 16 0, unI I, L, unJ I, layL L 1, undo_C I L h1, ?_, RelAll_same (unSame I L) RV, ⟨by rw [i1, i2, h0], Or.inr ⟨i2.trans h1, RelAll_same (unSameV I L) RV⟩⟩, un_ch I L⟩
    rw [undo_M (unI I) L h36]
    show some (unJ I 62 0, mk (unJ I) (layL L 1)) = _
    rw [i3, e1, e2]
end IM
