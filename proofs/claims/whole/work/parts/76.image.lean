def RelAll (I : Nat → Nat → Int32) (L : Nat → Nat → Int64) : Prop := RelN I L ∧ RelM I ∧ RelB I ∧ RelS I ∧ RelE I ∧ RelK I
/-- the places that THE IMAGE speaks of are the same -/
def Same (I : Nat → Nat → Int32) (L : Nat → Nat → Int64) (I' : Nat → Nat → Int32) (L' : Nat → Nat → Int64) : Prop :=
  (I' 3 1 = I 3 1 ∧ I' 3 2 = I 3 2 ∧ I' 4 0 = I 4 0 ∧ I' 8 0 = I 8 0 ∧ I' 10 0 = I 10 0 ∧ I' 12 0 = I 12 0) ∧
  (I' 62 0 = I 62 0 ∧ I' 62 2 = I 62 2 ∧ I' 62 3 = I 62 3 ∧ I' 62 5 = I 62 5 ∧ I' 62 7 = I 62 7 ∧ I' 62 9 = I 62 9) ∧
  ((∀ j, j < 5 → I' 5 j = I 5 j) ∧ (∀ j, j < 12 → I' 9 j = I 9 j) ∧ (∀ j, j < 24 → I' 11 j = I 11 j) ∧ (∀ j, j < 24 → I' 13 j = I 13 j)) ∧
  ((∀ j, j < 5 → L' 63 j = L 63 j) ∧ (∀ j, j < 12 → I' 64 j = I 64 j) ∧ (∀ j, j < 16 → I' 65 j = I 65 j) ∧ (∀ j, j < 16 → I' 66 j = I 66 j))
theorem RelAll_same {I I' : Nat → Nat → Int32} {L L' : Nat → Nat → Int64} (h : Same I L I' L') (R : RelAll I L) : RelAll I' L' := by
  obtain ⟨⟨a1, a2, a3, a4, a5, a6⟩, ⟨b1, b2, b3, b4, b5, b6⟩, ⟨c1, c2, c3, c4⟩, ⟨d1, d2, d3, d4⟩⟩ := h
  obtain ⟨⟨d, a, hC, hM, hV⟩, hMm, hB, ⟨ns, s0, s1, s2, s3⟩, ⟨ne, e0, e1, e2, e3⟩, ⟨nk, k0, k1, k2, k3⟩⟩ := R
  refine ⟨⟨d, a, ⟨a3.trans hC.1, fun j hj => by rw [c1 j hj]; exact hC.2 j hj⟩, ⟨b1.trans hM.1, fun j hj => by rw [d1 j hj]; exact hM.2 j hj⟩, hV⟩, ?_, ?_, ⟨ns, s0, a4.trans s1, b4.trans s2, fun j hj => by rw [d2 j hj, c2 j hj]; exact s3 j hj⟩, ⟨ne, e0, a5.trans e1, b5.trans e2, fun k hk => by rw [d3 _ (by omega), d3 _ (by omega), c3 _ (by omega), c3 _ (by omega)]; exact e3 k hk⟩, ⟨nk, k0, a6.trans k1, b6.trans k2, fun k hk => by rw [d4 _ (by omega), d4 _ (by omega), c4 _ (by omega), c4 _ (by omega)]; exact k3 k hk⟩⟩
  · unfold RelM at *
    rw [b2, a1]
    exact hMm
  · unfold RelB at *
    rw [b3, a2]
    exact hB
/-- what THE IMAGE holds, as if it were there now -/
def vI (I : Nat → Nat → Int32) : Nat → Nat → Int32 := fun r k =>
  if r = 3 then I 15 k else if r = 4 then I 16 k else if r = 5 then I 17 k else if r = 8 then I 20 k else if r = 9 then I 21 k else if r = 10 then I 22 k else if r = 11 then I 23 k else if r = 12 then I 24 k else if r = 13 then I 25 k
  else if r = 62 then I 86 (if k = 0 then 0 else if k = 2 then 1 else if k = 3 then 2 else if k = 5 then 3 else if k = 7 then 4 else 5)
  else if r = 64 then I 86 (6 + k) else if r = 65 then I 86 (18 + k) else if r = 66 then I 86 (34 + k) else I r k
def vL (L : Nat → Nat → Int64) : Nat → Nat → Int64 := fun r k => if r = 63 then L 85 k else L r k
theorem vI_3 (I : Nat → Nat → Int32) (k : Nat) : vI I 3 k = I 15 k := by
  unfold vI
  simp only [Nat.reduceEqDiff, ↓reduceIte]
theorem vI_4 (I : Nat → Nat → Int32) (k : Nat) : vI I 4 k = I 16 k := by
  unfold vI
  simp only [Nat.reduceEqDiff, ↓reduceIte]
theorem vI_5 (I : Nat → Nat → Int32) (k : Nat) : vI I 5 k = I 17 k := by
  unfold vI
  simp only [Nat.reduceEqDiff, ↓reduceIte]
theorem vI_8 (I : Nat → Nat → Int32) (k : Nat) : vI I 8 k = I 20 k := by
  unfold vI
  simp only [Nat.reduceEqDiff, ↓reduceIte]
theorem vI_9 (I : Nat → Nat → Int32) (k : Nat) : vI I 9 k = I 21 k := by
  unfold vI
  simp only [Nat.reduceEqDiff, ↓reduceIte]
theorem vI_10 (I : Nat → Nat → Int32) (k : Nat) : vI I 10 k = I 22 k := by
  unfold vI
  simp only [Nat.reduceEqDiff, ↓reduceIte]
theorem vI_11 (I : Nat → Nat → Int32) (k : Nat) : vI I 11 k = I 23 k := by
  unfold vI
  simp only [Nat.reduceEqDiff, ↓reduceIte]
theorem vI_12 (I : Nat → Nat → Int32) (k : Nat) : vI I 12 k = I 24 k := by
  unfold vI
  simp only [Nat.reduceEqDiff, ↓reduceIte]
theorem vI_13 (I : Nat → Nat → Int32) (k : Nat) : vI I 13 k = I 25 k := by
  unfold vI
  simp only [Nat.reduceEqDiff, ↓reduceIte]
theorem vI_62_0 (I : Nat → Nat → Int32) : vI I 62 0 = I 86 0 := by
  unfold vI
  simp only [Nat.reduceEqDiff, ↓reduceIte]
theorem vI_62_2 (I : Nat → Nat → Int32) : vI I 62 2 = I 86 1 := by
  unfold vI
  simp only [Nat.reduceEqDiff, ↓reduceIte]
theorem vI_62_3 (I : Nat → Nat → Int32) : vI I 62 3 = I 86 2 := by
  unfold vI
  simp only [Nat.reduceEqDiff, ↓reduceIte]
theorem vI_62_5 (I : Nat → Nat → Int32) : vI I 62 5 = I 86 3 := by
  unfold vI
  simp only [Nat.reduceEqDiff, ↓reduceIte]
theorem vI_62_7 (I : Nat → Nat → Int32) : vI I 62 7 = I 86 4 := by
  unfold vI
  simp only [Nat.reduceEqDiff, ↓reduceIte]
theorem vI_62_9 (I : Nat → Nat → Int32) : vI I 62 9 = I 86 5 := by
  unfold vI
  simp only [Nat.reduceEqDiff, ↓reduceIte]
theorem vI_64 (I : Nat → Nat → Int32) (k : Nat) : vI I 64 k = I 86 (6 + k) := by
  unfold vI
  simp only [Nat.reduceEqDiff, ↓reduceIte]
theorem vI_65 (I : Nat → Nat → Int32) (k : Nat) : vI I 65 k = I 86 (18 + k) := by
  unfold vI
  simp only [Nat.reduceEqDiff, ↓reduceIte]
theorem vI_66 (I : Nat → Nat → Int32) (k : Nat) : vI I 66 k = I 86 (34 + k) := by
  unfold vI
  simp only [Nat.reduceEqDiff, ↓reduceIte]
theorem vL_63 (L : Nat → Nat → Int64) (k : Nat) : vL L 63 k = L 85 k := by
  unfold vL
  simp only [↓reduceIte]
def RelI (I : Nat → Nat → Int32) (L : Nat → Nat → Int64) : Prop := I 62 36 = I 1 2 ∧ (I 1 2 = 0 ∨ (I 1 2 = 1 ∧ RelAll (vI I) (vL L)))
section IM
variable (I : Nat → Nat → Int32) (L : Nat → Nat → Int64)
/-- the class's copy of a state -/
def cpS (I : Nat → Nat → Int32) (E F A B C E' F' A' B' C' : Nat) : Nat → Nat → Int32 :=
  up1 (up1 (up1 (up1 (up1 (up1 (up1 (up1 (up1 I F' (up1 (I F') 0 (I F 0))) (F' + 1) (fun k => if k < 5 then I (F + 1) k else I (F' + 1) k)) E' (up1 (up1 (I E') 1 (I E 1)) 2 (I E 2))) A' (up1 (I A') 0 (I A 0))) (A' + 1) (fun k => if k < 12 then I (A + 1) k else I (A' + 1) k)) B' (up1 (I B') 0 (I B 0))) (B' + 1) (fun k => if k < 24 then I (B + 1) k else I (B' + 1) k)) C' (up1 (I C') 0 (I C 0))) (C' + 1) (fun k => if k < 24 then I (C + 1) k else I (C' + 1) k)
theorem scopy_2_14 : fX6_copy 14 2 (mk I L) = some ((), mk (cpS I 3 4 8 10 12 15 16 20 22 24) L) := by
  unfold fX6_copy cpS
  simp (disch := decide) only [kd_14, gI_14, pI_14, gR_14_0, gR_14_1, gR_14_2, gR_14_3, kd_2, gI_2, pI_2, gR_2_0, gR_2_1, gR_2_2, gR_2_3, kd_15, kd_20, kd_22, kd_24, if_true, Option.bind_some, ecopy_3_15, rcopy_8_20, rcopy_10_22, rcopy_12_24, up1_s, up1_n, ne_eq]
theorem scopy_14_2 : fX6_copy 2 14 (mk I L) = some ((), mk (cpS I 15 16 20 22 24 3 4 8 10 12) L) := by
  unfold fX6_copy cpS
  simp (disch := decide) only [kd_14, gI_14, pI_14, gR_14_0, gR_14_1, gR_14_2, gR_14_3, kd_2, gI_2, pI_2, gR_2_0, gR_2_1, gR_2_2, gR_2_3, kd_3, kd_8, kd_10, kd_12, if_true, Option.bind_some, ecopy_15_3, rcopy_20_8, rcopy_22_10, rcopy_24_12, up1_s, up1_n, ne_eq]
theorem cp_3 : (cpS I 3 4 8 10 12 15 16 20 22 24 15 1 = I 3 1 ∧ cpS I 3 4 8 10 12 15 16 20 22 24 15 2 = I 3 2 ∧ cpS I 3 4 8 10 12 15 16 20 22 24 16 0 = I 4 0 ∧ cpS I 3 4 8 10 12 15 16 20 22 24 20 0 = I 8 0 ∧ cpS I 3 4 8 10 12 15 16 20 22 24 22 0 = I 10 0 ∧ cpS I 3 4 8 10 12 15 16 20 22 24 24 0 = I 12 0) ∧ (∀ j, j < 5 → cpS I 3 4 8 10 12 15 16 20 22 24 17 j = I 5 j) ∧ (∀ j, j < 12 → cpS I 3 4 8 10 12 15 16 20 22 24 21 j = I 9 j) ∧ (∀ j, j < 24 → cpS I 3 4 8 10 12 15 16 20 22 24 23 j = I 11 j) ∧ (∀ j, j < 24 → cpS I 3 4 8 10 12 15 16 20 22 24 25 j = I 13 j) := by
  unfold cpS
  refine ⟨⟨?_, ?_, ?_, ?_, ?_, ?_⟩, fun j hj => ?_, fun j hj => ?_, fun j hj => ?_, fun j hj => ?_⟩
  · simp (disch := decide) only [up1_s, up1_n, ne_eq]
  · simp (disch := decide) only [up1_s, up1_n, ne_eq]
  · simp (disch := decide) only [up1_s, up1_n, ne_eq]
  · simp (disch := decide) only [up1_s, up1_n, ne_eq]
  · simp (disch := decide) only [up1_s, up1_n, ne_eq]
  · simp (disch := decide) only [up1_s, up1_n, ne_eq]
  · simp (disch := decide) only [up1_s, up1_n, ne_eq, Nat.reduceAdd]
    exact if_pos hj
  · simp (disch := decide) only [up1_s, up1_n, ne_eq, Nat.reduceAdd]
    exact if_pos hj
  · simp (disch := decide) only [up1_s, up1_n, ne_eq, Nat.reduceAdd]
    exact if_pos hj
  · simp (disch := decide) only [up1_s, up1_n, ne_eq, Nat.reduceAdd]
    exact if_pos hj
theorem cpo_3 {r : Nat} (h : r ∉ [15, 16, 17, 20, 21, 22, 23, 24, 25]) : cpS I 3 4 8 10 12 15 16 20 22 24 r = I r := by
  simp only [List.mem_cons, List.not_mem_nil, or_false, not_or] at h
  obtain ⟨h1, h2, h3, h4, h5, h6, h7, h8, h9⟩ := h
  unfold cpS
  rw [up1_n _ _ h9, up1_n _ _ h8, up1_n _ _ h7, up1_n _ _ h6, up1_n _ _ h5, up1_n _ _ h4, up1_n _ _ h1, up1_n _ _ h3, up1_n _ _ h2]
theorem cp_15 : (cpS I 15 16 20 22 24 3 4 8 10 12 3 1 = I 15 1 ∧ cpS I 15 16 20 22 24 3 4 8 10 12 3 2 = I 15 2 ∧ cpS I 15 16 20 22 24 3 4 8 10 12 4 0 = I 16 0 ∧ cpS I 15 16 20 22 24 3 4 8 10 12 8 0 = I 20 0 ∧ cpS I 15 16 20 22 24 3 4 8 10 12 10 0 = I 22 0 ∧ cpS I 15 16 20 22 24 3 4 8 10 12 12 0 = I 24 0) ∧ (∀ j, j < 5 → cpS I 15 16 20 22 24 3 4 8 10 12 5 j = I 17 j) ∧ (∀ j, j < 12 → cpS I 15 16 20 22 24 3 4 8 10 12 9 j = I 21 j) ∧ (∀ j, j < 24 → cpS I 15 16 20 22 24 3 4 8 10 12 11 j = I 23 j) ∧ (∀ j, j < 24 → cpS I 15 16 20 22 24 3 4 8 10 12 13 j = I 25 j) := by
  unfold cpS
  refine ⟨⟨?_, ?_, ?_, ?_, ?_, ?_⟩, fun j hj => ?_, fun j hj => ?_, fun j hj => ?_, fun j hj => ?_⟩
  · simp (disch := decide) only [up1_s, up1_n, ne_eq]
  · simp (disch := decide) only [up1_s, up1_n, ne_eq]
  · simp (disch := decide) only [up1_s, up1_n, ne_eq]
  · simp (disch := decide) only [up1_s, up1_n, ne_eq]
  · simp (disch := decide) only [up1_s, up1_n, ne_eq]
  · simp (disch := decide) only [up1_s, up1_n, ne_eq]
  · simp (disch := decide) only [up1_s, up1_n, ne_eq, Nat.reduceAdd]
    exact if_pos hj
  · simp (disch := decide) only [up1_s, up1_n, ne_eq, Nat.reduceAdd]
    exact if_pos hj
  · simp (disch := decide) only [up1_s, up1_n, ne_eq, Nat.reduceAdd]
    exact if_pos hj
  · simp (disch := decide) only [up1_s, up1_n, ne_eq, Nat.reduceAdd]
    exact if_pos hj
theorem cpo_15 {r : Nat} (h : r ∉ [3, 4, 5, 8, 9, 10, 11, 12, 13]) : cpS I 15 16 20 22 24 3 4 8 10 12 r = I r := by
  simp only [List.mem_cons, List.not_mem_nil, or_false, not_or] at h
  obtain ⟨h1, h2, h3, h4, h5, h6, h7, h8, h9⟩ := h
  unfold cpS
  rw [up1_n _ _ h9, up1_n _ _ h8, up1_n _ _ h7, up1_n _ _ h6, up1_n _ _ h5, up1_n _ _ h4, up1_n _ _ h1, up1_n _ _ h3, up1_n _ _ h2]
/-- the two memories behind image and undo -/
def imI (I : Nat → Nat → Int32) : Nat → Nat → Int32 := up1 (cpS I 3 4 8 10 12 15 16 20 22 24) 1 (up1 (I 1) 2 1)
def imJ (I : Nat → Nat → Int32) : Nat → Nat → Int32 := layI (up1 (imI I) 62 (up1 (I 62) 36 1)) 0
def unI (I : Nat → Nat → Int32) : Nat → Nat → Int32 := cpS I 15 16 20 22 24 3 4 8 10 12
def unJ (I : Nat → Nat → Int32) : Nat → Nat → Int32 := layI (unI I) 1
theorem image_C : fX9_image 1 (mk I L) = some (I 4 0, mk (imI I) L) := by
  unfold fX9_image
  simp only [kd_1, gI_1, pI_1, gR_1_0, gR_1_1, gR_1_3, gR_1_4, gR_1_5, gR_1_6, gR_1_7, gR_1_8, ln_49, xR_49, kd_2, gI_2, pI_2, gR_2_0, gR_2_1, gR_2_2, gR_2_3, kd_3, gI_3, pI_3, gR_3_0, kd_14, gI_4, if_true, Option.bind_some, scopy_2_14]
  rw [up1_n _ _ (show 4 ≠ 1 by decide), cpo_3 I (by decide), cpo_3 I (by decide)]
  rfl
theorem undo_C (h : I 1 2 = 1) : fX9_undo 1 (mk I L) = some (I 16 0, mk (unI I) L) := by
  unfold fX9_undo
  simp only [kd_1, gI_1, pI_1, gR_1_0, gR_1_1, gR_1_3, gR_1_4, gR_1_5, gR_1_6, gR_1_7, gR_1_8, ln_49, xR_49, kd_2, gI_2, pI_2, gR_2_0, gR_2_1, gR_2_2, gR_2_3, kd_3, gI_3, pI_3, gR_3_0, kd_2, gI_4, if_true, Option.bind_some, scopy_14_2, h, one0, if_false]
  rw [(cp_15 I).1.2.2.1]
  rfl
theorem image_M : fX10_image 62 (mk I L) = some (layI (up1 I 62 (up1 (I 62) 36 1)) 0 62 0, mk (layI (up1 I 62 (up1 (I 62) 36 1)) 0) (layL L 0)) := by
  unfold fX10_image
  simp only [pI_62, kd_62, if_true, Option.bind_some, lays_s, gI_62]
theorem undo_M (h : I 62 36 = 1) : fX10_undo 62 (mk I L) = some (layI I 1 62 0, mk (layI I 1) (layL L 1)) := by
  unfold fX10_undo
  simp only [gI_62, h, one0, if_false, kd_62, if_true, Option.bind_some, lays_s]
theorem ls_62s (I : Nat → Nat → Int32) (k f : Nat) (a : Int32) : ls I k f a 62 f = if a = 0 then I 62 f else I 86 k := by
  unfold ls
  rw [up1_s, up1_s]
theorem ls_62n (I : Nat → Nat → Int32) (k f : Nat) (a : Int32) {q : Nat} (h : q ≠ f) : ls I k f a 62 q = I 62 q := by
  unfold ls
  rw [up1_s, up1_n _ _ h]
theorem ls_86s (I : Nat → Nat → Int32) (k f : Nat) (a : Int32) : ls I k f a 86 k = if a = 0 then I 62 f else I 86 k := by
  unfold ls
  rw [up1_n _ _ (by decide), up1_s, up1_s]
theorem ls_86n (I : Nat → Nat → Int32) (k f : Nat) (a : Int32) {q : Nat} (h : q ≠ k) : ls I k f a 86 q = I 86 q := by
  unfold ls
  rw [up1_n _ _ (by decide), up1_s, up1_n _ _ h]
theorem ls_o (I : Nat → Nat → Int32) (k f : Nat) (a : Int32) {r : Nat} (h : r ≠ 62) (h2 : r ≠ 86) : ls I k f a r = I r := by
  unfold ls
  rw [up1_n _ _ h, up1_n _ _ h2]
theorem lr_s (I : Nat → Nat → Int32) (R len fr : Nat) (a : Int32) {j : Nat} (h : j < len) : lr I R len fr a R j = lrS I R fr a j := by
  unfold lr
  rw [up1_s, if_pos h]
theorem lr_i (I : Nat → Nat → Int32) (R len fr : Nat) (a : Int32) {j : Nat} (h : j < len) (h2 : 86 ≠ R) : lr I R len fr a 86 (fr + j) = lrS I R fr a j := by
  unfold lr
  rw [up1_n _ _ h2, up1_s, if_pos (by omega), Nat.add_sub_cancel_left]
theorem lr_x (I : Nat → Nat → Int32) (R len fr : Nat) (a : Int32) {k : Nat} (h : k < fr ∨ fr + len ≤ k) (h2 : 86 ≠ R) : lr I R len fr a 86 k = I 86 k := by
  unfold lr
  rw [up1_n _ _ h2, up1_s, if_neg (by omega)]
theorem lr_o (I : Nat → Nat → Int32) (R len fr : Nat) (a : Int32) {r : Nat} (h : r ≠ R) (h2 : r ≠ 86) : lr I R len fr a r = I r := by
  unfold lr
  rw [up1_n _ _ h, up1_n _ _ h2]
theorem lay6_o (a : Int32) {r : Nat} (h : r ≠ 62) (h2 : r ≠ 86) : lay6 I a r = I r := by
  unfold lay6
  rw [ls_o _ _ _ _ h h2, ls_o _ _ _ _ h h2, ls_o _ _ _ _ h h2, ls_o _ _ _ _ h h2, ls_o _ _ _ _ h h2, ls_o _ _ _ _ h h2]
theorem lay6_62 (a : Int32) {q : Nat} (h0 : q ≠ 0) (h1 : q ≠ 2) (h2 : q ≠ 3) (h3 : q ≠ 5) (h4 : q ≠ 7) (h5 : q ≠ 9) : lay6 I a 62 q = I 62 q := by
  unfold lay6
  rw [ls_62n _ _ _ _ h5, ls_62n _ _ _ _ h4, ls_62n _ _ _ _ h3, ls_62n _ _ _ _ h2, ls_62n _ _ _ _ h1, ls_62n _ _ _ _ h0]
theorem lay6_86 (a : Int32) {q : Nat} (h : 6 ≤ q) : lay6 I a 86 q = I 86 q := by
  unfold lay6
  rw [ls_86n _ _ _ _ (by omega), ls_86n _ _ _ _ (by omega), ls_86n _ _ _ _ (by omega), ls_86n _ _ _ _ (by omega), ls_86n _ _ _ _ (by omega), ls_86n _ _ _ _ (by omega)]
theorem layI_o (a : Int32) {r : Nat} (h : r ≠ 62) (h1 : r ≠ 86) (h2 : r ≠ 64) (h3 : r ≠ 65) (h4 : r ≠ 66) : layI I a r = I r := by
  unfold layI
  rw [lr_o _ _ _ _ _ h4 h1, lr_o _ _ _ _ _ h3 h1, lr_o _ _ _ _ _ h2 h1, lay6_o I a h h1]
theorem layI_62 (a : Int32) : layI I a 62 = lay6 I a 62 := by
  unfold layI
  rw [lr_o _ _ _ _ _ (by decide) (by decide), lr_o _ _ _ _ _ (by decide) (by decide), lr_o _ _ _ _ _ (by decide) (by decide)]
theorem layI_86 (a : Int32) {k : Nat} (h : k < 6) : layI I a 86 k = lay6 I a 86 k := by
  unfold layI
  rw [lr_x _ _ _ _ _ (by omega) (by decide), lr_x _ _ _ _ _ (by omega) (by decide), lr_x _ _ _ _ _ (by omega) (by decide)]
theorem layI_64 (a : Int32) {j : Nat} (h : j < 12) : layI I a 64 j = lrS I 64 6 a j ∧ layI I a 86 (6 + j) = lrS I 64 6 a j := by
  have e : lrS (lay6 I a) 64 6 a j = lrS I 64 6 a j := by
    unfold lrS
    rw [lay6_o I a (by decide) (by decide), lay6_86 I a (by omega)]
  unfold layI
  rw [lr_o _ _ _ _ _ (by decide) (by decide), lr_o _ _ _ _ _ (by decide) (by decide), lr_s _ _ _ _ _ h, lr_x _ _ _ _ _ (by omega) (by decide), lr_x _ _ _ _ _ (by omega) (by decide), lr_i _ _ _ _ _ h (by decide)]
  exact ⟨e, e⟩
theorem layI_65 (a : Int32) {j : Nat} (h : j < 16) : layI I a 65 j = lrS I 65 18 a j ∧ layI I a 86 (18 + j) = lrS I 65 18 a j := by
  have e : lrS (lr (lay6 I a) 64 12 6 a) 65 18 a j = lrS I 65 18 a j := by
    unfold lrS
    rw [lr_o _ _ _ _ _ (by decide) (by decide), lr_x _ _ _ _ _ (by omega) (by decide), lay6_o I a (by decide) (by decide), lay6_86 I a (by omega)]
  unfold layI
  rw [lr_o _ _ _ _ _ (by decide) (by decide), lr_s _ _ _ _ _ h, lr_x _ _ _ _ _ (by omega) (by decide), lr_i _ _ _ _ _ h (by decide)]
  exact ⟨e, e⟩
theorem layI_66 (a : Int32) {j : Nat} (h : j < 16) : layI I a 66 j = lrS I 66 34 a j ∧ layI I a 86 (34 + j) = lrS I 66 34 a j := by
  have e : lrS (lr (lr (lay6 I a) 64 12 6 a) 65 16 18 a) 66 34 a j = lrS I 66 34 a j := by
    unfold lrS
    rw [lr_o _ _ _ _ _ (by decide) (by decide), lr_x _ _ _ _ _ (by omega) (by decide), lr_o _ _ _ _ _ (by decide) (by decide), lr_x _ _ _ _ _ (by omega) (by decide), lay6_o I a (by decide) (by decide), lay6_86 I a (by omega)]
  unfold layI
  rw [lr_s _ _ _ _ _ h, lr_i _ _ _ _ _ h (by decide)]
  exact ⟨e, e⟩
theorem lay6_f0 (a : Int32) : lay6 I a 62 0 = (if a = 0 then I 62 0 else I 86 0) ∧ lay6 I a 86 0 = (if a = 0 then I 62 0 else I 86 0) := by
  unfold lay6
  constructor
  · simp (disch := decide) only [ls_62s, ls_62n, ls_86s, ls_86n]
  · simp (disch := decide) only [ls_62s, ls_62n, ls_86s, ls_86n]
theorem lay6_f2 (a : Int32) : lay6 I a 62 2 = (if a = 0 then I 62 2 else I 86 1) ∧ lay6 I a 86 1 = (if a = 0 then I 62 2 else I 86 1) := by
  unfold lay6
  constructor
  · simp (disch := decide) only [ls_62s, ls_62n, ls_86s, ls_86n]
  · simp (disch := decide) only [ls_62s, ls_62n, ls_86s, ls_86n]
theorem lay6_f3 (a : Int32) : lay6 I a 62 3 = (if a = 0 then I 62 3 else I 86 2) ∧ lay6 I a 86 2 = (if a = 0 then I 62 3 else I 86 2) := by
  unfold lay6
  constructor
  · simp (disch := decide) only [ls_62s, ls_62n, ls_86s, ls_86n]
  · simp (disch := decide) only [ls_62s, ls_62n, ls_86s, ls_86n]
theorem lay6_f5 (a : Int32) : lay6 I a 62 5 = (if a = 0 then I 62 5 else I 86 3) ∧ lay6 I a 86 3 = (if a = 0 then I 62 5 else I 86 3) := by
  unfold lay6
  constructor
  · simp (disch := decide) only [ls_62s, ls_62n, ls_86s, ls_86n]
  · simp (disch := decide) only [ls_62s, ls_62n, ls_86s, ls_86n]
theorem lay6_f7 (a : Int32) : lay6 I a 62 7 = (if a = 0 then I 62 7 else I 86 4) ∧ lay6 I a 86 4 = (if a = 0 then I 62 7 else I 86 4) := by
  unfold lay6
  constructor
  · simp (disch := decide) only [ls_62s, ls_62n, ls_86s, ls_86n]
  · simp (disch := decide) only [ls_62s, ls_62n, ls_86s, ls_86n]
theorem lay6_f9 (a : Int32) : lay6 I a 62 9 = (if a = 0 then I 62 9 else I 86 5) ∧ lay6 I a 86 5 = (if a = 0 then I 62 9 else I 86 5) := by
  unfold lay6
  constructor
  · simp (disch := decide) only [ls_62s, ls_62n, ls_86s, ls_86n]
  · simp (disch := decide) only [ls_62s, ls_62n, ls_86s, ls_86n]
theorem layI_f0 (a : Int32) : layI I a 62 0 = (if a = 0 then I 62 0 else I 86 0) ∧ layI I a 86 0 = (if a = 0 then I 62 0 else I 86 0) := ⟨by rw [layI_62]; exact (lay6_f0 I a).1, (layI_86 I a (by omega)).trans (lay6_f0 I a).2⟩
theorem layI_f2 (a : Int32) : layI I a 62 2 = (if a = 0 then I 62 2 else I 86 1) ∧ layI I a 86 1 = (if a = 0 then I 62 2 else I 86 1) := ⟨by rw [layI_62]; exact (lay6_f2 I a).1, (layI_86 I a (by omega)).trans (lay6_f2 I a).2⟩
theorem layI_f3 (a : Int32) : layI I a 62 3 = (if a = 0 then I 62 3 else I 86 2) ∧ layI I a 86 2 = (if a = 0 then I 62 3 else I 86 2) := ⟨by rw [layI_62]; exact (lay6_f3 I a).1, (layI_86 I a (by omega)).trans (lay6_f3 I a).2⟩
theorem layI_f5 (a : Int32) : layI I a 62 5 = (if a = 0 then I 62 5 else I 86 3) ∧ layI I a 86 3 = (if a = 0 then I 62 5 else I 86 3) := ⟨by rw [layI_62]; exact (lay6_f5 I a).1, (layI_86 I a (by omega)).trans (lay6_f5 I a).2⟩
theorem layI_f7 (a : Int32) : layI I a 62 7 = (if a = 0 then I 62 7 else I 86 4) ∧ layI I a 86 4 = (if a = 0 then I 62 7 else I 86 4) := ⟨by rw [layI_62]; exact (lay6_f7 I a).1, (layI_86 I a (by omega)).trans (lay6_f7 I a).2⟩
theorem layI_f9 (a : Int32) : layI I a 62 9 = (if a = 0 then I 62 9 else I 86 5) ∧ layI I a 86 5 = (if a = 0 then I 62 9 else I 86 5) := ⟨by rw [layI_62]; exact (lay6_f9 I a).1, (layI_86 I a (by omega)).trans (lay6_f9 I a).2⟩
theorem layL_s (a : Int32) {j : Nat} (h : j < 5) : layL L a 63 j = (if a = 0 then L 63 j else L 85 j) ∧ layL L a 85 j = (if a = 0 then L 63 j else L 85 j) := by
  unfold layL
  rw [up1_s, up1_n _ _ (by decide), up1_s, if_pos h, if_pos h]
  exact ⟨rfl, rfl⟩
/-- the memory at the reference's lays, in image -/
def imK (I : Nat → Nat → Int32) : Nat → Nat → Int32 := up1 (imI I) 62 (up1 (I 62) 36 1)
theorem imK_62 {q : Nat} (h : q ≠ 36) : imK I 62 q = I 62 q := by
  unfold imK
  rw [up1_s, up1_n _ _ h]
theorem imK_o {r : Nat} (h : r ≠ 62) (h1 : r ≠ 1) : imK I r = cpS I 3 4 8 10 12 15 16 20 22 24 r := by
  unfold imK imI
  rw [up1_n _ _ h, up1_n _ _ h1]
theorem imK_i {r : Nat} (h : r ∉ [1, 62, 15, 16, 17, 20, 21, 22, 23, 24, 25]) : imK I r = I r := by
  simp only [List.mem_cons, List.not_mem_nil, or_false, not_or] at h
  rw [imK_o I h.2.1 h.1, cpo_3 I (by
    simp only [List.mem_cons, List.not_mem_nil, or_false, not_or]
    exact h.2.2)]
theorem lrS0 {I J : Nat → Nat → Int32} {R fr j : Nat} (h : I R = J R) : lrS I R fr 0 j = J R j := by
  unfold lrS
  rw [if_pos rfl, h]
theorem lrS1 {I : Nat → Nat → Int32} {R fr j : Nat} : lrS I R fr 1 j = I 86 (fr + j) := by
  unfold lrS
  rw [if_neg (by decide)]
theorem imJ_o {r : Nat} (h : r ≠ 62) (h1 : r ≠ 86) (h2 : r ≠ 64) (h3 : r ≠ 65) (h4 : r ≠ 66) : imJ I r = imK I r := layI_o (imK I) 0 h h1 h2 h3 h4
theorem imSame : Same I L (imJ I) (layL L 0) := by
  refine ⟨⟨?_, ?_, ?_, ?_, ?_, ?_⟩, ⟨?_, ?_, ?_, ?_, ?_, ?_⟩, ⟨fun j hj => ?_, fun j hj => ?_, fun j hj => ?_, fun j hj => ?_⟩, ⟨fun j hj => ?_, fun j hj => ?_, fun j hj => ?_, fun j hj => ?_⟩⟩
  · rw [imJ_o I (by decide) (by decide) (by decide) (by decide) (by decide), imK_i I (by decide)]
  · rw [imJ_o I (by decide) (by decide) (by decide) (by decide) (by decide), imK_i I (by decide)]
  · rw [imJ_o I (by decide) (by decide) (by decide) (by decide) (by decide), imK_i I (by decide)]
  · rw [imJ_o I (by decide) (by decide) (by decide) (by decide) (by decide), imK_i I (by decide)]
  · rw [imJ_o I (by decide) (by decide) (by decide) (by decide) (by decide), imK_i I (by decide)]
  · rw [imJ_o I (by decide) (by decide) (by decide) (by decide) (by decide), imK_i I (by decide)]
  · exact (layI_f0 (imK I) 0).1.trans (imK_62 I (by decide))
  · exact (layI_f2 (imK I) 0).1.trans (imK_62 I (by decide))
  · exact (layI_f3 (imK I) 0).1.trans (imK_62 I (by decide))
  · exact (layI_f5 (imK I) 0).1.trans (imK_62 I (by decide))
  · exact (layI_f7 (imK I) 0).1.trans (imK_62 I (by decide))
  · exact (layI_f9 (imK I) 0).1.trans (imK_62 I (by decide))
  · rw [imJ_o I (by decide) (by decide) (by decide) (by decide) (by decide), imK_i I (by decide)]
  · rw [imJ_o I (by decide) (by decide) (by decide) (by decide) (by decide), imK_i I (by decide)]
  · rw [imJ_o I (by decide) (by decide) (by decide) (by decide) (by decide), imK_i I (by decide)]
  · rw [imJ_o I (by decide) (by decide) (by decide) (by decide) (by decide), imK_i I (by decide)]
  · exact (layL_s L 0 hj).1
  · exact (layI_64 (imK I) 0 hj).1.trans (lrS0 (imK_i I (by decide)))
  · exact (layI_65 (imK I) 0 hj).1.trans (lrS0 (imK_i I (by decide)))
  · exact (layI_66 (imK I) 0 hj).1.trans (lrS0 (imK_i I (by decide)))
theorem imSameV : Same I L (vI (imJ I)) (vL (layL L 0)) := by
  obtain ⟨⟨c1, c2, c3, c4, c5, c6⟩, c7, c8, c9, c10⟩ := cp_3 I
  refine ⟨⟨?_, ?_, ?_, ?_, ?_, ?_⟩, ⟨?_, ?_, ?_, ?_, ?_, ?_⟩, ⟨fun j hj => ?_, fun j hj => ?_, fun j hj => ?_, fun j hj => ?_⟩, ⟨fun j hj => ?_, fun j hj => ?_, fun j hj => ?_, fun j hj => ?_⟩⟩
  · rw [vI_3, imJ_o I (by decide) (by decide) (by decide) (by decide) (by decide), imK_o I (by decide) (by decide), c1]
  · rw [vI_3, imJ_o I (by decide) (by decide) (by decide) (by decide) (by decide), imK_o I (by decide) (by decide), c2]
  · rw [vI_4, imJ_o I (by decide) (by decide) (by decide) (by decide) (by decide), imK_o I (by decide) (by decide), c3]
  · rw [vI_8, imJ_o I (by decide) (by decide) (by decide) (by decide) (by decide), imK_o I (by decide) (by decide), c4]
  · rw [vI_10, imJ_o I (by decide) (by decide) (by decide) (by decide) (by decide), imK_o I (by decide) (by decide), c5]
  · rw [vI_12, imJ_o I (by decide) (by decide) (by decide) (by decide) (by decide), imK_o I (by decide) (by decide), c6]
  · rw [vI_62_0]
    exact (layI_f0 (imK I) 0).2.trans (imK_62 I (by decide))
  · rw [vI_62_2]
    exact (layI_f2 (imK I) 0).2.trans (imK_62 I (by decide))
  · rw [vI_62_3]
    exact (layI_f3 (imK I) 0).2.trans (imK_62 I (by decide))
  · rw [vI_62_5]
    exact (layI_f5 (imK I) 0).2.trans (imK_62 I (by decide))
  · rw [vI_62_7]
    exact (layI_f7 (imK I) 0).2.trans (imK_62 I (by decide))
  · rw [vI_62_9]
    exact (layI_f9 (imK I) 0).2.trans (imK_62 I (by decide))
  · rw [vI_5, imJ_o I (by decide) (by decide) (by decide) (by decide) (by decide), imK_o I (by decide) (by decide)]
    exact c7 j hj
  · rw [vI_9, imJ_o I (by decide) (by decide) (by decide) (by decide) (by decide), imK_o I (by decide) (by decide)]
    exact c8 j hj
  · rw [vI_11, imJ_o I (by decide) (by decide) (by decide) (by decide) (by decide), imK_o I (by decide) (by decide)]
    exact c9 j hj
  · rw [vI_13, imJ_o I (by decide) (by decide) (by decide) (by decide) (by decide), imK_o I (by decide) (by decide)]
    exact c10 j hj
  · rw [vL_63]
    exact (layL_s L 0 hj).2
  · rw [vI_64]
    exact (layI_64 (imK I) 0 hj).2.trans (lrS0 (imK_i I (by decide)))
  · rw [vI_65]
    exact (layI_65 (imK I) 0 hj).2.trans (lrS0 (imK_i I (by decide)))
  · rw [vI_66]
    exact (layI_66 (imK I) 0 hj).2.trans (lrS0 (imK_i I (by decide)))
theorem unJ_o {r : Nat} (h : r ≠ 62) (h1 : r ≠ 86) (h2 : r ≠ 64) (h3 : r ≠ 65) (h4 : r ≠ 66) : unJ I r = unI I r := layI_o (unI I) 1 h h1 h2 h3 h4
theorem unI_i {r : Nat} (h : r ∉ [3, 4, 5, 8, 9, 10, 11, 12, 13]) : unI I r = I r := cpo_15 I h
theorem if10 {α : Type} (x y : α) : (if (1 : Int32) = 0 then x else y) = y := if_neg (by decide)
theorem unSame : Same (vI I) (vL L) (unJ I) (layL L 1) := by
  obtain ⟨⟨c1, c2, c3, c4, c5, c6⟩, c7, c8, c9, c10⟩ := cp_15 I
  have h86 : unI I 86 = I 86 := unI_i I (by decide)
  refine ⟨⟨?_, ?_, ?_, ?_, ?_, ?_⟩, ⟨?_, ?_, ?_, ?_, ?_, ?_⟩, ⟨fun j hj => ?_, fun j hj => ?_, fun j hj => ?_, fun j hj => ?_⟩, ⟨fun j hj => ?_, fun j hj => ?_, fun j hj => ?_, fun j hj => ?_⟩⟩
  · rw [unJ_o I (by decide) (by decide) (by decide) (by decide) (by decide)]
    rw [vI_3]
    exact c1
  · rw [unJ_o I (by decide) (by decide) (by decide) (by decide) (by decide)]
    rw [vI_3]
    exact c2
  · rw [unJ_o I (by decide) (by decide) (by decide) (by decide) (by decide)]
    rw [vI_4]
    exact c3
  · rw [unJ_o I (by decide) (by decide) (by decide) (by decide) (by decide)]
    rw [vI_8]
    exact c4
  · rw [unJ_o I (by decide) (by decide) (by decide) (by decide) (by decide)]
    rw [vI_10]
    exact c5
  · rw [unJ_o I (by decide) (by decide) (by decide) (by decide) (by decide)]
    rw [vI_12]
    exact c6
  · rw [vI_62_0]
    exact (layI_f0 (unI I) 1).1.trans ((if10 _ _).trans (congrFun h86 0))
  · rw [vI_62_2]
    exact (layI_f2 (unI I) 1).1.trans ((if10 _ _).trans (congrFun h86 1))
  · rw [vI_62_3]
    exact (layI_f3 (unI I) 1).1.trans ((if10 _ _).trans (congrFun h86 2))
  · rw [vI_62_5]
    exact (layI_f5 (unI I) 1).1.trans ((if10 _ _).trans (congrFun h86 3))
  · rw [vI_62_7]
    exact (layI_f7 (unI I) 1).1.trans ((if10 _ _).trans (congrFun h86 4))
  · rw [vI_62_9]
    exact (layI_f9 (unI I) 1).1.trans ((if10 _ _).trans (congrFun h86 5))
  · rw [unJ_o I (by decide) (by decide) (by decide) (by decide) (by decide)]
    rw [vI_5]
    exact c7 j hj
  · rw [unJ_o I (by decide) (by decide) (by decide) (by decide) (by decide)]
    rw [vI_9]
    exact c8 j hj
  · rw [unJ_o I (by decide) (by decide) (by decide) (by decide) (by decide)]
    rw [vI_11]
    exact c9 j hj
  · rw [unJ_o I (by decide) (by decide) (by decide) (by decide) (by decide)]
    rw [vI_13]
    exact c10 j hj
  · rw [vL_63]
    exact (layL_s L 1 hj).1.trans (if10 _ _)
  · rw [vI_64]
    exact (layI_64 (unI I) 1 hj).1.trans (lrS1.trans (congrFun h86 _))
  · rw [vI_65]
    exact (layI_65 (unI I) 1 hj).1.trans (lrS1.trans (congrFun h86 _))
  · rw [vI_66]
    exact (layI_66 (unI I) 1 hj).1.trans (lrS1.trans (congrFun h86 _))
theorem unSameV : Same (vI I) (vL L) (vI (unJ I)) (vL (layL L 1)) := by
  have h86 : unI I 86 = I 86 := unI_i I (by decide)
  have ho : ∀ r, r ∉ [3, 4, 5, 8, 9, 10, 11, 12, 13, 62, 86, 64, 65, 66] → unJ I r = I r := fun r hr => by
    simp only [List.mem_cons, List.not_mem_nil, or_false, not_or] at hr
    rw [unJ_o I hr.2.2.2.2.2.2.2.2.2.1 hr.2.2.2.2.2.2.2.2.2.2.1 hr.2.2.2.2.2.2.2.2.2.2.2.1 hr.2.2.2.2.2.2.2.2.2.2.2.2.1 hr.2.2.2.2.2.2.2.2.2.2.2.2.2, unI_i I (by
      simp only [List.mem_cons, List.not_mem_nil, or_false, not_or]
      exact ⟨hr.1, hr.2.1, hr.2.2.1, hr.2.2.2.1, hr.2.2.2.2.1, hr.2.2.2.2.2.1, hr.2.2.2.2.2.2.1, hr.2.2.2.2.2.2.2.1, hr.2.2.2.2.2.2.2.2.1⟩)]
  refine ⟨⟨?_, ?_, ?_, ?_, ?_, ?_⟩, ⟨?_, ?_, ?_, ?_, ?_, ?_⟩, ⟨fun j hj => ?_, fun j hj => ?_, fun j hj => ?_, fun j hj => ?_⟩, ⟨fun j hj => ?_, fun j hj => ?_, fun j hj => ?_, fun j hj => ?_⟩⟩
  · rw [vI_3, vI_3]
    exact congrFun (ho 15 (by decide)) 1
  · rw [vI_3, vI_3]
    exact congrFun (ho 15 (by decide)) 2
  · rw [vI_4, vI_4]
    exact congrFun (ho 16 (by decide)) 0
  · rw [vI_8, vI_8]
    exact congrFun (ho 20 (by decide)) 0
  · rw [vI_10, vI_10]
    exact congrFun (ho 22 (by decide)) 0
  · rw [vI_12, vI_12]
    exact congrFun (ho 24 (by decide)) 0
  · rw [vI_62_0, vI_62_0]
    exact (layI_f0 (unI I) 1).2.trans ((if10 _ _).trans (congrFun h86 0))
  · rw [vI_62_2, vI_62_2]
    exact (layI_f2 (unI I) 1).2.trans ((if10 _ _).trans (congrFun h86 1))
  · rw [vI_62_3, vI_62_3]
    exact (layI_f3 (unI I) 1).2.trans ((if10 _ _).trans (congrFun h86 2))
  · rw [vI_62_5, vI_62_5]
    exact (layI_f5 (unI I) 1).2.trans ((if10 _ _).trans (congrFun h86 3))
  · rw [vI_62_7, vI_62_7]
    exact (layI_f7 (unI I) 1).2.trans ((if10 _ _).trans (congrFun h86 4))
  · rw [vI_62_9, vI_62_9]
    exact (layI_f9 (unI I) 1).2.trans ((if10 _ _).trans (congrFun h86 5))
  · rw [vI_5, vI_5]
    exact congrFun (ho 17 (by decide)) j
  · rw [vI_9, vI_9]
    exact congrFun (ho 21 (by decide)) j
  · rw [vI_11, vI_11]
    exact congrFun (ho 23 (by decide)) j
  · rw [vI_13, vI_13]
    exact congrFun (ho 25 (by decide)) j
  · rw [vL_63, vL_63]
    exact (layL_s L 1 hj).2.trans (if10 _ _)
  · rw [vI_64, vI_64]
    exact (layI_64 (unI I) 1 hj).2.trans (lrS1.trans (congrFun h86 _))
  · rw [vI_65, vI_65]
    exact (layI_65 (unI I) 1 hj).2.trans (lrS1.trans (congrFun h86 _))
  · rw [vI_66, vI_66]
    exact (layI_66 (unI I) 1 hj).2.trans (lrS1.trans (congrFun h86 _))
theorem im12 : imJ I 62 36 = 1 ∧ imJ I 1 2 = 1 ∧ imJ I 62 0 = I 62 0 := by
  refine ⟨?_, ?_, (layI_f0 (imK I) 0).1.trans (imK_62 I (by decide))⟩
  · show layI (imK I) 0 62 36 = 1
    rw [layI_62, lay6_62 _ _ (by decide) (by decide) (by decide) (by decide) (by decide) (by decide)]
    unfold imK
    rw [up1_s, up1_s]
  · rw [imJ_o I (by decide) (by decide) (by decide) (by decide) (by decide)]
    unfold imK imI
    rw [up1_n _ _ (by decide), up1_s, up1_s]
theorem un12 : unJ I 62 36 = I 62 36 ∧ unJ I 1 2 = I 1 2 ∧ unJ I 62 0 = I 86 0 := by
  refine ⟨?_, ?_, (layI_f0 (unI I) 1).1.trans ((if10 _ _).trans (congrFun (unI_i I (by decide)) 0))⟩
  · show layI (unI I) 1 62 36 = _
    rw [layI_62, lay6_62 _ _ (by decide) (by decide) (by decide) (by decide) (by decide) (by decide), unI_i I (by decide)]
  · rw [unJ_o I (by decide) (by decide) (by decide) (by decide) (by decide), unI_i I (by decide)]
theorem layL_ch (a : Int32) {r : Nat} (h : r ∉ [85, 63]) : layL L a r = L r := by
  unfold layL
  rw [up1_n _ _ (fun e => h (by simp [e])), up1_n _ _ (fun e => h (by simp [e]))]
theorem im_ch : Ch [1, 15, 16, 17, 20, 21, 22, 23, 24, 25, 86, 64, 65, 66] [0, 2, 3, 5, 7, 9, 36] [85, 63] I L (imJ I) (layL L 0) := by
  refine ⟨fun r hr h0 => ?_, fun k hk => ?_, fun r hr => layL_ch L 0 hr⟩
  · rw [imJ_o I h0 (fun e => hr (by simp [e])) (fun e => hr (by simp [e])) (fun e => hr (by simp [e])) (fun e => hr (by simp [e])), imK_i I (fun e => hr (by
      simp only [List.mem_cons, List.not_mem_nil, or_false] at e ⊢
      omega))]
  · show layI (imK I) 0 62 k = _
    rw [layI_62, lay6_62 _ _ (fun e => hk (by simp [e])) (fun e => hk (by simp [e])) (fun e => hk (by simp [e])) (fun e => hk (by simp [e])) (fun e => hk (by simp [e])) (fun e => hk (by simp [e])), imK_62 I (fun e => hk (by simp [e]))]
theorem un_ch : Ch [3, 4, 5, 8, 9, 10, 11, 12, 13, 86, 64, 65, 66] [0, 2, 3, 5, 7, 9] [85, 63] I L (unJ I) (layL L 1) := by
  refine ⟨fun r hr h0 => ?_, fun k hk => ?_, fun r hr => layL_ch L 1 hr⟩
  · rw [unJ_o I h0 (fun e => hr (by simp [e])) (fun e => hr (by simp [e])) (fun e => hr (by simp [e])) (fun e => hr (by simp [e])), unI_i I (fun e => hr (by
      simp only [List.mem_cons, List.not_mem_nil, or_false] at e ⊢
      omega))]
  · show layI (unI I) 1 62 k = _
    rw [layI_62, lay6_62 _ _ (fun e => hk (by simp [e])) (fun e => hk (by simp [e])) (fun e => hk (by simp [e])) (fun e => hk (by simp [e])) (fun e => hk (by simp [e])) (fun e => hk (by simp [e])), unI_i I (by decide)]
theorem pair_image (R : RelAll I L) : Both (fX9_image 1) (fX10_image 62) I L (fun I' L' => RelAll I' L' ∧ RelI I' L' ∧ Ch [1, 15, 16, 17, 20, 21, 22, 23, 24, 25, 86, 64, 65, 66] [0, 2, 3, 5, 7, 9, 36] [85, 63] I L I' L') := by
  obtain ⟨i1, i2, i3⟩ := im12 I
  obtain ⟨d, a, hC, hM, hV⟩ := id R.1
  have h62 : imI I 62 = I 62 := by
    unfold imI
    rw [up1_n _ _ (by decide), cpo_3 I (by decide)]
  have hM' := image_M (imI I) L
  rw [h62] at hM'
  refine ⟨I 4 0, imI I, L, imJ I, layL L 0, image_C I L, ?_, RelAll_same (imSame I L) R, ⟨i1.trans i2.symm, Or.inr ⟨i2, RelAll_same (imSameV I L) R⟩⟩, im_ch I L⟩
  show _ = some (I 4 0, mk (layI (up1 (imI I) 62 (up1 (I 62) 36 1)) 0) (layL L 0))
  rw [hM', show layI (up1 (imI I) 62 (up1 (I 62) 36 1)) 0 62 0 = I 4 0 from by rw [show layI (up1 (imI I) 62 (up1 (I 62) 36 1)) 0 = imJ I from rfl, i3, hM.1, hC.1]]
theorem pair_undo (R : RelAll I L) (RI : RelI I L) : Both (fX9_undo 1) (fX10_undo 62) I L (fun I' L' => RelAll I' L' ∧ RelI I' L' ∧ Ch [3, 4, 5, 8, 9, 10, 11, 12, 13, 86, 64, 65, 66] [0, 2, 3, 5, 7, 9] [85, 63] I L I' L') := by
  obtain ⟨h0, h1 | ⟨h1, RV⟩⟩ := id RI
  · refine ⟨-3, I, L, I, L, ?_, ?_, R, RI, Ch.rf I L⟩
    · unfold fX9_undo
      simp only [gI_1, Option.bind_some, h1, if_true]
    · unfold fX10_undo
      simp only [gI_62, Option.bind_some, h0, h1, if_true]
  · obtain ⟨i1, i2, i3⟩ := un12 I
    obtain ⟨d, a, hC, hM, hV⟩ := id RV.1
    have e1 : I 16 0 = nn d := (vI_4 I 0).symm.trans hC.1
    have e2 : I 86 0 = nn d := (vI_62_0 I).symm.trans hM.1
    have h36 : unI I 62 36 = 1 := by
      rw [unI_i I (by decide), h0, h1]
    refine ⟨I 16 0, unI I, L, unJ I, layL L 1, undo_C I L h1, ?_, RelAll_same (unSame I L) RV, ⟨by rw [i1, i2, h0], Or.inr ⟨i2.trans h1, RelAll_same (unSameV I L) RV⟩⟩, un_ch I L⟩
    rw [undo_M (unI I) L h36]
    show some (unJ I 62 0, mk (unJ I) (layL L 1)) = _
    rw [i3, e1, e2]
end IM
