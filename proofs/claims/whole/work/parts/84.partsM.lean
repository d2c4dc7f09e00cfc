theorem nq_congr {d : Nat} {n : Int64} {r r' : Nat → Int64} : ∀ (i : Nat), (∀ j, j < i → r j = r' j) → nq d n r i = nq d n r' i
  | 0, _ => rfl
  | i + 1, h => by
    show (fun j => if j ≤ d then n * nq d n r i j + (if j = 0 then r i else nq d n r i (j - 1)) else 0) = (fun j => if j ≤ d then n * nq d n r' i j + (if j = 0 then r' i else nq d n r' i (j - 1)) else 0)
    rw [nq_congr i (fun j hj => h j (by omega)), h i (by omega)]
theorem nq_s (d : Nat) (n : Int64) (r : Nat → Int64) (i j : Nat) : nq d n r (i + 1) j = if j ≤ d then n * nq d n r i j + (if j = 0 then r i else nq d n r i (j - 1)) else 0 := rfl
/-- the reference's second row, on the way -/
def nb (d : Nat) (n : Int64) (r g : Nat → Int64) (i : Nat) : Nat → Int64 := fun k => if k ≤ d then nq d n r i k else g k
def nm2 (d : Nat) (n : Int64) (r g : Nat → Int64) (i e : Nat) : Nat → Int64 := fun k => if k ≤ d ∧ d < k + e then nq d n r (i + 1) k else nb d n r g i k
theorem nm2_0 (d : Nat) (n : Int64) (r g : Nat → Int64) (i : Nat) : nm2 d n r g i 0 = nb d n r g i := by
  funext k
  exact if_neg (by omega)
theorem nm2_e (d : Nat) (n : Int64) (r g : Nat → Int64) (i : Nat) : nm2 d n r g i (d + 1) = nb d n r g (i + 1) := by
  funext k
  show (if k ≤ d ∧ d < k + (d + 1) then nq d n r (i + 1) k else (if k ≤ d then nq d n r i k else g k)) = if k ≤ d then nq d n r (i + 1) k else g k
  by_cases h : k ≤ d
  · rw [if_pos (by omega), if_pos h]
  · rw [if_neg (by omega), if_neg h, if_neg h]
theorem nm2_s (d : Nat) (n : Int64) (r g : Nat → Int64) (i e : Nat) (he : e ≤ d) {x : Int64} (hx : x = nq d n r (i + 1) (d - e)) : up1 (nm2 d n r g i e) (d - e) x = nm2 d n r g i (e + 1) := by
  subst hx
  funext k
  simp only [up1_e]
  show _ = if k ≤ d ∧ d < k + (e + 1) then nq d n r (i + 1) k else nb d n r g i k
  by_cases h : k = d - e
  · rw [if_pos h, if_pos (by omega), h]
  · rw [if_neg h]
    show (if k ≤ d ∧ d < k + e then nq d n r (i + 1) k else nb d n r g i k) = _
    by_cases h2 : k ≤ d ∧ d < k + e
    · rw [if_pos h2, if_pos (by omega)]
    · rw [if_neg h2, if_neg (by omega)]
section PM
variable (I : Nat → Nat → Int32) (L : Nat → Nat → Int64)
theorem rowAt_M {d : Nat} (hd : 2 ≤ d ∧ d ≤ 4) (e1 : I 62 0 = nn d) {r : Nat → Int64} (hr : ∀ j, j ≤ d → L 76 j = r j) (t : Int64) : fX10_rowAt 62 t (mk I L) = some (hs r t (d + 1), mk I L) := by
  unfold fX10_rowAt
  refine lp_for' (fun i => (hs r t i, nn i)) rfl (d + 1) (fun i hi k => ?_) (fun k => ?_) (FU_gt (by omega))
  · simp only [gI_62, e1, Option.bind_some, nn_lt (show d < 2147483648 by omega) (show i < 2147483648 by omega), if_neg (show ¬ d < i by omega), gR_62_22, xJ_76, nn_lt0 (i) (by omega), nn_nat (show i < 2147483648 by omega), show i < 5 by omega, not_false_eq_true, and_self, if_true, hr i (by omega), nm, nn_s]
    rfl
  · simp only [gI_62, e1, Option.bind_some, nn_lt (show d < 2147483648 by omega) (show d + 1 < 2147483648 by omega), Nat.lt_succ_self, if_true]
theorem greatest_M {d : Nat} (hd : 2 ≤ d ∧ d ≤ 4) (e1 : I 62 0 = nn d) {r : Nat → Int64} (hr : ∀ j, j ≤ d → L 76 j = r j) {l : Nat} (hl : l ≤ 1) : fX10_greatest 62 (nn l) (mk I L) = some (pRs d r l, mk I L) := by
  unfold fX10_greatest
  refine (lp_ff (s := fun i => (av i, mk I L)) (y := fun i => some (if i < 100 - l then nn (99 - i) else -1, mk I L)) rfl (100 - l) (fun e => !cnd d r (99 - e)) (fun i hi hP k => ?_) (fun i hi hP k => ?_) (fun k => ?_) (FU_gt (by omega))).trans ?_
  rotate_left 3
  · show some (if pE d r l < 100 - l then nn (99 - pE d r l) else -1, mk I L) = _
    unfold pRs pF pN
    simp only [decide_eq_true_eq]
  · have q : ¬ av i < nn l := by
      rw [i32_lt, av_toInt (by omega), nn_toInt (by omega)]
      omega
    have hv : hs r (av i).toInt64 (d + 1) = pv d r (99 - i) := by
      rw [av_nn (by omega)]
      rfl
    have hw : hs r (av i + 1).toInt64 (d + 1) = pv d r (100 - i) := by
      rw [av_nn (by omega), nn_s, show 99 - i + 1 = 100 - i by omega]
      rfl
    have hc : cnd d r (99 - i) = false := by simpa using hP
    unfold cnd at hc
    rw [show 99 - i + 1 = 100 - i by omega] at hc
    simp only [Bool.or_eq_false_iff, decide_eq_false_iff_not, i64_lt, i64_0] at hc
    obtain ⟨h1, h2, h3⟩ := hc
    simp only [if_neg q, kd_62, if_true, rowAt_M I L hd e1 hr, Option.bind_some, hv, hw, lg_cmp_eq, if_neg h1, jn, lg_cmp_le, lg_cmp_lt, lg_cmp_ge, i64_le, i64_lt, i64_0, nm, av_s]
    have h4 : ¬ (pv d r (99 - i)).toInt = 0 := fun e => h1 (i64_eq.mpr e)
    by_cases g1 : (pv d r (99 - i)).toInt ≤ 0
    · rw [if_pos g1, if_neg (by omega), if_pos (by omega)]
    · rw [if_neg g1, if_neg (by omega), if_pos (by omega)]
  · have q : ¬ av i < nn l := by
      rw [i32_lt, av_toInt (by omega), nn_toInt (by omega)]
      omega
    have hv : hs r (av i).toInt64 (d + 1) = pv d r (99 - i) := by
      rw [av_nn (by omega)]
      rfl
    have hw : hs r (av i + 1).toInt64 (d + 1) = pv d r (100 - i) := by
      rw [av_nn (by omega), nn_s, show 99 - i + 1 = 100 - i by omega]
      rfl
    have hc : cnd d r (99 - i) = true := by simpa using hP
    show _ = some (if i < 100 - l then nn (99 - i) else -1, mk I L)
    rw [if_pos hi, ← av_nn (show i ≤ 99 by omega)]
    unfold cnd at hc
    rw [show 99 - i + 1 = 100 - i by omega] at hc
    simp only [Bool.or_eq_true, decide_eq_true_eq, i64_lt, i64_0] at hc
    simp only [if_neg q, kd_62, if_true, rowAt_M I L hd e1 hr, Option.bind_some, hv, hw, lg_cmp_eq, jn, lg_cmp_le, lg_cmp_lt, lg_cmp_ge, i64_le, i64_lt, i64_0]
    by_cases h1 : pv d r (99 - i) = 0
    · rw [if_pos h1]
    · have h2 := hc.resolve_left h1
      rw [if_neg h1]
      by_cases g1 : (pv d r (99 - i)).toInt ≤ 0
      · rw [if_pos g1, if_neg (by omega), if_neg (by omega)]
      · rw [if_neg g1, if_pos (by omega)]
  · have q : av (100 - l) < nn l := by
      rw [i32_lt, av_toInt (by omega), nn_toInt (by omega)]
      omega
    simp only [if_pos q, Nat.lt_irrefl, if_false]
theorem goesOn_M {d : Nat} (hd : 2 ≤ d ∧ d ≤ 4) (e1 : I 62 0 = nn d) (n : Int32) : ∃ L', fX10_goesOn 62 n (mk I L) = some (if inRw (nq d n.toInt64 (L 76) (d + 1)) (d + 1) = true then 1 else 0, mk I L') ∧ (∀ r, r ≠ 76 → r ≠ 77 → L' r = L r) ∧ ∀ j, j ≤ d → L' 76 j = nq d n.toInt64 (L 76) (d + 1) j := by
  generalize hN : nq d n.toInt64 (L 76) (d + 1) = Nw
  refine ⟨up1 (up1 L 77 (nb d n.toInt64 (L 76) (L 77) (d + 1))) 76 (fun k => if k < d + 1 then Nw k else L 76 k), ?_, fun r h1 h2 => by rw [up1_n _ _ h1, up1_n _ _ h2], fun j hj => by rw [up1_s, if_pos (show j < d + 1 by omega)]⟩
  unfold fX10_goesOn
  refine lp_for' (fun i => (nn i, mk I (up1 L 77 (fun k => if k < i then 0 else L 77 k)))) ?_ (d + 1) (fun i hi k => ?_) (fun k => ?_) (FU_gt (by omega))
  · rw [fill0, up1_id]
    rfl
  · simp only [gI_62, e1, Option.bind_some, nn_lt (show d < 2147483648 by omega) (show i < 2147483648 by omega), if_neg (show ¬ d < i by omega), gR_62_23, yJ_77, nn_lt0 (i) (by omega), nn_nat (show i < 2147483648 by omega), show i < 5 by omega, not_false_eq_true, and_self, if_true, up1_s, up1_up1, fillup, nm, nn_s]
  simp only [gI_62, e1, Option.bind_some, nn_lt (show d < 2147483648 by omega) (show d + 1 < 2147483648 by omega), Nat.lt_succ_self, if_true]
  refine lp_for' (fun i => (nn i, mk I (up1 L 77 (nb d n.toInt64 (L 76) (L 77) i)))) ?_ (d + 1) (fun i hi k => ?_) (fun k => ?_) (FU_gt (by omega))
  · rw [show nb d n.toInt64 (L 76) (L 77) 0 = fun k => if k < d + 1 then 0 else L 77 k from by
      funext k
      show (if k ≤ d then (0 : Int64) else L 77 k) = _
      by_cases h : k ≤ d
      · rw [if_pos h, if_pos (show k < d + 1 by omega)]
      · rw [if_neg h, if_neg (show ¬ k < d + 1 by omega)]]
    rfl
  · simp only [gI_62, e1, Option.bind_some, nn_lt (show d < 2147483648 by omega) (show i < 2147483648 by omega), if_neg (show ¬ d < i by omega)]
    refine lp_for' (fun e => (if e = d + 1 then -1 else nn (d - e), mk I (up1 L 77 (nm2 d n.toInt64 (L 76) (L 77) i e)))) ?_ (d + 1) (fun e he k2 => ?_) (fun k2 => ?_) (FU_gt (by omega))
    · rw [if_neg (show ¬ 0 = d + 1 by omega), nm2_0]
      rfl
    · have hx : nm2 d n.toInt64 (L 76) (L 77) i e (d - e) = nq d n.toInt64 (L 76) i (d - e) := by
        show (if d - e ≤ d ∧ d < d - e + e then _ else (if d - e ≤ d then _ else _)) = _
        rw [if_neg (by omega), if_pos (by omega)]
      rw [if_neg (show ¬ e = d + 1 by omega)]
      by_cases h0 : d - e = 0
      · have hnew : n.toInt64 * nq d n.toInt64 (L 76) i 0 + L 76 i = nq d n.toInt64 (L 76) (i + 1) (d - e) := by
          rw [h0]
          rw [nq_s, if_pos (Nat.zero_le d), if_pos rfl]
        have hs2 := nm2_s d n.toInt64 (L 76) (L 77) i e (by omega) hnew
        rw [h0] at hs2 hx
        simp only [h0, show ¬ nn 0 < 0 by decide, if_false, gR_62_23, gR_62_22, Option.bind_some, xJ_77, xJ_76, yJ_77, nn_lt0 (0) (by omega), nn_nat (show 0 < 2147483648 by omega), show 0 < 5 by omega, not_false_eq_true, and_self, if_true, nn_lt0 (i) (by omega), nn_nat (show i < 2147483648 by omega), show i < 5 by omega, not_false_eq_true, and_self, if_true, show nn 0 ≤ 0 from Int32.le_refl _, up1_s, up1_n L _ (show 76 ≠ 77 by decide), up1_up1, hx, hs2, nm, show e + 1 = d + 1 by omega, show nn 0 + (-1) = -1 by decide]
      · obtain ⟨p, hp⟩ : ∃ p, d - e = p + 1 := ⟨d - e - 1, by omega⟩
        have hy : nm2 d n.toInt64 (L 76) (L 77) i e p = nq d n.toInt64 (L 76) i p := by
          show (if p ≤ d ∧ d < p + e then _ else (if p ≤ d then _ else _)) = _
          rw [if_neg (by omega), if_pos (by omega)]
        have hnew : n.toInt64 * nq d n.toInt64 (L 76) i (p + 1) + nq d n.toInt64 (L 76) i p = nq d n.toInt64 (L 76) (i + 1) (d - e) := by
          rw [hp]
          rw [nq_s, if_pos (show p + 1 ≤ d by omega), if_neg (show ¬ p + 1 = 0 by omega), Nat.add_sub_cancel]
        have hs2 := nm2_s d n.toInt64 (L 76) (L 77) i e (by omega) hnew
        rw [hp] at hs2 hx
        have c0 : ¬ nn (p + 1) ≤ 0 := fun q => by
          have := (nn_le0 (p + 1) (by omega)).mp q
          omega
        simp only [hp, nn_lt0 (p + 1) (by omega), if_false, gR_62_23, Option.bind_some, xJ_77, yJ_77, nn_lt0 (p + 1) (by omega), nn_nat (show p + 1 < 2147483648 by omega), show p + 1 < 5 by omega, not_false_eq_true, and_self, if_true, nn_lt0 (p) (by omega), nn_nat (show p < 2147483648 by omega), show p < 5 by omega, not_false_eq_true, and_self, if_true, if_neg c0, nn_pred, up1_s, up1_up1, hx, hy, hs2, nm, if_neg (show ¬ e + 1 = d + 1 by omega), nn_dec, show d - (e + 1) = p by omega]
    · simp only [if_true, show (-1 : Int32) < 0 by decide, nm2_e, nm, nn_s]
  simp only [gI_62, e1, Option.bind_some, nn_lt (show d < 2147483648 by omega) (show d + 1 < 2147483648 by omega), Nat.lt_succ_self, if_true]
  have hnb : ∀ j, j ≤ d → nb d n.toInt64 (L 76) (L 77) (d + 1) j = Nw j := fun j hj => by
    rw [← hN]
    exact if_pos hj
  generalize nb d n.toInt64 (L 76) (L 77) (d + 1) = G at *
  refine lp_for' (fun i => ((if inRw Nw i = true then 1 else 0), nn i, mk I (up1 (up1 L 77 G) 76 (fun k => if k < i then Nw k else L 76 k)))) ?_ (d + 1) (fun i hi k2 => ?_) (fun k2 => ?_) (FU_gt (by omega))
  · rw [fillF0]
    show ((1 : Int32), nn 0, mk I (up1 L 77 G)) = (1, nn 0, mk I (up1 (up1 L 77 G) 76 (L 76)))
    rw [show up1 (up1 L 77 G) 76 (L 76) = up1 L 77 G from up1_idv (up1_n _ _ (by decide))]
  · have hin : fX10_in (Nw i) (-1000000000) 1000000000 (mk I (up1 (up1 L 77 G) 76 (fun k => if k < i + 1 then Nw k else L 76 k))) = some (if inE9 (Nw i) = true then 1 else 0, mk I (up1 (up1 L 77 G) 76 (fun k => if k < i + 1 then Nw k else L 76 k))) := by
      rw [in_s]
      unfold inE9
      simp only [decide_eq_true_eq]
      rfl
    simp only [gI_62, e1, Option.bind_some, nn_lt (show d < 2147483648 by omega) (show i < 2147483648 by omega), if_neg (show ¬ d < i by omega), gR_62_22, gR_62_23, xJ_77, xJ_76, yJ_76, nn_lt0 (i) (by omega), nn_nat (show i < 2147483648 by omega), show i < 5 by omega, not_false_eq_true, and_self, if_true, up1_n (up1 L 77 G) _ (show 77 ≠ 76 by decide), up1_s, up1_up1, hnb i (by omega), fillF (L 76) Nw i rfl, show i < i + 1 by omega, hin, nm, nn_s]
    rw [and_bit (b := inRw Nw i) (c := inE9 (Nw i)) rfl]
    unfold inRw
    rw [allB_s]
  · simp only [gI_62, e1, Option.bind_some, nn_lt (show d < 2147483648 by omega) (show d + 1 < 2147483648 by omega), Nat.lt_succ_self, if_true]
    by_cases h : inRw Nw (d + 1) = true
    · simp only [if_pos h, show ¬ (1 : Int32) = 0 by decide, or_true, if_true]
    · simp only [if_neg h, true_or, if_true]
theorem jn_lst2 {β : Type} {x : Int32} (h : x < 0) (F : Int32 → β) : jn F (fun k24 => if x < 0 then k24 0 else k24 1) = F 0 := if_pos h
theorem jn_lst3 {β : Type} {x : Int32} (h : ¬ x < 0) (F : Int32 → β) : jn F (fun k24 => if x < 0 then k24 0 else k24 1) = F 1 := if_neg h
def Pm (d : Nat) (a : Nat → Int64) (I : Nat → Nat → Int32) (m : Nat) : Prop := ∀ k, k < m → I 78 k = nn (pT d a k)
def PQm (d : Nat) (a : Nat → Int64) (I : Nat → Nat → Int32) (L : Nat → Nat → Int64) (h : Mem) : Prop := ∃ I' L', h = mk I' L' ∧ Ch [78] [25] [76, 77] I L I' L' ∧ I' 62 25 = nn (pM d a) ∧ Pm d a I' (pM d a)
def PIm (d : Nat) (a : Nat → Int64) (I : Nat → Nat → Int32) (L : Nat → Nat → Int64) (k : Nat) (s : Int32 × Mem) : Prop := s.1 = 1 ∧ ∃ I' L', s.2 = mk I' L' ∧ Ch [78] [25] [76, 77] I L I' L' ∧ I' 62 25 = nn k ∧ (∀ j, j ≤ d → L' 76 j = rwk d a k j) ∧ Pm d a I' k
def PJm (d : Nat) (a : Nat → Int64) (I : Nat → Nat → Int32) (L : Nat → Nat → Int64) (k : Nat) (s : Int32 × Mem) : Prop := (k ≤ pK d a ∧ PIm d a I L k s) ∨ (k = pK d a + 1 ∧ s.1 = 0 ∧ PQm d a I L s.2)
theorem parts_M {s : Sq} (hM : AM I L s.1 s.2.1) (hV : VSt s) : ∃ r, fX10_tellsParts 62 (mk I L) = some r ∧ PQm s.1 s.2.1 I L r.2 := by
  obtain ⟨d, a, m, b⟩ := s
  have hd : 2 ≤ d ∧ d ≤ 4 := hV.1.1
  have hM : AM I L d a := hM
  unfold fX10_tellsParts
  show ∃ r : Unit × Mem, _ = some r ∧ PQm d a I L r.2
  refine lp_ex (fun i (s : Int32 × Mem) => s = (nn i, mk I (up1 L 76 (fun k => if k < i then a k else L 76 k)))) (fun (r : Unit × Mem) => PQm d a I L r.2) (d + 1) (0, mk I L) ?_ ?_ ?_ FU (FU_gt (by omega))
  · rw [fillF0, up1_id]
    rfl
  · rintro i hi _ rfl
    refine ⟨(nn (i + 1), mk I (up1 L 76 (fun k => if k < i + 1 then a k else L 76 k))), fun k => ?_, rfl⟩
    simp only [gI_62, hM.1, Option.bind_some, nn_lt (show d < 2147483648 by omega) (show i < 2147483648 by omega), if_neg (show ¬ d < i by omega), gR_62_22, gR_62_1, xJ_63, yJ_76, nn_lt0 (i) (by omega), nn_nat (show i < 2147483648 by omega), show i < 5 by omega, not_false_eq_true, and_self, if_true, up1_n L _ (show 63 ≠ 76 by decide), hM.2 i (by omega), up1_s, up1_up1, fillF (L 76) a i rfl, nm, nn_s]
  rintro _ rfl
  simp only [gI_62, hM.1, Option.bind_some, nn_lt (show d < 2147483648 by omega) (show d + 1 < 2147483648 by omega), Nat.lt_succ_self, if_true, pI_62]
  have hc2 : Ch [78] [25] [76, 77] I L (up1 I 62 (up1 (I 62) 25 0)) (up1 L 76 (fun k => if k < d + 1 then a k else L 76 k)) := ((ChK I L [78] [25] [76, 77] (by simp)).tr (ChL _ L [] [] [76] (by simp))).mono (by simp) (by simp) (by simp)
  have h25 : up1 I 62 (up1 (I 62) 25 0) 62 25 = nn 0 := by
    rw [up1_s, up1_s]
    rfl
  have hr0 : ∀ j, j ≤ d → up1 L 76 (fun k => if k < d + 1 then a k else L 76 k) 76 j = rwk d a 0 j := fun j hj => by
    rw [up1_s, if_pos (show j < d + 1 by omega)]
    rfl
  revert hc2 hr0 h25
  generalize up1 L 76 (fun k => if k < d + 1 then a k else L 76 k) = L1
  generalize up1 I 62 (up1 (I 62) 25 0) = I1
  intro hc2 h25 hr0
  obtain ⟨f1, f2, f3⟩ := ff_all (pGo d a) 8
  have fK : ff (pGo d a) 8 = pK d a := rfl
  rw [fK] at f1 f2 f3
  have key : ∃ r, lpF (fun k14 ((v12, h13) : Int32 × Mem) =>
    if v12 = 0 then
     some ((), h13)
    else
     (gI 10 h13 62 25).bind fun v16 =>
     if 8 ≤ v16 then
      some ((), h13)
     else
      (gI 10 h13 62 25).bind fun v17 =>
      jn (fun (v18 : Int32) =>
       if mKd h13 62 = 10 then (fX10_greatest 62 v18 h13).bind (fun ((v22, h21) : Int32 × Mem) =>
        jn (fun (v23 : Int32) =>
         if v23 = 0 then
          k14 (v23, h21)
         else
          (gR 10 h21 62 24).bind fun v26 =>
          (gI 10 h21 62 25).bind fun v27 =>
          (yI 11 h21 v26 v27 v22).bind fun h28 =>
          (gI 10 h28 62 25).bind fun v29 =>
          (pI 10 h28 62 25 (v29 + 1)).bind fun h30 =>
          if mKd h30 62 = 10 then (fX10_rowAt 62 v22.toInt64 h30).bind (fun ((v32, h31) : Int64 × Mem) =>
           if (lg_cmp v32 0) = 0 then
            k14 (0, h31)
           else
            if mKd h31 62 = 10 then (fX10_goesOn 62 v22 h31).bind (fun ((v34, h33) : Int32 × Mem) =>
             if v34 = 0 then
              k14 (0, h33)
             else
              k14 (1, h33)) else none) else none) (fun k24 =>
         if v22 < 0 then
          k24 0
         else
          k24 1)) else none) (fun k19 =>
       if v17 = 0 then
        k19 0
       else
        k19 1)) FU (1, mk I1 L1) = some r ∧ PQm d a I L r.2 := by
    refine lp_ex (PJm d a I L) (fun (r : Unit × Mem) => PQm d a I L r.2) (if pK d a < 8 then pK d a + 1 else 8) (1, mk I1 L1) (Or.inl ⟨Nat.zero_le _, rfl, I1, L1, rfl, hc2, h25, hr0, fun j hj => absurd hj (Nat.not_lt_zero j)⟩) ?_ ?_ FU (FU_gt (by split <;> omega))
    · rintro k hkN ⟨v, h⟩ hJ
      have hk9 : k < 9 := by
        split at hkN <;> omega
      rcases hJ with ⟨hkK, hv, I2, L2, hh, q1, q2, q4, q5⟩ | ⟨hkK, hv, hq⟩
      rotate_left
      · exfalso
        split at hkN <;> omega
      have hk8 : k < 8 := by
        split at hkN <;> omega
      simp only at hv hh
      subst hv hh
      have q8 : ¬ (8 : Int32) ≤ nn k := fun e => by
        have := (nn_le (m := 8) (by omega) (by omega)).mp e
        omega
      have e62 : I2 62 0 = nn d := by rw [q1.2.1 0 (by decide), hM.1]
      have hPT := pN_le d (rwk d a k) (lst k)
      have hPT2 : pT d a k < 2147483648 := by unfold pT; omega
      -- the memory behind the part
      have hI3c : Ch [78] [25] [76, 77] I L (up1 (up1 I2 78 (up1 (I2 78) k (nn (pT d a k)))) 62 (up1 (I2 62) 25 (nn (k + 1)))) L2 := by
        refine ⟨fun r hr h0 => ?_, fun j hj => ?_, q1.2.2⟩
        · rw [up1_n _ _ h0, up1_n _ _ (fun e => hr (by simp [e]))]
          exact q1.1 r hr h0
        · rw [up1_s, up1_n _ _ (fun e => hj (by simp [e]))]
          exact q1.2.1 j hj
      have hI3P : Pm d a (up1 (up1 I2 78 (up1 (I2 78) k (nn (pT d a k)))) 62 (up1 (I2 62) 25 (nn (k + 1)))) (k + 1) := by
        intro j hj
        rw [up1_n _ _ (by decide), up1_s]
        simp only [up1_e]
        by_cases e : j = k
        · rw [if_pos e, e]
        · rw [if_neg e]
          exact q5 j (by omega)
      have hI3e : up1 (up1 I2 78 (up1 (I2 78) k (nn (pT d a k)))) 62 (up1 (I2 62) 25 (nn (k + 1))) 62 0 = nn d := by
        rw [up1_s, up1_n _ _ (by decide)]
        exact e62
      have hI325 : up1 (up1 I2 78 (up1 (I2 78) k (nn (pT d a k)))) 62 (up1 (I2 62) 25 (nn (k + 1))) 62 25 = nn (k + 1) := by rw [up1_s, up1_s]
      have hlk : ∀ (c : Int32 × Mem → Option (Unit × Mem)) (v22 : Int32), (gR 10 (mk I2 L2) 62 24).bind (fun v26 => (gI 10 (mk I2 L2) 62 25).bind fun v27 => (yI 11 (mk I2 L2) v26 v27 v22).bind fun h28 => (gI 10 h28 62 25).bind fun v29 => (pI 10 h28 62 25 (v29 + 1))) = some (mk (up1 (up1 I2 78 (up1 (I2 78) k v22)) 62 (up1 (I2 62) 25 (nn (k + 1)))) L2) := fun c v22 => by
        simp only [gR_62_24, gI_62, pI_62, q2, Option.bind_some, yI_78, nn_lt0 (k) (by omega), nn_nat (show k < 2147483648 by omega), show k < 8 by omega, not_false_eq_true, and_self, if_true, up1_n I2 _ (show 62 ≠ 78 by decide), nn_s]
      obtain ⟨L3, go1, go2, go3⟩ := goesOn_M (up1 (up1 I2 78 (up1 (I2 78) k (nn (pT d a k)))) 62 (up1 (I2 62) 25 (nn (k + 1)))) L2 hd hI3e (nn (pT d a k))
      have hnq : ∀ j, j ≤ d → nq d (nn (pT d a k)).toInt64 (L2 76) (d + 1) j = rwk d a (k + 1) j := fun j hj => by
        rw [nq_congr (r' := rwk d a k) (d + 1) (fun i hi => q4 i (by omega)), co_nq d hd _ _ hj]
        exact (if_pos hj).symm
      have hinq : inRw (nq d (nn (pT d a k)).toInt64 (L2 76) (d + 1)) (d + 1) = inRw (rwk d a (k + 1)) (d + 1) := by
        unfold inRw
        rw [Bool.eq_iff_iff, allB_iff, allB_iff]
        exact ⟨fun q j hj => by rw [← hnq j (by omega)]; exact q j hj, fun q j hj => by rw [hnq j (by omega)]; exact q j hj⟩
      rw [hinq] at go1
      have hI4c : Ch [78] [25] [76, 77] I L (up1 (up1 I2 78 (up1 (I2 78) k (nn (pT d a k)))) 62 (up1 (I2 62) 25 (nn (k + 1)))) L3 := ⟨hI3c.1, hI3c.2.1, fun r hr => (go2 r (fun e => hr (by simp [e])) (fun e => hr (by simp [e]))).trans (hI3c.2.2 r hr)⟩
      have hrow := rowAt_M (up1 (up1 I2 78 (up1 (I2 78) k (nn (pT d a k)))) 62 (up1 (I2 62) 25 (nn (k + 1)))) L2 hd hI3e q4 (nn (pT d a k)).toInt64
      by_cases hlt : k < pK d a
      · have hg := f2 k hlt
        unfold pGo at hg
        rw [Bool.and_eq_true, Bool.and_eq_true] at hg
        obtain ⟨g1, g2, g3⟩ := hg
        have hR : pRs d (rwk d a k) (lst k) = nn (pT d a k) := if_pos g1
        have hvn : ¬ hs (rwk d a k) (nn (pT d a k)).toInt64 (d + 1) = 0 := by
          have : ¬ pv d (rwk d a k) (pN d (rwk d a k) (lst k)) = 0 := by simpa using g2
          exact this
        refine ⟨(1, mk (up1 (up1 I2 78 (up1 (I2 78) k (nn (pT d a k)))) 62 (up1 (I2 62) 25 (nn (k + 1)))) L3), fun c => ?_, Or.inl ⟨hlt, rfl, _, L3, rfl, hI4c, hI325, fun j hj => (go3 j hj).trans (hnq j hj), hI3P⟩⟩
        simp only [one0, if_false, gI_62, q2, Option.bind_some, if_neg q8, jn_lst k (by omega), kd_62, if_true, greatest_M I2 L2 hd e62 q4 (lst_le k), hR, jn_lst3 (nn_nn hPT2), gR_62_24, pI_62, yI_78, nn_lt0 (k) (by omega), nn_nat (show k < 2147483648 by omega), show k < 8 by omega, not_false_eq_true, and_self, if_true, up1_n I2 _ (show 62 ≠ 78 by decide), nn_s, hrow, lg_cmp_eq, if_neg hvn, go1, if_pos g3]
      · have e8 : k = pK d a := by omega
        have hg := f3 (by omega)
        rw [← e8] at hg
        have hMp : pM d a = if pF d (rwk d a k) (lst k) = true then k + 1 else k := by
          unfold pM
          rw [← e8, if_pos hk8]
        by_cases g1 : pF d (rwk d a k) (lst k) = true
        rotate_left
        · rw [if_neg g1] at hMp
          have hR : pRs d (rwk d a k) (lst k) = -1 := if_neg g1
          refine ⟨(0, mk I2 L2), fun c => ?_, Or.inr ⟨by omega, rfl, I2, L2, rfl, q1, by rw [hMp, q2], by rw [hMp]; exact q5⟩⟩
          simp only [one0, if_false, gI_62, q2, Option.bind_some, if_neg q8, jn_lst k (by omega), kd_62, if_true, greatest_M I2 L2 hd e62 q4 (lst_le k), hR, jn_lst2 (show (-1 : Int32) < 0 by decide)]
        rw [if_pos g1] at hMp
        have hR : pRs d (rwk d a k) (lst k) = nn (pT d a k) := if_pos g1
        by_cases hv0 : hs (rwk d a k) (nn (pT d a k)).toInt64 (d + 1) = 0
        · refine ⟨(0, mk (up1 (up1 I2 78 (up1 (I2 78) k (nn (pT d a k)))) 62 (up1 (I2 62) 25 (nn (k + 1)))) L2), fun c => ?_, Or.inr ⟨by omega, rfl, _, L2, rfl, hI3c, by rw [hMp, hI325], by rw [hMp]; exact hI3P⟩⟩
          simp only [one0, if_false, gI_62, q2, Option.bind_some, if_neg q8, jn_lst k (by omega), kd_62, if_true, greatest_M I2 L2 hd e62 q4 (lst_le k), hR, jn_lst3 (nn_nn hPT2), gR_62_24, pI_62, yI_78, nn_lt0 (k) (by omega), nn_nat (show k < 2147483648 by omega), show k < 8 by omega, not_false_eq_true, and_self, if_true, up1_n I2 _ (show 62 ≠ 78 by decide), nn_s, hrow, lg_cmp_eq, if_pos hv0]
        have g3 : ¬ inRw (rwk d a (k + 1)) (d + 1) = true := fun e => by
          unfold pGo at hg
          rw [g1, e, show decide (pv d (rwk d a k) (pN d (rwk d a k) (lst k)) = 0) = false from decide_eq_false hv0] at hg
          exact absurd hg (by decide)
        refine ⟨(0, mk (up1 (up1 I2 78 (up1 (I2 78) k (nn (pT d a k)))) 62 (up1 (I2 62) 25 (nn (k + 1)))) L3), fun c => ?_, Or.inr ⟨by omega, rfl, _, L3, rfl, hI4c, by rw [hMp, hI325], by rw [hMp]; exact hI3P⟩⟩
        simp only [one0, if_false, gI_62, q2, Option.bind_some, if_neg q8, jn_lst k (by omega), kd_62, if_true, greatest_M I2 L2 hd e62 q4 (lst_le k), hR, jn_lst3 (nn_nn hPT2), gR_62_24, pI_62, yI_78, nn_lt0 (k) (by omega), nn_nat (show k < 2147483648 by omega), show k < 8 by omega, not_false_eq_true, and_self, if_true, up1_n I2 _ (show 62 ≠ 78 by decide), nn_s, hrow, lg_cmp_eq, if_neg hv0, go1, if_neg g3]
    · rintro ⟨v, h⟩ hJ
      by_cases h8 : pK d a < 8
      · rw [if_pos h8] at hJ
        rcases hJ with ⟨hkK, -⟩ | ⟨-, hv, hq⟩
        · omega
        · simp only at hv hq
          subst hv
          exact ⟨((), h), fun c => rfl, hq⟩
      · rw [if_neg h8] at hJ
        have e8 : pK d a = 8 := by omega
        rcases hJ with ⟨-, hv, I2, L2, hh, q1, q2, q4, q5⟩ | ⟨hkK, -⟩
        · simp only at hv hh
          subst hv hh
          have hMp : pM d a = 8 := if_neg h8
          refine ⟨((), mk I2 L2), fun c => ?_, I2, L2, rfl, q1, by rw [hMp, q2], by rw [hMp]; exact q5⟩
          simp only [one0, if_false, gI_62, q2, Option.bind_some, show (8 : Int32) ≤ nn 8 from Int32.le_refl _, if_true]
        · omega
  obtain ⟨r, k1, k2⟩ := key
  exact ⟨r, fun _ => k1, k2⟩
/-- the fraction, told by the reference -/
theorem conv_M {d : Nat} {a : Nat → Int64} {m : Nat} (hm : m ≤ 8) (hP : Pm d a I m) {k : Nat} (hk : k < m) : fX10_tellsConvergent 62 (nn k) (mk I L) = some ((), mk I (up1 L 62 (up1 (up1 (L 62) 26 (gA d a (k + 2))) 27 (gB d a (k + 2))))) := by
  unfold fX10_tellsConvergent
  simp only [pJ_62, Option.bind_some, up1_s, up1_up1]
  have hsw : ∀ (f : Nat → Int64) x y z, up1 (up1 (up1 f 26 x) 27 y) 26 z = up1 (up1 f 26 z) 27 y := fun f x y z => up1_mid f x y z (by decide)
  refine lp_for' (fun j => (gA d a j, gB d a j, nn j, mk I (up1 L 62 (up1 (up1 (L 62) 26 (gA d a (j + 1))) 27 (gB d a (j + 1)))))) rfl (k + 1) (fun j hj c => ?_) (fun c => ?_) (FU_gt (by omega))
  · have hA2 : gA d a (j + 2) = (nn (pT d a j)).toInt64 * gA d a (j + 1) + gA d a j := rfl
    have hB2 : gB d a (j + 2) = (nn (pT d a j)).toInt64 * gB d a (j + 1) + gB d a j := rfl
    simp only [nn_lt (show k < 2147483648 by omega) (show j < 2147483648 by omega), if_neg (show ¬ k < j by omega), gR_62_24, Option.bind_some, xI_78, nn_lt0 (j) (by omega), nn_nat (show j < 2147483648 by omega), show j < 8 by omega, not_false_eq_true, and_self, if_true, hP j (by omega), gJ_62, pJ_62, up1_s, up1_n (up1 (L 62) 26 (gA d a (j + 1))) _ (show 26 ≠ 27 by decide), up1_up1, hsw, ← hA2, ← hB2, nm, nn_s]
  · simp only [nn_lt (show k < 2147483648 by omega) (show k + 1 < 2147483648 by omega), Nat.lt_succ_self, if_true]
end PM
