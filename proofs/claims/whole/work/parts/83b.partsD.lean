theorem fillF {α : Type} (r f : Nat → α) (i : Nat) {v : α} (hv : v = f i) : up1 (fun j => if j < i then f j else r j) i v = fun j => if j < i + 1 then f j else r j := by
  subst hv
  funext j
  simp only [up1_e]
  by_cases h1 : j = i
  · subst h1
    rw [if_pos rfl, if_pos (show j < j + 1 by omega)]
  · by_cases h2 : j < i
    · rw [if_neg h1, if_pos h2, if_pos (show j < i + 1 by omega)]
    · rw [if_neg h1, if_neg h2, if_neg (show ¬ j < i + 1 by omega)]
theorem fillF0 {α : Type} (r f : Nat → α) : (fun j => if j < 0 then f j else r j) = r := by
  funext j
  exact if_neg (Nat.not_lt_zero j)
theorem jn_lst {β : Type} (k : Nat) (hk : k < 1000) (F : Int32 → β) : jn F (fun k20 => if nn k = 0 then k20 0 else k20 1) = F (nn (lst k)) := by
  show (if nn k = 0 then F 0 else F 1) = F (nn (lst k))
  unfold lst
  by_cases h : k = 0
  · rw [if_pos ((nn_eq0 k (by omega)).mpr h), if_pos h]
    rfl
  · rw [if_neg (fun e => h ((nn_eq0 k (by omega)).mp e)), if_neg h]
    rfl
theorem hr_congr {n : Int64} {r r' : Nat → Int64} : ∀ (m : Nat), (∀ j, j ≤ m → r j = r' j) → hr n r m = hr n r' m
  | 0, h => h 0 (Nat.le_refl 0)
  | m + 1, h => by
    show r (m + 1) + n * hr n r m = r' (m + 1) + n * hr n r' m
    rw [hr_congr m (fun j hj => h j (by omega)), h (m + 1) (Nat.le_refl _)]
theorem co_congr {d : Nat} {n : Int64} {r r' : Nat → Int64} (h : ∀ j, j < 5 → r j = r' j) : ∀ e j, j < 5 → co d n r e j = co d n r' e j
  | 0 => h
  | e + 1 => fun j hj => by
    show ci n (co d n r e) (d - e) j = ci n (co d n r' e) (d - e) j
    rw [ci_hr, ci_hr]
    by_cases h1 : j ≤ d - e
    · rw [if_pos h1, if_pos h1]
      exact hr_congr j (fun i hi => co_congr h e i (by omega))
    · rw [if_neg h1, if_neg h1]
      exact co_congr h e j hj
theorem inRw5 {d : Nat} (hd : 2 ≤ d ∧ d ≤ 4) {r r' : Nat → Int64} (h : ∀ j, j < 5 → r j = r' j) (h0 : ∀ j, j < 5 → d < j → r' j = 0) : inRw r 5 = inRw r' (d + 1) := by
  unfold inRw
  rw [Bool.eq_iff_iff, allB_iff, allB_iff]
  constructor
  · intro q j hj
    rw [← h j (by omega)]
    exact q j (by omega)
  · intro q j hj
    rw [h j hj]
    by_cases e : j < d + 1
    · exact q j e
    · rw [h0 j hj (by omega)]
      decide
section PD
variable (I : Nat → Nat → Int32) (L : Nat → Nat → Int64)
def PQ (d : Nat) (a : Nat → Int64) (I : Nat → Nat → Int32) (L : Nat → Nat → Int64) (r : Unit × Mem) : Prop := ∃ I' L', r.2 = mk I' L' ∧ Ch [40, 42] [] [41, 43, 44] I L I' L' ∧ I' 40 0 = nn (pM d a) ∧ Pk d a I' L' (pM d a)
def PI (d : Nat) (a : Nat → Int64) (I : Nat → Nat → Int32) (L : Nat → Nat → Int64) (k : Nat) (s : Int32 × Mem) : Prop := s.1 = nn k ∧ ∃ I' L', s.2 = mk I' L' ∧ Ch [40, 42] [] [41, 43, 44] I L I' L' ∧ I' 40 1 = nn d ∧ I' 40 0 = nn k ∧ (∀ j, j < 5 → L' 41 j = rwk d a k j) ∧ Pk d a I' L' k
theorem kp_ch {I' : Nat → Nat → Int32} {L' : Nat → Nat → Int64} (h : Ch [40, 42] [] [41, 43, 44] I L I' L') (k : Nat) (n : Int32) (x y : Int64) : Ch [40, 42] [] [41, 43, 44] I L (kpI I' k n) (kpL L' k x y) := by
  unfold kpI kpL
  refine ⟨fun r hr h0 => ?_, fun q hq => ?_, fun r hr => ?_⟩
  · rw [up1_n _ _ (fun e => hr (by simp [e])), up1_n _ _ (fun e => hr (by simp [e]))]
    exact h.1 r hr h0
  · rw [up1_n _ _ (by decide), up1_n _ _ (by decide)]
    exact h.2.1 q hq
  · rw [up1_n _ _ (fun e => hr (by simp [e])), up1_n _ _ (fun e => hr (by simp [e]))]
    exact h.2.2 r hr
theorem kp_P {d : Nat} {a : Nat → Int64} {I' : Nat → Nat → Int32} {L' : Nat → Nat → Int64} {k : Nat} (h : Pk d a I' L' k) : Pk d a (kpI I' k (nn (pT d a k))) (kpL L' k (gA d a (k + 2)) (gB d a (k + 2))) (k + 1) := by
  intro j hj
  unfold kpI kpL
  rw [up1_n (up1 I' 42 _) _ (show 42 ≠ 40 by decide), up1_s, up1_n (up1 L' 43 _) _ (show 43 ≠ 44 by decide), up1_s, up1_s]
  simp only [up1_e]
  by_cases e : j = k
  · subst e
    exact ⟨if_pos rfl, if_pos rfl, if_pos rfl⟩
  · rw [if_neg e, if_neg e, if_neg e]
    exact h j (by omega)
theorem Pk_41 {d : Nat} {a : Nat → Int64} {I' : Nat → Nat → Int32} {L' : Nat → Nat → Int64} {k : Nat} {f : Nat → Int64} (h : Pk d a I' L' k) : Pk d a I' (up1 L' 41 f) k := by
  intro j hj
  rw [up1_n _ _ (by decide), up1_n _ _ (by decide)]
  exact h j hj
theorem look_40 {s : Sq} (hAC : AC 4 I s.1 s.2.1) (hV : VSt s) : ∃ r, fX3_look 40 4 (mk I L) = some r ∧ PQ s.1 s.2.1 I L r := by
  obtain ⟨d, a, m, b⟩ := s
  have hd : 2 ≤ d ∧ d ≤ 4 := hV.1.1
  have ha : ∀ j, j < 5 → d < j → a j = 0 := hV.1.2.2
  have hAC : AC 4 I d a := hAC
  unfold fX3_look
  simp only [pI_40, gI_4, hAC.1, Option.bind_some, up1_s, up1_up1, up1_n I _ (show 4 ≠ 40 by decide)]
  show ∃ r, _ = some r ∧ PQ d a I L r
  have hc1 : Ch [40, 42] [] [41, 43, 44] I L (up1 I 40 (up1 (up1 (I 40) 0 0) 1 (nn d))) L := ChI I L [40, 42] [] [41, 43, 44] (by simp) (by decide)
  have h400 : up1 I 40 (up1 (up1 (I 40) 0 0) 1 (nn d)) 40 0 = nn 0 := by
    rw [up1_s, up1_n _ _ (by decide), up1_s]
    rfl
  have h401 : up1 I 40 (up1 (up1 (I 40) 0 0) 1 (nn d)) 40 1 = nn d := by
    rw [up1_s, up1_s]
  have hA1 : AC 4 (up1 I 40 (up1 (up1 (I 40) 0 0) 1 (nn d))) d a := hAC.ch hc1 (by decide) (by decide) (by decide) (by decide)
  revert hc1 h400 h401 hA1
  generalize up1 I 40 (up1 (up1 (I 40) 0 0) 1 (nn d)) = I1
  intro hc1 h400 h401 hA1
  refine lp_ex (fun i (s : Int32 × Mem) => s = (nn i, mk I1 (up1 L 41 (fun k => if k < i then a k else L 41 k)))) (PQ d a I L) 5 (0, mk I1 L) ?_ ?_ ?_ FU (FU_gt (by omega))
  · rw [fillF0, up1_id]
    rfl
  · rintro i hi _ rfl
    refine ⟨(nn (i + 1), mk I1 (up1 L 41 (fun k => if k < i + 1 then a k else L 41 k))), fun k => ?_, rfl⟩
    have hg : fX2_get 4 (nn i) (mk I1 (up1 L 41 (fun k => if k < i then a k else L 41 k))) = some (if i ≤ d then I1 5 i else 0, mk I1 (up1 L 41 (fun k => if k < i then a k else L 41 k))) := by
      rw [get_4, hA1.1, nn_toInt (show i < 2147483648 by omega), nn_toInt (show d < 2147483648 by omega), nn_nat (show i < 2147483648 by omega)]
      by_cases e : i ≤ d
      · rw [if_pos (by omega), if_pos e]
      · rw [if_neg (by omega), if_neg e]
    have hv : (if i ≤ d then I1 5 i else 0).toInt64 = a i := by
      by_cases e : i ≤ d
      · rw [if_pos e]
        exact hA1.2 i hi
      · rw [if_neg e, ha i hi (by omega)]
        rfl
    simp only [gR_40_2, ln_41, Option.bind_some, nn5_le i (by omega), show ¬ 5 ≤ i by omega, if_false, kd_4, if_true, hg, hv, yJ_41, nn_lt0 (i) (by omega), nn_nat (show i < 2147483648 by omega), show i < 5 by omega, not_false_eq_true, and_self, if_true, up1_s, up1_up1, nm, nn_s, fillF (L 41) a i rfl]
  rintro _ rfl
  simp only [gR_40_2, ln_41, Option.bind_some, nn5_le 5 (by omega), Nat.le_refl, if_true]
  have hc2 : Ch [40, 42] [] [41, 43, 44] I L I1 (up1 L 41 (fun k => if k < 5 then a k else L 41 k)) := (hc1.tr (ChL I1 L [] [] [41] (by simp))).mono (by simp) (by simp) (by simp)
  have hr0 : ∀ j, j < 5 → up1 L 41 (fun k => if k < 5 then a k else L 41 k) 41 j = rwk d a 0 j := fun j hj => by
    rw [up1_s, if_pos hj]
    rfl
  revert hc2 hr0
  generalize up1 L 41 (fun k => if k < 5 then a k else L 41 k) = L1
  intro hc2 hr0
  obtain ⟨f1, f2, f3⟩ := ff_all (pGo d a) 8
  have fK : ff (pGo d a) 8 = pK d a := rfl
  rw [fK] at f1 f2 f3
  have key : ∃ r, lpF (fun k17 ((v15, h16) : Int32 × Mem) =>
    if 8 ≤ v15 then
     some ((), h16)
    else
     jn (fun (v19 : Int32) =>
      if mKd h16 40 = 3 then (fX3_greatestFrom 40 v19 h16).bind (fun ((v23, h22) : Int32 × Mem) =>
       if 0 ≤ v23 then
        if mKd h22 40 = 3 then (fX3_keep 40 v23 h22).bind (fun ((_u, h24) : Unit × Mem) =>
         if mKd h24 40 = 3 then (fX3_at 40 v23 h24).bind (fun ((v26, h25) : Int64 × Mem) =>
          if (lg_cmp v26 0) = 0 then
           some ((), h25)
          else
           if mKd h25 40 = 3 then (fX3_goBehind 40 v23 h25).bind (fun ((_u, h27) : Unit × Mem) =>
            if mKd h27 40 = 3 then (fX3_isRowBeyond 40 h27).bind (fun ((v29, h28) : Int32 × Mem) =>
             if v29 = 0 then
              nm (v15 + 1 : Int32) fun v30 =>
              k17 (v30, h28)
             else
              some ((), h28)) else none) else none) else none) else none
       else
        some ((), h22)) else none) (fun k20 =>
      if v15 = 0 then
       k20 0
      else
       k20 1)) FU (0, mk I1 L1) = some r ∧ PQ d a I L r := by
    refine lp_ex (PI d a I L) (PQ d a I L) (pK d a) (0, mk I1 L1) ⟨rfl, I1, L1, rfl, hc2, h401, h400, hr0, fun j hj => absurd hj (Nat.not_lt_zero j)⟩ ?_ ?_ FU (FU_gt (by omega))
    · rintro k hk ⟨v, h⟩ ⟨hv, I2, L2, hh, q1, q2, q3, q4, q5⟩
      simp only at hv hh
      subst hv hh
      have hg := f2 k hk
      unfold pGo at hg
      rw [Bool.and_eq_true, Bool.and_eq_true] at hg
      obtain ⟨g1, g2, g3⟩ := hg
      have q8 : ¬ (8 : Int32) ≤ nn k := fun e => by
        have := (nn_le (m := 8) (by omega) (by omega)).mp e
        omega
      have hR : pRs d (rwk d a k) (lst k) = nn (pT d a k) := if_pos g1
      have hle : (0 : Int32) ≤ nn (pT d a k) := (nn_le (m := 0) (by omega) (by have := pN_le d (rwk d a k) (lst k); unfold pT; omega)).mpr (Nat.zero_le _)
      have hkp := keep_40 I2 L2 (show k < 8 by omega) q3 q5
      have hL3 : ∀ j, j < 5 → kpL L2 k (gA d a (k + 2)) (gB d a (k + 2)) 41 j = rwk d a k j := fun j hj => by
        unfold kpL
        rw [up1_n _ _ (by decide), up1_n _ _ (by decide)]
        exact q4 j hj
      have hI3 : kpI I2 k (nn (pT d a k)) 40 1 = nn d := by
        unfold kpI
        rw [up1_s, up1_n _ _ (by decide)]
        exact q2
      have hat := pat_40 (kpI I2 k (nn (pT d a k))) (kpL L2 k (gA d a (k + 2)) (gB d a (k + 2))) hd hI3 hL3 (nn (pT d a k))
      have hgo := goBehind_40 (kpI I2 k (nn (pT d a k))) (kpL L2 k (gA d a (k + 2)) (gB d a (k + 2))) hd hI3 (nn (pT d a k))
      have hvn : ¬ hs (rwk d a k) (nn (pT d a k)).toInt64 (d + 1) = 0 := by
        have : ¬ pv d (rwk d a k) (pN d (rwk d a k) (lst k)) = 0 := by simpa using g2
        exact this
      have hL4 : ∀ j, j < 5 → (up1 (kpL L2 k (gA d a (k + 2)) (gB d a (k + 2))) 41 (fun j => if j ≤ d then co d (nn (pT d a k)).toInt64 (kpL L2 k (gA d a (k + 2)) (gB d a (k + 2)) 41) d (d - j) else kpL L2 k (gA d a (k + 2)) (gB d a (k + 2)) 41 j)) 41 j = rwk d a (k + 1) j := fun j hj => by
        rw [up1_s]
        show _ = if j ≤ d then co d (nn (pN d (rwk d a k) (lst k))).toInt64 (rwk d a k) d (d - j) else 0
        by_cases e : j ≤ d
        · rw [if_pos e, if_pos e]
          exact co_congr hL3 d (d - j) (by omega)
        · rw [if_neg e, if_neg e, hL3 j hj]
          exact rwk_hi d a ha k j hj (by omega)
      have hin : inRw ((up1 (kpL L2 k (gA d a (k + 2)) (gB d a (k + 2))) 41 (fun j => if j ≤ d then co d (nn (pT d a k)).toInt64 (kpL L2 k (gA d a (k + 2)) (gB d a (k + 2)) 41) d (d - j) else kpL L2 k (gA d a (k + 2)) (gB d a (k + 2)) 41 j)) 41) 5 = true := (inRw5 hd hL4 (rwk_hi d a ha (k + 1))).trans g3
      refine ⟨(nn (k + 1), mk (kpI I2 k (nn (pT d a k))) (up1 (kpL L2 k (gA d a (k + 2)) (gB d a (k + 2))) 41 (fun j => if j ≤ d then co d (nn (pT d a k)).toInt64 (kpL L2 k (gA d a (k + 2)) (gB d a (k + 2)) 41) d (d - j) else kpL L2 k (gA d a (k + 2)) (gB d a (k + 2)) 41 j))), fun c => ?_, rfl, _, _, rfl, ?_, hI3, ?_, hL4, Pk_41 (kp_P q5)⟩
      · simp only [if_neg q8, jn_lst k (by omega), kd_40, if_true, greatest_40 I2 L2 hd q2 q4 (lst_le k), Option.bind_some, hR, if_pos hle, hkp, hat, lg_cmp_eq, if_neg hvn, hgo, beyond_40, if_pos hin, nm, nn_s]
      · exact ((kp_ch I L q1 k _ _ _).tr (ChL _ _ [] [] [41] (by simp))).mono (by simp) (by simp) (by simp)
      · unfold kpI
        rw [up1_s, up1_s]
    · rintro ⟨v, h⟩ ⟨hv, I2, L2, hh, q1, q2, q3, q4, q5⟩
      simp only at hv hh
      subst hv hh
      by_cases h8 : pK d a < 8
      rotate_left
      · have e8 : pK d a = 8 := by omega
        have hM : pM d a = 8 := if_neg h8
        refine ⟨((), mk I2 L2), fun c => ?_, I2, L2, rfl, q1, by rw [hM, q3, e8], by rw [hM, ← e8]; exact q5⟩
        simp only [e8, show (8 : Int32) ≤ nn 8 from Int32.le_refl _, if_true]
      generalize hk : pK d a = k at *
      have q8 : ¬ (8 : Int32) ≤ nn k := fun e => by
        have := (nn_le (m := 8) (by omega) (by omega)).mp e
        omega
      have hM : pM d a = if pF d (rwk d a k) (lst k) = true then k + 1 else k := by
        unfold pM
        rw [hk, if_pos h8]
      have hg := f3 h8
      by_cases g1 : pF d (rwk d a k) (lst k) = true
      rotate_left
      · rw [if_neg g1] at hM
        have hR : pRs d (rwk d a k) (lst k) = -1 := if_neg g1
        refine ⟨((), mk I2 L2), fun c => ?_, I2, L2, rfl, q1, by rw [hM, q3], by rw [hM]; exact q5⟩
        simp only [if_neg q8, jn_lst k (by omega), kd_40, if_true, greatest_40 I2 L2 hd q2 q4 (lst_le k), Option.bind_some, hR, show ¬ (0 : Int32) ≤ -1 by decide, if_false]
      rw [if_pos g1] at hM
      have hR : pRs d (rwk d a k) (lst k) = nn (pT d a k) := if_pos g1
      have hle : (0 : Int32) ≤ nn (pT d a k) := (nn_le (m := 0) (by omega) (by have := pN_le d (rwk d a k) (lst k); unfold pT; omega)).mpr (Nat.zero_le _)
      have hkp := keep_40 I2 L2 (show k < 8 by omega) q3 q5
      have hL3 : ∀ j, j < 5 → kpL L2 k (gA d a (k + 2)) (gB d a (k + 2)) 41 j = rwk d a k j := fun j hj => by
        unfold kpL
        rw [up1_n _ _ (by decide), up1_n _ _ (by decide)]
        exact q4 j hj
      have hI3 : kpI I2 k (nn (pT d a k)) 40 1 = nn d := by
        unfold kpI
        rw [up1_s, up1_n _ _ (by decide)]
        exact q2
      have hI30 : kpI I2 k (nn (pT d a k)) 40 0 = nn (k + 1) := by
        unfold kpI
        rw [up1_s, up1_s]
      have hat := pat_40 (kpI I2 k (nn (pT d a k))) (kpL L2 k (gA d a (k + 2)) (gB d a (k + 2))) hd hI3 hL3 (nn (pT d a k))
      have hgo := goBehind_40 (kpI I2 k (nn (pT d a k))) (kpL L2 k (gA d a (k + 2)) (gB d a (k + 2))) hd hI3 (nn (pT d a k))
      by_cases hv0 : hs (rwk d a k) (nn (pT d a k)).toInt64 (d + 1) = 0
      · refine ⟨((), mk (kpI I2 k (nn (pT d a k))) (kpL L2 k (gA d a (k + 2)) (gB d a (k + 2)))), fun c => ?_, _, _, rfl, kp_ch I L q1 k _ _ _, by rw [hM, hI30], by rw [hM]; exact kp_P q5⟩
        simp only [if_neg q8, jn_lst k (by omega), kd_40, if_true, greatest_40 I2 L2 hd q2 q4 (lst_le k), Option.bind_some, hR, if_pos hle, hkp, hat, lg_cmp_eq, if_pos hv0]
      have hL4 : ∀ j, j < 5 → (up1 (kpL L2 k (gA d a (k + 2)) (gB d a (k + 2))) 41 (fun j => if j ≤ d then co d (nn (pT d a k)).toInt64 (kpL L2 k (gA d a (k + 2)) (gB d a (k + 2)) 41) d (d - j) else kpL L2 k (gA d a (k + 2)) (gB d a (k + 2)) 41 j)) 41 j = rwk d a (k + 1) j := fun j hj => by
        rw [up1_s]
        show _ = if j ≤ d then co d (nn (pN d (rwk d a k) (lst k))).toInt64 (rwk d a k) d (d - j) else 0
        by_cases e : j ≤ d
        · rw [if_pos e, if_pos e]
          exact co_congr hL3 d (d - j) (by omega)
        · rw [if_neg e, if_neg e, hL3 j hj]
          exact rwk_hi d a ha k j hj (by omega)
      have hin : ¬ inRw ((up1 (kpL L2 k (gA d a (k + 2)) (gB d a (k + 2))) 41 (fun j => if j ≤ d then co d (nn (pT d a k)).toInt64 (kpL L2 k (gA d a (k + 2)) (gB d a (k + 2)) 41) d (d - j) else kpL L2 k (gA d a (k + 2)) (gB d a (k + 2)) 41 j)) 41) 5 = true := fun e => by
        have g3 := (inRw5 hd hL4 (rwk_hi d a ha (k + 1))).symm.trans e
        unfold pGo at hg
        rw [g1, g3, show decide (pv d (rwk d a k) (pN d (rwk d a k) (lst k)) = 0) = false from decide_eq_false hv0] at hg
        exact absurd hg (by decide)
      refine ⟨((), mk (kpI I2 k (nn (pT d a k))) (up1 (kpL L2 k (gA d a (k + 2)) (gB d a (k + 2))) 41 (fun j => if j ≤ d then co d (nn (pT d a k)).toInt64 (kpL L2 k (gA d a (k + 2)) (gB d a (k + 2)) 41) d (d - j) else kpL L2 k (gA d a (k + 2)) (gB d a (k + 2)) 41 j))), fun c => ?_, _, _, rfl, ?_, by rw [hM, hI30], by rw [hM]; exact Pk_41 (kp_P q5)⟩
      · simp only [if_neg q8, jn_lst k (by omega), kd_40, if_true, greatest_40 I2 L2 hd q2 q4 (lst_le k), Option.bind_some, hR, if_pos hle, hkp, hat, lg_cmp_eq, if_neg hv0, hgo, beyond_40, if_neg hin, one0, if_false]
      · exact ((kp_ch I L q1 k _ _ _).tr (ChL _ _ [] [] [41] (by simp))).mono (by simp) (by simp) (by simp)
  obtain ⟨r, k1, k2⟩ := key
  exact ⟨r, fun _ => k1, k2⟩
end PD
