section MM
variable (I : Nat → Nat → Int32) (L : Nat → Nat → Int64)
theorem turnMr {d : Nat} {a : Nat → Int64} (hA : AM I L d a) (hV : VA d a) (u v w z : Int64) : ∃ L', (if mKd (mk I L) 62 = 10 then (fX10_turns 62 u v w z (mk I L)).bind (fun ((_u, h2) : Unit × Mem) =>
   if mKd h2 62 = 10 then (fX10_becomesTurned 62 h2).bind (fun ((v4, h3) : Int32 × Mem) =>
    if v4 = 0 ∨ v4 = 1 then some (v4, h3) else none) else none) else none) = some (if tnOK d a u v w z = true then 1 else 0, mk I L') ∧ AM I L' d (tnA d a u v w z) ∧ (∀ r, r ≠ 63 → r ≠ 67 → r ≠ 68 → L' r = L r) := by
  obtain ⟨L1, L', h1, h2, h3, h4⟩ := turnM I L hA hV u v w z
  refine ⟨L', ?_, h3, h4⟩
  simp only [kd_62, if_true, h1, Option.bind_some]
  exact bool_ret h2
theorem movesM {d : Nat} {a : Nat → Int64} (hA : AM I L d a) (hV : VA d a) (m : Int32) (hm : 0 ≤ m.toInt ∧ m.toInt < 5) : ∃ L', fX10_moves 62 m (mk I L) = some (if mvOK d a m = true then 1 else 0, mk I L') ∧ AM I L' d (mvA d a m) ∧ (∀ r, r ≠ 63 → r ≠ 67 → r ≠ 68 → L' r = L r) := by
  unfold fX10_moves
  rcases mv_cases hm with rfl | rfl | rfl | rfl | rfl
  · rw [if_pos rfl]
    exact turnMr I L hA hV 1 1 0 1
  · rw [if_neg (by decide), if_pos rfl]
    exact turnMr I L hA hV 1 (-1) 0 1
  · rw [if_neg (by decide), if_neg (by decide), if_pos rfl]
    exact turnMr I L hA hV 0 1 1 0
  · rw [if_neg (by decide), if_neg (by decide), if_neg (by decide), if_pos rfl]
    exact turnMr I L hA hV (-1) 0 0 1
  · rw [if_neg (by decide), if_neg (by decide), if_neg (by decide), if_neg (by decide)]
    have hd := hV.1
    have hI := hA.1
    have hB := becomes_s I (up1 L 67 (fun k => if k < d + 1 then -(L 63 k) else L 67 k)) d hd hI
    have hR : inR ((up1 L 67 (fun k => if k < d + 1 then -(L 63 k) else L 67 k)) 67) (d + 1) := by
      intro j hj
      rw [up1_s, if_pos hj, hA.2 j (by omega), neg_toInt (hV.2.1 j (by omega))]
      have := hV.2.1 j (by omega)
      omega
    rcases hB with ⟨-, hB⟩ | ⟨h1, -⟩
    · refine ⟨up1 (up1 L 67 (fun k => if k < d + 1 then -(L 63 k) else L 67 k)) 63 (fun k => if k < d + 1 then (up1 L 67 (fun k => if k < d + 1 then -(L 63 k) else L 67 k)) 67 k else (up1 L 67 (fun k => if k < d + 1 then -(L 63 k) else L 67 k)) 63 k), ?_, ⟨hI, fun j hj => ?_⟩, fun r r1 r2 r3 => ?_⟩
      rotate_left
      · rw [up1_s]
        show _ = -a j
        by_cases hjd : j < d + 1
        · rw [if_pos hjd, up1_s, if_pos hjd, hA.2 j hj]
        · rw [if_neg hjd, up1_n _ _ (by decide), hA.2 j hj, hV.2.2 j hj (by omega)]
          rfl
      · rw [up1_n _ _ r1, up1_n _ _ r2]
      · refine lp_for' (fun i => (nn i, mk I (up1 L 67 (fun k => if k < i then -(L 63 k) else L 67 k)))) ?_ (d + 1) (fun i hi k => ?_) (fun k => ?_) (FU_gt (by omega))
        · rw [show (fun k => if k < 0 then -(L 63 k) else L 67 k) = L 67 from by funext k; simp, up1_id]
          rfl
        · simp only [gI_62, hI, gR_62_10, gR_62_1, Option.bind_some, nn_lt (show d < 2147483648 by omega) (show i < 2147483648 by omega), show ¬ d < i by omega, if_false, xJ_63, yJ_67, nn_lt0 (i) (by omega), nn_nat (show i < 2147483648 by omega), show i < 5 by omega, not_false_eq_true, and_self, if_true, up1_e, Nat.reduceEqDiff, reduceIte, up1_up1, nm, nn_s]
          congr 4
          funext q
          simp only [up1_e]
          by_cases hq : q = i
          · subst hq
            simp
          · by_cases h2 : q < i
            · simp [hq, h2, show q < i + 1 by omega]
            · simp [hq, h2, show ¬ q < i + 1 by omega]
        · simp only [gI_62, hI, Option.bind_some, nn_lt (show d < 2147483648 by omega) (show d + 1 < 2147483648 by omega), Nat.lt_succ_self, if_true, kd_62]
          rw [hB]
          rfl
    · exact absurd hR h1
/-- what may have changed: rows of ints (the reference's own apart), the reference's fields, rows of longs -/
def Ch (S K T : List Nat) (I : Nat → Nat → Int32) (L : Nat → Nat → Int64) (I' : Nat → Nat → Int32) (L' : Nat → Nat → Int64) : Prop := (∀ r, r ∉ S → r ≠ 62 → I' r = I r) ∧ (∀ k, k ∉ K → I' 62 k = I 62 k) ∧ ∀ r, r ∉ T → L' r = L r
theorem Ch.rf {S K T : List Nat} : Ch S K T I L I L := ⟨fun _ _ _ => rfl, fun _ _ => rfl, fun _ _ => rfl⟩
theorem Ch.tr {S K T S' K' T' : List Nat} {I I' I'' : Nat → Nat → Int32} {L L' L'' : Nat → Nat → Int64} (h1 : Ch S K T I L I' L') (h2 : Ch S' K' T' I' L' I'' L'') : Ch (S ++ S') (K ++ K') (T ++ T') I L I'' L'' :=
  ⟨fun r hr h0 => (h2.1 r (fun h => hr (List.mem_append_right _ h)) h0).trans (h1.1 r (fun h => hr (List.mem_append_left _ h)) h0), fun k hk => (h2.2.1 k (fun h => hk (List.mem_append_right _ h))).trans (h1.2.1 k (fun h => hk (List.mem_append_left _ h))), fun r hr => (h2.2.2 r (fun h => hr (List.mem_append_right _ h))).trans (h1.2.2 r (fun h => hr (List.mem_append_left _ h)))⟩
theorem Ch.mono {S K T S' K' T' : List Nat} {I I' : Nat → Nat → Int32} {L L' : Nat → Nat → Int64} (h : Ch S K T I L I' L') (h1 : ∀ r ∈ S, r ∈ S') (h2 : ∀ r ∈ K, r ∈ K') (h3 : ∀ r ∈ T, r ∈ T') : Ch S' K' T' I L I' L' := ⟨fun r hr h0 => h.1 r (fun q => hr (h1 r q)) h0, fun k hk => h.2.1 k (fun q => hk (h2 k q)), fun r hr => h.2.2 r (fun q => hr (h3 r q))⟩
theorem ChI {r : Nat} {f : Nat → Int32} (S : List Nat) (K T : List Nat) (h : r ∈ S) (h62 : r ≠ 62) : Ch S K T I L (up1 I r f) L := ⟨fun q hq _ => up1_n _ _ (fun e => hq (e ▸ h)), fun k _ => by rw [up1_n _ _ (Ne.symm h62)], fun _ _ => rfl⟩
theorem ChK {k : Nat} {v : Int32} (S : List Nat) (K T : List Nat) (h : k ∈ K) : Ch S K T I L (up1 I 62 (up1 (I 62) k v)) L := ⟨fun q _ h0 => up1_n _ _ h0, fun j hj => by rw [up1_s]; exact up1_n _ _ (fun e => hj (by rw [e]; exact h)), fun _ _ => rfl⟩
theorem ChL {r : Nat} {f : Nat → Int64} (S : List Nat) (K T : List Nat) (h : r ∈ T) : Ch S K T I L I (up1 L r f) := ⟨fun _ _ _ => rfl, fun _ _ => rfl, fun q hq => up1_n _ _ (fun e => hq (e ▸ h))⟩
/-- THE FORM, on both sides -/
def RelN (I : Nat → Nat → Int32) (L : Nat → Nat → Int64) : Prop := ∃ d a, AC 4 I d a ∧ AM I L d a ∧ VA d a
/-- a call on both sides: one answer -/
def Both (f g : Mem → Option (Int32 × Mem)) (I : Nat → Nat → Int32) (L : Nat → Nat → Int64) (P : (Nat → Nat → Int32) → (Nat → Nat → Int64) → Prop) : Prop := ∃ r I1 L1 I2 L2, f (mk I L) = some (r, mk I1 L1) ∧ g (mk I1 L1) = some (r, mk I2 L2) ∧ P I2 L2
def BothL (f g : Mem → Option (Int64 × Mem)) (I : Nat → Nat → Int32) (L : Nat → Nat → Int64) (P : (Nat → Nat → Int32) → (Nat → Nat → Int64) → Prop) : Prop := ∃ r I1 L1 I2 L2, f (mk I L) = some (r, mk I1 L1) ∧ g (mk I1 L1) = some (r, mk I2 L2) ∧ P I2 L2
theorem AM.ch {S K T : List Nat} {I I' : Nat → Nat → Int32} {L L' : Nat → Nat → Int64} {d : Nat} {a : Nat → Int64} (h : AM I L d a) (c : Ch S K T I L I' L') (h0 : 0 ∉ K) (h1 : 63 ∉ T) : AM I' L' d a := ⟨by rw [c.2.1 0 h0]; exact h.1, fun j hj => by rw [c.2.2 63 h1]; exact h.2 j hj⟩
theorem AC.ch {S K T : List Nat} {I I' : Nat → Nat → Int32} {L L' : Nat → Nat → Int64} {d F : Nat} {a : Nat → Int64} (h : AC F I d a) (c : Ch S K T I L I' L') (h0 : F ∉ S) (h1 : F + 1 ∉ S) (h2 : F ≠ 62) (h3 : F + 1 ≠ 62) : AC F I' d a := ⟨by rw [c.1 F h0 h2]; exact h.1, fun j hj => by rw [c.1 (F + 1) h1 h3]; exact h.2 j hj⟩
theorem chC {F : Nat} {I I' : Nat → Nat → Int32} {L L' : Nat → Nat → Int64} (h1 : ∀ r, r ≠ F → I' r = I r) (h2 : ∀ r, r ≠ F + 1 → r ≠ F + 2 → L' r = L r) (h3 : F ≠ 62) : Ch [F] [] [F + 1, F + 2] I L I' L' := ⟨fun r hr _ => h1 r (fun e => hr (by simp [e])), fun k _ => by rw [h1 62 (Ne.symm h3)], fun r hr => h2 r (fun e => hr (by simp [e])) (fun e => hr (by simp [e]))⟩
theorem chM {I : Nat → Nat → Int32} {L L' : Nat → Nat → Int64} (h2 : ∀ r, r ≠ 63 → r ≠ 67 → r ≠ 68 → L' r = L r) : Ch [] [] [63, 67, 68] I L I L' := ⟨fun _ _ _ => rfl, fun _ _ => rfl, fun r hr => h2 r (fun e => hr (by simp [e])) (fun e => hr (by simp [e])) (fun e => hr (by simp [e]))⟩
theorem ite10 {c : Prop} [Decidable c] {α : Type} (x y : α) : (if (if c then (1 : Int32) else 0) = 0 then x else y) = if c then y else x := by by_cases h : c <;> simp [h]
theorem pair_move (m : Int32) (R : RelN I L) : Both (fX9_move 1 m) (fX10_move 62 m) I L (fun I' L' => RelN I' L' ∧ Ch [5] [] [6, 7, 63, 67, 68] I L I' L') := by
  obtain ⟨d, a, hC, hM, hV⟩ := R
  by_cases hm : 0 ≤ m.toInt ∧ m.toInt < 5
  · obtain ⟨I1, L1, c1, c2, c3, c4⟩ := moveC_4 I L hC hV m hm
    have k1 := chC (F := 5) (L := L) (L' := L1) c3 c4 (by decide)
    obtain ⟨L2, m1, m2, m3⟩ := movesM I1 L1 (hM.ch k1 (by decide) (by decide)) hV m hm
    have k2 := chM (I := I1) m3
    refine ⟨if mvOK d a m = true then 1 else -3, I1, L1, I1, L2, ?_, ?_, ⟨d, mvA d a m, c2, m2, VA_mv hV m⟩, k1.tr k2⟩
    · unfold fX9_move
      simp only [isMove_s, if_pos hm, Option.bind_some, show ¬ (1 : Int32) = 0 by decide, if_false, gR_1_0, gR_2_0, gR_3_0, kd_4, if_true, c1, ite10]
      split <;> rfl
    · unfold fX10_move
      simp only [in_s, i64_of32, Int64.reduceToInt, if_pos (show 0 ≤ m.toInt ∧ m.toInt ≤ 4 by omega), Option.bind_some, show ¬ (1 : Int32) = 0 by decide, if_false, kd_62, if_true, m1, ite10]
      split <;> rfl
  · refine ⟨-1, I, L, I, L, ?_, ?_, ⟨d, a, hC, hM, hV⟩, Ch.rf I L⟩
    · unfold fX9_move
      simp only [isMove_s, if_neg hm, Option.bind_some, if_true]
    · unfold fX10_move
      simp only [in_s, i64_of32, Int64.reduceToInt, if_neg (show ¬ (0 ≤ m.toInt ∧ m.toInt ≤ 4) by omega), Option.bind_some, if_true]
theorem isTurn_s (u : Int32) (h : Mem) : fX9_isTurn u h = some (if -9 ≤ u.toInt ∧ u.toInt ≤ 9 then 1 else 0, h) := by
  unfold fX9_isTurn
  rw [between_s]
  exact bool_ret rfl
theorem pair_turn (u v w z : Int32) (R : RelN I L) : Both (fX9_turn 1 u v w z) (fX10_turn 62 u v w z) I L (fun I' L' => RelN I' L' ∧ Ch [5] [] [6, 7, 63, 67, 68] I L I' L') := by
  obtain ⟨d, a, hC, hM, hV⟩ := R
  unfold fX9_turn fX10_turn Both
  simp only [isTurn_s, in_s, i64_of32, Int64.reduceToInt, Option.bind_some, ite10, gR_1_0, gR_2_0, gR_3_0, kd_4, kd_62, if_true]
  by_cases h1 : -9 ≤ u.toInt ∧ u.toInt ≤ 9
  · by_cases h2 : -9 ≤ v.toInt ∧ v.toInt ≤ 9
    · by_cases h3 : -9 ≤ w.toInt ∧ w.toInt ≤ 9
      · by_cases h4 : -9 ≤ z.toInt ∧ z.toInt ≤ 9
        · simp only [if_pos h1, if_pos h2, if_pos h3, if_pos h4]
          obtain ⟨I1, L1, c1, c2, c3, c4⟩ := turnC_4 I L hC hV u v w z
          have k1 := chC (F := 5) (L := L) (L' := L1) c3 c4 (by decide)
          obtain ⟨L3, L2, m0, m1, m2, m3⟩ := turnM I1 L1 (hM.ch k1 (by decide) (by decide)) hV u.toInt64 v.toInt64 w.toInt64 z.toInt64
          have k2 := chM (I := I1) m3
          refine ⟨if tnOK d a u.toInt64 v.toInt64 w.toInt64 z.toInt64 = true then 1 else -3, I1, L1, I1, L2, ?_, ?_, ⟨d, _, c2, m2, VA_tn hV _ _ _ _⟩, k1.tr k2⟩
          · simp only [c1, Option.bind_some, ite10]
            split <;> rfl
          · simp only [kd_62, if_true, m0, m1, Option.bind_some, ite10]
            split <;> rfl
        · exact ⟨-2, I, L, I, L, by simp only [if_pos h1, if_pos h2, if_pos h3, if_neg h4], by simp only [if_pos h1, if_pos h2, if_pos h3, if_neg h4], ⟨d, a, hC, hM, hV⟩, Ch.rf I L⟩
      · exact ⟨-2, I, L, I, L, by simp only [if_pos h1, if_pos h2, if_neg h3], by simp only [if_pos h1, if_pos h2, if_neg h3], ⟨d, a, hC, hM, hV⟩, Ch.rf I L⟩
    · exact ⟨-2, I, L, I, L, by simp only [if_pos h1, if_neg h2], by simp only [if_pos h1, if_neg h2], ⟨d, a, hC, hM, hV⟩, Ch.rf I L⟩
  · exact ⟨-2, I, L, I, L, by simp only [if_neg h1], by simp only [if_neg h1], ⟨d, a, hC, hM, hV⟩, Ch.rf I L⟩
end MM
