/-- a loop that looks for the first place where something fails -/
theorem lp_find {σ ρ : Type} {f : (σ → Option ρ) → σ → Option ρ} (s : Nat → σ) {s0 : σ} {x y : Option ρ} (h0 : s0 = s 0) (N : Nat) (P : Nat → Prop) (hs : ∀ i, i < N → P i → ∀ k, f k (s i) = k (s (i + 1))) (hf : ∀ i, i < N → ¬ P i → (∀ j, j < i → P j) → ∀ k, f k (s i) = y) (he : ∀ k, f k (s N) = x) {n : Nat} (hn : N < n) (hd : ∀ i, P i ∨ ¬ P i) : ((∀ i, i < N → P i) ∧ lpF f n s0 = x) ∨ ((∃ i, i < N ∧ ¬ P i) ∧ lpF f n s0 = y) := by
  subst h0
  by_cases hall : ∀ i, i < N → P i
  · exact Or.inl ⟨hall, lp_for s N (fun i hi => hs i hi (hall i hi)) he n hn⟩
  · right
    have hex : ∃ i, i < N ∧ ¬ P i := by
      apply Classical.byContradiction
      intro h
      exact hall (fun i hi => (hd i).elim id (fun h2 => absurd ⟨i, hi, h2⟩ h))
    refine ⟨hex, ?_⟩
    have hmin : ∃ i, (i < N ∧ ¬ P i) ∧ ∀ j, j < i → P j := by
      have key : ∀ m, (∃ i, i < m ∧ i < N ∧ ¬ P i) → ∃ i, (i < N ∧ ¬ P i) ∧ ∀ j, j < i → P j := by
        intro m
        induction m with
        | zero => rintro ⟨i, h, _⟩; omega
        | succ m ih =>
          intro hi
          by_cases hm : ∃ i, i < m ∧ i < N ∧ ¬ P i
          · exact ih hm
          · obtain ⟨i, h1, h2, h3⟩ := hi
            have him : i = m := by
              apply Classical.byContradiction
              intro hne
              exact hm ⟨i, by omega, h2, h3⟩
            subst him
            exact ⟨i, ⟨h2, h3⟩, fun j hj => (hd j).elim id (fun h4 => absurd ⟨j, hj, by omega, h4⟩ hm)⟩
      obtain ⟨i, h1, h2⟩ := hex
      exact key (i + 1) ⟨i, by omega, h1, h2⟩
    obtain ⟨i, ⟨h1, h2⟩, h3⟩ := hmin
    exact lp_for s i (fun j hj => hs j (by omega) (h3 j hj)) (fun k => hf i h1 h2 h3 k) n (by omega)
theorem nn_j5 {j : Nat} (h : j < 5) : (¬ nn j < 0) ∧ (nn j).toNatClampNeg < 5 := nn_in h (by omega)
section MV
variable (I : Nat → Nat → Int32) (L : Nat → Nat → Int64)
/-- no number is beyond -/
def inR (t : Nat → Int64) (n : Nat) : Prop := ∀ j, j < n → -99 ≤ (t j).toInt ∧ (t j).toInt ≤ 99
theorem becomes_s (d : Nat) (hd : 2 ≤ d ∧ d ≤ 4) (hI : I 62 0 = nn d) : (inR (L 67) (d + 1) ∧ fX10_becomesTurned 62 (mk I L) = some (1, mk I (up1 L 63 (fun k => if k < d + 1 then L 67 k else L 63 k)))) ∨ (¬ inR (L 67) (d + 1) ∧ fX10_becomesTurned 62 (mk I L) = some (0, mk I L)) := by
  unfold fX10_becomesTurned
  have h := lp_find (f := fun k3 ((v1, h2) : Int32 × Mem) =>
      (gI 10 h2 62 0).bind fun v5 =>
      if v5 < v1 then
       lpF (fun k14 ((v12, h13) : Int32 × Mem) =>
        (gI 10 h13 62 0).bind fun v16 =>
        if v16 < v12 then
         some ((1 : Int32), h13)
        else
         (gR 10 h13 62 1).bind fun v17 =>
         (gR 10 h13 62 10).bind fun v18 =>
         (xJ h13 v18 v12).bind fun v19 =>
         (yJ h13 v17 v12 v19).bind fun h20 =>
         nm (v12 + 1 : Int32) fun v21 =>
         k14 (v21, h20)) FU (0, h2)
      else
       (gR 10 h2 62 10).bind fun v6 =>
       (xJ h2 v6 v1).bind fun v7 =>
       (fX10_in v7 (-99) 99 h2).bind (fun ((v9, h8) : Int32 × Mem) =>
        if v9 = 0 then
         some ((0 : Int32), h8)
        else
         nm (v1 + 1 : Int32) fun v10 =>
         k3 (v10, h8))) (s0 := (0, mk I L)) (x := some ((1 : Int32), mk I (up1 L 63 (fun k => if k < d + 1 then L 67 k else L 63 k)))) (y := some ((0 : Int32), mk I L)) (n := FU) (fun i => (nn i, mk I L)) rfl (d + 1) (fun j => -99 ≤ (L 67 j).toInt ∧ (L 67 j).toInt ≤ 99) ?_ ?_ ?_ (FU_gt (by omega)) (fun j => Classical.em _)
  · rcases h with ⟨h1, h2⟩ | ⟨⟨j, h1, h3⟩, h2⟩
    · exact Or.inl ⟨h1, h2⟩
    · exact Or.inr ⟨fun h4 => h3 (h4 j h1), h2⟩
  · intro i hi hP k
    simp only [gI_62, gR_62_10, hI, Option.bind_some, nn_lt (show d < 2147483648 by omega) (show i < 2147483648 by omega), show ¬ d < i by omega, if_false, xJ_67, nn_lt0 (i) (by omega), nn_nat (show i < 2147483648 by omega), show i < 5 by omega, not_false_eq_true, and_self, if_true, Option.bind_some, in_s, Int64.reduceToInt, b10, hP, not_true, if_false, nm, nn_s]
  · intro i hi hP _ k
    simp only [gI_62, gR_62_10, hI, Option.bind_some, nn_lt (show d < 2147483648 by omega) (show i < 2147483648 by omega), show ¬ d < i by omega, if_false, xJ_67, nn_lt0 (i) (by omega), nn_nat (show i < 2147483648 by omega), show i < 5 by omega, not_false_eq_true, and_self, if_true, Option.bind_some, in_s, Int64.reduceToInt, b10, hP, if_true]
  · intro k
    simp only [gI_62, hI, Option.bind_some, nn_lt (show d < 2147483648 by omega) (show d + 1 < 2147483648 by omega), Nat.lt_succ_self, if_true]
    refine lp_for' (fun i => (nn i, mk I (up1 L 63 (fun k => if k < i then L 67 k else L 63 k)))) ?_ (d + 1) (fun i hi k2 => ?_) (fun k2 => ?_) (FU_gt (by omega))
    · rw [show (fun k => if k < 0 then L 67 k else L 63 k) = L 63 from by funext k; simp, up1_id]
      rfl
    · simp only [gI_62, gR_62_10, gR_62_1, hI, Option.bind_some, nn_lt (show d < 2147483648 by omega) (show i < 2147483648 by omega), show ¬ d < i by omega, if_false, xJ_67, yJ_63, nn_lt0 (i) (by omega), nn_nat (show i < 2147483648 by omega), show i < 5 by omega, not_false_eq_true, and_self, if_true, Option.bind_some, up1_e, Nat.reduceEqDiff, reduceIte, up1_up1, nm, nn_s]
      congr 4
      funext q
      simp only [up1_e]
      by_cases hq : q = i
      · subst hq
        simp
      · by_cases h2 : q < i
        · simp [hq, h2, show q < i + 1 by omega]
        · simp [hq, h2, show ¬ q < i + 1 by omega]
    · simp only [gI_62, hI, Option.bind_some, nn_lt (show d < 2147483648 by omega) (show d + 1 < 2147483648 by omega), Nat.lt_succ_self, if_true]
end MV
