/-- a loop with an invariant that comes, after N turns, to an answer of which Q holds -/
theorem lp_ex {σ ρ : Type} {f : (σ → Option ρ) → σ → Option ρ} (Inv : Nat → σ → Prop) (Q : ρ → Prop) : ∀ (N : Nat) (s0 : σ), Inv 0 s0 → (∀ i, i < N → ∀ s, Inv i s → ∃ s', (∀ k, f k s = k s') ∧ Inv (i + 1) s') → (∀ s, Inv N s → ∃ r, (∀ k, f k s = some r) ∧ Q r) → ∀ n, N < n → ∃ r, lpF f n s0 = some r ∧ Q r := by
  have key : ∀ (N m : Nat) (s0 : σ), Inv m s0 → (∀ i, i < N + m → ∀ s, Inv i s → ∃ s', (∀ k, f k s = k s') ∧ Inv (i + 1) s') → (∀ s, Inv (N + m) s → ∃ r, (∀ k, f k s = some r) ∧ Q r) → ∀ n, N < n → ∃ r, lpF f n s0 = some r ∧ Q r := by
    intro N
    induction N with
    | zero =>
      intro m s0 h0 _ he n hn
      cases n with
      | zero => omega
      | succ n =>
        obtain ⟨r, h1, h2⟩ := he s0 (by rw [Nat.zero_add]; exact h0)
        exact ⟨r, h1 _, h2⟩
    | succ N ih =>
      intro m s0 h0 hs he n hn
      cases n with
      | zero => omega
      | succ n =>
        obtain ⟨s', e1, e2⟩ := hs m (by omega) s0 h0
        obtain ⟨r, h1, h2⟩ := ih (m + 1) s' e2 (fun i hi => hs i (by omega)) (by rw [show N + (m + 1) = N + 1 + m by omega]; exact he) n (by omega)
        refine ⟨r, ?_, h2⟩
        show f (lpF f n) s0 = some r
        rw [e1]
        exact h1
  intro N s0 h0 hs he n hn
  exact key N 0 s0 h0 (fun i hi => hs i (by omega)) he n hn
/-- where clause k begins -/
def Pl (X : Nat → Int32) (n : Nat) : Nat → Nat
  | 0 => 0
  | k + 1 => clEnd X n (Pl X n k) + 1
def Go (X : Nat → Int32) (n k : Nat) : Bool := clOK X n (Pl X n k) && (decide (nx X n (clEnd X n (Pl X n k)) = 59) && decide (k < 11))
def lastC (X : Nat → Int32) (n : Nat) : Nat := ff (Go X n) 12
def whol (X : Nat → Int32) (n : Nat) : Bool := clOK X n (Pl X n (lastC X n)) && decide (n ≤ clEnd X n (Pl X n (lastC X n)))
theorem Pl_le (X : Nat → Int32) (n : Nat) : ∀ k, Pl X n k ≤ 8 * k
  | 0 => Nat.le_refl _
  | k + 1 => by
    have := Pl_le X n k
    have := clEnd_le X n (Pl X n k)
    show clEnd X n (Pl X n k) + 1 ≤ _
    omega
theorem lastC_lt (X : Nat → Int32) (n : Nat) : lastC X n < 12 := by
  have h := ff_all (Go X n) 12
  apply Classical.byContradiction
  intro h1
  have := h.2.1 11 (by have := h.1; unfold lastC at h1; omega)
  unfold Go at this
  simp at this
theorem Go_s (X : Nat → Int32) (n : Nat) {k : Nat} (h : k < lastC X n) : clOK X n (Pl X n k) = true ∧ nx X n (clEnd X n (Pl X n k)) = 59 ∧ k < 11 := by
  have h1 := (ff_all (Go X n) 12).2.1 k h
  unfold Go at h1
  simpa using h1
theorem Go_e (X : Nat → Int32) (n : Nat) : clOK X n (Pl X n (lastC X n)) = true → nx X n (clEnd X n (Pl X n (lastC X n))) = 59 → lastC X n = 11 := by
  intro h1 h2
  have h : Go X n (lastC X n) = false := (ff_all (Go X n) 12).2.2 (lastC_lt X n)
  have h3 := lastC_lt X n
  unfold Go at h
  rw [h1, h2] at h
  simp at h
  omega
theorem nx_end {X : Nat → Int32} {n p : Nat} (hX : ∀ j, j < 100 → 0 ≤ (X j).toInt) (hn : n ≤ 100) : nx X n p = -1 ↔ n ≤ p := by
  unfold nx
  by_cases h : p < n
  · rw [if_pos h]
    refine ⟨fun h1 => ?_, fun h1 => by omega⟩
    have := hX p (by omega)
    rw [h1] at this
    exact absurd this (by decide)
  · rw [if_neg h]
    exact ⟨fun _ => by omega, fun _ => rfl⟩
section FF
variable (I : Nat → Nat → Int32) (L : Nat → Nat → Int64)
theorem findFault_s (n : Nat) (hn : n ≤ 100) (hX : ∀ j, j < 100 → 0 ≤ (I 48 j).toInt) (e1 : I 45 0 = nn n) : ∃ I', fX5_findFault 45 (mk I L) = some (if whol (I 48) n = true then -1 else nn (clEnd (I 48) n (Pl (I 48) n (lastC (I 48) n))), mk I' L) ∧ Ch [45, 46, 47] [] [] I L I' L ∧ (whol (I 48) n = true → I' 46 0 = nn (lastC (I 48) n + 1) ∧ ∀ k, k < lastC (I 48) n + 1 → I' 47 (k * 3) = nx (I 48) n (Pl (I 48) n k) ∧ I' 47 (k * 3 + 1) = clD (I 48) n (Pl (I 48) n k) ∧ I' 47 (k * 3 + 2) = clN (I 48) n (Pl (I 48) n k)) := by
  unfold fX5_findFault
  simp only [kd_45, gI_45, pI_45, gR_45_1, gR_45_2, ln_48, xI_48, yI_48, kd_46, if_true, Option.bind_some, rempty_46]
  have hK := lastC_lt (I 48) n
  have hP := Pl_le (I 48) n
  refine Exists.elim (lp_ex (f := fun k7 ((v5, h6) : Int32 × Mem) =>
   if 12 ≤ v5 then
    (gI 5 h6 45 3).bind fun v25 =>
    some ((v25 : Int32), h6)
   else
    if mKd h6 45 = 5 then (fX5_takeClause 45 h6).bind (fun ((v10, h9) : Int32 × Mem) =>
     if v10 = 0 then
      (gI 5 h9 45 3).bind fun v11 =>
      some ((v11 : Int32), h9)
     else
      if mKd h9 45 = 5 then (fX5_next 45 h9).bind (fun ((v13, h12) : Int32 × Mem) =>
       if v13 = (-1) then
        some (((-1) : Int32), h12)
       else
        if mKd h12 45 = 5 then (fX5_next 45 h12).bind (fun ((v15, h14) : Int32 × Mem) =>
         if v15 = 59 then
          if v5 = 11 then
           (gI 5 h14 45 3).bind fun v16 =>
           some ((v16 : Int32), h14)
          else
           (gI 5 h14 45 3).bind fun v17 =>
           (pI 5 h14 45 3 (v17 + 1)).bind fun h18 =>
           nm (v5 + 1 : Int32) fun v19 =>
           k7 (v19, h18)
         else
          (gI 5 h14 45 3).bind fun v21 =>
          some ((v21 : Int32), h14)) else none) else none) else none)
    (fun e s => s.1 = nn e ∧ ∃ I1, s.2 = mk I1 L ∧ Ch [45, 46, 47] [] [] I L I1 L ∧ I1 45 0 = nn n ∧ I1 45 3 = nn (Pl (I 48) n e) ∧ I1 46 0 = nn e ∧ ∀ k, k < e → I1 47 (k * 3) = nx (I 48) n (Pl (I 48) n k) ∧ I1 47 (k * 3 + 1) = clD (I 48) n (Pl (I 48) n k) ∧ I1 47 (k * 3 + 2) = clN (I 48) n (Pl (I 48) n k))
    (fun r => ∃ I', r = (if whol (I 48) n = true then -1 else nn (clEnd (I 48) n (Pl (I 48) n (lastC (I 48) n))), mk I' L) ∧ Ch [45, 46, 47] [] [] I L I' L ∧ (whol (I 48) n = true → I' 46 0 = nn (lastC (I 48) n + 1) ∧ ∀ k, k < lastC (I 48) n + 1 → I' 47 (k * 3) = nx (I 48) n (Pl (I 48) n k) ∧ I' 47 (k * 3 + 1) = clD (I 48) n (Pl (I 48) n k) ∧ I' 47 (k * 3 + 2) = clN (I 48) n (Pl (I 48) n k)))
    (lastC (I 48) n) (0, mk (up1 (up1 I 46 (up1 (I 46) 0 0)) 45 (up1 (up1 I 46 (up1 (I 46) 0 0) 45) 3 0)) L) ?_ ?_ ?_ FU (FU_gt (by omega))) ?_
  rotate_left 3
  · rintro r ⟨h1, I', h2, h3, h4⟩
    refine ⟨I', ?_, h3, h4⟩
    rw [← h2]
    exact h1
  · have c0 : Ch [45, 46, 47] [] [] I L (up1 I 46 (up1 (I 46) 0 0)) L := ChI I L [45, 46, 47] [] [] (by simp) (by decide)
    refine ⟨rfl, up1 (up1 I 46 (up1 (I 46) 0 0)) 45 (up1 (up1 I 46 (up1 (I 46) 0 0) 45) 3 0), rfl, Ch45 L c0 (by decide), ?_, ?_, ?_, fun k hk => absurd hk (Nat.not_lt_zero k)⟩
    · rw [up1_s, up1_n _ _ (by decide), up1_n _ _ (by decide), e1]
    · rw [up1_s, up1_s]
      all_goals rfl
    · rw [up1_n _ _ (by decide), up1_s, up1_s]
      all_goals rfl
  · rintro e he ⟨v, h⟩ ⟨hv, I1, hh, c1, c2, c3, c4, c5⟩
    simp only at hv hh
    subst hv hh
    have hPe := hP e
    obtain ⟨g1, g2, g3⟩ := Go_s (I 48) n he
    have x48 : I1 48 = I 48 := c1.1 48 (by decide) (by decide)
    obtain ⟨I2, t1, t2, t3, t4, t5, t6⟩ := takeClause_s I1 L n (Pl (I 48) n e) e (by omega) hn (by omega) c2 c3 c4
    rw [x48] at t1 t4 t5
    have t5 := t5 g1
    have y48 : I2 48 = I 48 := by rw [t2.1 48 (by decide) (by decide), x48]
    have hce := clEnd_le (I 48) n (Pl (I 48) n e)
    have q12 : ¬ (12 : Int32) ≤ nn e := fun h => by
      have := (nn_le (m := 12) (by omega) (by omega)).mp h
      omega
    have q11 : ¬ nn e = 11 := fun h => by
      have := (nn_eq (b := 11) (by omega) (by omega)).mp h
      omega
    have hnx : fX5_next 45 (mk I2 L) = some (59, mk I2 L) := by
      rw [next_s I2 L n (clEnd (I 48) n (Pl (I 48) n e)) hn (by omega) t3 t4, y48, g2]
    refine ⟨(nn (e + 1), mk (up1 I2 45 (up1 (I2 45) 3 (nn (clEnd (I 48) n (Pl (I 48) n e) + 1)))) L), fun k => ?_, rfl, _, rfl, ?_, ?_, ?_, ?_, fun k hk => ?_⟩
    · simp only [if_neg q12, kd_45, if_true, t1, g1, Option.bind_some, one0, if_false, hnx, if_neg (show ¬ (59 : Int32) = -1 by decide), if_neg q11, gI_45, pI_45, t4, nn_s, nm]
    · exact Ch45 L ((c1.tr t2).mono (by simp) (by simp) (by simp)) (by decide)
    · rw [up1_s, up1_n _ _ (by decide), t3]
    · rw [up1_s, up1_s]
      rfl
    · rw [up1_n _ _ (by decide), t5.1]
    · rw [up1_n _ _ (by decide)]
      by_cases hke : k = e
      · subst hke
        exact t5.2
      · rw [t6 _ (by omega), t6 _ (by omega), t6 _ (by omega)]
        exact c5 k (by omega)
  · rintro ⟨v, h⟩ ⟨hv, I1, hh, c1, c2, c3, c4, c5⟩
    simp only at hv hh
    subst hv hh
    have hPe := hP (lastC (I 48) n)
    have x48 : I1 48 = I 48 := c1.1 48 (by decide) (by decide)
    obtain ⟨I2, t1, t2, t3, t4, t5, t6⟩ := takeClause_s I1 L n (Pl (I 48) n (lastC (I 48) n)) (lastC (I 48) n) hK hn (by omega) c2 c3 c4
    rw [x48] at t1 t4 t5
    have y48 : I2 48 = I 48 := by rw [t2.1 48 (by decide) (by decide), x48]
    have hce := clEnd_le (I 48) n (Pl (I 48) n (lastC (I 48) n))
    have q12 : ¬ (12 : Int32) ≤ nn (lastC (I 48) n) := fun h => by
      have := (nn_le (m := 12) (by omega) (by omega)).mp h
      omega
    have c6 : Ch [45, 46, 47] [] [] I L I2 L := (c1.tr t2).mono (by simp) (by simp) (by simp)
    have hnx : fX5_next 45 (mk I2 L) = some (nx (I 48) n (clEnd (I 48) n (Pl (I 48) n (lastC (I 48) n))), mk I2 L) := by
      rw [next_s I2 L n (clEnd (I 48) n (Pl (I 48) n (lastC (I 48) n))) hn (by omega) t3 t4, y48]
    by_cases g1 : clOK (I 48) n (Pl (I 48) n (lastC (I 48) n)) = true
    rotate_left
    · have hw : ¬ whol (I 48) n = true := by
        unfold whol
        simp [g1]
      refine ⟨_, fun k => ?_, I2, by rw [if_neg hw], c6, fun h => absurd h hw⟩
      simp only [if_neg q12, kd_45, if_true, t1, if_neg g1, Option.bind_some, gI_45, t4]
    by_cases g2 : n ≤ clEnd (I 48) n (Pl (I 48) n (lastC (I 48) n))
    · have hw : whol (I 48) n = true := by
        unfold whol
        simp [g1, g2]
      have t5 := t5 g1
      refine ⟨_, fun k => ?_, I2, by rw [if_pos hw], c6, fun _ => ⟨t5.1, fun k hk => ?_⟩⟩
      · simp only [if_neg q12, kd_45, if_true, t1, if_pos g1, Option.bind_some, one0, if_false, hnx, (nx_end hX hn).mpr g2]
      · by_cases hke : k = lastC (I 48) n
        · rw [hke]
          exact t5.2
        · rw [t6 _ (by omega), t6 _ (by omega), t6 _ (by omega)]
          exact c5 k (by omega)
    have hw : ¬ whol (I 48) n = true := by
      unfold whol
      simp [g1]
      omega
    have g3 : ¬ nx (I 48) n (clEnd (I 48) n (Pl (I 48) n (lastC (I 48) n))) = -1 := fun h => g2 ((nx_end hX hn).mp h)
    refine ⟨(nn (clEnd (I 48) n (Pl (I 48) n (lastC (I 48) n))), mk I2 L), fun k => ?_, I2, by rw [if_neg hw], c6, fun h => absurd h hw⟩
    simp only [if_neg q12, kd_45, if_true, t1, if_pos g1, Option.bind_some, one0, if_false, hnx, if_neg g3, gI_45, t4]
    by_cases g4 : nx (I 48) n (clEnd (I 48) n (Pl (I 48) n (lastC (I 48) n))) = 59
    · have q11 : nn (lastC (I 48) n) = 11 := by
        rw [Go_e (I 48) n g1 g4]
        rfl
      simp only [if_pos g4, if_pos q11]
    · simp only [if_neg g4]
end FF
