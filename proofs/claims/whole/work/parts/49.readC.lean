theorem bind_id {α β : Type} (x : Option (α × β)) : x.bind (fun (p : α × β) => some (p.1, p.2)) = x := by cases x <;> rfl
/-- count and state after so many clauses -/
def rn (X : Nat → Int32) (n : Nat) (s : Nat × (Nat → Int64) × Int32 × Int32) : Nat → Int32 × (Nat × (Nat → Int64) × Int32 × Int32)
  | 0 => (0, s)
  | k + 1 => ((if (stp (nx X n (Pl X n k)) (clD X n (Pl X n k)) (clN X n (Pl X n k)) (rn X n s k).2).1 < 0 then (rn X n s k).1 else (rn X n s k).1 + 1), (stp (nx X n (Pl X n k)) (clD X n (Pl X n k)) (clN X n (Pl X n k)) (rn X n s k).2).2)
theorem rn_V (X : Nat → Int32) (n : Nat) (s : Nat × (Nat → Int64) × Int32 × Int32) (h : VSt s) : ∀ k, VSt (rn X n s k).2
  | 0 => h
  | k + 1 => VSt_s _ _ _ _ (rn_V X n s h k)
theorem clOK_K {X : Nat → Int32} {n p : Nat} (h : clOK X n p = true) : isK (nx X n p) = true := by
  unfold clOK at h
  simp at h
  exact h.1
section RC
variable (I : Nat → Nat → Int32) (L : Nat → Nat → Int64)
theorem clause_s (k m : Nat) (hk : k < m) (hm : m ≤ 12) (e : I 46 0 = nn m) (h : isK (I 47 (k * 3)) = true) : fX9_clauseAnswer 1 (nn k) (mk I L) = clsC (I 47 (k * 3)) (I 47 (k * 3 + 1)) (I 47 (k * 3 + 2)) (mk I L) := by
  unfold fX9_clauseAnswer clsC
  simp only [kd_1, gI_1, pI_1, gR_1_0, gR_1_1, gR_1_3, gR_1_4, gR_1_5, gR_1_6, gR_1_7, gR_1_8, ln_49, xR_49, kd_45, gI_45, pI_45, gR_45_1, gR_45_2, ln_48, xI_48, yI_48, kd_46, if_true, rfirst_46 I L k m hk hm e, rsecond_46 I L k m hk hm e, rthird_46 I L k m hk hm e, Option.bind_some, bind_id]
  rcases isK_c h with h | h | h | h | h
  · rw [h]
    rfl
  · rw [h]
    rfl
  · rw [h]
    rfl
  · rw [h]
    rfl
  · rw [h]
    rfl
theorem read_C (n : Nat) (hn : n ≤ 100) (hX : ∀ j, j < 100 → 0 ≤ (I 48 j).toInt) (e1 : I 45 0 = nn n) (s : Nat × (Nat → Int64) × Int32 × Int32) (hC : CSt I s) (hV : VSt s) : ∃ I' L', fX9_read 1 (mk I L) = some (if whol (I 48) n = true then (rn (I 48) n s (lastC (I 48) n + 1)).1 else -10 - nn (clEnd (I 48) n (Pl (I 48) n (lastC (I 48) n))), mk I' L') ∧ CSt I' (if whol (I 48) n = true then (rn (I 48) n s (lastC (I 48) n + 1)).2 else s) ∧ Ch [3, 4, 5, 45, 46, 47] [] [6, 7] I L I' L' ∧ I' 45 0 = 0 := by
  obtain ⟨I1, f1, f2, f3⟩ := findFault_s I L n hn hX e1
  unfold fX9_read
  simp only [kd_1, gI_1, pI_1, gR_1_0, gR_1_1, gR_1_3, gR_1_4, gR_1_5, gR_1_6, gR_1_7, gR_1_8, ln_49, xR_49, kd_45, gI_45, pI_45, gR_45_1, gR_45_2, ln_48, xI_48, yI_48, if_true, f1, Option.bind_some]
  have c0 : Ch [45, 46, 47] [] [] I L (up1 I1 45 (up1 (I1 45) 0 0)) L := Ch45 L f2 (by decide)
  have cs0 : CSt (up1 I1 45 (up1 (I1 45) 0 0)) s := ⟨hC.1.ch c0 (by decide) (by decide) (by decide) (by decide), by rw [c0.1 3 (by decide) (by decide)]; exact hC.2.1, by rw [c0.1 3 (by decide) (by decide)]; exact hC.2.2⟩
  have hK := lastC_lt (I 48) n
  by_cases hw : whol (I 48) n = true
  rotate_left
  · have hne : ¬ nn (clEnd (I 48) n (Pl (I 48) n (lastC (I 48) n))) = -1 := fun h => by
      have h1 := Pl_le (I 48) n (lastC (I 48) n)
      have h2 := clEnd_le (I 48) n (Pl (I 48) n (lastC (I 48) n))
      have h3 := nn_toInt (n := clEnd (I 48) n (Pl (I 48) n (lastC (I 48) n))) (by omega)
      rw [h, show (-1 : Int32).toInt = -1 by decide] at h3
      omega
    refine ⟨_, L, ?_, ?_, c0.mono (by simp) (by simp) (by simp), by rw [up1_s, up1_s]⟩
    · simp only [if_neg hw, if_neg hne]
    · rw [if_neg hw]
      exact cs0
  obtain ⟨g1, g2⟩ := f3 hw
  simp only [if_pos hw, if_true]
  have hOK : ∀ k, k < lastC (I 48) n + 1 → isK (nx (I 48) n (Pl (I 48) n k)) = true := fun k hk => by
    by_cases h : k < lastC (I 48) n
    · exact clOK_K (Go_s (I 48) n h).1
    · rw [show k = lastC (I 48) n by omega]
      unfold whol at hw
      simp at hw
      exact clOK_K hw.1
  refine Exists.elim (lp_ex (f := fun k9 ((v6, v7, h8) : Int32 × Int32 × Mem) =>
    (gR 9 h8 1 7).bind fun v11 =>
    (gR 5 h8 v11 1).bind fun v12 =>
    (gI 4 h8 v12 0).bind fun v13 =>
    if v13 ≤ v7 then
     some ((v6 : Int32), h8)
    else
     if mKd h8 1 = 9 then (fX9_clauseAnswer 1 v7 h8).bind (fun ((v15, h14) : Int32 × Mem) =>
      if v15 < 0 then
       nm (v7 + 1 : Int32) fun v18 =>
       k9 (v6, v18, h14)
      else
       nm (v6 + 1 : Int32) fun v16 =>
       nm (v7 + 1 : Int32) fun v17 =>
       k9 (v16, v17, h14)) else none)
    (fun e s1 => s1.1 = (rn (I 48) n s e).1 ∧ s1.2.1 = nn e ∧ ∃ I2 L2, s1.2.2 = mk I2 L2 ∧ CSt I2 (rn (I 48) n s e).2 ∧ Ch [3, 4, 5, 45, 46, 47] [] [6, 7] I L I2 L2 ∧ I2 45 0 = 0 ∧ I2 46 0 = nn (lastC (I 48) n + 1) ∧ I2 47 = I1 47)
    (fun r => ∃ I2 L2, r = ((rn (I 48) n s (lastC (I 48) n + 1)).1, mk I2 L2) ∧ CSt I2 (rn (I 48) n s (lastC (I 48) n + 1)).2 ∧ Ch [3, 4, 5, 45, 46, 47] [] [6, 7] I L I2 L2 ∧ I2 45 0 = 0)
    (lastC (I 48) n + 1) (0, 0, mk (up1 I1 45 (up1 (I1 45) 0 0)) L) ?_ ?_ ?_ FU (FU_gt (by omega))) ?_
  rotate_left 3
  · rintro r ⟨h1, I2, L2, h2, h3, h4, h5⟩
    refine ⟨I2, L2, ?_, h3, h4, h5⟩
    rw [← h2]
    exact h1
  · refine ⟨rfl, rfl, _, _, rfl, cs0, c0.mono (by simp) (by simp) (by simp), by rw [up1_s, up1_s], ?_, ?_⟩
    · rw [up1_n _ _ (by decide)]
      exact g1
    · rw [up1_n _ _ (by decide)]
  · rintro e he ⟨v, w, h⟩ ⟨hv, hw1, I2, L2, hh, q1, q2, q3, q4, q5⟩
    simp only at hv hw1 hh
    subst hv hw1 hh
    obtain ⟨t1, t2, t3⟩ := g2 e he
    have hkd : isK (I2 47 (e * 3)) = true := by
      rw [q5, t1]
      exact hOK e he
    obtain ⟨I3, L3, s1, s2, s3⟩ := stepC I2 L2 (nx (I 48) n (Pl (I 48) n e)) (clD (I 48) n (Pl (I 48) n e)) (clN (I 48) n (Pl (I 48) n e)) (rn (I 48) n s e).2 q1 (rn_V (I 48) n s hV e)
    have hcl := clause_s I2 L2 e (lastC (I 48) n + 1) he (by omega) q4 hkd
    rw [q5, t1, t2, t3, s1] at hcl
    have hle : ¬ nn (lastC (I 48) n + 1) ≤ nn e := fun h => by
      have := (nn_le (by omega) (by omega)).mp h
      omega
    refine ⟨((rn (I 48) n s (e + 1)).1, nn (e + 1), mk I3 L3), fun k => ?_, rfl, rfl, I3, L3, rfl, s2, (q2.tr s3).mono (by simp) (by simp) (by simp), ?_, ?_, ?_⟩
    · simp only [kd_1, gI_1, pI_1, gR_1_0, gR_1_1, gR_1_3, gR_1_4, gR_1_5, gR_1_6, gR_1_7, gR_1_8, ln_49, xR_49, kd_45, gI_45, pI_45, gR_45_1, gR_45_2, ln_48, xI_48, yI_48, gI_46, q4, Option.bind_some, if_neg hle, if_true, hcl, nm, nn_s, rn]
      split <;> rfl
    · rw [s3.1 45 (by decide) (by decide)]
      exact q3
    · rw [s3.1 46 (by decide) (by decide)]
      exact q4
    · rw [s3.1 47 (by decide) (by decide)]
      exact q5
  · rintro ⟨v, w, h⟩ ⟨hv, hw1, I2, L2, hh, q1, q2, q3, q4, q5⟩
    simp only at hv hw1 hh
    subst hv hw1 hh
    refine ⟨((rn (I 48) n s (lastC (I 48) n + 1)).1, mk I2 L2), fun k => ?_, I2, L2, rfl, q1, q2, q3⟩
    simp only [kd_1, gI_1, pI_1, gR_1_0, gR_1_1, gR_1_3, gR_1_4, gR_1_5, gR_1_6, gR_1_7, gR_1_8, ln_49, xR_49, kd_45, gI_45, pI_45, gR_45_1, gR_45_2, ln_48, xI_48, yI_48, gI_46, q4, Option.bind_some, if_pos ((nn_le (by omega) (by omega)).mpr (Nat.le_refl (lastC (I 48) n + 1)))]
end RC
