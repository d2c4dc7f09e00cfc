theorem whol_iff {X : Nat → Int32} {n : Nat} : whol X n = true ↔ clOK X n (Pl X n (lastC X n)) = true ∧ clEnd X n (Pl X n (lastC X n)) = n := by
  unfold whol
  simp
  intro h
  have := clEnd_n h
  omega
theorem lastK {X : Nat → Int32} {n : Nat} (hw : whol X n = true) {k : Nat} (hk : k < lastC X n + 1) : clOK X n (Pl X n k) = true := by
  by_cases h : k < lastC X n
  · exact (Go_s X n h).1
  · rw [show k = lastC X n by omega]
    exact (whol_iff.mp hw).1
section RN
variable (I : Nat → Nat → Int32) (L : Nat → Nat → Int64)
def rowOK (X : Nat → Int32) (n k : Nat) (R : Nat → Int32) : Prop := R (3 * k) = nx X n (Pl X n k) ∧ (hasDig (nx X n (Pl X n k)) = true → R (3 * k + 1) = clD X n (Pl X n k)) ∧ (hasNum (nx X n (Pl X n k)) = true → R (3 * k + 2) = clN X n (Pl X n k))
/-- the reference does its clauses -/
theorem runs_M (n : Nat) (K : Nat) (hK : K < 12) (X : Nat → Int32) (hR : ∀ k, k < K + 1 → isK (nx X n (Pl X n k)) = true ∧ rowOK X n k (I 80)) (s : Nat × (Nat → Int64) × Int32 × Int32) (hM : MSt I L s) (hV : VSt s) : ∃ I' L', lpF (fun k23 ((v20, v21, h22) : Int32 × Int32 × Mem) =>
       if nn K < v21 then
        some ((v20 : Int32), h22)
       else
        if mKd h22 62 = 10 then (fX10_does 62 v21 h22).bind (fun ((v26, h25) : Int32 × Mem) =>
         if v26 < 0 then
          nm (v20 + 0 : Int32) fun v29 =>
          nm (v21 + 1 : Int32) fun v30 =>
          k23 (v29, v30, h25)
         else
          nm (v20 + 1 : Int32) fun v27 =>
          nm (v21 + 1 : Int32) fun v28 =>
          k23 (v27, v28, h25)) else none) FU (0, 0, mk I L) = some ((rn X n s (K + 1)).1, mk I' L') ∧ MSt I' L' (rn X n s (K + 1)).2 ∧ Ch [] [0, 2, 3] [63, 67, 68] I L I' L' := by
  refine Exists.elim (lp_ex (f := fun k23 ((v20, v21, h22) : Int32 × Int32 × Mem) =>
       if nn K < v21 then
        some ((v20 : Int32), h22)
       else
        if mKd h22 62 = 10 then (fX10_does 62 v21 h22).bind (fun ((v26, h25) : Int32 × Mem) =>
         if v26 < 0 then
          nm (v20 + 0 : Int32) fun v29 =>
          nm (v21 + 1 : Int32) fun v30 =>
          k23 (v29, v30, h25)
         else
          nm (v20 + 1 : Int32) fun v27 =>
          nm (v21 + 1 : Int32) fun v28 =>
          k23 (v27, v28, h25)) else none)
    (fun e s1 => s1.1 = (rn X n s e).1 ∧ s1.2.1 = nn e ∧ ∃ I2 L2, s1.2.2 = mk I2 L2 ∧ MSt I2 L2 (rn X n s e).2 ∧ Ch [] [0, 2, 3] [63, 67, 68] I L I2 L2)
    (fun r => ∃ I2 L2, r = ((rn X n s (K + 1)).1, mk I2 L2) ∧ MSt I2 L2 (rn X n s (K + 1)).2 ∧ Ch [] [0, 2, 3] [63, 67, 68] I L I2 L2)
    (K + 1) (0, 0, mk I L) ?_ ?_ ?_ FU (FU_gt (by omega))) ?_
  rotate_left 3
  · rintro r ⟨h1, I2, L2, h2, h3, h4⟩
    refine ⟨I2, L2, ?_, h3, h4⟩
    rw [← h2]
    exact h1
  · exact ⟨rfl, rfl, _, _, rfl, hM, Ch.rf I L⟩
  · rintro e he ⟨v, w, h⟩ ⟨hv, hw1, I2, L2, hh, q1, q2⟩
    simp only at hv hw1 hh
    subst hv hw1 hh
    obtain ⟨t1, t2, t3, t4⟩ := hR e he
    have q80 : I2 80 = I 80 := q2.1 80 (by decide) (by decide)
    obtain ⟨I3, L3, s1, s2, s3⟩ := stepM I2 L2 (nx X n (Pl X n e)) (clD X n (Pl X n e)) (clN X n (Pl X n e)) (rn X n s e).2 q1 (rn_V X n s hV e)
    have hcl := does_s I2 L2 e (by omega) (by rw [q80, t2]; exact t1)
    rw [q80, t2, clsM_c t1 t3 t4, s1] at hcl
    have hle : ¬ nn K < nn e := fun h => by
      have := (nn_lt (by omega) (by omega)).mp h
      omega
    refine ⟨((rn X n s (e + 1)).1, nn (e + 1), mk I3 L3), fun k => ?_, rfl, rfl, I3, L3, rfl, s2, (q2.tr s3).mono (by simp) (by simp) (by simp)⟩
    simp only [kd_62, Option.bind_some, if_neg hle, if_true, hcl, nm, nn_s, rn, Int32.add_zero]
    split <;> rfl
  · rintro ⟨v, w, h⟩ ⟨hv, hw1, I2, L2, hh, q1, q2⟩
    simp only at hv hw1 hh
    subst hv hw1 hh
    refine ⟨((rn X n s (K + 1)).1, mk I2 L2), fun k => ?_, I2, L2, rfl, q1, q2⟩
    simp only [if_pos ((nn_lt (show K < 2147483648 by omega) (show K + 1 < 2147483648 by omega)).mpr (by omega))]
end RN
