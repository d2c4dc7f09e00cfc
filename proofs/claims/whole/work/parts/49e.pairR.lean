section XC
variable {X Y : Nat → Int32} {n : Nat}
theorem nxE (h : ∀ j, j < n → X j = Y j) : nx X n = nx Y n := by
  funext p
  unfold nx
  by_cases h1 : p < n
  · rw [if_pos h1, if_pos h1, h p h1]
  · rw [if_neg h1, if_neg h1]
theorem dval_x (h : nx X n = nx Y n) (p : Nat) : ∀ e, dval X n p e = dval Y n p e
  | 0 => rfl
  | e + 1 => by
    show dval X n p e * 10 + nx X n (p + e) - 48 = dval Y n p e * 10 + nx Y n (p + e) - 48
    rw [dval_x h p e, h]
theorem dcount_x (h : nx X n = nx Y n) : dcount X n = dcount Y n := by
  funext p
  unfold dcount
  rw [h]
theorem nst_x (h : nx X n = nx Y n) : nst X n = nst Y n := by
  funext p
  unfold nst
  rw [h]
theorem nOK_x (h : nx X n = nx Y n) : nOK X n = nOK Y n := by
  funext p
  unfold nOK
  rw [h, nst_x h]
theorem nEnd_x (h : nx X n = nx Y n) : nEnd X n = nEnd Y n := by
  funext p
  unfold nEnd
  rw [nst_x h, nOK_x h, dcount_x h]
theorem nVal_x (h : nx X n = nx Y n) : nVal X n = nVal Y n := by
  funext p
  unfold nVal
  rw [h, nst_x h, dcount_x h, dval_x h]
theorem clP2_x (h : nx X n = nx Y n) : clP2 X n = clP2 Y n := by
  funext p
  unfold clP2
  rw [h]
theorem clD1_x (h : nx X n = nx Y n) : clD1 X n = clD1 Y n := by
  funext p
  unfold clD1
  rw [h]
theorem clN1_x (h : nx X n = nx Y n) : clN1 X n = clN1 Y n := by
  funext p
  unfold clN1
  rw [h, clP2_x h, nOK_x h]
theorem clOK_x (h : nx X n = nx Y n) : clOK X n = clOK Y n := by
  funext p
  unfold clOK
  rw [h, clD1_x h, clN1_x h]
theorem clEnd_x (h : nx X n = nx Y n) : clEnd X n = clEnd Y n := by
  funext p
  unfold clEnd
  rw [h, clD1_x h, nEnd_x h, clP2_x h]
theorem clD_x (h : nx X n = nx Y n) : clD X n = clD Y n := by
  funext p
  unfold clD
  rw [h]
theorem clN_x (h : nx X n = nx Y n) : clN X n = clN Y n := by
  funext p
  unfold clN
  rw [h, nVal_x h, clP2_x h]
theorem Pl_x (h : nx X n = nx Y n) : ∀ k, Pl X n k = Pl Y n k
  | 0 => rfl
  | k + 1 => by
    show clEnd X n (Pl X n k) + 1 = clEnd Y n (Pl Y n k) + 1
    rw [Pl_x h k, clEnd_x h]
theorem Go_x (h : nx X n = nx Y n) : Go X n = Go Y n := by
  funext k
  unfold Go
  rw [Pl_x h, clOK_x h, clEnd_x h, h]
theorem lastC_x (h : nx X n = nx Y n) : lastC X n = lastC Y n := by
  unfold lastC
  rw [Go_x h]
theorem whol_x (h : nx X n = nx Y n) : whol X n = whol Y n := by
  unfold whol
  rw [lastC_x h, Pl_x h, clOK_x h, clEnd_x h]
theorem rn_x (h : nx X n = nx Y n) (s : Nat × (Nat → Int64) × Int32 × Int32) : ∀ k, rn X n s k = rn Y n s k
  | 0 => rfl
  | k + 1 => by
    show ((if (stp (nx X n (Pl X n k)) (clD X n (Pl X n k)) (clN X n (Pl X n k)) (rn X n s k).2).1 < 0 then (rn X n s k).1 else (rn X n s k).1 + 1), (stp (nx X n (Pl X n k)) (clD X n (Pl X n k)) (clN X n (Pl X n k)) (rn X n s k).2).2) = _
    rw [rn_x h s k, Pl_x h, clD_x h, clN_x h, h]
    rfl
end XC
section PR
variable (I : Nat → Nat → Int32) (L : Nat → Nat → Int64)
theorem MSt.ch {S K T : List Nat} {I I' : Nat → Nat → Int32} {L L' : Nat → Nat → Int64} {s : Nat × (Nat → Int64) × Int32 × Int32} (h : MSt I L s) (c : Ch S K T I L I' L') (h0 : 0 ∉ K) (h2 : 2 ∉ K) (h3 : 3 ∉ K) (h1 : 63 ∉ T) : MSt I' L' s := ⟨h.1.ch c h0 h1, by rw [c.2.1 2 h2]; exact h.2.1, by rw [c.2.1 3 h3]; exact h.2.2⟩
theorem CSt.ch {S K T : List Nat} {I I' : Nat → Nat → Int32} {L L' : Nat → Nat → Int64} {s : Nat × (Nat → Int64) × Int32 × Int32} (h : CSt I s) (c : Ch S K T I L I' L') (h0 : 3 ∉ S) (h1 : 4 ∉ S) (h2 : 5 ∉ S) : CSt I' s := ⟨h.1.ch c h1 h2 (by decide) (by decide), by rw [c.1 3 h0 (by decide)]; exact h.2.1, by rw [c.1 3 h0 (by decide)]; exact h.2.2⟩
theorem pair_read (N : RelN I L) (M : RelM I) (B : RelB I) (X : RelX I) : Both (fX9_read 1) (fX10_read 62) I L (fun I' L' => RelN I' L' ∧ RelM I' ∧ RelB I' ∧ RelX I' ∧ Ch [3, 4, 5, 45, 46, 47, 80] [0, 2, 3, 29, 30] [6, 7, 63, 67, 68] I L I' L') := by
  obtain ⟨d, a, hC, hM, hV⟩ := N
  obtain ⟨n, hn, e1, e2, he⟩ := X
  have vs : VSt (d, a, I 3 1, I 3 2) := ⟨hV, M.2, B.2⟩
  obtain ⟨I1, L1, c1, c2, c3, c4⟩ := read_C I L n hn (fun j hj => (he j hj).2.1) e1 (d, a, I 3 1, I 3 2) ⟨hC, rfl, rfl⟩ vs
  have m0 : MSt I1 L1 (d, a, I 3 1, I 3 2) := MSt.ch (I := I) (L := L) ⟨hM, M.1, B.1⟩ c3 (by decide) (by decide) (by decide) (by decide)
  have x79 : I1 79 = I 79 := c3.1 79 (by decide) (by decide)
  have x48 : I1 48 = I 48 := c3.1 48 (by decide) (by decide)
  obtain ⟨I2, L2, d1, d2, d3, d4⟩ := read_M I1 L1 n hn (fun j hj => by rw [x79, (he j hj).1]; exact (he j hj).2.1) (by rw [c3.2.1 29 (by decide), e2]) (d, a, I 3 1, I 3 2) m0 vs
  have hx : nx (I1 79) n = nx (I 48) n := nxE (fun j hj => by rw [x79]; exact (he j (by omega)).1)
  rw [whol_x hx, rn_x hx, lastC_x hx, Pl_x hx, clEnd_x hx] at d1
  rw [whol_x hx, rn_x hx, lastC_x hx] at d2
  have cs : CSt I2 (if whol (I 48) n = true then (rn (I 48) n (d, a, I 3 1, I 3 2) (lastC (I 48) n + 1)).2 else (d, a, I 3 1, I 3 2)) := c2.ch d3 (by decide) (by decide) (by decide)
  have vv : VSt (if whol (I 48) n = true then (rn (I 48) n (d, a, I 3 1, I 3 2) (lastC (I 48) n + 1)).2 else (d, a, I 3 1, I 3 2)) := by
    split
    · exact rn_V (I 48) n _ vs _
    · exact vs
  revert cs vv d2
  generalize (if whol (I 48) n = true then (rn (I 48) n (d, a, I 3 1, I 3 2) (lastC (I 48) n + 1)).2 else (d, a, I 3 1, I 3 2)) = t
  intro d2 cs vv
  refine ⟨_, I1, L1, I2, L2, c1, d1, ⟨t.1, t.2.1, cs.1, d2.1, vv.1⟩, ⟨by rw [d2.2.1, cs.2.1], by rw [cs.2.1]; exact vv.2.1⟩, ⟨by rw [d2.2.2, cs.2.2], by rw [cs.2.2]; exact vv.2.2⟩, ⟨0, by omega, ?_, d4, fun j hj => ?_⟩, (c3.tr d3).mono (by simp) (by simp) (by simp)⟩
  · rw [d3.1 45 (by decide) (by decide), c4]
    rfl
  · rw [d3.1 79 (by decide) (by decide), d3.1 48 (by decide) (by decide), x79, x48]
    exact he j hj
end PR
