def LStp (k : Nat) (X : (Int32 × Mem → Option (Unit × Mem)) → Option (Unit × Mem)) : Prop := ∃ t : Int32 × Mem, (∀ c, X c = c t) ∧ (t.1 = nn (6 * (k + 1)) ∧ ∃ I L, t.2 = mk I L ∧ Rel I L)
theorem LStp_if {k : Nat} {p : Prop} [Decidable p] {X Y : (Int32 × Mem → Option (Unit × Mem)) → Option (Unit × Mem)} (h1 : LStp k X) (h2 : LStp k Y) : LStp k (fun c => if p then X c else Y c) := by
  by_cases h : p
  · obtain ⟨t, q1, q2⟩ := h1
    exact ⟨t, fun c => (if_pos h).trans (q1 c), q2⟩
  · obtain ⟨t, q1, q2⟩ := h2
    exact ⟨t, fun c => (if_neg h).trans (q1 c), q2⟩
theorem LStp_x {k N i : Nat} (hi : i < N) (hN : N ≤ 3072) {xs : Nat → Int32} {j : Int32} (hj : j = nn i) {X : Int32 → (Int32 × Mem → Option (Unit × Mem)) → Option (Unit × Mem)} (h : LStp k (X (xs i))) : LStp k (fun c => (xT xs N j).bind fun v => X v c) := by
  obtain ⟨t, q1, q2⟩ := h
  have hx : xT xs N j = some (xs i) := by
    rw [hj]
    unfold xT
    rw [nn_nat (by omega), if_pos ⟨nn_nn (by omega), hi⟩]
  exact ⟨t, fun c => ((congrArg (fun o => Option.bind o fun v => X v c) hx).trans (bsm _ _)).trans (q1 c), q2⟩
theorem xT_i {N i : Nat} (hi : i < N) (hN : N ≤ 3072) {xs : Nat → Int32} {j : Int32} (hj : j = nn i) : xT xs N j = some (xs i) := by
  rw [hj]
  unfold xT
  rw [nn_nat (by omega), if_pos ⟨nn_nn (by omega), hi⟩]
theorem br {k : Nat} {I : Nat → Nat → Int32} {L : Nat → Nat → Int64} {f g : Mem → Option (Int32 × Mem)} (B : Both f g I L Rel) : LStp k (fun c => if mKd (mk I L) 1 = 9 then (f (mk I L)).bind (fun ((v16, h15) : Int32 × Mem) => if mKd h15 62 = 10 then (g h15).bind (fun ((v19, h18) : Int32 × Mem) => if v16 = v19 then nm (nn (6 * k) + 6 : Int32) fun v20 => c (v20, h18) else none) else none) else none) := by
  obtain ⟨r, I1, L1, I2, L2, h1, h2, R⟩ := B
  refine ⟨(nn (6 * k) + 6, mk I2 L2), fun c => ?_, nn_add (6 * k) 6, I2, L2, rfl, R⟩
  show (if mKd (mk I L) 1 = 9 then (f (mk I L)).bind _ else none) = _
  rw [kd_1, if_pos rfl, h1, bsm]
  show (if mKd (mk I1 L1) 62 = 10 then _ else none) = _
  rw [kd_62, if_pos rfl, h2, bsm]
  show (if r = r then _ else none) = _
  rw [if_pos rfl]
  rfl
theorem brL {k : Nat} {I : Nat → Nat → Int32} {L : Nat → Nat → Int64} {f g : Mem → Option (Int64 × Mem)} (B : BothL f g I L Rel) : LStp k (fun c => if mKd (mk I L) 1 = 9 then (f (mk I L)).bind (fun ((v16, h15) : Int64 × Mem) => if mKd h15 62 = 10 then (g h15).bind (fun ((v19, h18) : Int64 × Mem) => if (lg_cmp v16 v19) = 0 then nm (nn (6 * k) + 6 : Int32) fun v20 => c (v20, h18) else none) else none) else none) := by
  obtain ⟨r, I1, L1, I2, L2, h1, h2, R⟩ := B
  refine ⟨(nn (6 * k) + 6, mk I2 L2), fun c => ?_, nn_add (6 * k) 6, I2, L2, rfl, R⟩
  show (if mKd (mk I L) 1 = 9 then (f (mk I L)).bind _ else none) = _
  rw [kd_1, if_pos rfl, h1, bsm]
  show (if mKd (mk I1 L1) 62 = 10 then _ else none) = _
  rw [kd_62, if_pos rfl, h2, bsm]
  show (if lg_cmp r r = 0 then _ else none) = _
  rw [if_pos (lg_cmp_eq r r |>.mpr rfl)]
  rfl
/-- THE LAW'S LOOP -/
theorem law_den (xs : Nat → Int32) (N : Nat) (hN : N ≤ 3072) : ∃ h, fL_law xs N h00 = some ((), h) := by
  have key : ∃ r, fL_law xs N h00 = some r ∧ True := by
    unfold fL_law nwO
    show ∃ r, ((fX9_init 1 (alM 9 9 h00)).bind fun ((_u, h3) : Unit × Mem) => _) = some r ∧ True
    rw [ini1_ok, bsm]
    show ∃ r, ((fX10_init (mSz ini1 + 1) (alM 10 39 ini1)).bind fun ((_u, h6) : Unit × Mem) => _) = some r ∧ True
    rw [ini1_sz, ini2_ok, bsm, ini2_mk]
    refine lp_ex (fun k (t : Int32 × Mem) => t.1 = nn (6 * k) ∧ ∃ I L, t.2 = mk I L ∧ Rel I L) (fun (_ : Unit × Mem) => True) (N / 6) (0, mk I00 L00) ⟨rfl, I00, L00, rfl, Rel_00⟩ ?_ ?_ FU (FU_gt (by omega))
    · rintro k hk ⟨v, h⟩ ⟨hv, I, L, hh, R⟩
      simp only at hv hh
      subst hv hh
      have hlt : ¬ (Int32.ofNat N) - 6 < nn (6 * k) := by
        rw [i32_lt, nn_toInt (by omega), show Int32.ofNat N = nn N from rfl, show nn N - 6 = nn (N - 6) from nn_sub (b := 6) (by omega), nn_toInt (by omega)]
        omega
      show LStp k (fun c => if (Int32.ofNat N) - 6 < nn (6 * k) then some ((), mk I L) else (xT xs N (nn (6 * k))).bind fun v11 => nm (v11 &&& 63 : Int32) fun v12 => _)
      simp only [if_neg hlt]
      refine LStp_x (show 6 * k < N by omega) hN rfl ?_
      show LStp k (fun c => if xs (6 * k) &&& 63 = 0 then _ else _)
      generalize xs (6 * k) &&& 63 = v12
      refine LStp_if (X := fun c => _) (Y := fun c => _) ?_ ?_
      · simp only [xT_i (show 6 * k + 1 < N by omega) hN (xs := xs) (show nn (6 * k) + 1 = nn (6 * k + 1) from nn_add (6 * k) 1), bsm]
        exact br (op_degree I L _ R)
      refine LStp_if (X := fun c => _) (Y := fun c => _) ?_ ?_
      · simp only [xT_i (show 6 * k + 1 < N by omega) hN (xs := xs) (show nn (6 * k) + 1 = nn (6 * k + 1) from nn_add (6 * k) 1), xT_i (show 6 * k + 2 < N by omega) hN (xs := xs) (show nn (6 * k) + 2 = nn (6 * k + 2) from nn_add (6 * k) 2), bsm]
        exact br (op_number I L _ _ R)
      refine LStp_if (X := fun c => _) (Y := fun c => _) ?_ ?_
      · simp only [xT_i (show 6 * k + 1 < N by omega) hN (xs := xs) (show nn (6 * k) + 1 = nn (6 * k + 1) from nn_add (6 * k) 1), bsm]
        exact br (op_equal I L _ R)
      refine LStp_if (X := fun c => _) (Y := fun c => _) ?_ ?_
      · simp only [xT_i (show 6 * k + 1 < N by omega) hN (xs := xs) (show nn (6 * k) + 1 = nn (6 * k + 1) from nn_add (6 * k) 1), bsm]
        exact br (op_window I L _ R)
      refine LStp_if (X := fun c => _) (Y := fun c => _) ?_ ?_
      · simp only [xT_i (show 6 * k + 1 < N by omega) hN (xs := xs) (show nn (6 * k) + 1 = nn (6 * k + 1) from nn_add (6 * k) 1), bsm]
        exact br (op_move I L _ R)
      refine LStp_if (X := fun c => _) (Y := fun c => _) ?_ ?_
      · simp only [xT_i (show 6 * k + 1 < N by omega) hN (xs := xs) (show nn (6 * k) + 1 = nn (6 * k + 1) from nn_add (6 * k) 1), xT_i (show 6 * k + 2 < N by omega) hN (xs := xs) (show nn (6 * k) + 2 = nn (6 * k + 2) from nn_add (6 * k) 2), xT_i (show 6 * k + 3 < N by omega) hN (xs := xs) (show nn (6 * k) + 3 = nn (6 * k + 3) from nn_add (6 * k) 3), xT_i (show 6 * k + 4 < N by omega) hN (xs := xs) (show nn (6 * k) + 4 = nn (6 * k + 4) from nn_add (6 * k) 4), bsm]
        exact br (op_turn I L _ _ _ _ R)
      refine LStp_if (X := fun c => _) (Y := fun c => _) ?_ ?_
      · simp only [xT_i (show 6 * k + 1 < N by omega) hN (xs := xs) (show nn (6 * k) + 1 = nn (6 * k + 1) from nn_add (6 * k) 1), bsm]
        exact br (op_feed I L _ R)
      refine LStp_if (X := fun c => _) (Y := fun c => _) ?_ ?_
      · exact br (op_read I L R)
      refine LStp_if (X := fun c => _) (Y := fun c => _) ?_ ?_
      · simp only [xT_i (show 6 * k + 1 < N by omega) hN (xs := xs) (show nn (6 * k) + 1 = nn (6 * k + 1) from nn_add (6 * k) 1), bsm]
        exact br (op_of I L _ R)
      refine LStp_if (X := fun c => _) (Y := fun c => _) ?_ ?_
      · simp only [xT_i (show 6 * k + 1 < N by omega) hN (xs := xs) (show nn (6 * k) + 1 = nn (6 * k + 1) from nn_add (6 * k) 1), bsm]
        exact br (op_told I L _ R)
      refine LStp_if (X := fun c => _) (Y := fun c => _) ?_ ?_
      · simp only [xT_i (show 6 * k + 1 < N by omega) hN (xs := xs) (show nn (6 * k) + 1 = nn (6 * k + 1) from nn_add (6 * k) 1), xT_i (show 6 * k + 2 < N by omega) hN (xs := xs) (show nn (6 * k) + 2 = nn (6 * k + 2) from nn_add (6 * k) 2), bsm]
        exact brL (op_value I L _ _ R)
      refine LStp_if (X := fun c => _) (Y := fun c => _) ?_ ?_
      · simp only [xT_i (show 6 * k + 1 < N by omega) hN (xs := xs) (show nn (6 * k) + 1 = nn (6 * k + 1) from nn_add (6 * k) 1), xT_i (show 6 * k + 2 < N by omega) hN (xs := xs) (show nn (6 * k) + 2 = nn (6 * k + 2) from nn_add (6 * k) 2), bsm]
        exact br (op_answer I L _ _ R)
      refine LStp_if (X := fun c => _) (Y := fun c => _) ?_ ?_
      · simp only [xT_i (show 6 * k + 1 < N by omega) hN (xs := xs) (show nn (6 * k) + 1 = nn (6 * k + 1) from nn_add (6 * k) 1), xT_i (show 6 * k + 2 < N by omega) hN (xs := xs) (show nn (6 * k) + 2 = nn (6 * k + 2) from nn_add (6 * k) 2), bsm]
        exact br (op_prime I L _ _ R)
      refine LStp_if (X := fun c => _) (Y := fun c => _) ?_ ?_
      · simp only [xT_i (show 6 * k + 1 < N by omega) hN (xs := xs) (show nn (6 * k) + 1 = nn (6 * k + 1) from nn_add (6 * k) 1), bsm]
        exact br (op_reason I L _ R)
      refine LStp_if (X := fun c => _) (Y := fun c => _) ?_ ?_
      · simp only [xT_i (show 6 * k + 1 < N by omega) hN (xs := xs) (show nn (6 * k) + 1 = nn (6 * k + 1) from nn_add (6 * k) 1), xT_i (show 6 * k + 2 < N by omega) hN (xs := xs) (show nn (6 * k) + 2 = nn (6 * k + 2) from nn_add (6 * k) 2), bsm]
        exact br (op_unit I L _ _ R)
      refine LStp_if (X := fun c => _) (Y := fun c => _) ?_ ?_
      · simp only [xT_i (show 6 * k + 1 < N by omega) hN (xs := xs) (show nn (6 * k) + 1 = nn (6 * k + 1) from nn_add (6 * k) 1), bsm]
        exact br (op_family I L _ R)
      refine LStp_if (X := fun c => _) (Y := fun c => _) ?_ ?_
      · simp only [xT_i (show 6 * k + 1 < N by omega) hN (xs := xs) (show nn (6 * k) + 1 = nn (6 * k + 1) from nn_add (6 * k) 1), bsm]
        exact br (op_part I L _ R)
      refine LStp_if (X := fun c => _) (Y := fun c => _) ?_ ?_
      · simp only [xT_i (show 6 * k + 1 < N by omega) hN (xs := xs) (show nn (6 * k) + 1 = nn (6 * k + 1) from nn_add (6 * k) 1), xT_i (show 6 * k + 2 < N by omega) hN (xs := xs) (show nn (6 * k) + 2 = nn (6 * k + 2) from nn_add (6 * k) 2), bsm]
        exact brL (op_convergent I L _ _ R)
      refine LStp_if (X := fun c => _) (Y := fun c => _) ?_ ?_
      · simp only [xT_i (show 6 * k + 1 < N by omega) hN (xs := xs) (show nn (6 * k) + 1 = nn (6 * k + 1) from nn_add (6 * k) 1), xT_i (show 6 * k + 2 < N by omega) hN (xs := xs) (show nn (6 * k) + 2 = nn (6 * k + 2) from nn_add (6 * k) 2), xT_i (show 6 * k + 3 < N by omega) hN (xs := xs) (show nn (6 * k) + 3 = nn (6 * k + 3) from nn_add (6 * k) 3), bsm]
        exact br (op_see I L _ _ _ R)
      refine LStp_if (X := fun c => _) (Y := fun c => _) ?_ ?_
      · simp only [xT_i (show 6 * k + 1 < N by omega) hN (xs := xs) (show nn (6 * k) + 1 = nn (6 * k + 1) from nn_add (6 * k) 1), xT_i (show 6 * k + 2 < N by omega) hN (xs := xs) (show nn (6 * k) + 2 = nn (6 * k + 2) from nn_add (6 * k) 2), bsm]
        exact br (op_fits I L _ _ R)
      refine LStp_if (X := fun c => _) (Y := fun c => _) ?_ ?_
      · simp only [xT_i (show 6 * k + 1 < N by omega) hN (xs := xs) (show nn (6 * k) + 1 = nn (6 * k + 1) from nn_add (6 * k) 1), bsm]
        exact brL (op_odds I L _ R)
      refine LStp_if (X := fun c => _) (Y := fun c => _) ?_ ?_
      · simp only [xT_i (show 6 * k + 1 < N by omega) hN (xs := xs) (show nn (6 * k) + 1 = nn (6 * k + 1) from nn_add (6 * k) 1), bsm]
        exact brL (op_mean I L _ R)
      refine LStp_if (X := fun c => _) (Y := fun c => _) ?_ ?_
      · simp only [xT_i (show 6 * k + 1 < N by omega) hN (xs := xs) (show nn (6 * k) + 1 = nn (6 * k + 1) from nn_add (6 * k) 1), xT_i (show 6 * k + 2 < N by omega) hN (xs := xs) (show nn (6 * k) + 2 = nn (6 * k + 2) from nn_add (6 * k) 2), bsm]
        exact br (op_event I L _ _ R)
      refine LStp_if (X := fun c => _) (Y := fun c => _) ?_ ?_
      · simp only [xT_i (show 6 * k + 1 < N by omega) hN (xs := xs) (show nn (6 * k) + 1 = nn (6 * k + 1) from nn_add (6 * k) 1), bsm]
        exact br (op_after I L _ R)
      refine LStp_if (X := fun c => _) (Y := fun c => _) ?_ ?_
      · simp only [xT_i (show 6 * k + 1 < N by omega) hN (xs := xs) (show nn (6 * k) + 1 = nn (6 * k + 1) from nn_add (6 * k) 1), xT_i (show 6 * k + 2 < N by omega) hN (xs := xs) (show nn (6 * k) + 2 = nn (6 * k + 2) from nn_add (6 * k) 2), bsm]
        exact br (op_book I L _ _ R)
      refine LStp_if (X := fun c => _) (Y := fun c => _) ?_ ?_
      · exact br (op_looked I L R)
      refine LStp_if (X := fun c => _) (Y := fun c => _) ?_ ?_
      · simp only [xT_i (show 6 * k + 1 < N by omega) hN (xs := xs) (show nn (6 * k) + 1 = nn (6 * k + 1) from nn_add (6 * k) 1), xT_i (show 6 * k + 2 < N by omega) hN (xs := xs) (show nn (6 * k) + 2 = nn (6 * k + 2) from nn_add (6 * k) 2), bsm]
        exact br (op_judge I L _ _ R)
      refine LStp_if (X := fun c => _) (Y := fun c => _) ?_ ?_
      · exact br (op_image I L R)
      refine LStp_if (X := fun c => _) (Y := fun c => _) ?_ ?_
      · exact br (op_undo I L R)
      refine LStp_if (X := fun c => _) (Y := fun c => _) ?_ ?_
      · simp only [xT_i (show 6 * k + 1 < N by omega) hN (xs := xs) (show nn (6 * k) + 1 = nn (6 * k + 1) from nn_add (6 * k) 1), bsm]
        exact br (op_count I L _ R)
      refine LStp_if (X := fun c => _) (Y := fun c => _) ?_ ?_
      · simp only [xT_i (show 6 * k + 1 < N by omega) hN (xs := xs) (show nn (6 * k) + 1 = nn (6 * k + 1) from nn_add (6 * k) 1), xT_i (show 6 * k + 2 < N by omega) hN (xs := xs) (show nn (6 * k) + 2 = nn (6 * k + 2) from nn_add (6 * k) 2), xT_i (show 6 * k + 3 < N by omega) hN (xs := xs) (show nn (6 * k) + 3 = nn (6 * k + 3) from nn_add (6 * k) 3), bsm]
        exact br (op_tape I L _ _ _ R)
      refine LStp_if (X := fun c => _) (Y := fun c => _) ?_ ?_
      · simp only [xT_i (show 6 * k + 1 < N by omega) hN (xs := xs) (show nn (6 * k) + 1 = nn (6 * k + 1) from nn_add (6 * k) 1), xT_i (show 6 * k + 2 < N by omega) hN (xs := xs) (show nn (6 * k) + 2 = nn (6 * k + 2) from nn_add (6 * k) 2), xT_i (show 6 * k + 3 < N by omega) hN (xs := xs) (show nn (6 * k) + 3 = nn (6 * k + 3) from nn_add (6 * k) 3), xT_i (show 6 * k + 4 < N by omega) hN (xs := xs) (show nn (6 * k) + 4 = nn (6 * k + 4) from nn_add (6 * k) 4), bsm]
        exact br (op_item I L _ _ _ R)
      refine LStp_if (X := fun c => _) (Y := fun c => _) ?_ ?_
      · simp only [xT_i (show 6 * k + 1 < N by omega) hN (xs := xs) (show nn (6 * k) + 1 = nn (6 * k + 1) from nn_add (6 * k) 1), xT_i (show 6 * k + 2 < N by omega) hN (xs := xs) (show nn (6 * k) + 2 = nn (6 * k + 2) from nn_add (6 * k) 2), bsm]
        exact brL (op_peek I L _ _ R)
      refine LStp_if (X := fun c => _) (Y := fun c => _) ?_ ?_
      · simp only [xT_i (show 6 * k + 1 < N by omega) hN (xs := xs) (show nn (6 * k) + 1 = nn (6 * k + 1) from nn_add (6 * k) 1), xT_i (show 6 * k + 2 < N by omega) hN (xs := xs) (show nn (6 * k) + 2 = nn (6 * k + 2) from nn_add (6 * k) 2), xT_i (show 6 * k + 3 < N by omega) hN (xs := xs) (show nn (6 * k) + 3 = nn (6 * k + 3) from nn_add (6 * k) 3), xT_i (show 6 * k + 4 < N by omega) hN (xs := xs) (show nn (6 * k) + 4 = nn (6 * k + 4) from nn_add (6 * k) 4), xT_i (show 6 * k + 5 < N by omega) hN (xs := xs) (show nn (6 * k) + 5 = nn (6 * k + 5) from nn_add (6 * k) 5), bsm]
        exact br (op_shift I L _ _ _ _ _ R)
      exact ⟨(nn (6 * k) + 6, mk I L), fun c => rfl, nn_add (6 * k) 6, I, L, rfl, R⟩
    · rintro ⟨v, h⟩ ⟨hv, I, L, hh, R⟩
      simp only at hv hh
      subst hv hh
      have hlt : (Int32.ofNat N) - 6 < nn (6 * (N / 6)) := by
        rw [i32_lt, nn_toInt (by omega), Int32.toInt_sub, show (Int32.ofNat N).toInt = N from nn_toInt (by omega), show (6 : Int32).toInt = 6 by decide, Int.bmod_eq_of_le (by omega) (by omega)]
        omega
      exact ⟨((), mk I L), fun c => if_pos hlt, trivial⟩
  obtain ⟨⟨_, h⟩, hk, -⟩ := key
  exact ⟨h, hk⟩
