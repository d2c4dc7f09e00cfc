def djb (S l : List Nat) : Bool := l.all fun r => !(S.contains r)
theorem djb_n {S l : List Nat} (h : djb S l = true) {r : Nat} (hr : r ∈ l) : r ∉ S := by
  unfold djb at h
  rw [List.all_eq_true] at h
  have h1 := h r hr
  simpa using h1
section KP
variable {I I' : Nat → Nat → Int32} {L L' : Nat → Nat → Int64} {S K T : List Nat}
theorem N_ch (R : RelN I L) (c : Ch S K T I L I' L') (h1 : djb S [4, 5] = true) (h2 : djb K [0] = true) (h3 : djb T [63] = true) : RelN I' L' := by
  obtain ⟨d, a, hC, hM, hV⟩ := R
  exact ⟨d, a, hC.ch c (djb_n h1 (by decide)) (djb_n h1 (by decide)) (by decide) (by decide), hM.ch c (djb_n h2 (by decide)) (djb_n h3 (by decide)), hV⟩
theorem M_ch (R : RelM I) (c : Ch S K T I L I' L') (h1 : djb S [3] = true) (h2 : djb K [2] = true) : RelM I' := by
  unfold RelM at *
  rw [c.1 3 (djb_n h1 (by decide)) (by decide), c.2.1 2 (djb_n h2 (by decide))]
  exact R
theorem B_ch (R : RelB I) (c : Ch S K T I L I' L') (h1 : djb S [3] = true) (h2 : djb K [3] = true) : RelB I' := by
  unfold RelB at *
  rw [c.1 3 (djb_n h1 (by decide)) (by decide), c.2.1 3 (djb_n h2 (by decide))]
  exact R
theorem S_ch (R : RelS I) (c : Ch S K T I L I' L') (h1 : djb S [8, 9, 64] = true) (h2 : djb K [5] = true) : RelS I' := by
  unfold RelS at *
  rw [c.1 8 (djb_n h1 (by decide)) (by decide), c.1 9 (djb_n h1 (by decide)) (by decide), c.1 64 (djb_n h1 (by decide)) (by decide), c.2.1 5 (djb_n h2 (by decide))]
  exact R
theorem E_ch (R : RelE I) (c : Ch S K T I L I' L') (h1 : djb S [10, 11, 65] = true) (h2 : djb K [7] = true) : RelE I' := by
  unfold RelE at *
  rw [c.1 10 (djb_n h1 (by decide)) (by decide), c.1 11 (djb_n h1 (by decide)) (by decide), c.1 65 (djb_n h1 (by decide)) (by decide), c.2.1 7 (djb_n h2 (by decide))]
  exact R
theorem K_ch (R : RelK I) (c : Ch S K T I L I' L') (h1 : djb S [12, 13, 66] = true) (h2 : djb K [9] = true) : RelK I' := by
  unfold RelK at *
  rw [c.1 12 (djb_n h1 (by decide)) (by decide), c.1 13 (djb_n h1 (by decide)) (by decide), c.1 66 (djb_n h1 (by decide)) (by decide), c.2.1 9 (djb_n h2 (by decide))]
  exact R
theorem X_ch (R : RelX I) (c : Ch S K T I L I' L') (h1 : djb S [45, 48, 79] = true) (h2 : djb K [29] = true) : RelX I' := by
  unfold RelX at *
  rw [c.1 45 (djb_n h1 (by decide)) (by decide), c.1 48 (djb_n h1 (by decide)) (by decide), c.1 79 (djb_n h1 (by decide)) (by decide), c.2.1 29 (djb_n h2 (by decide))]
  exact R
theorem T_ch (R : RelT I L) (c : Ch S K T I L I' L') (h1 : djb S TS' = true) (h2 : djb T TT' = true) : RelT I' L' := by
  intro t ht
  rw [c.1 (50 + 2 * t) (djb_n h1 (TS_in ht)) (by omega), c.1 82 (djb_n h1 (by decide)) (by decide), c.1 83 (djb_n h1 (by decide)) (by decide), c.2.2 84 (djb_n h2 (by decide)), c.2.2 (51 + 2 * t) (djb_n h2 (TT_in ht))]
  exact R t ht
theorem I_ch (R : RelI I L) (c : Ch S K T I L I' L') (h1 : djb S [1, 15, 16, 17, 20, 21, 22, 23, 24, 25, 86] = true) (h2 : djb K [36] = true) (h3 : djb T [85] = true) : RelI I' L' := by
  have e1 := c.1 1 (djb_n h1 (by decide)) (by decide)
  have e15 := c.1 15 (djb_n h1 (by decide)) (by decide)
  have e16 := c.1 16 (djb_n h1 (by decide)) (by decide)
  have e17 := c.1 17 (djb_n h1 (by decide)) (by decide)
  have e20 := c.1 20 (djb_n h1 (by decide)) (by decide)
  have e21 := c.1 21 (djb_n h1 (by decide)) (by decide)
  have e22 := c.1 22 (djb_n h1 (by decide)) (by decide)
  have e23 := c.1 23 (djb_n h1 (by decide)) (by decide)
  have e24 := c.1 24 (djb_n h1 (by decide)) (by decide)
  have e25 := c.1 25 (djb_n h1 (by decide)) (by decide)
  have e86 := c.1 86 (djb_n h1 (by decide)) (by decide)
  have e36 := c.2.1 36 (djb_n h2 (by decide))
  have e85 := c.2.2 85 (djb_n h3 (by decide))
  unfold RelI at *
  rw [e1, e36]
  refine ⟨R.1, ?_⟩
  rcases R.2 with h | ⟨h, hA⟩
  · exact Or.inl h
  · refine Or.inr ⟨h, RelAll_same ⟨⟨?_, ?_, ?_, ?_, ?_, ?_⟩, ⟨?_, ?_, ?_, ?_, ?_, ?_⟩, ⟨fun j _ => ?_, fun j _ => ?_, fun j _ => ?_, fun j _ => ?_⟩, fun j _ => ?_, fun j _ => ?_, fun j _ => ?_, fun j _ => ?_⟩ hA⟩
    · rw [vI_3, vI_3, e15]
    · rw [vI_3, vI_3, e15]
    · rw [vI_4, vI_4, e16]
    · rw [vI_8, vI_8, e20]
    · rw [vI_10, vI_10, e22]
    · rw [vI_12, vI_12, e24]
    · rw [vI_62_0, vI_62_0, e86]
    · rw [vI_62_2, vI_62_2, e86]
    · rw [vI_62_3, vI_62_3, e86]
    · rw [vI_62_5, vI_62_5, e86]
    · rw [vI_62_7, vI_62_7, e86]
    · rw [vI_62_9, vI_62_9, e86]
    · rw [vI_5, vI_5, e17]
    · rw [vI_9, vI_9, e21]
    · rw [vI_11, vI_11, e23]
    · rw [vI_13, vI_13, e25]
    · rw [vL_63, vL_63, e85]
    · rw [vI_64, vI_64, e86]
    · rw [vI_65, vI_65, e86]
    · rw [vI_66, vI_66, e86]
theorem C_ch (R : RelC I) (c : Ch S K T I L I' L') (h1 : djb S [74] = true) : RelC I' := fun i hi => by
  rw [c.1 74 (djb_n h1 (by decide)) (by decide)]
  exact R i hi
theorem A_ch (R : RelA I) (c : Ch S K T I L I' L') (h1 : djb S [31, 32, 33, 34, 37] = true) : RelA I' := RelA_ch R c (djb_n h1 (by decide)) (djb_n h1 (by decide)) (djb_n h1 (by decide)) (djb_n h1 (by decide)) (djb_n h1 (by decide))
end KP
/-- THE TWO PROGRAMS STAND ALIKE -/
def Rel (I : Nat → Nat → Int32) (L : Nat → Nat → Int64) : Prop := RelN I L ∧ RelM I ∧ RelB I ∧ RelS I ∧ RelE I ∧ RelK I ∧ RelX I ∧ RelT I L ∧ RelI I L ∧ RelC I ∧ RelA I
section OPS
variable (I : Nat → Nat → Int32) (L : Nat → Nat → Int64)
theorem op_degree (v : Int32) (R : Rel I L) : Both (fX9_degree 1 v) (fX10_degree 62 v) I L Rel := by
  obtain ⟨N, M, B, S, E, K, X, T, RI, C, A⟩ := R
  obtain ⟨r, I1, L1, I2, L2, h1, h2, gN, c⟩ := pair_degree I L v N
  exact ⟨r, I1, L1, I2, L2, h1, h2, gN, M_ch M c (by decide) (by decide), B_ch B c (by decide) (by decide), S_ch S c (by decide) (by decide), E_ch E c (by decide) (by decide), K_ch K c (by decide) (by decide), X_ch X c (by decide) (by decide), T_ch T c (by decide) (by decide), I_ch RI c (by decide) (by decide) (by decide), C_ch C c (by decide), A_ch A c (by decide)⟩
theorem op_number (i : Int32) (v : Int32) (R : Rel I L) : Both (fX9_number 1 i v) (fX10_number 62 i v) I L Rel := by
  obtain ⟨N, M, B, S, E, K, X, T, RI, C, A⟩ := R
  obtain ⟨r, I1, L1, I2, L2, h1, h2, gN, c⟩ := pair_number I L i v N
  exact ⟨r, I1, L1, I2, L2, h1, h2, gN, M_ch M c (by decide) (by decide), B_ch B c (by decide) (by decide), S_ch S c (by decide) (by decide), E_ch E c (by decide) (by decide), K_ch K c (by decide) (by decide), X_ch X c (by decide) (by decide), T_ch T c (by decide) (by decide), I_ch RI c (by decide) (by decide) (by decide), C_ch C c (by decide), A_ch A c (by decide)⟩
theorem op_equal (v : Int32) (R : Rel I L) : Both (fX9_equal 1 v) (fX10_equal 62 v) I L Rel := by
  obtain ⟨N, M, B, S, E, K, X, T, RI, C, A⟩ := R
  obtain ⟨r, I1, L1, I2, L2, h1, h2, gM, c, e⟩ := pair_equal I L v M
  exact ⟨r, I1, L1, I2, L2, h1, h2, N_ch N c (by decide) (by decide) (by decide), gM, (by unfold RelB at *; rw [c.2.1 3 (by decide), e]; exact B), S_ch S c (by decide) (by decide), E_ch E c (by decide) (by decide), K_ch K c (by decide) (by decide), X_ch X c (by decide) (by decide), T_ch T c (by decide) (by decide), I_ch RI c (by decide) (by decide) (by decide), C_ch C c (by decide), A_ch A c (by decide)⟩
theorem op_window (v : Int32) (R : Rel I L) : Both (fX9_window 1 v) (fX10_window 62 v) I L Rel := by
  obtain ⟨N, M, B, S, E, K, X, T, RI, C, A⟩ := R
  obtain ⟨r, I1, L1, I2, L2, h1, h2, gB, c, e⟩ := pair_window I L v B
  exact ⟨r, I1, L1, I2, L2, h1, h2, N_ch N c (by decide) (by decide) (by decide), (by unfold RelM at *; rw [c.2.1 2 (by decide), e]; exact M), gB, S_ch S c (by decide) (by decide), E_ch E c (by decide) (by decide), K_ch K c (by decide) (by decide), X_ch X c (by decide) (by decide), T_ch T c (by decide) (by decide), I_ch RI c (by decide) (by decide) (by decide), C_ch C c (by decide), A_ch A c (by decide)⟩
theorem op_move (m : Int32) (R : Rel I L) : Both (fX9_move 1 m) (fX10_move 62 m) I L Rel := by
  obtain ⟨N, M, B, S, E, K, X, T, RI, C, A⟩ := R
  obtain ⟨r, I1, L1, I2, L2, h1, h2, gN, c⟩ := pair_move I L m N
  exact ⟨r, I1, L1, I2, L2, h1, h2, gN, M_ch M c (by decide) (by decide), B_ch B c (by decide) (by decide), S_ch S c (by decide) (by decide), E_ch E c (by decide) (by decide), K_ch K c (by decide) (by decide), X_ch X c (by decide) (by decide), T_ch T c (by decide) (by decide), I_ch RI c (by decide) (by decide) (by decide), C_ch C c (by decide), A_ch A c (by decide)⟩
theorem op_turn (u : Int32) (v : Int32) (w : Int32) (z : Int32) (R : Rel I L) : Both (fX9_turn 1 u v w z) (fX10_turn 62 u v w z) I L Rel := by
  obtain ⟨N, M, B, S, E, K, X, T, RI, C, A⟩ := R
  obtain ⟨r, I1, L1, I2, L2, h1, h2, gN, c⟩ := pair_turn I L u v w z N
  exact ⟨r, I1, L1, I2, L2, h1, h2, gN, M_ch M c (by decide) (by decide), B_ch B c (by decide) (by decide), S_ch S c (by decide) (by decide), E_ch E c (by decide) (by decide), K_ch K c (by decide) (by decide), X_ch X c (by decide) (by decide), T_ch T c (by decide) (by decide), I_ch RI c (by decide) (by decide) (by decide), C_ch C c (by decide), A_ch A c (by decide)⟩
theorem op_feed (v : Int32) (R : Rel I L) : Both (fX9_feed 1 v) (fX10_feed 62 v) I L Rel := by
  obtain ⟨N, M, B, S, E, K, X, T, RI, C, A⟩ := R
  obtain ⟨r, I1, L1, I2, L2, h1, h2, gX, c⟩ := pair_feed I L v X
  exact ⟨r, I1, L1, I2, L2, h1, h2, N_ch N c (by decide) (by decide) (by decide), M_ch M c (by decide) (by decide), B_ch B c (by decide) (by decide), S_ch S c (by decide) (by decide), E_ch E c (by decide) (by decide), K_ch K c (by decide) (by decide), gX, T_ch T c (by decide) (by decide), I_ch RI c (by decide) (by decide) (by decide), C_ch C c (by decide), A_ch A c (by decide)⟩
theorem op_read (R : Rel I L) : Both (fX9_read 1) (fX10_read 62) I L Rel := by
  obtain ⟨N, M, B, S, E, K, X, T, RI, C, A⟩ := R
  obtain ⟨r, I1, L1, I2, L2, h1, h2, gN, gM, gB, gX, c⟩ := pair_read I L N M B X
  exact ⟨r, I1, L1, I2, L2, h1, h2, gN, gM, gB, S_ch S c (by decide) (by decide), E_ch E c (by decide) (by decide), K_ch K c (by decide) (by decide), gX, T_ch T c (by decide) (by decide), I_ch RI c (by decide) (by decide) (by decide), C_ch C c (by decide), A_ch A c (by decide)⟩
theorem op_of (i : Int32) (R : Rel I L) : Both (fX9_of 1 i) (fX10_of 62 i) I L Rel := by
  obtain ⟨N, M, B, S, E, K, X, T, RI, C, A⟩ := R
  obtain ⟨r, I1, L1, I2, L2, h1, h2, rfl, rfl⟩ := pair_of I L i N
  exact ⟨r, I1, L1, _, _, h1, h2, N, M, B, S, E, K, X, T, RI, C, A⟩
theorem op_told (w : Int32) (R : Rel I L) : Both (fX9_told 1 w) (fX10_told 62 w) I L Rel := by
  obtain ⟨N, M, B, S, E, K, X, T, RI, C, A⟩ := R
  obtain ⟨r, I1, L1, I2, L2, h1, h2, gA, c⟩ := pair_told I L w N M B A
  exact ⟨r, I1, L1, I2, L2, h1, h2, N_ch N c (by decide) (by decide) (by decide), M_ch M c (by decide) (by decide), B_ch B c (by decide) (by decide), S_ch S c (by decide) (by decide), E_ch E c (by decide) (by decide), K_ch K c (by decide) (by decide), X_ch X c (by decide) (by decide), T_ch T c (by decide) (by decide), I_ch RI c (by decide) (by decide) (by decide), C_ch C c (by decide), gA⟩
theorem op_value (x : Int32) (y : Int32) (R : Rel I L) : BothL (fX9_value 1 x y) (fX10_value 62 x y) I L Rel := by
  obtain ⟨N, M, B, S, E, K, X, T, RI, C, A⟩ := R
  obtain ⟨r, I1, L1, I2, L2, h1, h2, rfl, rfl⟩ := pair_value I L x y N
  exact ⟨r, I1, L1, _, _, h1, h2, N, M, B, S, E, K, X, T, RI, C, A⟩
theorem op_answer (i : Int32) (w : Int32) (R : Rel I L) : Both (fX9_answer 1 i w) (fX10_answer 62 i w) I L Rel := by
  obtain ⟨N, M, B, S, E, K, X, T, RI, C, A⟩ := R
  obtain ⟨r, I1, L1, I2, L2, h1, h2, gA, c⟩ := pair_answer I L i w N M B A
  exact ⟨r, I1, L1, I2, L2, h1, h2, N_ch N c (by decide) (by decide) (by decide), M_ch M c (by decide) (by decide), B_ch B c (by decide) (by decide), S_ch S c (by decide) (by decide), E_ch E c (by decide) (by decide), K_ch K c (by decide) (by decide), X_ch X c (by decide) (by decide), T_ch T c (by decide) (by decide), I_ch RI c (by decide) (by decide) (by decide), C_ch C c (by decide), gA⟩
theorem op_prime (i : Int32) (w : Int32) (R : Rel I L) : Both (fX9_prime 1 i w) (fX10_prime 62 i w) I L Rel := by
  obtain ⟨N, M, B, S, E, K, X, T, RI, C, A⟩ := R
  obtain ⟨r, I1, L1, I2, L2, h1, h2, c⟩ := pair_prime I L i w N M B C
  exact ⟨r, I1, L1, I2, L2, h1, h2, N_ch N c (by decide) (by decide) (by decide), M_ch M c (by decide) (by decide), B_ch B c (by decide) (by decide), S_ch S c (by decide) (by decide), E_ch E c (by decide) (by decide), K_ch K c (by decide) (by decide), X_ch X c (by decide) (by decide), T_ch T c (by decide) (by decide), I_ch RI c (by decide) (by decide) (by decide), C_ch C c (by decide), A_ch A c (by decide)⟩
theorem op_reason (i : Int32) (R : Rel I L) : Both (fX9_reason 1 i) (fX10_reason 62 i) I L Rel := by
  obtain ⟨N, M, B, S, E, K, X, T, RI, C, A⟩ := R
  obtain ⟨r, I1, L1, I2, L2, h1, h2, gA, c⟩ := pair_reason I L i N M B A C
  exact ⟨r, I1, L1, I2, L2, h1, h2, N_ch N c (by decide) (by decide) (by decide), M_ch M c (by decide) (by decide), B_ch B c (by decide) (by decide), S_ch S c (by decide) (by decide), E_ch E c (by decide) (by decide), K_ch K c (by decide) (by decide), X_ch X c (by decide) (by decide), T_ch T c (by decide) (by decide), I_ch RI c (by decide) (by decide) (by decide), C_ch C c (by decide), gA⟩
theorem op_unit (i : Int32) (w : Int32) (R : Rel I L) : Both (fX9_unit 1 i w) (fX10_unit 62 i w) I L Rel := by
  obtain ⟨N, M, B, S, E, K, X, T, RI, C, A⟩ := R
  obtain ⟨r, I1, L1, I2, L2, h1, h2, c⟩ := pair_unit I L i w N M B
  exact ⟨r, I1, L1, I2, L2, h1, h2, N_ch N c (by decide) (by decide) (by decide), M_ch M c (by decide) (by decide), B_ch B c (by decide) (by decide), S_ch S c (by decide) (by decide), E_ch E c (by decide) (by decide), K_ch K c (by decide) (by decide), X_ch X c (by decide) (by decide), T_ch T c (by decide) (by decide), I_ch RI c (by decide) (by decide) (by decide), C_ch C c (by decide), A_ch A c (by decide)⟩
theorem op_family (i : Int32) (R : Rel I L) : Both (fX9_family 1 i) (fX10_family 62 i) I L Rel := by
  obtain ⟨N, M, B, S, E, K, X, T, RI, C, A⟩ := R
  obtain ⟨r, I1, L1, I2, L2, h1, h2, gA, c⟩ := pair_family I L i N M B A
  exact ⟨r, I1, L1, I2, L2, h1, h2, N_ch N c (by decide) (by decide) (by decide), M_ch M c (by decide) (by decide), B_ch B c (by decide) (by decide), S_ch S c (by decide) (by decide), E_ch E c (by decide) (by decide), K_ch K c (by decide) (by decide), X_ch X c (by decide) (by decide), T_ch T c (by decide) (by decide), I_ch RI c (by decide) (by decide) (by decide), C_ch C c (by decide), gA⟩
theorem op_part (i : Int32) (R : Rel I L) : Both (fX9_part 1 i) (fX10_part 62 i) I L Rel := by
  obtain ⟨N, M, B, S, E, K, X, T, RI, C, A⟩ := R
  obtain ⟨r, I1, L1, I2, L2, h1, h2, c⟩ := pair_part I L i N M B
  exact ⟨r, I1, L1, I2, L2, h1, h2, N_ch N c (by decide) (by decide) (by decide), M_ch M c (by decide) (by decide), B_ch B c (by decide) (by decide), S_ch S c (by decide) (by decide), E_ch E c (by decide) (by decide), K_ch K c (by decide) (by decide), X_ch X c (by decide) (by decide), T_ch T c (by decide) (by decide), I_ch RI c (by decide) (by decide) (by decide), C_ch C c (by decide), A_ch A c (by decide)⟩
theorem op_convergent (i : Int32) (w : Int32) (R : Rel I L) : BothL (fX9_convergent 1 i w) (fX10_convergent 62 i w) I L Rel := by
  obtain ⟨N, M, B, S, E, K, X, T, RI, C, A⟩ := R
  obtain ⟨r, I1, L1, I2, L2, h1, h2, c⟩ := pair_convergent I L i w N M B
  exact ⟨r, I1, L1, I2, L2, h1, h2, N_ch N c (by decide) (by decide) (by decide), M_ch M c (by decide) (by decide), B_ch B c (by decide) (by decide), S_ch S c (by decide) (by decide), E_ch E c (by decide) (by decide), K_ch K c (by decide) (by decide), X_ch X c (by decide) (by decide), T_ch T c (by decide) (by decide), I_ch RI c (by decide) (by decide) (by decide), C_ch C c (by decide), A_ch A c (by decide)⟩
theorem op_see (x : Int32) (y : Int32) (v : Int32) (R : Rel I L) : Both (fX9_see 1 x y v) (fX10_see 62 x y v) I L Rel := by
  obtain ⟨N, M, B, S, E, K, X, T, RI, C, A⟩ := R
  obtain ⟨r, I1, L1, I2, L2, h1, h2, gS, c⟩ := pair_see I L x y v S
  exact ⟨r, I1, L1, I2, L2, h1, h2, N_ch N c (by decide) (by decide) (by decide), M_ch M c (by decide) (by decide), B_ch B c (by decide) (by decide), gS, E_ch E c (by decide) (by decide), K_ch K c (by decide) (by decide), X_ch X c (by decide) (by decide), T_ch T c (by decide) (by decide), I_ch RI c (by decide) (by decide) (by decide), C_ch C c (by decide), A_ch A c (by decide)⟩
theorem op_fits (i : Int32) (w : Int32) (R : Rel I L) : Both (fX9_fits 1 i w) (fX10_fits 62 i w) I L Rel := by
  obtain ⟨N, M, B, S, E, K, X, T, RI, C, A⟩ := R
  obtain ⟨r, I1, L1, I2, L2, h1, h2, c⟩ := pair_fits I L i w N S
  exact ⟨r, I1, L1, I2, L2, h1, h2, N_ch N c (by decide) (by decide) (by decide), M_ch M c (by decide) (by decide), B_ch B c (by decide) (by decide), S_ch S c (by decide) (by decide), E_ch E c (by decide) (by decide), K_ch K c (by decide) (by decide), X_ch X c (by decide) (by decide), T_ch T c (by decide) (by decide), I_ch RI c (by decide) (by decide) (by decide), C_ch C c (by decide), A_ch A c (by decide)⟩
theorem op_odds (p : Int32) (R : Rel I L) : BothL (fX9_odds 1 p) (fX10_odds 62 p) I L Rel := by
  obtain ⟨N, M, B, S, E, K, X, T, RI, C, A⟩ := R
  obtain ⟨r, I1, L1, I2, L2, h1, h2, rfl, rfl⟩ := pair_odds I L p N M B
  exact ⟨r, I1, L1, _, _, h1, h2, N, M, B, S, E, K, X, T, RI, C, A⟩
theorem op_mean (p : Int32) (R : Rel I L) : BothL (fX9_mean 1 p) (fX10_mean 62 p) I L Rel := by
  obtain ⟨N, M, B, S, E, K, X, T, RI, C, A⟩ := R
  obtain ⟨r, I1, L1, I2, L2, h1, h2, rfl, rfl⟩ := pair_mean I L p N M B
  exact ⟨r, I1, L1, _, _, h1, h2, N, M, B, S, E, K, X, T, RI, C, A⟩
theorem op_event (w : Int32) (n : Int32) (R : Rel I L) : Both (fX9_event 1 w n) (fX10_event 62 w n) I L Rel := by
  obtain ⟨N, M, B, S, E, K, X, T, RI, C, A⟩ := R
  obtain ⟨r, I1, L1, I2, L2, h1, h2, gE, c⟩ := pair_event I L w n N E
  exact ⟨r, I1, L1, I2, L2, h1, h2, N_ch N c (by decide) (by decide) (by decide), M_ch M c (by decide) (by decide), B_ch B c (by decide) (by decide), S_ch S c (by decide) (by decide), gE, K_ch K c (by decide) (by decide), X_ch X c (by decide) (by decide), T_ch T c (by decide) (by decide), I_ch RI c (by decide) (by decide) (by decide), C_ch C c (by decide), A_ch A c (by decide)⟩
theorem op_after (w : Int32) (R : Rel I L) : Both (fX9_after 1 w) (fX10_after 62 w) I L Rel := by
  obtain ⟨N, M, B, S, E, K, X, T, RI, C, A⟩ := R
  obtain ⟨r, I1, L1, I2, L2, h1, h2, gA, c, e⟩ := pair_after I L w N M B E A C
  exact ⟨r, I1, L1, I2, L2, h1, h2, (by obtain ⟨d, a, hC, hM, hV⟩ := N; exact ⟨d, a, hC.ch c (by decide) (by decide) (by decide) (by decide), ⟨by rw [c.2.1 0 (by decide)]; exact hM.1, fun j hj => by rw [e j hj]; exact hM.2 j hj⟩, hV⟩), M_ch M c (by decide) (by decide), B_ch B c (by decide) (by decide), S_ch S c (by decide) (by decide), E_ch E c (by decide) (by decide), K_ch K c (by decide) (by decide), X_ch X c (by decide) (by decide), T_ch T c (by decide) (by decide), I_ch RI c (by decide) (by decide) (by decide), C_ch C c (by decide), gA⟩
theorem op_book (i : Int32) (v : Int32) (R : Rel I L) : Both (fX9_book 1 i v) (fX10_book 62 i v) I L Rel := by
  obtain ⟨N, M, B, S, E, K, X, T, RI, C, A⟩ := R
  obtain ⟨r, I1, L1, I2, L2, h1, h2, gK, c⟩ := pair_book I L i v N K
  exact ⟨r, I1, L1, I2, L2, h1, h2, N_ch N c (by decide) (by decide) (by decide), M_ch M c (by decide) (by decide), B_ch B c (by decide) (by decide), S_ch S c (by decide) (by decide), E_ch E c (by decide) (by decide), gK, X_ch X c (by decide) (by decide), T_ch T c (by decide) (by decide), I_ch RI c (by decide) (by decide) (by decide), C_ch C c (by decide), A_ch A c (by decide)⟩
theorem op_looked (R : Rel I L) : Both (fX9_looked 1) (fX10_looked 62) I L Rel := by
  obtain ⟨N, M, B, S, E, K, X, T, RI, C, A⟩ := R
  obtain ⟨r, I1, L1, I2, L2, h1, h2, rfl, rfl⟩ := pair_looked I L N K
  exact ⟨r, I1, L1, _, _, h1, h2, N, M, B, S, E, K, X, T, RI, C, A⟩
theorem op_judge (a : Int32) (i : Int32) (R : Rel I L) : Both (fX9_judge 1 a i) (fX10_judge 62 a i) I L Rel := by
  obtain ⟨N, M, B, S, E, K, X, T, RI, C, A⟩ := R
  obtain ⟨r, I1, L1, I2, L2, h1, h2, rfl, rfl⟩ := pair_judge I L a i N T
  exact ⟨r, I1, L1, _, _, h1, h2, N, M, B, S, E, K, X, T, RI, C, A⟩
theorem op_image (R : Rel I L) : Both (fX9_image 1) (fX10_image 62) I L Rel := by
  obtain ⟨N, M, B, S, E, K, X, T, RI, C, A⟩ := R
  obtain ⟨r, I1, L1, I2, L2, h1, h2, g, gI, c⟩ := pair_image I L ⟨N, M, B, S, E, K⟩
  exact ⟨r, I1, L1, I2, L2, h1, h2, g.1, g.2.1, g.2.2.1, g.2.2.2.1, g.2.2.2.2.1, g.2.2.2.2.2, X_ch X c (by decide) (by decide), T_ch T c (by decide) (by decide), gI, C_ch C c (by decide), A_ch A c (by decide)⟩
theorem op_undo (R : Rel I L) : Both (fX9_undo 1) (fX10_undo 62) I L Rel := by
  obtain ⟨N, M, B, S, E, K, X, T, RI, C, A⟩ := R
  obtain ⟨r, I1, L1, I2, L2, h1, h2, g, gI, c⟩ := pair_undo I L ⟨N, M, B, S, E, K⟩ RI
  exact ⟨r, I1, L1, I2, L2, h1, h2, g.1, g.2.1, g.2.2.1, g.2.2.2.1, g.2.2.2.2.1, g.2.2.2.2.2, X_ch X c (by decide) (by decide), T_ch T c (by decide) (by decide), gI, C_ch C c (by decide), A_ch A c (by decide)⟩
theorem op_count (w : Int32) (R : Rel I L) : Both (fX9_count 1 w) (fX10_count 62 w) I L Rel := by
  obtain ⟨N, M, B, S, E, K, X, T, RI, C, A⟩ := R
  obtain ⟨r, I1, L1, I2, L2, h1, h2, rfl, rfl⟩ := pair_count I L w S E K X
  exact ⟨r, I1, L1, _, _, h1, h2, N, M, B, S, E, K, X, T, RI, C, A⟩
theorem op_tape (a : Int32) (s : Int32) (x : Int32) (R : Rel I L) : Both (fX9_tape 1 a s x) (fX10_tape 62 a s x) I L Rel := by
  obtain ⟨N, M, B, S, E, K, X, T, RI, C, A⟩ := R
  obtain ⟨r, I1, L1, I2, L2, h1, h2, gT, c⟩ := pair_tape I L a s x T
  exact ⟨r, I1, L1, I2, L2, h1, h2, N_ch N c (by decide) (by decide) (by decide), M_ch M c (by decide) (by decide), B_ch B c (by decide) (by decide), S_ch S c (by decide) (by decide), E_ch E c (by decide) (by decide), K_ch K c (by decide) (by decide), X_ch X c (by decide) (by decide), gT, I_ch RI c (by decide) (by decide) (by decide), C_ch C c (by decide), A_ch A c (by decide)⟩
theorem op_item (a : Int32) (i : Int32) (v : Int64) (R : Rel I L) : Both (fX9_item 1 a i v) (fX10_item 62 a i v) I L Rel := by
  obtain ⟨N, M, B, S, E, K, X, T, RI, C, A⟩ := R
  obtain ⟨r, I1, L1, I2, L2, h1, h2, gT, c⟩ := pair_item I L a i v T
  exact ⟨r, I1, L1, I2, L2, h1, h2, N_ch N c (by decide) (by decide) (by decide), M_ch M c (by decide) (by decide), B_ch B c (by decide) (by decide), S_ch S c (by decide) (by decide), E_ch E c (by decide) (by decide), K_ch K c (by decide) (by decide), X_ch X c (by decide) (by decide), gT, I_ch RI c (by decide) (by decide) (by decide), C_ch C c (by decide), A_ch A c (by decide)⟩
theorem op_peek (a : Int32) (i : Int32) (R : Rel I L) : BothL (fX9_peek 1 a i) (fX10_peek 62 a i) I L Rel := by
  obtain ⟨N, M, B, S, E, K, X, T, RI, C, A⟩ := R
  obtain ⟨r, I1, L1, I2, L2, h1, h2, rfl, rfl⟩ := pair_peek I L a i T
  exact ⟨r, I1, L1, _, _, h1, h2, N, M, B, S, E, K, X, T, RI, C, A⟩
theorem op_shift (a : Int32) (i : Int32) (b : Int32) (j : Int32) (m : Int32) (R : Rel I L) : Both (fX9_shift 1 a i b j m) (fX10_shift 62 a i b j m) I L Rel := by
  obtain ⟨N, M, B, S, E, K, X, T, RI, C, A⟩ := R
  obtain ⟨r, I1, L1, I2, L2, h1, h2, gT, c⟩ := pair_shift I L a i b j m T
  exact ⟨r, I1, L1, I2, L2, h1, h2, N_ch N c (by decide) (by decide) (by decide), M_ch M c (by decide) (by decide), B_ch B c (by decide) (by decide), S_ch S c (by decide) (by decide), E_ch E c (by decide) (by decide), K_ch K c (by decide) (by decide), X_ch X c (by decide) (by decide), gT, I_ch RI c (by decide) (by decide) (by decide), C_ch C c (by decide), A_ch A c (by decide)⟩
end OPS
/-- as it begins -/
theorem Rel_00 : Rel I00 L00 := by
  refine ⟨⟨(I00 4 0).toNatClampNeg, fun j => L00 63 j, ⟨?_, ?_⟩, ⟨?_, fun _ _ => rfl⟩, ⟨?_, ?_, ?_⟩⟩, ⟨?_, ?_, ?_⟩, ⟨?_, ?_, ?_⟩, ⟨(I00 8 0).toNatClampNeg, ?_, ?_, ?_, ?_⟩, ⟨(I00 10 0).toNatClampNeg, ?_, ?_, ?_, ?_⟩, ⟨(I00 12 0).toNatClampNeg, ?_, ?_, ?_, ?_⟩, ⟨(I00 45 0).toNatClampNeg, ?_, ?_, ?_, ?_⟩, fun t ht => ⟨(I00 83 t).toNatClampNeg, ?_⟩, ⟨?_, Or.inl ?_⟩, ?_, Or.inl ?_⟩
  · decide +kernel
  · exact (show ∀ j, j < 5 → (I00 5 j).toInt64 = L00 63 j by decide +kernel)
  · decide +kernel
  · decide +kernel
  · decide +kernel
  · decide +kernel
  · decide +kernel
  · decide +kernel
  · decide +kernel
  · decide +kernel
  · decide +kernel
  · decide +kernel
  · decide +kernel
  · decide +kernel
  · decide +kernel
  · decide +kernel
  · decide +kernel
  · decide +kernel
  · decide +kernel
  · exact (show ∀ k, k < 8 → I00 65 (2 * k) = I00 11 (k * 3) ∧ I00 65 (2 * k + 1) = I00 11 (k * 3 + 1) ∧ (0 ≤ (I00 11 (k * 3)).toInt ∧ (I00 11 (k * 3)).toInt ≤ 2) ∧ ((I00 11 (k * 3)).toInt = 1 → 0 ≤ (I00 11 (k * 3 + 1)).toInt ∧ (I00 11 (k * 3 + 1)).toInt < 5) by decide +kernel)
  · decide +kernel
  · decide +kernel
  · decide +kernel
  · decide +kernel
  · decide +kernel
  · decide +kernel
  · decide +kernel
  · decide +kernel
  · exact (show ∀ t, t < 6 → (I00 83 t).toNatClampNeg ≤ 60 ∧ I00 (50 + 2 * t) 2 = nn (I00 83 t).toNatClampNeg ∧ I00 83 t = nn (I00 83 t).toNatClampNeg ∧ I00 82 t = I00 (50 + 2 * t) 0 ∧ (-1 ≤ (I00 (50 + 2 * t) 0).toInt ∧ (I00 (50 + 2 * t) 0).toInt ≤ 4) ∧ (I00 (50 + 2 * t) 0 = -1 → (I00 83 t).toNatClampNeg = 0) ∧ ∀ j, j < 60 → L00 84 (60 * t + j) = L00 (51 + 2 * t) j by decide +kernel) t ht
  · decide +kernel
  · decide +kernel
  · exact (show ∀ i, i < 6 → I00 74 i = nn (pm i) by decide +kernel)
  · decide +kernel
