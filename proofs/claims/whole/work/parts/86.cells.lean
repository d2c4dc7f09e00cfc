theorem ct_const {p : Nat → Bool} {m : Nat} : ∀ n, (∀ k, m ≤ k → k < m + n → p k = false) → fb_ct p (m + n) = fb_ct p m
  | 0, _ => rfl
  | n + 1, h => by
    show fb_ct p (m + n + 1) = _
    rw [ct_n (by rw [h (m + n) (by omega) (by omega)]; decide), ct_const n (fun k h1 h2 => h k h1 (by omega))]
/-- the cell of a place of the window in the class's 81 by 81, and back -/
def wE (B c : Nat) : Nat := (c / (2 * B + 1) + 40 - B) * 81 + (c % (2 * B + 1) + 40 - B)
def wW (B e : Nat) : Bool := decide ((40 ≤ e / 81 + B ∧ e / 81 ≤ 40 + B) ∧ 40 ≤ e % 81 + B ∧ e % 81 ≤ 40 + B)
def wC (B e : Nat) : Nat := (e / 81 + B - 40) * (2 * B + 1) + (e % 81 + B - 40)
theorem wE_at {B i j : Nat} (hj : j < 2 * B + 1) : wE B (i * (2 * B + 1) + j) = (i + 40 - B) * 81 + (j + 40 - B) := by
  unfold wE
  rw [ij_div hj, ij_mod hj]
theorem c_ij {W c : Nat} (hc : c < W * W) : ∃ i j, i < W ∧ j < W ∧ c = i * W + j := by
  have hW : 0 < W := by
    apply Nat.pos_of_ne_zero
    intro e
    subst e
    omega
  refine ⟨c / W, c % W, Nat.div_lt_of_lt_mul hc, Nat.mod_lt _ hW, ?_⟩
  rw [Nat.mul_comm]
  exact (Nat.div_add_mod c W).symm
theorem wE_lt {B c : Nat} (hB : B ≤ 40) (hc : c < (2 * B + 1) * (2 * B + 1)) : wE B c < 6561 := by
  obtain ⟨i, j, hi, hj, rfl⟩ := c_ij hc
  rw [wE_at hj]
  omega
theorem wE_div {B i j : Nat} (hB : B ≤ 40) (hi : i < 2 * B + 1) (hj : j < 2 * B + 1) : wE B (i * (2 * B + 1) + j) / 81 = i + 40 - B ∧ wE B (i * (2 * B + 1) + j) % 81 = j + 40 - B := by
  rw [wE_at hj]
  omega
theorem wC_E {B c : Nat} (hB : B ≤ 40) (hc : c < (2 * B + 1) * (2 * B + 1)) : wW B (wE B c) = true ∧ wC B (wE B c) = c := by
  obtain ⟨i, j, hi, hj, rfl⟩ := c_ij hc
  obtain ⟨h1, h2⟩ := wE_div hB hi hj
  refine ⟨?_, ?_⟩
  · unfold wW
    rw [h1, h2]
    exact decide_eq_true (by omega)
  · unfold wC
    rw [h1, h2, show i + 40 - B + B - 40 = i by omega, show j + 40 - B + B - 40 = j by omega]
theorem wE_C {B e : Nat} (hB : B ≤ 40) (h : wW B e = true) : wC B e < (2 * B + 1) * (2 * B + 1) ∧ wE B (wC B e) = e := by
  unfold wW at h
  have h := of_decide_eq_true h
  unfold wC
  refine ⟨?_, ?_⟩
  · have h1 : (e / 81 + B - 40) + 1 ≤ 2 * B + 1 := by omega
    have h2 := Nat.mul_le_mul_right (2 * B + 1) h1
    rw [Nat.succ_mul] at h2
    omega
  · rw [wE_at (by omega)]
    omega
/-- an answer stands in that cell -/
def Pe (s : Sq) (B e : Nat) : Bool := wW B e && Pc s B (wC B e)
theorem Pe_E {s : Sq} {B c : Nat} (hB : B ≤ 40) (hc : c < (2 * B + 1) * (2 * B + 1)) : Pe s B (wE B c) = Pc s B c := by
  unfold Pe
  rw [(wC_E hB hc).1, (wC_E hB hc).2]
  rfl
theorem Pe_out {s : Sq} {B e : Nat} (h : ¬ ((40 ≤ e / 81 + B ∧ e / 81 ≤ 40 + B) ∧ 40 ≤ e % 81 + B ∧ e % 81 ≤ 40 + B)) : Pe s B e = false := by
  unfold Pe wW
  rw [decide_eq_false h]
  rfl
theorem ct_row (s : Sq) {B : Nat} (hB : B ≤ 40) (i : Nat) (hi : i < 2 * B + 1) : ∀ j, j ≤ 2 * B + 1 → fb_ct (Pe s B) ((i + 40 - B) * 81 + (40 - B)) = fb_ct (Pc s B) (i * (2 * B + 1)) → fb_ct (Pe s B) ((i + 40 - B) * 81 + (40 - B) + j) = fb_ct (Pc s B) (i * (2 * B + 1) + j)
  | 0, _, h => h
  | j + 1, hj, h => by
    have h1 := ct_row s hB i hi j (by omega) h
    have h2 : i * (2 * B + 1) + j < (2 * B + 1) * (2 * B + 1) := by
      have := Nat.mul_le_mul_right (2 * B + 1) (show i + 1 ≤ 2 * B + 1 by omega)
      rw [Nat.succ_mul] at this
      omega
    have h3 : (i + 40 - B) * 81 + (40 - B) + j = wE B (i * (2 * B + 1) + j) := by
      rw [wE_at (by omega)]
      omega
    show fb_ct (Pe s B) ((i + 40 - B) * 81 + (40 - B) + j + 1) = fb_ct (Pc s B) (i * (2 * B + 1) + j + 1)
    rw [fb_ct_succ, fb_ct_succ, h1, h3, Pe_E hB h2]
theorem ct_rows (s : Sq) {B : Nat} (hB : B ≤ 40) : ∀ i, i ≤ 2 * B + 1 → fb_ct (Pe s B) ((i + 40 - B) * 81 + (40 - B)) = fb_ct (Pc s B) (i * (2 * B + 1))
  | 0, _ => by
    rw [Nat.zero_mul]
    show _ = 0
    refine fb_ct_zero.mpr (fun k hk => Pe_out ?_)
    omega
  | i + 1, hi => by
    have h1 := ct_row s hB i (by omega) (2 * B + 1) (Nat.le_refl _) (ct_rows s hB i (by omega))
    have h2 := ct_const (p := Pe s B) (m := (i + 40 - B) * 81 + (40 - B) + (2 * B + 1)) (80 - 2 * B) (fun k h3 h4 => Pe_out (by omega))
    rw [show (i + 1 + 40 - B) * 81 + (40 - B) = (i + 40 - B) * 81 + (40 - B) + (2 * B + 1) + (80 - 2 * B) by omega, h2, h1, ← nnW2]
/-- the numbers of the answers are the same, told by either -/
theorem ct_E (s : Sq) {B c : Nat} (hB : B ≤ 40) (hc : c < (2 * B + 1) * (2 * B + 1)) : fb_ct (Pe s B) (wE B c) = fb_ct (Pc s B) c := by
  obtain ⟨i, j, hi, hj, rfl⟩ := c_ij hc
  rw [wE_at hj, show (i + 40 - B) * 81 + (j + 40 - B) = (i + 40 - B) * 81 + (40 - B) + j by omega]
  exact ct_row s hB i hi j (by omega) (ct_rows s hB i (by omega))
theorem ct_all (s : Sq) {B : Nat} (hB : B ≤ 40) : fb_ct (Pe s B) 6561 = fb_ct (Pc s B) ((2 * B + 1) * (2 * B + 1)) := by
  have h1 := ct_row s hB (2 * B) (by omega) (2 * B + 1) (Nat.le_refl _) (ct_rows s hB (2 * B) (by omega))
  have h2 := ct_const (p := Pe s B) (m := (2 * B + 40 - B) * 81 + (40 - B) + (2 * B + 1)) (6561 - ((2 * B + 40 - B) * 81 + (40 - B) + (2 * B + 1))) (fun k h3 h4 => Pe_out (by omega))
  rw [show (2 * B + 40 - B) * 81 + (40 - B) + (2 * B + 1) + (6561 - ((2 * B + 40 - B) * 81 + (40 - B) + (2 * B + 1))) = 6561 by omega] at h2
  rw [h2, h1, nnW2]
/-- the two of a cell -/
def eX (e : Nat) : Int32 := nn (e / 81) - 40
def eY (e : Nat) : Int32 := nn (e % 81) - 40
theorem wx_shift {B i : Nat} (hB : B ≤ 40) : nn (i + 40 - B) - 40 = wx B i := by
  unfold wx
  rw [show i + 40 - B = i + (40 - B) by omega, ← nn_add, show nn (40 - B) = 40 - nn B from (nn_sub hB).symm]
  rw [Int32.sub_eq_add_neg, Int32.sub_eq_add_neg, Int32.sub_eq_add_neg, Int32.add_comm 40 (-nn B), ← Int32.add_assoc, Int32.add_assoc (nn i + -nn B), Int32.add_right_neg, Int32.add_zero]
theorem eX_E {B c : Nat} (hB : B ≤ 40) (hc : c < (2 * B + 1) * (2 * B + 1)) : eX (wE B c) = cX B c ∧ eY (wE B c) = cY B c := by
  obtain ⟨i, j, hi, hj, rfl⟩ := c_ij hc
  obtain ⟨h1, h2⟩ := wE_div hB hi hj
  unfold eX eY
  rw [h1, h2, cX_at hj, cY_at hj, wx_shift hB, wx_shift hB]
  exact ⟨rfl, rfl⟩
section TA
variable (I : Nat → Nat → Int32) (L : Nat → Nat → Int64)
/-- the answers in the reference's row -/
def AAt (s : Sq) (B : Nat) (I : Nat → Nat → Int32) (n : Nat) : Prop := ∀ c, c < n → Pc s B c = true → I 69 (2 * fb_ct (Pc s B) c) = cX B c ∧ I 69 (2 * fb_ct (Pc s B) c + 1) = cY B c
def AIm (s : Sq) (B : Nat) (I : Nat → Nat → Int32) (L : Nat → Nat → Int64) (c : Nat) (h : Mem) : Prop := ∃ I', h = mk I' L ∧ Ch [69] [13] [] I L I' L ∧ I' 62 13 = nn (fb_ct (Pc s B) c) ∧ AAt s B I' c
theorem AIm_y {s : Sq} {B : Nat} {I' : Nat → Nat → Int32} {c : Nat} (q1 : Ch [69] [13] [] I L I' L) (q3 : AAt s B I' c) (hp : Pc s B c = true) : AIm s B I L (c + 1) (mk (up1 (up1 I' 69 (up1 (up1 (I' 69) (2 * fb_ct (Pc s B) c) (cX B c)) (2 * fb_ct (Pc s B) c + 1) (cY B c))) 62 (up1 (I' 62) 13 (nn (fb_ct (Pc s B) c + 1)))) L) := by
  refine ⟨_, rfl, ⟨fun r hr h0 => ?_, fun j hj => ?_, fun _ _ => rfl⟩, by rw [up1_s, up1_s, ct_y hp], fun c' hc' hp' => ?_⟩
  · rw [up1_n _ _ h0, up1_n _ _ (fun e => hr (by simp [e]))]
    exact q1.1 r hr h0
  · rw [up1_s, up1_n _ _ (fun e => hj (by simp [e]))]
    exact q1.2.1 j hj
  · rw [up1_n _ _ (show 69 ≠ 62 by decide), up1_s]
    simp only [up1_e]
    by_cases e : c' = c
    · subst e
      rw [if_neg (by omega), if_pos rfl, if_pos rfl]
      exact ⟨rfl, rfl⟩
    · have h1 := fb_ct_mono (Pc s B) (show c' + 1 ≤ c by omega)
      rw [ct_y hp'] at h1
      rw [if_neg (by omega), if_neg (by omega), if_neg (by omega), if_neg (by omega)]
      exact q3 c' (by omega) hp'
theorem AIm_n {s : Sq} {B : Nat} {I' : Nat → Nat → Int32} {c : Nat} (q1 : Ch [69] [13] [] I L I' L) (q2 : I' 62 13 = nn (fb_ct (Pc s B) c)) (q3 : AAt s B I' c) (hp : ¬ Pc s B c = true) : AIm s B I L (c + 1) (mk I' L) := by
  refine ⟨I', rfl, q1, by rw [ct_n hp]; exact q2, fun c' hc' hp' => q3 c' ?_ hp'⟩
  by_cases e : c' = c
  · rw [e] at hp'
    exact absurd hp' hp
  · omega
def sW (P : Nat → Mem → Prop) (B c0 : Nat) (j : Nat) (s : Int32 × Mem) : Prop := s.1 = wx B j ∧ P (c0 + j) s.2
def sW0 (P : Nat → Mem → Prop) (B : Nat) (i : Nat) (s : Int32 × Mem) : Prop := s.1 = wx B i ∧ P (i * (2 * B + 1)) s.2
theorem answers_M {s : Sq} (hM : MSt I L s) (hV : VSt s) {B : Nat} (hB : B ≤ 40) (hb : s.2.2.2 = nn B) : ∃ r, fX10_tellsAnswers 62 (mk I L) = some r ∧ AIm s B I L ((2 * B + 1) * (2 * B + 1)) r.2 := by
  have e3 : ∀ I', Ch [69] [13] [] I L I' L → I' 62 3 = nn B := fun I' c => by
    rw [c.2.1 3 (by decide)]
    exact hM.2.2.trans hb
  have e30 : I 62 3 = nn B := hM.2.2.trans hb
  unfold fX10_tellsAnswers
  simp only [pI_62, Option.bind_some, gI_62, up1_s, up1_n (I 62) _ (show 3 ≠ 13 by decide), e30, nm, wx_0]
  refine lp_ex (sW0 (AIm s B I L) B) (fun (r : Unit × Mem) => AIm s B I L ((2 * B + 1) * (2 * B + 1)) r.2) (2 * B + 1) (wx B 0, mk (up1 I 62 (up1 (I 62) 13 0)) L) ⟨rfl, by rw [Nat.zero_mul]; exact ⟨up1 I 62 (up1 (I 62) 13 0), rfl, ChK I L [69] [13] [] (by simp), by rw [up1_s, up1_s]; rfl, fun c hc => absurd hc (Nat.not_lt_zero c)⟩⟩ ?_ ?_ FU (FU_gt (by omega))
  rotate_left
  · rintro ⟨v, h⟩ ⟨hv, I1, hh, q1, q2⟩
    simp only at hv hh
    subst hv hh
    refine ⟨((), mk I1 L), fun k => ?_, I1, rfl, q1, q2⟩
    simp only [gI_62, Option.bind_some, e3 I1 q1, wx_lt (show B < 100000 by omega) (show 2 * B + 1 < 100000 by omega), if_pos (show 2 * B < 2 * B + 1 by omega)]
  rintro i hi ⟨v, h⟩ ⟨hv, I1, hh, q1, q2⟩
  simp only at hv hh
  subst hv hh
  simp only [gI_62, Option.bind_some, e3 I1 q1, wx_lt (show B < 100000 by omega) (show i < 100000 by omega), if_neg (show ¬ 2 * B < i by omega), wx_0]
  refine Exists.imp (fun t h => ⟨fun k => h.1 k, h.2⟩) (lpK (g := fun (k : Int32 × Mem → Option (Unit × Mem)) t => k t) (sW (AIm s B I L) B (i * (2 * B + 1))) (2 * B + 1) ⟨rfl, I1, rfl, q1, q2⟩ ?_ ?_ (FU_gt (by omega)))
  rotate_left
  · rintro ⟨v, h⟩ ⟨hv, I2, hh, r1, r2⟩
    simp only at hv hh
    subst hv hh
    refine ⟨(wx B (i + 1), mk I2 L), fun k _ => ?_, rfl, ?_⟩
    · simp only [gI_62, Option.bind_some, e3 I2 r1, wx_lt (show B < 100000 by omega) (show 2 * B + 1 < 100000 by omega), if_pos (show 2 * B < 2 * B + 1 by omega), wx_s]
    · show AIm s B I L ((i + 1) * (2 * B + 1)) (mk I2 L)
      rw [nnW2]
      exact ⟨I2, rfl, r1, r2⟩
  rintro j hj ⟨v, h⟩ ⟨hv, I2, hh, r1, r2, r3⟩
  simp only at hv hh
  subst hv hh
  have hv : V s.1 s.2.1 (wx B i).toInt64 (wx B j).toInt64 = Vc s B (i * (2 * B + 1) + j) := by
    unfold Vc
    rw [cX_at hj, cY_at hj]
  have hct : fb_ct (Pc s B) (i * (2 * B + 1) + j) < 6561 := by
    have h1 := fb_ct_le (Pc s B) (i * (2 * B + 1) + j)
    have h2 : i * (2 * B + 1) ≤ 80 * 81 := Nat.mul_le_mul (by omega) (by omega)
    omega
  have e4 : ∀ m, 2 * nn m = nn (2 * m) := fun m => nn_mul 2 m
  have hM2 : AM I2 L s.1 s.2.1 := hM.1.ch r1 (by decide) (by decide)
  have hm2 : I2 62 2 = s.2.2.1 := by rw [r1.2.1 2 (by decide)]; exact hM.2.1
  by_cases hp : Vc s B (i * (2 * B + 1) + j) = s.2.2.1.toInt64
  · have hP : Pc s B (i * (2 * B + 1) + j) = true := decide_eq_true hp
    refine ⟨(wx B (j + 1), mk (up1 (up1 I2 69 (up1 (up1 (I2 69) (2 * fb_ct (Pc s B) (i * (2 * B + 1) + j)) (cX B (i * (2 * B + 1) + j))) (2 * fb_ct (Pc s B) (i * (2 * B + 1) + j) + 1) (cY B (i * (2 * B + 1) + j)))) 62 (up1 (I2 62) 13 (nn (fb_ct (Pc s B) (i * (2 * B + 1) + j) + 1)))) L), fun _ k => ?_, rfl, AIm_y I L r1 r3 hP⟩
    rw [cX_at hj, cY_at hj]
    generalize fb_ct (Pc s B) (i * (2 * B + 1) + j) = m at *
    simp only [gI_62, Option.bind_some, e3 I2 r1, wx_lt (show B < 100000 by omega) (show j < 100000 by omega), if_neg (show ¬ 2 * B < j by omega), kd_62, if_true, valE I2 L hM2 hV, hv, hm2, lg_cmp_eq, if_pos hp, gR_62_12, r2, e4, nn_p1, yI_69, nn_lt0 (2 * m) (by omega), nn_nat (show 2 * m < 2147483648 by omega), show 2 * m < 13122 by omega, not_false_eq_true, and_self, if_true, nn_lt0 (2 * m + 1) (by omega), nn_nat (show 2 * m + 1 < 2147483648 by omega), show 2 * m + 1 < 13122 by omega, not_false_eq_true, and_self, if_true, pI_62, up1_s, up1_up1, up1_n I2 _ (show 62 ≠ 69 by decide), wx_s]
  · have hP : ¬ Pc s B (i * (2 * B + 1) + j) = true := fun h => hp (of_decide_eq_true h)
    refine ⟨(wx B (j + 1), mk I2 L), fun _ k => ?_, rfl, AIm_n I L r1 r2 r3 hP⟩
    simp only [gI_62, Option.bind_some, e3 I2 r1, wx_lt (show B < 100000 by omega) (show j < 100000 by omega), if_neg (show ¬ 2 * B < j by omega), kd_62, if_true, valE I2 L hM2 hV, hv, hm2, lg_cmp_eq, if_neg hp, wx_s]
end TA
