theorem bsm {α β : Type} (a : α) (f : α → Option β) : (some a).bind f = f a := id rfl
theorem nmE {α β : Type} (x : α) (f : α → β) : nm x f = f x := id rfl
section FO
variable (I : Nat → Nat → Int32) (L : Nat → Nat → Int64)
theorem inW_M {B : Nat} (hB : B < 100000) (x : Int64) (h : Mem) : fX10_in x (-nn B).toInt64 (nn B).toInt64 h = some (if inW B x = true then 1 else 0, h) := by
  rw [in_s, neg_nn hB, nn64_toInt (show B < 2147483648 by omega)]
  unfold inW
  simp only [decide_eq_true_eq]
def FQ (s : Sq) (B : Nat) (I : Nat → Nat → Int32) (L : Nat → Nat → Int64) (h : Mem) : Prop := ∃ I' L', h = mk I' L' ∧ Ch [69, 70, 71, 72, 73] [13, 15, 19] [67, 68] I L I' L' ∧ I' 62 13 = nn (nA s B) ∧ AAt s B I' ((2 * B + 1) * (2 * B + 1)) ∧ I' 62 19 = nn (nF s B) ∧ ∀ j, j < nA s B → I' 73 j = nn (fm s B j)
theorem families_M {s : Sq} (hM : MSt I L s) (hV : VSt s) {B : Nat} (hB : B ≤ 40) (hb : s.2.2.2 = nn B) : ∃ r, fX10_tellsFamilies 62 (mk I L) = some r ∧ FQ s B I L r.2 := by
  have hn := nA_lt (s := s) hB
  have hW := W_le hB
  obtain ⟨⟨_, h⟩, a1, I1, a2, a3, a4, a5⟩ := answers_M I L hM hV hB hb
  simp only at a2
  subst a2
  obtain ⟨⟨_, h⟩, u1, I2, L2, u2, u3, u4, u5⟩ := units_M I1 L (hM.1.ch a3 (by decide) (by decide)) hV
  simp only at u2
  subst u2
  have hc0 : Ch [69, 70, 71, 72, 73] [13, 15, 19] [67, 68] I L I2 L2 := (a3.tr u3).mono (by simp) (by simp) (by simp)
  have e13 : I2 62 13 = nn (nA s B) := by rw [u3.2.1 13 (by decide)]; exact a4
  obtain ⟨N, hN⟩ : ∃ N, un s 625 = N := ⟨_, rfl⟩
  have e15 : I2 62 15 = nn N := by rw [u4, hN]
  have e3 : I2 62 3 = nn B := by rw [hc0.2.1 3 (by decide)]; exact hM.2.2.trans hb
  have e69 : AAt s B I2 ((2 * B + 1) * (2 * B + 1)) := by
    unfold AAt at a5 ⊢
    rw [u3.1 69 (by decide) (by decide)]
    exact a5
  have h625 : N ≤ 104 := by rw [← hN]; exact un_104 s
  unfold fX10_tellsFamilies
  simp only [kd_62, if_true, a1, u1, Option.bind_some]
  refine lp_ex (fun i (t : Int32 × Mem) => t = (nn i, mk (up1 I2 71 (fun c => if c < i then -1 else I2 71 c)) L2)) (fun (r : Unit × Mem) => FQ s B I L r.2) 6561 (0, mk I2 L2) ?_ ?_ ?_ FU (FU_gt (by omega))
  · rw [fillF0, up1_id]
    rfl
  · rintro i hi _ rfl
    have q : ¬ (6561 : Int32) ≤ nn i := fun h => by
      have := (nn_le (m := 6561) (by omega) (by omega)).mp h
      omega
    refine ⟨(nn (i + 1), mk (up1 I2 71 (fun c => if c < i + 1 then -1 else I2 71 c)) L2), fun k => ?_, rfl⟩
    simp only [if_neg q, gR_62_16, yI_71, nn_lt0 (i) (by omega), nn_nat (show i < 2147483648 by omega), show i < 6561 by omega, not_false_eq_true, and_self, if_true, Option.bind_some, up1_s, up1_up1, fillF (I2 71) (fun _ => -1) i rfl, nm, nn_s]
  rintro _ rfl
  simp only [show (6561 : Int32) ≤ nn 6561 from Int32.le_refl _, if_true]
  -- the numbers of the answers by their places
  refine lpK (g := fun _ t => some t) (NI1 s B I2 L2) (nA s B) ⟨rfl, (fun c => if c < 6561 then -1 else I2 71 c), I2 72, ?_, fun c _ _ h => absurd h (Nat.not_lt_zero _), fun j hj => absurd hj (Nat.not_lt_zero _)⟩ ?_ ?_ (FU_gt (by omega))
  · rw [show up1 (up1 I2 71 (fun c => if c < 6561 then -1 else I2 71 c)) 72 (I2 72) = up1 I2 71 (fun c => if c < 6561 then -1 else I2 71 c) from up1_idv (up1_n _ _ (by decide))]
  · rintro i hi ⟨v, h⟩ ⟨hv, p, r, hh, h1, h2⟩
    simp only at hv hh
    subst hv hh
    obtain ⟨c, hc, hp, rfl⟩ := ans_kth hi
    obtain ⟨g1, g2⟩ := e69 c hc hp
    have hle : ¬ nn (nA s B) ≤ nn (fb_ct (Pc s B) c) := fun q => by
      have := (nn_le (show nA s B < 2147483648 by omega) (show fb_ct (Pc s B) c < 2147483648 by omega)).mp q
      omega
    have hcell := cell_c (up1 (up1 I2 71 p) 72 r) L2 (B := B) (by rw [up1_n _ _ (by decide), up1_n _ _ (by decide)]; exact e3) hc
    have e4 : ∀ m, 2 * nn m = nn (2 * m) := fun m => nn_mul 2 m
    have hlt : fb_ct (Pc s B) c < 6561 := by omega
    have hinj : ∀ c', Pc s B c' = true → fb_ct (Pc s B) c' = fb_ct (Pc s B) c → c' = c := fun c' q1 q2 => fb_ct_kth_one q1 hp q2
    generalize hmm : fb_ct (Pc s B) c = m at *
    refine ⟨(nn (m + 1), mk (up1 (up1 I2 71 (up1 p c (nn m))) 72 (up1 r m (nn m))) L2), fun _ k => ?_, rfl, up1 p c (nn m), up1 r m (nn m), rfl, fun c' hc' hp' hlt' => ?_, fun j hj => ?_⟩
    · have x62 : (up1 (up1 I2 71 p) 72 r) 62 = I2 62 := by rw [up1_n _ _ (by decide), up1_n _ _ (by decide)]
      have x69 : (up1 (up1 I2 71 p) 72 r) 69 = I2 69 := by rw [up1_n _ _ (by decide), up1_n _ _ (by decide)]
      have x71 : (up1 (up1 I2 71 p) 72 r) 71 = p := by rw [up1_n _ _ (by decide), up1_s]
      simp only [gI_62, x62, e13, Option.bind_some, if_neg hle, gR_62_16, gR_62_12, gR_62_17, e4, nn_p1, xI_69, x69, nn_lt0 (2 * m) (by omega), nn_nat (show 2 * m < 2147483648 by omega), show 2 * m < 13122 by omega, not_false_eq_true, and_self, if_true, nn_lt0 (2 * m + 1) (by omega), nn_nat (show 2 * m + 1 < 2147483648 by omega), show 2 * m + 1 < 13122 by omega, not_false_eq_true, and_self, if_true, g1, g2, kd_62, hcell, yI_71, x71, nn_lt0 (c) (by omega), nn_nat (show c < 2147483648 by omega), show c < 6561 by omega, not_false_eq_true, and_self, if_true, up1_mid I2 _ _ _ (show 71 ≠ 72 by decide), yI_72, nn_lt0 (m) (by omega), nn_nat (show m < 2147483648 by omega), show m < 6561 by omega, not_false_eq_true, and_self, if_true, up1_s, up1_up1, nm, nn_s]
    · simp only [up1_e]
      by_cases hcc : c' = c
      · rw [if_pos hcc, hcc, hmm]
      · rw [if_neg hcc]
        have h3 : ¬ fb_ct (Pc s B) c' = m := fun q => hcc (hinj c' hp' q)
        exact h1 c' hc' hp' (by omega)
    · simp only [up1_e]
      by_cases e : j = m
      · rw [if_pos e, e]
      · rw [if_neg e]
        exact h2 j (by omega)
  rintro ⟨v, h⟩ ⟨hv, p, r0, hh, h1, h2⟩
  simp only at hv hh
  subst hv hh
  have y62 : ∀ r, (up1 (up1 I2 71 p) 72 r) 62 = I2 62 := fun r => by rw [up1_n _ _ (by decide), up1_n _ _ (by decide)]
  have y69 : ∀ r, (up1 (up1 I2 71 p) 72 r) 69 = I2 69 := fun r => by rw [up1_n _ _ (by decide), up1_n _ _ (by decide)]
  have y70 : ∀ r, (up1 (up1 I2 71 p) 72 r) 70 = I2 70 := fun r => by rw [up1_n _ _ (by decide), up1_n _ _ (by decide)]
  have y71 : ∀ r, (up1 (up1 I2 71 p) 72 r) 71 = p := fun r => by rw [up1_n _ _ (by decide), up1_s]
  have e71 : ∀ c, c < (2 * B + 1) * (2 * B + 1) → Pc s B c = true → (up1 I2 71 p) 71 c = nn (fb_ct (Pc s B) c) := fun c hc hp => by
    rw [up1_s]
    refine h1 c hc hp ?_
    have := fb_ct_mono (Pc s B) (show c + 1 ≤ (2 * B + 1) * (2 * B + 1) by omega)
    rw [ct_y hp] at this
    exact this
  simp only [gI_62, y62, e13, Option.bind_some, Int32.le_refl, if_true]
  -- the links
  refine Exists.imp (fun t h => ⟨fun a _ => h.1 a, h.2⟩) (lpK (g := fun _ t => some t) (s0 := (0, mk (up1 (up1 I2 71 p) 72 r0) L2)) (NI2 s B (up1 I2 71 p) L2) (nA s B) ⟨rfl, r0, rfl, fun j => j, h2, fun j => Nat.le_refl j, fun j => Rh_rf s B j, fun u c c' _ _ _ _ _ _ _ _ q => q.elim (fun q => absurd q (Nat.not_lt_zero _)) (fun q => absurd q.2 (Nat.not_lt_zero _))⟩ ?_ ?_ (FU_gt (by omega)))
  · rintro i hi ⟨v, h⟩ ⟨hv, r, hh, hU⟩
    simp only at hv hh
    subst hv hh
    have hle : ¬ nn (nA s B) ≤ nn i := fun q => by
      have := (nn_le (show nA s B < 2147483648 by omega) (show i < 2147483648 by omega)).mp q
      omega
    simp only [gI_62, y62, e13, Option.bind_some, if_neg hle]
    obtain ⟨c, hc, hp, rfl⟩ := ans_kth hi
    obtain ⟨g1, g2⟩ := e69 c hc hp
    refine Exists.imp (fun t h => ⟨fun _ k => h.1 k, h.2⟩) (lpK (g := fun (k : Int32 × Mem → Option (Unit × Mem)) t => k t) (s0 := (0, mk (up1 (up1 I2 71 p) 72 r) L2)) (NI3 s B (up1 I2 71 p) L2 (fb_ct (Pc s B) c)) N ⟨rfl, r, rfl, hU⟩ ?_ ?_ (FU_gt (by omega)))
    · rintro k hk ⟨v, h⟩ ⟨hv, r1, hh, hU1⟩
      simp only at hv hh
      subst hv hh
      obtain ⟨u, hu, hub, hku⟩ := fb_ct_kth (p := Ub s) (n := 625) (k := k) (by rw [← hN] at hk; exact hk)
      have huu : un s u = k := hku
      have hul : un s u < N := by rw [← hN]; exact un_lt s hu hub
      have hle2 : ¬ nn N ≤ nn k := fun q => by
        have := (nn_le (show N < 2147483648 by omega) (show k < 2147483648 by omega)).mp q
        omega
      have w0 : I2 70 (4 * k) = uE u 0 := by rw [← huu]; exact u5 u hu hub 0 (by omega)
      have w1 : I2 70 (4 * k + 1) = uE u 1 := by rw [← huu]; exact u5 u hu hub 1 (by omega)
      have w2 : I2 70 (4 * k + 2) = uE u 2 := by rw [← huu]; exact u5 u hu hub 2 (by omega)
      have w3 : I2 70 (4 * k + 3) = uE u 3 := by rw [← huu]; exact u5 u hu hub 3 (by omega)
      have e4 : ∀ m, 4 * nn m = nn (4 * m) := fun m => nn_mul 4 m
      have e5 : ∀ m, nn m + 3 = nn (m + 3) := fun m => nn_add m 3
      have e2 : ∀ m, 2 * nn m = nn (2 * m) := fun m => nn_mul 2 m
      have hstep := step_l (up1 I2 71 p) L2 hV hB (by rw [up1_n _ _ (by decide)]; exact e3) e71 hc hp hu hub (by rw [huu]; exact hU1)
      have hmX : uE u 0 * cX B c + uE u 1 * cY B c = mX B u c := rfl
      have hmY : uE u 2 * cX B c + uE u 3 * cY B c = mY B u c := rfl
      have hm6 : fb_ct (Pc s B) c < 6561 := by omega
      have hk104 : k < 104 := by omega
      rw [huu] at hstep
      generalize hmm : fb_ct (Pc s B) c = m at *
      rcases hstep with ⟨hout, hU2⟩ | ⟨hx, hy, c', r', k1, k2, k3, k4, k5⟩
      · refine ⟨(nn (k + 1), mk (up1 (up1 I2 71 p) 72 r1) L2), fun _ kc => ?_, rfl, r1, rfl, hU2⟩
        simp only [gI_62, y62, e15, bsm, if_neg hle2, gR_62_14, gR_62_12, e4, e5, e2, nn_p1, nn_p2, xI_70, xI_69, y69, y70, nn_lt0 (4 * k) (by omega), nn_nat (show 4 * k < 2147483648 by omega), show 4 * k < 2500 by omega, not_false_eq_true, and_self, if_true, nn_lt0 (4 * k + 1) (by omega), nn_nat (show 4 * k + 1 < 2147483648 by omega), show 4 * k + 1 < 2500 by omega, not_false_eq_true, and_self, if_true, nn_lt0 (4 * k + 2) (by omega), nn_nat (show 4 * k + 2 < 2147483648 by omega), show 4 * k + 2 < 2500 by omega, not_false_eq_true, and_self, if_true, nn_lt0 (4 * k + 3) (by omega), nn_nat (show 4 * k + 3 < 2147483648 by omega), show 4 * k + 3 < 2500 by omega, not_false_eq_true, and_self, if_true, nn_lt0 (2 * m) (by omega), nn_nat (show 2 * m < 2147483648 by omega), show 2 * m < 13122 by omega, not_false_eq_true, and_self, if_true, nn_lt0 (2 * m + 1) (by omega), nn_nat (show 2 * m + 1 < 2147483648 by omega), show 2 * m + 1 < 13122 by omega, not_false_eq_true, and_self, if_true, w0, w1, w2, w3, g1, g2, nmE, e3, hmX, hmY, inW_M (show B < 100000 by omega), ite10, nn_s]
        by_cases hx : inW B (mX B u c).toInt64 = true
        · rw [if_pos hx, if_neg (fun hy => hout ⟨hx, hy⟩)]
        · rw [if_neg hx]
      · refine ⟨(nn (k + 1), mk (up1 (up1 I2 71 p) 72 r') L2), fun _ kc => ?_, rfl, r', rfl, k5⟩
        rw [up1_s] at k3
        have hc'6 : c' < 6561 := by omega
        simp only [gI_62, y62, e15, bsm, if_neg hle2, gR_62_14, gR_62_12, gR_62_16, e4, e5, e2, nn_p1, nn_p2, xI_70, xI_69, xI_71, y69, y70, y71, nn_lt0 (4 * k) (by omega), nn_nat (show 4 * k < 2147483648 by omega), show 4 * k < 2500 by omega, not_false_eq_true, and_self, if_true, nn_lt0 (4 * k + 1) (by omega), nn_nat (show 4 * k + 1 < 2147483648 by omega), show 4 * k + 1 < 2500 by omega, not_false_eq_true, and_self, if_true, nn_lt0 (4 * k + 2) (by omega), nn_nat (show 4 * k + 2 < 2147483648 by omega), show 4 * k + 2 < 2500 by omega, not_false_eq_true, and_self, if_true, nn_lt0 (4 * k + 3) (by omega), nn_nat (show 4 * k + 3 < 2147483648 by omega), show 4 * k + 3 < 2500 by omega, not_false_eq_true, and_self, if_true, nn_lt0 (2 * m) (by omega), nn_nat (show 2 * m < 2147483648 by omega), show 2 * m < 13122 by omega, not_false_eq_true, and_self, if_true, nn_lt0 (2 * m + 1) (by omega), nn_nat (show 2 * m + 1 < 2147483648 by omega), show 2 * m + 1 < 13122 by omega, not_false_eq_true, and_self, if_true, nn_lt0 (c') (by omega), nn_nat (show c' < 2147483648 by omega), show c' < 6561 by omega, not_false_eq_true, and_self, if_true, w0, w1, w2, w3, g1, g2, nmE, e3, hmX, hmY, inW_M (show B < 100000 by omega), ite10, if_pos hx, if_pos hy, kd_62, k2, k3, k4, nn_s]
    · rintro ⟨v, h⟩ ⟨hv, r1, hh, hU1⟩
      simp only at hv hh
      subst hv hh
      refine ⟨(nn (fb_ct (Pc s B) c + 1), mk (up1 (up1 I2 71 p) 72 r1) L2), fun k _ => ?_, rfl, r1, rfl, ?_⟩
      · simp only [gI_62, y62, e15, bsm, Int32.le_refl, if_true, nmE, nn_s]
      · obtain ⟨ls, l1, l2, l3, l4⟩ := hU1
        refine ⟨ls, l1, l2, l3, fun u d d' q1 q2 q3 q4 q5 q6 q7 q8 q9 => l4 u d d' q1 q2 q3 q4 q5 q6 q7 q8 ?_⟩
        rcases q9 with q | ⟨_, q⟩
        · by_cases e : fb_ct (Pc s B) d < fb_ct (Pc s B) c
          · exact Or.inl e
          · exact Or.inr ⟨by omega, by rw [← hN]; exact un_lt s q1 q2⟩
        · exact absurd q (Nat.not_lt_zero _)
  rintro ⟨v, h⟩ ⟨hv, r, hh, ls, l1, l2, l3, l4⟩
  simp only at hv hh
  subst hv hh
  have hrt := rt_ldr hV l2 l3 l4
  simp only [gI_62, y62, e13, Option.bind_some, Int32.le_refl, if_true, pI_62]
  have hI4 : LsAt (nA s B) ((up1 (up1 I2 71 p) 72 r) 72) ls := by rw [up1_s]; exact l1
  have hc4 : Ch [69, 70, 71, 72, 73] [13, 15, 19] [67, 68] I L (up1 (up1 I2 71 p) 72 r) L2 := ((hc0.tr (ChI I2 L2 [71] [] [] (by simp) (by decide))).tr (ChI _ L2 [72] [] [] (by simp) (by decide))).mono (by simp) (by simp) (by simp)
  have e134 : (up1 (up1 I2 71 p) 72 r) 62 13 = nn (nA s B) := by rw [y62]; exact e13
  have e694 : AAt s B (up1 (up1 I2 71 p) 72 r) ((2 * B + 1) * (2 * B + 1)) := by
    unfold AAt
    rw [y69]
    exact e69
  rw [← y62 r]
  generalize up1 (up1 I2 71 p) 72 r = I4 at *
  -- the families' numbers
  refine Exists.imp (fun t h => ⟨fun a _ => h.1 a, h.2⟩) (lpK (g := fun _ t => some t) (s0 := (0, mk (up1 I4 62 (up1 (I4 62) 19 0)) L2)) (NI4 s B I4 L2) (nA s B) ⟨rfl, I4 73, ?_, fun j hj => absurd hj (Nat.not_lt_zero _)⟩ ?_ ?_ (FU_gt (by omega)))
  · rw [up1_id]
    rfl
  · rintro i hi ⟨v, h⟩ ⟨hv, f, hh, hf⟩
    simp only at hv hh
    subst hv hh
    have hle : ¬ nn (nA s B) ≤ nn i := fun q => by
      have := (nn_le (show nA s B < 2147483648 by omega) (show i < 2147483648 by omega)).mp q
      omega
    have x13 : (up1 (up1 I4 73 f) 62 (up1 (I4 62) 19 (nn (fb_ct (isL s B) i)))) 62 13 = nn (nA s B) := by rw [up1_s, up1_n _ _ (by decide)]; exact e134
    have x19 : (up1 (up1 I4 73 f) 62 (up1 (I4 62) 19 (nn (fb_ct (isL s B) i)))) 62 19 = nn (fb_ct (isL s B) i) := by rw [up1_s, up1_s]
    have x72 : (up1 (up1 I4 73 f) 62 (up1 (I4 62) 19 (nn (fb_ct (isL s B) i)))) 72 = I4 72 := by rw [up1_n _ _ (by decide), up1_n _ _ (by decide)]
    have x73 : (up1 (up1 I4 73 f) 62 (up1 (I4 62) 19 (nn (fb_ct (isL s B) i)))) 73 = f := by rw [up1_n _ _ (by decide), up1_s]
    have hli := l2 i
    by_cases hl : ls i = i
    · have hld : ldr s B i = i := by rw [← hrt, rt_s l2, if_pos hl]
      have hisL : isL s B i = true := decide_eq_true hld
      refine ⟨(nn (i + 1), mk (up1 (up1 I4 73 (up1 f i (nn (fb_ct (isL s B) i)))) 62 (up1 (I4 62) 19 (nn (fb_ct (isL s B) (i + 1))))) L2), fun _ k => ?_, rfl, _, rfl, fun j hj => ?_⟩
      · rw [ct_y hisL]
        generalize fb_ct (isL s B) i = m at *
        have hsw : ∀ (a b : Nat → Int32), up1 (up1 (up1 I4 73 f) 62 a) 73 b = up1 (up1 I4 73 b) 62 a := fun a b => up1_mid I4 f a b (by decide)
        simp only [gI_62, x13, Option.bind_some, if_neg hle, gR_62_17, gR_62_18, xI_72, x72, nn_lt0 (i) (by omega), nn_nat (show i < 2147483648 by omega), show i < 6561 by omega, not_false_eq_true, and_self, if_true, hI4 i hi, hl, x19, yI_73, x73, hsw, pI_62, up1_s, up1_up1, nm, nn_s]
      · simp only [up1_e]
        by_cases e : j = i
        · rw [if_pos e, e, fm_ld hld]
        · rw [if_neg e]
          exact hf j (by omega)
    · have hne : ¬ nn (ls i) = nn i := fun q => hl ((nn_eq (by omega) (by omega)).mp q)
      have hld : ldr s B i < i := by
        have := rt_le l2 (ls i)
        rw [← hrt, rt_s l2, if_neg hl]
        omega
      have hisL : ¬ isL s B i = true := fun q => by
        have := of_decide_eq_true q
        omega
      have hlo := leastOf_s (up1 (up1 I4 73 f) 62 (up1 (I4 62) 19 (nn (fb_ct (isL s B) i)))) L2 hn l2 (by rw [x72]; exact hI4) hi
      rw [hrt i] at hlo
      have hfl : f (ldr s B i) = nn (fm s B i) := by
        rw [hf _ hld, fm_ld (ldr_ld hV B i)]
        rfl
      refine ⟨(nn (i + 1), mk (up1 (up1 I4 73 (up1 f i (nn (fm s B i)))) 62 (up1 (I4 62) 19 (nn (fb_ct (isL s B) (i + 1))))) L2), fun _ k => ?_, rfl, _, rfl, fun j hj => ?_⟩
      · rw [ct_n hisL]
        generalize fb_ct (isL s B) i = m at *
        generalize ldr s B i = dd at *
        have hsw : ∀ (a b : Nat → Int32), up1 (up1 (up1 I4 73 f) 62 a) 73 b = up1 (up1 I4 73 b) 62 a := fun a b => up1_mid I4 f a b (by decide)
        simp only [gI_62, x13, Option.bind_some, if_neg hle, gR_62_17, gR_62_18, xI_72, x72, nn_lt0 (i) (by omega), nn_nat (show i < 2147483648 by omega), show i < 6561 by omega, not_false_eq_true, and_self, if_true, hI4 i hi, if_neg hne, kd_62, hlo, xI_73, x73, nn_lt0 (dd) (by omega), nn_nat (show dd < 2147483648 by omega), show dd < 6561 by omega, not_false_eq_true, and_self, if_true, hfl, yI_73, hsw, nm, nn_s]
      · simp only [up1_e]
        by_cases e : j = i
        · rw [if_pos e, e]
        · rw [if_neg e]
          exact hf j (by omega)
  · rintro ⟨v, h⟩ ⟨hv, f, hh, hf⟩
    simp only at hv hh
    subst hv hh
    have x13 : (up1 (up1 I4 73 f) 62 (up1 (I4 62) 19 (nn (fb_ct (isL s B) (nA s B))))) 62 13 = nn (nA s B) := by rw [up1_s, up1_n _ _ (by decide)]; exact e134
    refine ⟨((), mk (up1 (up1 I4 73 f) 62 (up1 (I4 62) 19 (nn (fb_ct (isL s B) (nA s B))))) L2), fun _ _ => ?_, _, L2, rfl, ?_, x13, ?_, ?_, fun j hj => ?_⟩
    · simp only [gI_62, x13, Option.bind_some, Int32.le_refl, if_true]
    · refine ⟨fun q hq h0 => ?_, fun q hq => ?_, hc4.2.2⟩
      · rw [up1_n _ _ h0, up1_n _ _ (fun e => hq (by simp [e]))]
        exact hc4.1 q hq h0
      · rw [up1_s, up1_n _ _ (fun e => hq (by simp [e]))]
        exact hc4.2.1 q hq
    · unfold AAt
      rw [up1_n _ _ (by decide), up1_n _ _ (by decide)]
      exact e694
    · rw [up1_s, up1_s]
      rfl
    · rw [up1_n _ _ (by decide), up1_s]
      exact hf j hj
end FO
