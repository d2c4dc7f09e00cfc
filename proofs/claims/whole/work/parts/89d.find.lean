section FF
variable (I : Nat → Nat → Int32) (L : Nat → Nat → Int64)
/-- the labels, when the cells ahead of e are through -/
def LabU (s : Sq) (B : Nat) (lb : Nat → Int32) (i : Nat) : Prop := ∀ e, e < 6561 → lb e = if Pe s B e = true then (if ldr s B (fb_ct (Pe s B) e) < i then nn (fm s B (fb_ct (Pe s B) e)) else -2) else -1
def FI (s : Sq) (B : Nat) (I : Nat → Nat → Int32) (L : Nat → Nat → Int64) (e : Nat) (t : Int32 × Mem) : Prop := t.1 = nn e ∧ ∃ I', t.2 = mk I' L ∧ Ch [31, 37] [] [] I L I' L ∧ (I' 31 0 = I 31 0 ∧ I' 31 2 = I 31 2 ∧ I' 31 3 = I 31 3) ∧ I' 31 1 = nn (fb_ct (isL s B) (fb_ct (Pe s B) e)) ∧ LabU s B (I' 37) (fb_ct (Pe s B) e)
theorem fm_lt {s : Sq} {B i : Nat} (h : i < nA s B) (hB : B ≤ 40) : fm s B i < 6561 := by
  have h1 := fb_ct_le (isL s B) (ldr s B i)
  have h2 := ldr_le s B i
  have h3 := nA_lt (s := s) hB
  unfold fm
  omega
theorem num_lt {s : Sq} {B e : Nat} (hB : B ≤ 40) (h : Pe s B e = true) (he : e < 6561) : fb_ct (Pe s B) e < nA s B := by
  have h1 := fb_ct_mono (Pe s B) (show e + 1 ≤ 6561 by omega)
  rw [ct_y h, ct_all s hB] at h1
  exact h1
theorem findF {s : Sq} (hV : VSt s) {B : Nat} (hB : B ≤ 40) (hb : s.2.2.2 = nn B) (hE : ESt 32 I s) (hK : Kept s B I) : ∃ I' L', fX0_findFamilies 31 38 (mk I L) = some ((), mk I' L') ∧ Ch [31, 37, 38, 39] [] [35, 36] I L I' L' ∧ I' 31 2 = I 31 2 ∧ I' 31 0 = nn (nA s B) ∧ I' 31 1 = nn (nF s B) ∧ I' 31 3 = 1 ∧ LabF s B (I') := by
  obtain ⟨k1, ⟨k2, k3, k4⟩ | ⟨k2, k3, k4⟩⟩ := hK
  rotate_left
  · refine ⟨I, L, ?_, Ch.rf I L, rfl, k1, k3, k2, k4⟩
    unfold fX0_findFamilies
    simp only [gI_31, Option.bind_some, k2, one0, if_false]
  have hc1 : Ch [31, 37, 38, 39] [] [35, 36] I L (up1 I 31 (up1 (I 31) 3 1)) L := ChI I L [31, 37, 38, 39] [] [35, 36] (by simp) (by decide)
  have hA1 : AC 33 (up1 I 31 (up1 (I 31) 3 1)) s.1 s.2.1 := hE.1.ch hc1 (by decide) (by decide) (by decide) (by decide)
  obtain ⟨⟨_, h⟩, u1, I2, L2, u2, u3, u4, u5⟩ := units_33 (up1 I 31 (up1 (I 31) 3 1)) L hA1 hV
  simp only at u2
  subst u2
  have hc2 : Ch [31, 37, 38, 39] [] [35, 36] I L I2 L2 := (hc1.tr u3).mono (by simp) (by simp) (by simp)
  have e31 : I2 31 = up1 (I 31) 3 1 := by rw [u3.1 31 (by decide) (by decide), up1_s]
  have e37 : I2 37 = I 37 := by rw [u3.1 37 (by decide) (by decide), up1_n _ _ (by decide)]
  have e32 : I2 32 2 = nn B := by
    rw [u3.1 32 (by decide) (by decide), up1_n _ _ (by decide)]
    exact hE.2.2.trans hb
  have key : ∃ r, fX0_findFamilies 31 38 (mk I L) = some r ∧ ∃ I', r.2 = mk I' L2 ∧ Ch [31, 37] [] [] I2 L2 I' L2 ∧ (I' 31 0 = I2 31 0 ∧ I' 31 2 = I2 31 2 ∧ I' 31 3 = I2 31 3) ∧ I' 31 1 = nn (fb_ct (isL s B) (fb_ct (Pe s B) 6561)) ∧ LabU s B (I' 37) (fb_ct (Pe s B) 6561) := by
    unfold fX0_findFamilies
    simp only [gI_31, Option.bind_some, k2, if_true, pI_31, gR_31_4, gR_32_0, kd_38, u1]
    refine lp_ex (FI s B I2 L2) (fun (r : Unit × Mem) => ∃ I', r.2 = mk I' L2 ∧ Ch [31, 37] [] [] I2 L2 I' L2 ∧ (I' 31 0 = I2 31 0 ∧ I' 31 2 = I2 31 2 ∧ I' 31 3 = I2 31 3) ∧ I' 31 1 = nn (fb_ct (isL s B) (fb_ct (Pe s B) 6561)) ∧ LabU s B (I' 37) (fb_ct (Pe s B) 6561)) 6561 (0, mk I2 L2) ⟨rfl, I2, rfl, Ch.rf _ _, ⟨rfl, rfl, rfl⟩, ?_, fun e he => ?_⟩ ?_ ?_ FU (FU_gt (by omega))
    · rw [e31, up1_n _ _ (by decide), k3]
      rfl
    · rw [e37, k4 e he]
      by_cases h : Pe s B e = true
      · rw [if_pos h, if_pos h, if_neg (show ¬ ldr s B (fb_ct (Pe s B) e) < fb_ct (Pe s B) 0 from Nat.not_lt_zero _)]
      · rw [if_neg h, if_neg h]
    · rintro e he ⟨v, h⟩ ⟨hv, I3, hh, r1, r2, r3, r4⟩
      simp only at hv hh
      subst hv hh
      have q : ¬ (6561 : Int32) ≤ nn e := fun h => by
        have := (nn_le (m := 6561) (by omega) (by omega)).mp h
        omega
      have hlab := r4 e he
      by_cases hp : Pe s B e = true
      rotate_left
      · rw [if_neg hp] at hlab
        refine ⟨(nn (e + 1), mk I3 L2), fun k => ?_, rfl, I3, rfl, r1, r2, by rw [ct_n hp]; exact r3, by rw [ct_n hp]; exact r4⟩
        simp only [gR_31_5, ln_37, Option.bind_some, if_neg q, xI_37, nn_lt0 (e) (by omega), nn_nat (show e < 2147483648 by omega), show e < 6561 by omega, not_false_eq_true, and_self, if_true, hlab, show ¬ (-1 : Int32) = -2 by decide, if_false, nm, nn_s]
      rw [if_pos hp] at hlab
      have hnum := num_lt hB hp he
      have h6561 := nA_lt (s := s) hB
      by_cases hl : ldr s B (fb_ct (Pe s B) e) < fb_ct (Pe s B) e
      · rw [if_pos hl] at hlab
        have hne : ¬ I3 37 e = -2 := fun h => by
          rw [hlab] at h
          have h1 := nn_toInt (n := fm s B (fb_ct (Pe s B) e)) (by have := fm_lt hnum hB; omega)
          rw [h] at h1
          have h2 : (-2 : Int32).toInt = -2 := by decide
          omega
        have hisL : ¬ isL s B (fb_ct (Pe s B) e) = true := fun h => by
          have := of_decide_eq_true h
          omega
        refine ⟨(nn (e + 1), mk I3 L2), fun k => ?_, rfl, I3, rfl, r1, r2, by rw [ct_y hp, ct_n hisL]; exact r3, ?_⟩
        · simp only [gR_31_5, ln_37, Option.bind_some, if_neg q, xI_37, nn_lt0 (e) (by omega), nn_nat (show e < 2147483648 by omega), show e < 6561 by omega, not_false_eq_true, and_self, if_true, hne, if_false, nm, nn_s]
        · rw [ct_y hp]
          intro e' he'
          rw [r4 e' he']
          by_cases hp' : Pe s B e' = true
          · rw [if_pos hp', if_pos hp']
            have h3 : ¬ ldr s B (fb_ct (Pe s B) e') = fb_ct (Pe s B) e := fun h => by
              have := ldr_ld hV B (fb_ct (Pe s B) e')
              rw [h] at this
              omega
            by_cases h4 : ldr s B (fb_ct (Pe s B) e') < fb_ct (Pe s B) e
            · rw [if_pos h4, if_pos (show _ < _ + 1 by omega)]
            · rw [if_neg h4, if_neg (show ¬ _ < _ + 1 by omega)]
          · rw [if_neg hp', if_neg hp']
      · rw [if_neg hl] at hlab
        have hle := ldr_le s B (fb_ct (Pe s B) e)
        have hl0 : ldr s B (fb_ct (Pe s B) e) = fb_ct (Pe s B) e := by omega
        have hisL : isL s B (fb_ct (Pe s B) e) = true := decide_eq_true hl0
        have hFb := fb_ct_le (isL s B) (fb_ct (Pe s B) e)
        obtain ⟨lb', w1, w2⟩ := spread_s I3 L2 hV hB (by rw [r1.1 32 (by decide) (by decide)]; exact e32) (by rw [r1.1 38 (by decide) (by decide)]; exact u4) (fun c hc hcu j hj => by rw [r1.1 39 (by decide) (by decide)]; exact u5 c hc hcu j hj) he hp (by omega) r3 (fun e' he' hp' hl' => by rw [r4 e' he', if_pos hp', hl', if_neg (Nat.lt_irrefl _)]) hl0
        refine ⟨(nn (e + 1), mk (up1 (up1 I3 37 lb') 31 (up1 (I3 31) 1 (nn (fb_ct (isL s B) (fb_ct (Pe s B) e) + 1)))) L2), fun k => ?_, rfl, _, rfl, ⟨fun r hr h0 => ?_, fun j hj => ?_, fun _ _ => rfl⟩, ?_, ?_, fun e' he' => ?_⟩
        · simp only [gR_31_5, ln_37, Option.bind_some, if_neg q, xI_37, nn_lt0 (e) (by omega), nn_nat (show e < 2147483648 by omega), show e < 6561 by omega, not_false_eq_true, and_self, if_true, hlab, kd_31, w1, gI_31, pI_31, up1_n I3 _ (show 31 ≠ 37 by decide), r3, nm, nn_s]
        · rw [up1_n _ _ (fun e => hr (by simp [e])), up1_n _ _ (fun e => hr (by simp [e]))]
          exact r1.1 r hr h0
        · rw [up1_n _ _ (by decide), up1_n _ _ (by decide)]
          exact r1.2.1 j hj
        · rw [up1_s, up1_n _ _ (by decide), up1_n _ _ (by decide), up1_n _ _ (by decide)]
          exact r2
        · rw [up1_s, up1_s, ct_y hp, ct_y hisL]
        · rw [up1_n _ _ (by decide), up1_s, w2 e' he', ct_y hp]
          by_cases hp' : Pe s B e' = true
          · rw [if_pos hp']
            by_cases h3 : ldr s B (fb_ct (Pe s B) e') = fb_ct (Pe s B) e
            · rw [if_pos ⟨hp', h3⟩, if_pos (show _ < _ + 1 by omega)]
              unfold fm
              rw [h3]
            · rw [if_neg (fun q => h3 q.2), r4 e' he', if_pos hp']
              by_cases h4 : ldr s B (fb_ct (Pe s B) e') < fb_ct (Pe s B) e
              · rw [if_pos h4, if_pos (show _ < _ + 1 by omega)]
              · rw [if_neg h4, if_neg (show ¬ _ < _ + 1 by omega)]
          · rw [if_neg hp', if_neg (fun q => hp' q.1), r4 e' he', if_neg hp']
    · rintro ⟨v, h⟩ ⟨hv, I3, hh, r1, r2, r3, r4⟩
      simp only at hv hh
      subst hv hh
      refine ⟨((), mk I3 L2), fun k => ?_, I3, rfl, r1, r2, r3, r4⟩
      simp only [gR_31_5, ln_37, Option.bind_some, show (6561 : Int32) ≤ nn 6561 from Int32.le_refl _, if_true]
  obtain ⟨⟨_, h⟩, g1, I3, g2, g3, g4, g5, g6⟩ := key
  simp only at g2
  subst g2
  rw [ct_all s hB] at g5 g6
  refine ⟨I3, L2, g1, (hc2.tr g3).mono (by simp) (by simp) (by simp), ?_, ?_, g5, ?_, fun e he => ?_⟩
  · rw [g4.2.1, e31, up1_n _ _ (by decide)]
  · rw [g4.1, e31, up1_n _ _ (by decide), k1]
  · rw [g4.2.2, e31, up1_s]
  · rw [g6 e he]
    by_cases hp : Pe s B e = true
    · have h1 := num_lt hB hp he
      have h2 := ldr_le s B (fb_ct (Pe s B) e)
      unfold nA at h1
      rw [if_pos hp, if_pos hp, if_pos (by omega)]
    · rw [if_neg hp, if_neg hp]
end FF
