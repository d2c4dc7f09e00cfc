/-- the first prime that bars -/
def fbF (s : Sq) : Nat := ff (fun i => Qs s.1 s.2.1 (pm i) (pm i * pm i) (rm (pm i) s.2.2.1.toInt)) 6
def fbv (s : Sq) : Int32 := if fbF s < 6 then nn (pm (fbF s)) else -5
theorem fbv_ne (s : Sq) : fbv s = -5 ↔ ¬ fbF s < 6 := by
  unfold fbv
  by_cases h : fbF s < 6
  · rw [if_pos h]
    refine ⟨fun q => ?_, fun q => absurd h q⟩
    have h1 := pm_r (fbF s)
    have h2 := nn_toInt (n := pm (fbF s)) (by omega)
    rw [q] at h2
    have h3 : (-5 : Int32).toInt = -5 := by decide
    omega
  · rw [if_neg h]
    exact ⟨fun _ => h, fun _ => rfl⟩
section RE
variable (I : Nat → Nat → Int32) (L : Nat → Nat → Int64)
theorem reason_C {s : Sq} {B : Nat} (hE : ESt 3 I s) (hV : VSt s) (A : RelA I) (hS : Sh s) (hB : B ≤ 40) (hb : s.2.2.2 = nn B) {n : Nat} (hn : n < 2147483648) : ∃ I', fX9_reason 1 (nn n) (mk I L) = some (if nA s B > 0 ∨ n > 2 then -5 else if n = 0 then s.2.2.2 else if n = 1 then fbv s else if fbF s < 6 then nn (fb_ct (Qs s.1 s.2.1 (pm (fbF s)) (pm (fbF s) * pm (fbF s))) 13) else -5, mk I' L) ∧ Ch [31, 32, 33, 34, 37] [] [] I L I' L ∧ RelA I' := by
  have hd := hV.1.1
  have hnA := nA_lt (s := s) hB
  by_cases h2 : n > 2
  · refine ⟨I, ?_, Ch.rf I L, A⟩
    unfold fX9_reason
    rw [if_pos (nn_0le hn), if_pos (show (2 : Int32) < nn n from (nn_lt (m := 2) (by omega) hn).mpr h2), if_pos (Or.inr h2)]
  obtain ⟨I1, h1, h3, h4, h5, h6⟩ := anow_s I L A hE hV hS hB hb
  refine ⟨I1, ?_, h3, h4⟩
  have hE1 : ESt 3 I1 s := ⟨hE.1.ch h3 (by decide) (by decide) (by decide) (by decide), by rw [h3.1 3 (by decide) (by decide)]; exact hE.2.1, by rw [h3.1 3 (by decide) (by decide)]; exact hE.2.2⟩
  unfold fX9_reason
  rw [if_pos (nn_0le hn), if_neg (show ¬ (2 : Int32) < nn n from fun q => h2 ((nn_lt (m := 2) (by omega) hn).mp q)), kd_1, if_pos rfl, h1, bsm]
  simp only [show ¬ (31 : Nat) = 0 by decide, if_false, gI_31, bsm, h6.1, nn_le0 (nA s B) (by omega)]
  by_cases hA : nA s B = 0
  rotate_left
  · rw [if_neg hA, if_pos (Or.inl (by omega))]
  rw [if_pos hA, if_neg (show ¬ (nA s B > 0 ∨ n > 2) by omega)]
  by_cases n0 : n = 0
  · rw [if_pos n0, n0, if_pos (show nn 0 = 0 from rfl)]
    simp only [gR_1_0, gR_2_0, gI_3, bsm, hE1.2.2]
  rw [if_neg n0, if_neg (fun q => n0 ((nn_eq0 n hn).mp q))]
  have hf := firstBar_3 I1 L hE1 hd
  have hf' : fX1_firstBar 3 (mk I1 L) = some (fbv s, mk I1 L) := hf
  by_cases n1 : n = 1
  · rw [if_pos n1, n1]
    simp only [gR_1_0, gR_2_0, bsm, kd_3, if_true, hf', show nn 1 = 1 from rfl]
  rw [if_neg n1]
  have hn1 : ¬ nn n = 1 := fun q => n1 ((nn_eq (b := 1) hn (by omega)).mp q)
  simp only [gR_1_0, gR_2_0, gR_3_0, bsm, kd_3, kd_4, if_true, hf', if_neg hn1, fbv_ne]
  by_cases hF : fbF s < 6
  · have hp := pm_r (fbF s)
    rw [if_neg (not_not_intro hF), if_pos hF, show fbv s = nn (pm (fbF s)) from if_pos hF, rests_4 I1 L hE1.1 hd hp.1 hp.2, bsm]
    simp only [bitCount_s, bsm, Mt_count (mt_Q s.1 s.2.1 (show 0 < pm (fbF s) by omega) hp.2 _)]
  · rw [if_pos hF, if_neg hF, show fbv s = -5 from if_neg hF]
theorem reason_M {s : Sq} {B : Nat} (hM : MSt I L s) (hV : VSt s) (C : RelC I) (hB : B ≤ 40) (hb : s.2.2.2 = nn B) {n : Nat} (hn : n < 2147483648) : ∃ I', fX10_reason 62 (nn n) (mk I L) = some (if nA s B > 0 ∨ n > 2 then -5 else if n = 0 then s.2.2.2 else if n = 1 then fbv s else if fbF s < 6 then nn (fb_ct (Qs s.1 s.2.1 (pm (fbF s)) (pm (fbF s) * pm (fbF s))) 13) else -5, mk I' L) ∧ Ch [69, 75] [13] [] I L I' L := by
  have hd := hV.1.1
  have hnA := nA_lt (s := s) hB
  obtain ⟨⟨_, h⟩, a1, I2, a2, a3, a4, a5⟩ := answers_M I L hM hV hB hb
  simp only at a2
  subst a2
  have hM2 : MSt I2 L s := hM.ch a3 (by decide) (by decide) (by decide) (by decide)
  have C2 : RelC I2 := fun i hi => by rw [a3.1 74 (by decide) (by decide)]; exact C i hi
  obtain ⟨J, hf⟩ := firstBar_M I2 L hM2 hd C2
  have hf' : fX10_firstBar 62 (mk I2 L) = some (fbv s, mk (up1 I2 75 J) L) := hf
  have c3 : Ch [69, 75] [13] [] I L (up1 I2 75 J) L := (a3.tr (ChI I2 L [75] [] [] (by simp) (by decide))).mono (by simp) (by simp) (by simp)
  have x62 : (up1 I2 75 J) 62 = I2 62 := up1_n _ _ (by decide)
  have a4' : I2 62 13 = nn (nA s B) := a4
  have hM3 : MSt (up1 I2 75 J) L s := hM.ch c3 (by decide) (by decide) (by decide) (by decide)
  by_cases hA : nA s B > 0
  · refine ⟨up1 I2 75 J, ?_, c3⟩
    unfold fX10_reason
    rw [if_pos (nn_0le hn), kd_62, if_pos rfl, a1, bsm]
    show (if mKd (mk I2 L) 62 = 10 then _ else none) = _
    rw [kd_62, if_pos rfl, hf', bsm]
    show ((gI 10 (mk (up1 I2 75 J) L) 62 13).bind fun v4 => if 0 < v4 then _ else _) = _
    rw [gI_62, x62, a4', bsm, if_pos (show (0 : Int32) < nn (nA s B) from (nn_lt (m := 0) (by omega) (by omega)).mpr hA), if_pos (Or.inl hA)]
  have hA0 : ¬ (0 : Int32) < nn (nA s B) := fun q => hA ((nn_lt (m := 0) (by omega) (by omega)).mp q)
  have pre : ∀ r h', (if 2 < nn n then some (-5, mk (up1 I2 75 J) L) else if nn n ≤ 0 then (if nn n = 0 then some (I2 62 3, mk (up1 I2 75 J) L) else if nn n = 1 then some (fbv s, mk (up1 I2 75 J) L) else (fX10_remainders 62 (fbv s) (mk (up1 I2 75 J) L)).bind fun ((v9, h8) : Int32 × Mem) => some (v9, h8)) else if fbv s = -5 then some (-5, mk (up1 I2 75 J) L) else (if nn n = 0 then some (I2 62 3, mk (up1 I2 75 J) L) else if nn n = 1 then some (fbv s, mk (up1 I2 75 J) L) else (fX10_remainders 62 (fbv s) (mk (up1 I2 75 J) L)).bind fun ((v9, h8) : Int32 × Mem) => some (v9, h8))) = some (r, h') → fX10_reason 62 (nn n) (mk I L) = some (r, h') := by
    intro r h' hr
    rw [← hr]
    unfold fX10_reason
    rw [if_pos (nn_0le hn), kd_62, if_pos rfl, a1, bsm]
    show (if mKd (mk I2 L) 62 = 10 then _ else none) = _
    rw [kd_62, if_pos rfl, hf', bsm]
    show ((gI 10 (mk (up1 I2 75 J) L) 62 13).bind fun v4 => if 0 < v4 then _ else _) = _
    rw [gI_62, x62, a4', bsm, if_neg hA0]
    simp only [jn, gI_62, x62, bsm, kd_62, if_true]
  by_cases h2 : n > 2
  · refine ⟨up1 I2 75 J, pre _ _ ?_, c3⟩
    rw [if_pos (show (2 : Int32) < nn n from (nn_lt (m := 2) (by omega) hn).mpr h2), if_pos (Or.inr h2)]
  have h2' : ¬ (2 : Int32) < nn n := fun q => h2 ((nn_lt (m := 2) (by omega) hn).mp q)
  have hor : ¬ (nA s B > 0 ∨ n > 2) := by omega
  by_cases n0 : n = 0
  · refine ⟨up1 I2 75 J, pre _ _ ?_, c3⟩
    rw [if_neg h2', if_neg hor, if_pos n0, n0, if_pos (show nn 0 ≤ 0 from Int32.le_refl _), if_pos (show nn 0 = 0 from rfl), show I2 62 3 = s.2.2.2 from hM2.2.2]
  have n0' : ¬ nn n ≤ 0 := fun q => n0 ((nn_le0 n hn).mp q)
  have n0'' : ¬ nn n = 0 := fun q => n0 ((nn_eq0 n hn).mp q)
  by_cases n1 : n = 1
  · refine ⟨up1 I2 75 J, pre _ _ ?_, c3⟩
    rw [if_neg h2', if_neg hor, if_neg n0, if_pos n1, if_neg n0', if_neg n0'', if_pos (show nn n = 1 by rw [n1]; rfl)]
    by_cases hF : fbv s = -5
    · rw [if_pos hF, hF]
    · rw [if_neg hF]
  have hn1 : ¬ nn n = 1 := fun q => n1 ((nn_eq (b := 1) hn (by omega)).mp q)
  by_cases hF : fbF s < 6
  · have hp := pm_r (fbF s)
    have hr := rests_M (up1 I2 75 J) L hM3.1 hd hp.1 hp.2
    refine ⟨_, pre _ _ ?_, (c3.tr (ChI (up1 I2 75 J) L (r := 75) (f := qr (Qs s.1 s.2.1 (pm (fbF s)) (pm (fbF s) * pm (fbF s))) 13 (up1 I2 75 J 75)) [75] [] [] (by simp) (by decide))).mono (by simp) (by simp) (by simp)⟩
    rw [if_neg h2', if_neg hor, if_neg n0, if_neg n1, if_pos hF, if_neg n0', if_neg (fun q => (fbv_ne s).mp q hF), if_neg n0'', if_neg hn1, show fbv s = nn (pm (fbF s)) from if_pos hF, hr, bsm]
  · refine ⟨up1 I2 75 J, pre _ _ ?_, c3⟩
    rw [if_neg h2', if_neg hor, if_neg n0, if_neg n1, if_neg hF, if_neg n0', if_pos ((fbv_ne s).mpr hF)]
theorem pair_reason (i : Int32) (N : RelN I L) (M : RelM I) (Bb : RelB I) (A : RelA I) (C : RelC I) : Both (fX9_reason 1 i) (fX10_reason 62 i) I L (fun I' L' => Ask I L I' L') := by
  obtain ⟨s, hE, hM, hV, hS⟩ := st_sh I L N M Bb
  obtain ⟨B, hB1, hB, hb⟩ := VSt_b hV
  by_cases hi : (0 : Int32) ≤ i
  rotate_left
  · refine ⟨-1, I, L, I, L, ?_, ?_, A, Ch.rf I L⟩
    · unfold fX9_reason
      rw [if_neg hi]
    · unfold fX10_reason
      rw [if_neg hi]
  obtain ⟨n, hn2, rfl⟩ := i32_ex (show 0 ≤ i.toInt by rw [i32_le] at hi; simpa using hi)
  obtain ⟨I1, c1, c2, c3⟩ := reason_C I L hE hV A hS hB hb hn2
  obtain ⟨I2, m1, m2⟩ := reason_M I1 L (hM.ch c2 (by decide) (by decide) (by decide) (by decide)) hV (fun j hj => by rw [c2.1 74 (by decide) (by decide)]; exact C j hj) hB hb hn2
  exact ⟨_, I1, L, I2, L, c1, m1, RelA_ch c3 m2 (by decide) (by decide) (by decide) (by decide) (by decide), toSC (c2.tr m2) (by decide) (by decide) (by decide)⟩
end RE
