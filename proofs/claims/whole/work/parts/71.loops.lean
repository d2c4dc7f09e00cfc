/-- a loop with what stands behind it: it comes to t, of which Q holds -/
theorem lpK {κ σ ρ τ : Type} {f : κ → (σ → Option ρ) → σ → Option ρ} {g : κ → τ → Option ρ} (Inv : Nat → σ → Prop) {Q : τ → Prop} (N : Nat) {s0 : σ} (h0 : Inv 0 s0) (hs : ∀ i, i < N → ∀ s, Inv i s → ∃ s', (∀ c k, f c k s = k s') ∧ Inv (i + 1) s') (he : ∀ s, Inv N s → ∃ t, (∀ c k, f c k s = g c t) ∧ Q t) {n : Nat} (hn : N < n) : ∃ t, (∀ c, lpF (f c) n s0 = g c t) ∧ Q t := by
  have key : ∀ (e m : Nat), m + e = N → ∀ s, Inv m s → ∀ n, e < n → ∃ t, (∀ c, lpF (f c) n s = g c t) ∧ Q t := by
    intro e
    induction e with
    | zero =>
      intro m hm s hi n hn
      cases n with
      | zero => omega
      | succ n =>
        have hm' : m = N := by omega
        subst hm'
        obtain ⟨t, h1, h2⟩ := he s hi
        exact ⟨t, fun c => h1 c _, h2⟩
    | succ e ih =>
      intro m hm s hi n hn
      cases n with
      | zero => omega
      | succ n =>
        obtain ⟨s', h1, h2⟩ := hs m (by omega) s hi
        obtain ⟨t, h3, h4⟩ := ih (m + 1) (by omega) s' h2 n (by omega)
        refine ⟨t, fun c => ?_, h4⟩
        show f c (lpF (f c) n) s = g c t
        rw [h1]
        exact h3 c
  exact key N 0 (by omega) s0 h0 n hn
/-- the same, for a loop whose end is known -/
theorem lpK' {κ σ ρ τ : Type} {f : κ → (σ → Option ρ) → σ → Option ρ} {g : κ → τ → Option ρ} (s : Nat → σ) (N : Nat) {s0 : σ} (h0 : s0 = s 0) {t : τ} (hs : ∀ i, i < N → ∀ c k, f c k (s i) = k (s (i + 1))) (he : ∀ c k, f c k (s N) = g c t) {n : Nat} (hn : N < n) : ∀ c, lpF (f c) n s0 = g c t := fun c => lp_for' s h0 N (fun i hi => hs i hi c) (he c) hn
/-- the place i of a window -/
def wx (B i : Nat) : Int32 := nn i - nn B
theorem wx_toInt {B i : Nat} (hB : B < 100000) (hi : i < 100000) : (wx B i).toInt = (i : Int) - B := by
  unfold wx
  rw [Int32.toInt_sub, nn_toInt (by omega), nn_toInt (by omega)]
  apply Int.bmod_eq_of_le <;> omega
theorem wx_0 (B : Nat) : - nn B = wx B 0 := by
  unfold wx
  exact (Int32.zero_sub (nn B)).symm
theorem wx_s (B i : Nat) : wx B i + 1 = wx B (i + 1) := by
  unfold wx
  rw [← nn_s, Int32.sub_eq_add_neg, Int32.sub_eq_add_neg, Int32.add_assoc, Int32.add_assoc, Int32.add_comm 1]
theorem wx_lt {B i : Nat} (hB : B < 100000) (hi : i < 100000) : nn B < wx B i ↔ 2 * B < i := by
  rw [i32_lt, nn_toInt (by omega), wx_toInt hB hi]
  omega
/-- the two at the place c of a window of b, row behind row -/
def cX (B c : Nat) : Int32 := wx B (c / (2 * B + 1))
def cY (B c : Nat) : Int32 := wx B (c % (2 * B + 1))
theorem cX_at {B i j : Nat} (hj : j < 2 * B + 1) : cX B (i * (2 * B + 1) + j) = wx B i := by
  unfold cX
  rw [show (i * (2 * B + 1) + j) / (2 * B + 1) = i from by rw [Nat.mul_comm, Nat.mul_add_div (by omega), Nat.div_eq_of_lt hj, Nat.add_zero]]
theorem cY_at {B i j : Nat} (hj : j < 2 * B + 1) : cY B (i * (2 * B + 1) + j) = wx B j := by
  unfold cY
  rw [show (i * (2 * B + 1) + j) % (2 * B + 1) = j from by rw [Nat.mul_comm, Nat.mul_add_mod, Nat.mod_eq_of_lt hj]]
/-- degree, numbers, m, b: the state that is looked at -/
abbrev Sq := Nat × (Nat → Int64) × Int32 × Int32
def Vc (s : Sq) (B c : Nat) : Int64 := V s.1 s.2.1 (cX B c).toInt64 (cY B c).toInt64
/-- an answer stands there -/
def Pc (s : Sq) (B c : Nat) : Bool := decide (Vc s B c = s.2.2.1.toInt64)
def Pa (s : Sq) (B c : Nat) : Bool := decide (s.2.2.1.toInt64.toInt < (Vc s B c).toInt)
/-- the values together -/
def sV (s : Sq) (B : Nat) : Nat → Int64
  | 0 => 0
  | c + 1 => sV s B c + Vc s B c
/-- how many, as long -/
def sA (s : Sq) (B : Nat) : Nat → Int64
  | 0 => 0
  | c + 1 => sA s B c + (if Pa s B c = true then 1 else 0)
theorem ct_y {p : Nat → Bool} {n : Nat} (h : p n = true) : fb_ct p (n + 1) = fb_ct p n + 1 := by
  rw [fb_ct_succ, if_pos h]
theorem ct_n {p : Nat → Bool} {n : Nat} (h : ¬ p n = true) : fb_ct p (n + 1) = fb_ct p n := by
  rw [fb_ct_succ, if_neg h]
  rfl
theorem sV_s (s : Sq) (B c : Nat) : sV s B (c + 1) = sV s B c + Vc s B c := rfl
theorem sA_y {s : Sq} {B c : Nat} (h : Pa s B c = true) : sA s B (c + 1) = sA s B c + 1 := by
  show sA s B c + (if Pa s B c = true then 1 else 0) = _
  rw [if_pos h]
theorem sA_n {s : Sq} {B c : Nat} (h : ¬ Pa s B c = true) : sA s B (c + 1) = sA s B c := by
  show sA s B c + (if Pa s B c = true then 1 else 0) = _
  rw [if_neg h, Int64.add_zero]
/-- an equation of the class -/
def ESt (E : Nat) (I : Nat → Nat → Int32) (s : Sq) : Prop := AC (E + 1) I s.1 s.2.1 ∧ I E 1 = s.2.2.1 ∧ I E 2 = s.2.2.2
theorem VSt_b {s : Sq} (h : VSt s) : ∃ B, 1 ≤ B ∧ B ≤ 40 ∧ s.2.2.2 = nn B := by
  have h1 := h.2.2
  have h2 := nat_toInt (x := s.2.2.2) (by omega)
  exact ⟨s.2.2.2.toNatClampNeg, by omega, by omega, i32_nn (by omega)⟩
theorem VSt_B {s : Sq} (h : VSt s) : 1 ≤ s.2.2.2.toNatClampNeg ∧ s.2.2.2.toNatClampNeg ≤ 40 ∧ s.2.2.2 = nn s.2.2.2.toNatClampNeg := by
  have h1 := h.2.2
  have h2 := nat_toInt (x := s.2.2.2) (by omega)
  exact ⟨by omega, by omega, i32_nn (by omega)⟩
section WI
variable (I : Nat → Nat → Int32) (L : Nat → Nat → Int64)
theorem atE_4 {s : Sq} (hE : AC 4 I s.1 s.2.1) (hV : VSt s) (x y : Int64) : fX2_at 4 x y (mk I L) = some (V s.1 s.2.1 x y, mk I L) := by
  have hd := hV.1.1
  rw [at_4 I L s.1 hd hE.1, V_congr (a := cf I 4) (b := s.2.1) (fun j hj => hE.2 j (by omega))]
theorem atE_27 {s : Sq} (hE : AC 27 I s.1 s.2.1) (hV : VSt s) (x y : Int64) : fX2_at 27 x y (mk I L) = some (V s.1 s.2.1 x y, mk I L) := by
  have hd := hV.1.1
  rw [at_27 I L s.1 hd hE.1, V_congr (a := cf I 27) (b := s.2.1) (fun j hj => hE.2 j (by omega))]
theorem atE_33 {s : Sq} (hE : AC 33 I s.1 s.2.1) (hV : VSt s) (x y : Int64) : fX2_at 33 x y (mk I L) = some (V s.1 s.2.1 x y, mk I L) := by
  have hd := hV.1.1
  rw [at_33 I L s.1 hd hE.1, V_congr (a := cf I 33) (b := s.2.1) (fun j hj => hE.2 j (by omega))]
theorem valE {s : Sq} (hM : AM I L s.1 s.2.1) (hV : VSt s) (x y : Int64) : fX10_valueAt 62 x y (mk I L) = some (V s.1 s.2.1 x y, mk I L) := by
  have hd := hV.1.1
  rw [valueAt_s I L s.1 hd hM.1, V_congr (b := s.2.1) (fun j hj => hM.2 j (by omega))]
theorem nnW (B i j : Nat) : i * (2 * B + 1) + (j + 1) = i * (2 * B + 1) + j + 1 := rfl
theorem nnW2 (B i : Nat) : (i + 1) * (2 * B + 1) = i * (2 * B + 1) + (2 * B + 1) := Nat.succ_mul i _
theorem howMany_26 {s : Sq} (hE : ESt 26 I s) (hV : VSt s) {B : Nat} (hb : s.2.2.2 = nn B) (hB : B ≤ 40) : fX1_howManyAnswers 26 (mk I L) = some (nn (fb_ct (Pc s B) ((2 * B + 1) * (2 * B + 1))), mk I L) := by
  unfold fX1_howManyAnswers
  have e2 : I 26 2 = nn B := hE.2.2.trans hb
  simp only [gI_26, Option.bind_some, e2, nm, wx_0]
  refine lp_for' (fun i => (nn (fb_ct (Pc s B) (i * (2 * B + 1))), wx B i, mk I L)) (by rw [Nat.zero_mul]; rfl) (2 * B + 1) (fun i hi k => ?_) (fun k => ?_) (FU_gt (by omega))
  · simp only [gI_26, Option.bind_some, e2, wx_lt (show B < 100000 by omega) (show i < 100000 by omega), if_neg (show ¬ 2 * B < i by omega), wx_0]
    refine lp_for' (fun j => (nn (fb_ct (Pc s B) (i * (2 * B + 1) + j)), wx B j, mk I L)) rfl (2 * B + 1) (fun j hj k2 => ?_) (fun k2 => ?_) (FU_gt (by omega))
    · have hv : V s.1 s.2.1 (wx B i).toInt64 (wx B j).toInt64 = Vc s B (i * (2 * B + 1) + j) := by
        unfold Vc
        rw [cX_at hj, cY_at hj]
      simp only [gI_26, Option.bind_some, e2, wx_lt (show B < 100000 by omega) (show j < 100000 by omega), if_neg (show ¬ 2 * B < j by omega), gR_26_0, kd_27, if_true, atE_27 I L hE.1 hV, hE.2.1, lg_cmp_eq, hv, nnW, wx_s]
      by_cases hp : Vc s B (i * (2 * B + 1) + j) = s.2.2.1.toInt64
      · rw [if_pos hp, ct_y (show Pc s B (i * (2 * B + 1) + j) = true from decide_eq_true hp), nn_s]
      · rw [if_neg hp, ct_n (show ¬ Pc s B (i * (2 * B + 1) + j) = true from fun h => hp (of_decide_eq_true h))]
    · simp only [gI_26, Option.bind_some, e2, wx_lt (show B < 100000 by omega) (show 2 * B + 1 < 100000 by omega), if_pos (show 2 * B < 2 * B + 1 by omega), wx_s, nnW2]
  · simp only [gI_26, Option.bind_some, e2, wx_lt (show B < 100000 by omega) (show 2 * B + 1 < 100000 by omega), if_pos (show 2 * B < 2 * B + 1 by omega)]
theorem above_3 {s : Sq} (hE : ESt 3 I s) (hV : VSt s) {B : Nat} (hb : s.2.2.2 = nn B) (hB : B ≤ 40) : fX1_valuesAboveM 3 (mk I L) = some (sA s B ((2 * B + 1) * (2 * B + 1)), mk I L) := by
  unfold fX1_valuesAboveM
  have e2 : I 3 2 = nn B := hE.2.2.trans hb
  simp only [gI_3, Option.bind_some, e2, nm, wx_0]
  refine lp_for' (fun i => (sA s B (i * (2 * B + 1)), wx B i, mk I L)) (by rw [Nat.zero_mul]; rfl) (2 * B + 1) (fun i hi k => ?_) (fun k => ?_) (FU_gt (by omega))
  · simp only [gI_3, Option.bind_some, e2, wx_lt (show B < 100000 by omega) (show i < 100000 by omega), if_neg (show ¬ 2 * B < i by omega), wx_0]
    refine lp_for' (fun j => (sA s B (i * (2 * B + 1) + j), wx B j, mk I L)) rfl (2 * B + 1) (fun j hj k2 => ?_) (fun k2 => ?_) (FU_gt (by omega))
    · have hv : V s.1 s.2.1 (wx B i).toInt64 (wx B j).toInt64 = Vc s B (i * (2 * B + 1) + j) := by
        unfold Vc
        rw [cX_at hj, cY_at hj]
      simp only [gI_3, Option.bind_some, e2, wx_lt (show B < 100000 by omega) (show j < 100000 by omega), if_neg (show ¬ 2 * B < j by omega), gR_3_0, kd_4, if_true, atE_4 I L hE.1 hV, hE.2.1, lg_cmp_le, i64_le, hv, nnW, wx_s]
      by_cases hp : (Vc s B (i * (2 * B + 1) + j)).toInt ≤ s.2.2.1.toInt64.toInt
      · rw [if_pos hp, sA_n (show ¬ Pa s B (i * (2 * B + 1) + j) = true from fun h => by have := of_decide_eq_true h; omega)]
      · rw [if_neg hp, sA_y (show Pa s B (i * (2 * B + 1) + j) = true from decide_eq_true (by omega))]
    · simp only [gI_3, Option.bind_some, e2, wx_lt (show B < 100000 by omega) (show 2 * B + 1 < 100000 by omega), if_pos (show 2 * B < 2 * B + 1 by omega), wx_s, nnW2]
  · simp only [gI_3, Option.bind_some, e2, wx_lt (show B < 100000 by omega) (show 2 * B + 1 < 100000 by omega), if_pos (show 2 * B < 2 * B + 1 by omega)]
theorem together_3 {s : Sq} (hE : ESt 3 I s) (hV : VSt s) {B : Nat} (hb : s.2.2.2 = nn B) (hB : B ≤ 40) : fX1_valuesTogether 3 (mk I L) = some (sV s B ((2 * B + 1) * (2 * B + 1)), mk I L) := by
  unfold fX1_valuesTogether
  have e2 : I 3 2 = nn B := hE.2.2.trans hb
  simp only [gI_3, Option.bind_some, e2, nm, wx_0]
  refine lp_for' (fun i => (sV s B (i * (2 * B + 1)), wx B i, mk I L)) (by rw [Nat.zero_mul]; rfl) (2 * B + 1) (fun i hi k => ?_) (fun k => ?_) (FU_gt (by omega))
  · simp only [gI_3, Option.bind_some, e2, wx_lt (show B < 100000 by omega) (show i < 100000 by omega), if_neg (show ¬ 2 * B < i by omega), wx_0]
    refine lp_for' (fun j => (sV s B (i * (2 * B + 1) + j), wx B j, mk I L)) rfl (2 * B + 1) (fun j hj k2 => ?_) (fun k2 => ?_) (FU_gt (by omega))
    · have hv : V s.1 s.2.1 (wx B i).toInt64 (wx B j).toInt64 = Vc s B (i * (2 * B + 1) + j) := by
        unfold Vc
        rw [cX_at hj, cY_at hj]
      simp only [gI_3, Option.bind_some, e2, wx_lt (show B < 100000 by omega) (show j < 100000 by omega), if_neg (show ¬ 2 * B < j by omega), gR_3_0, kd_4, if_true, atE_4 I L hE.1 hV, hv, nnW, sV_s, wx_s]
    · simp only [gI_3, Option.bind_some, e2, wx_lt (show B < 100000 by omega) (show 2 * B + 1 < 100000 by omega), if_pos (show 2 * B < 2 * B + 1 by omega), wx_s, nnW2]
  · simp only [gI_3, Option.bind_some, e2, wx_lt (show B < 100000 by omega) (show 2 * B + 1 < 100000 by omega), if_pos (show 2 * B < 2 * B + 1 by omega)]
end WI
