/-- a loop that ends when a measure says so, or before -/
theorem lp_ms {σ ρ : Type} {f : (σ → Option ρ) → σ → Option ρ} (Inv : Nat → σ → Prop) (Q : ρ → Prop) (hs : ∀ m s, Inv m s → (∃ r, (∀ k, f k s = some r) ∧ Q r) ∨ ∃ m' s', m = m' + 1 ∧ (∀ k, f k s = k s') ∧ Inv m' s') : ∀ m s, Inv m s → ∀ n, m < n → ∃ r, lpF f n s = some r ∧ Q r := by
  intro m
  induction m with
  | zero =>
    intro s hi n hn
    cases n with
    | zero => omega
    | succ n =>
      rcases hs 0 s hi with ⟨r, h1, h2⟩ | ⟨m', s', h1, -⟩
      · exact ⟨r, h1 _, h2⟩
      · omega
  | succ m ih =>
    intro s hi n hn
    cases n with
    | zero => omega
    | succ n =>
      rcases hs (m + 1) s hi with ⟨r, h1, h2⟩ | ⟨m', s', h1, h2, h3⟩
      · exact ⟨r, h1 _, h2⟩
      · have e : m' = m := by omega
        subst e
        obtain ⟨r, k1, k2⟩ := ih s' h3 n (by omega)
        refine ⟨r, ?_, k2⟩
        show f (lpF f n) s = some r
        rw [h2]
        exact k1
def Chn (lb : Nat → Int32) : List Nat → Int32 → Prop
  | [], w => w = -1
  | e :: S, w => w = nn e ∧ e < 6561 ∧ ∃ w', lb e = -4 - w' ∧ Chn lb S w'
theorem Chn_w {lb : Nat → Int32} {S : List Nat} {w : Int32} (h : Chn lb S w) : w = -1 ∨ ∃ k, k < 6561 ∧ w = nn k := by
  cases S with
  | nil => exact Or.inl h
  | cons e S => exact Or.inr ⟨e, h.2.1, h.1⟩
theorem m4_toInt {lb : Nat → Int32} {S : List Nat} {w : Int32} (h : Chn lb S w) : (-4 - w).toInt = -4 - w.toInt ∧ (-4 - w).toInt ≤ -3 ∧ ((-4 - w).toInt = -3 → w = -1) := by
  rcases Chn_w h with rfl | ⟨k, hk, rfl⟩
  · decide
  · have h1 : (nn k).toInt = k := nn_toInt (by omega)
    have h2 : (-4 - nn k).toInt = -4 - (k : Int) := by
      rw [Int32.toInt_sub, h1, show (-4 : Int32).toInt = -4 by decide]
      apply Int.bmod_eq_of_le <;> omega
    rw [h2, h1]
    exact ⟨rfl, by omega, fun h => by omega⟩
theorem Chn_lab {lb : Nat → Int32} : ∀ {S : List Nat} {w : Int32} {e : Nat}, Chn lb S w → e ∈ S → (lb e).toInt ≤ -3
  | [], _, _, _, h => absurd h (by simp)
  | a :: S, w, e, h, hm => by
    obtain ⟨h1, h2, w', h3, h4⟩ := h
    rcases List.mem_cons.mp hm with rfl | hm
    · rw [h3]
      exact (m4_toInt h4).2.1
    · exact Chn_lab h4 hm
theorem Chn_congr {lb lb' : Nat → Int32} : ∀ {S : List Nat} {w : Int32}, (∀ e, e ∈ S → lb' e = lb e) → Chn lb S w → Chn lb' S w
  | [], _, _, h => h
  | a :: S, w, hc, h => by
    obtain ⟨h1, h2, w', h3, h4⟩ := h
    exact ⟨h1, h2, w', by rw [hc a (by simp)]; exact h3, Chn_congr (fun e he => hc e (by simp [he])) h4⟩
theorem eXY_inj {e f : Nat} (he : e < 6561) (hf : f < 6561) (h1 : eX e = eX f) (h2 : eY e = eY f) : e = f := by
  unfold eX at h1
  unfold eY at h2
  have k1 : nn (e / 81) = nn (f / 81) := by
    have := congrArg (· + 40) h1
    simpa only [Int32.sub_add_cancel] using this
  have k2 : nn (e % 81) = nn (f % 81) := by
    have := congrArg (· + 40) h2
    simpa only [Int32.sub_add_cancel] using this
  have k3 := (nn_eq (by omega) (by omega)).mp k1
  have k4 := (nn_eq (by omega) (by omega)).mp k2
  omega
/-- what a unit makes of a cell -/
def iX (u e : Nat) : Int32 := uE u 0 * eX e + uE u 1 * eY e
def iY (u e : Nat) : Int32 := uE u 2 * eX e + uE u 3 * eY e
/-- the links of the cell e by the first m units lead to cells that are done or wait -/
def Cl (s : Sq) (B : Nat) (D : Nat → Bool) (S : List Nat) (e m : Nat) : Prop := ∀ u f, u < 625 → Ub s u = true → un s u < m → f < 6561 → Pe s B f = true → eX f = iX u e → eY f = iY u e → D f = true ∨ f ∈ S
def SPI (s : Sq) (B e0 F : Nat) (lb0 : Nat → Int32) (D : Nat → Bool) (S : List Nat) (lb : Nat → Int32) (w : Int32) : Prop :=
  Chn lb S w ∧ S.Nodup ∧ (∀ e, e ∈ S → D e = false) ∧ (∀ e, e < 6561 → e ∉ S → lb e = if D e = true then nn F else lb0 e) ∧ (∀ e, (D e = true ∨ e ∈ S) → e < 6561 ∧ Pe s B e = true ∧ Rh s B (fb_ct (Pe s B) e0) (fb_ct (Pe s B) e)) ∧ (D e0 = true ∨ e0 ∈ S)
theorem Pe_c {s : Sq} {B e : Nat} (hB : B ≤ 40) (h : Pe s B e = true) : wC B e < (2 * B + 1) * (2 * B + 1) ∧ wE B (wC B e) = e ∧ Pc s B (wC B e) = true ∧ cX B (wC B e) = eX e ∧ cY B (wC B e) = eY e ∧ fb_ct (Pe s B) e = fb_ct (Pc s B) (wC B e) := by
  unfold Pe at h
  rw [Bool.and_eq_true] at h
  obtain ⟨h1, h2⟩ := wE_C hB h.1
  obtain ⟨h3, h4⟩ := eX_E hB h1
  rw [h2] at h3 h4
  refine ⟨h1, h2, h.2, h3.symm, h4.symm, ?_⟩
  have := ct_E s hB h1
  rw [h2] at this
  exact this
theorem img_Ed {s : Sq} {B u e f : Nat} (hB : B ≤ 40) (hu : u < 625) (hub : Ub s u = true) (he : Pe s B e = true) (hf : Pe s B f = true) (h1 : eX f = iX u e) (h2 : eY f = iY u e) : Ed s B (fb_ct (Pe s B) e) (fb_ct (Pe s B) f) := by
  obtain ⟨a1, a2, a3, a4, a5, a6⟩ := Pe_c hB he
  obtain ⟨b1, b2, b3, b4, b5, b6⟩ := Pe_c hB hf
  refine ⟨u, wC B e, wC B f, hu, hub, a1, a3, b1, b3, ?_, ?_, a6.symm, b6.symm⟩
  · unfold mX
    rw [b4, a4, a5]
    exact h1
  · unfold mY
    rw [b5, a4, a5]
    exact h2
section SP
variable (I : Nat → Nat → Int32) (L : Nat → Nat → Int64)
theorem await_in (lb : Nat → Int32) {f : Nat} (hf : f < 6561) (w : Int32) : fX0_await 31 (nn f) w (mk (up1 I 37 lb) L) = if lb f = -2 then some (nn f, mk (up1 I 37 (up1 lb f (-4 - w))) L) else some (w, mk (up1 I 37 lb) L) := by
  unfold fX0_await
  simp only [kd_31, if_true, labelAt_s _ _ hf, setLabel_s _ _ hf, Option.bind_some, up1_s, up1_up1]
theorem await_out (w : Int32) : fX0_await 31 (-1) w (mk I L) = some (w, mk I L) := by
  unfold fX0_await fX0_labelAt
  simp only [kd_31, if_true, show (-1 : Int32) < 0 by decide, Option.bind_some, show ¬ (-1 : Int32) = -2 by decide, if_false]
theorem behind_s (lb : Nat → Int32) {S : List Nat} {w' : Int32} {e : Nat} (he : e < 6561) (h : lb e = -4 - w') (hc : Chn lb S w') : fX0_behind 31 (nn e) (mk (up1 I 37 lb) L) = some (w', mk (up1 I 37 lb) L) := by
  unfold fX0_behind
  obtain ⟨h1, h2, h3⟩ := m4_toInt hc
  rw [kd_31, if_pos rfl, labelAt_s (up1 I 37 lb) L he, Option.bind_some]
  show (if (-3 : Int32) ≤ (up1 I 37 lb) 37 e then some (-1, mk (up1 I 37 lb) L) else some (-4 - (up1 I 37 lb) 37 e, mk (up1 I 37 lb) L)) = _
  rw [up1_s, h]
  by_cases h4 : (-3 : Int32) ≤ -4 - w'
  · rw [if_pos h4, h3 (by
      have h5 := i32_le.mp h4
      rw [show (-3 : Int32).toInt = -3 by decide] at h5
      omega)]
  · rw [if_neg h4]
    have h5 : (-4 : Int32) - (-4 - w') = w' := by
      have h6 : (-4 : Int32).toInt = -4 := by decide
      have h7 : -1 ≤ w'.toInt ∧ w'.toInt < 6561 := by
        rcases Chn_w hc with rfl | ⟨k, hk, rfl⟩
        · decide
        · rw [nn_toInt (by omega)]
          omega
      rw [i32_eq, Int32.toInt_sub, h1, h6]
      rw [Int.bmod_eq_of_le (by omega) (by omega)]
      omega
    rw [h5]
theorem xOf_s (e : Nat) (he : e < 6561) (h : Mem) : fX0_xOf (nn e) h = some (eX e, h) := by
  unfold fX0_xOf eX
  rw [if_neg (by decide), show nn e / 81 = nn (e / 81) from nn_div (b := 81) (by omega) (by omega)]
theorem yOf_s (e : Nat) (he : e < 6561) (h : Mem) : fX0_yOf (nn e) h = some (eY e, h) := by
  unfold fX0_yOf eY
  rw [if_neg (by decide), show nn e / 81 = nn (e / 81) from nn_div (b := 81) (by omega) (by omega), show nn (e / 81) * 81 = nn (e / 81 * 81) from nn_mul _ 81, nn_sub (by omega), show e - e / 81 * 81 = e % 81 by omega]
/-- one unit's turn -/
theorem step_u {s : Sq} (hV : VSt s) {B : Nat} (hB : B ≤ 40) (hb : I 32 2 = nn B) {e0 F : Nat} {lb0 : Nat → Int32} (h0 : ∀ e, e < 6561 → Pe s B e = true → ldr s B (fb_ct (Pe s B) e) = fb_ct (Pe s B) e0 → lb0 e = -2) (hl0 : ldr s B (fb_ct (Pe s B) e0) = fb_ct (Pe s B) e0) (hF : F < 100000) {D : Nat → Bool} {S : List Nat} {lb : Nat → Int32} {w : Int32} (hS : SPI s B e0 F lb0 D S lb w) {e : Nat} (hD : D e = true) {u : Nat} (hu : u < 625) (hub : Ub s u = true) (hcl : Cl s B D S e (un s u)) :
    ∃ S' lb' w' v, fX0_cellAt 31 (iX u e) (iY u e) (mk (up1 I 37 lb) L) = some (v, mk (up1 I 37 lb) L) ∧ fX0_await 31 v w (mk (up1 I 37 lb) L) = some (w', mk (up1 I 37 lb') L) ∧ SPI s B e0 F lb0 D S' lb' w' ∧ Cl s B D S' e (un s u + 1) ∧ ∀ f, f ∈ S → f ∈ S' := by
  obtain ⟨s1, s2, s3, s4, s5, s6⟩ := id hS
  obtain ⟨he, hpe, hre⟩ := s5 e (Or.inl hD)
  obtain ⟨a1, a2, a3, a4, a5, a6⟩ := Pe_c hB hpe
  have hb' : (up1 I 37 lb) 32 2 = nn B := by rw [up1_n _ _ (by decide)]; exact hb
  -- the links by the other units stay
  have hnext : ∀ S' : List Nat, (∀ f, f ∈ S → f ∈ S') → (∀ f, f < 6561 → Pe s B f = true → eX f = iX u e → eY f = iY u e → D f = true ∨ f ∈ S') → Cl s B D S' e (un s u + 1) := by
    intro S' h1 h2 u' f hu' hub' hlt hf hpf hx hy
    by_cases h3 : un s u' < un s u
    · exact (hcl u' f hu' hub' h3 hf hpf hx hy).imp id (h1 f)
    · have h4 : u' = u := fb_ct_kth_one hub' hub (show un s u' = un s u by omega)
      subst h4
      exact h2 f hf hpf hx hy
  by_cases hin : (inW B (iX u e).toInt64 && inW B (iY u e).toInt64) = true
  rotate_left
  · refine ⟨S, lb, w, -1, cellAt_out _ L hB hb' hin, await_out _ L w, hS, hnext S (fun f h => h) (fun f hf hpf hx hy => absurd ?_ hin), fun f h => h⟩
    obtain ⟨b1, b2, b3, b4, b5, b6⟩ := Pe_c hB hpf
    obtain ⟨i, j, hi, hj, hij⟩ := c_ij b1
    · rw [← hx, ← hy, ← b4, ← b5, hij, cX_at hj, cY_at hj, (inW_iff hB).mpr ⟨i, hi, rfl⟩, (inW_iff hB).mpr ⟨j, hj, rfl⟩]
      rfl
  rw [Bool.and_eq_true] at hin
  obtain ⟨i, hi, hxi⟩ := (inW_iff hB).mp hin.1
  obtain ⟨j, hj, hyj⟩ := (inW_iff hB).mp hin.2
  have hcc : i * (2 * B + 1) + j < (2 * B + 1) * (2 * B + 1) := by
    have := Nat.mul_le_mul_right (2 * B + 1) (show i + 1 ≤ 2 * B + 1 by omega)
    rw [Nat.succ_mul] at this
    omega
  have hf := wE_lt hB hcc
  obtain ⟨g1, g2⟩ := eX_E hB hcc
  have hPf : Pe s B (wE B (i * (2 * B + 1) + j)) = true := by
    rw [Pe_E hB hcc]
    refine unit_P hV hB hu hub a1 a3 ?_ ?_
    · rw [cX_at hj]
      unfold mX
      rw [a4, a5]
      exact hxi.symm
    · rw [cY_at hj]
      unfold mY
      rw [a4, a5]
      exact hyj.symm
  have hfx : eX (wE B (i * (2 * B + 1) + j)) = iX u e := by rw [g1, cX_at hj, hxi]
  have hfy : eY (wE B (i * (2 * B + 1) + j)) = iY u e := by rw [g2, cY_at hj, hyj]
  have hcell : fX0_cellAt 31 (iX u e) (iY u e) (mk (up1 I 37 lb) L) = some (nn (wE B (i * (2 * B + 1) + j)), mk (up1 I 37 lb) L) := by
    rw [hxi, hyj]
    exact cellAt_in _ L hB hb' hi hj
  generalize wE B (i * (2 * B + 1) + j) = f at *
  have huniq : ∀ f', f' < 6561 → eX f' = iX u e → eY f' = iY u e → f' = f := fun f' h1 h2 h3 => eXY_inj h1 hf (h2.trans hfx.symm) (h3.trans hfy.symm)
  have hRf : Rh s B (fb_ct (Pe s B) e0) (fb_ct (Pe s B) f) := Rh_tr hre (Rh_ed (img_Ed hB hu hub hpe hPf hfx hfy))
  have hlf : ldr s B (fb_ct (Pe s B) f) = fb_ct (Pe s B) e0 := by rw [← ldr_eq hV hRf, hl0]
  by_cases hfS : f ∈ S
  · have hne : ¬ lb f = -2 := fun q => by
      have := Chn_lab s1 hfS
      rw [q] at this
      exact absurd this (by decide)
    refine ⟨S, lb, w, nn f, hcell, ?_, hS, hnext S (fun _ h => h) (fun f' h1 h2 h3 h4 => Or.inr (by rw [huniq f' h1 h3 h4]; exact hfS)), fun _ h => h⟩
    rw [await_in I L lb hf w, if_neg hne]
  have hlbf := s4 f hf hfS
  by_cases hfD : D f = true
  · have hne : ¬ lb f = -2 := fun q => by
      rw [if_pos hfD, q] at hlbf
      have h1 := nn_toInt (n := F) (by omega)
      rw [← hlbf] at h1
      have h2 : (-2 : Int32).toInt = -2 := by decide
      omega
    refine ⟨S, lb, w, nn f, hcell, ?_, hS, hnext S (fun _ h => h) (fun f' h1 h2 h3 h4 => Or.inl (by rw [huniq f' h1 h3 h4]; exact hfD)), fun _ h => h⟩
    rw [await_in I L lb hf w, if_neg hne]
  · rw [if_neg hfD, h0 f hf hPf hlf] at hlbf
    refine ⟨f :: S, up1 lb f (-4 - w), nn f, nn f, hcell, ?_, ⟨⟨rfl, hf, w, up1_s _ _ _, Chn_congr (fun a ha => up1_n _ _ (fun q => hfS (q ▸ ha))) s1⟩, List.nodup_cons.mpr ⟨hfS, s2⟩, ?_, ?_, ?_, s6.imp id (fun h => List.mem_cons_of_mem _ h)⟩, hnext (f :: S) (fun _ h => List.mem_cons_of_mem _ h) (fun f' h1 h2 h3 h4 => Or.inr (by rw [huniq f' h1 h3 h4]; simp)), fun _ h => List.mem_cons_of_mem _ h⟩
    · rw [await_in I L lb hf w, if_pos hlbf]
    · intro a ha
      rcases List.mem_cons.mp ha with rfl | ha
      · simpa using hfD
      · exact s3 a ha
    · intro a ha hna
      rw [List.mem_cons, not_or] at hna
      rw [up1_n _ _ hna.1]
      exact s4 a ha hna.2
    · rintro a (ha | ha)
      · exact s5 a (Or.inl ha)
      · rcases List.mem_cons.mp ha with rfl | ha
        · exact ⟨hf, hPf, hRf⟩
        · exact s5 a (Or.inr ha)
end SP
