section SQ
variable (I : Nat → Nat → Int32) (L : Nat → Nat → Int64)
def SPo (s : Sq) (B e0 F : Nat) (I : Nat → Nat → Int32) (L : Nat → Nat → Int64) (m : Nat) (t : Int32 × Int32 × Mem) : Prop := ∃ D S lb k, t.2.1 = nn k ∧ t.2.2 = mk (up1 I 37 lb) L ∧ k + m = 6561 ∧ fb_ct D 6561 = k ∧ SPI s B e0 F (I 37) D S lb t.1 ∧ ∀ a, D a = true → Cl s B D S a (un s 625)
def SPn (s : Sq) (B e0 F : Nat) (I : Nat → Nat → Int32) (L : Nat → Nat → Int64) (D : Nat → Bool) (e k : Nat) (i : Nat) (t : Int32 × Int32 × Mem) : Prop := t.2.1 = nn i ∧ ∃ S lb, t.2.2 = mk (up1 I 37 lb) L ∧ SPI s B e0 F (I 37) D S lb t.1 ∧ Cl s B D S e i ∧ ∀ a, D a = true → a ≠ e → Cl s B D S a (un s 625)
theorem spread_s {s : Sq} (hV : VSt s) {B : Nat} (hB : B ≤ 40) (hb : I 32 2 = nn B) (hU0 : I 38 0 = nn (un s 625)) (hU : UAt s 39 I 625) {e0 F : Nat} (he0 : e0 < 6561) (hp0 : Pe s B e0 = true) (hF : F < 100000) (hIF : I 31 1 = nn F) (h0 : ∀ e, e < 6561 → Pe s B e = true → ldr s B (fb_ct (Pe s B) e) = fb_ct (Pe s B) e0 → I 37 e = -2) (hl0 : ldr s B (fb_ct (Pe s B) e0) = fb_ct (Pe s B) e0) :
    ∃ lb', fX0_spread 31 (nn e0) 38 (mk I L) = some ((), mk (up1 I 37 lb') L) ∧ ∀ e, e < 6561 → lb' e = if Pe s B e = true ∧ ldr s B (fb_ct (Pe s B) e) = fb_ct (Pe s B) e0 then nn F else I 37 e := by
  have h625 := un_104 s
  have haw : fX0_await 31 (nn e0) (-1) (mk I L) = some (nn e0, mk (up1 I 37 (up1 (I 37) e0 (-4 - (-1)))) L) := by
    have h1 := await_in I L (I 37) he0 (-1)
    rw [up1_id, if_pos (h0 e0 he0 hp0 hl0)] at h1
    exact h1
  have key : ∃ r, fX0_spread 31 (nn e0) 38 (mk I L) = some r ∧ ∃ lb', r.2 = mk (up1 I 37 lb') L ∧ ∀ e, e < 6561 → lb' e = if Pe s B e = true ∧ ldr s B (fb_ct (Pe s B) e) = fb_ct (Pe s B) e0 then nn F else I 37 e := by
    unfold fX0_spread
    rw [kd_31, if_pos rfl, haw, Option.bind_some]
    refine lp_ms (SPo s B e0 F I L) (fun (r : Unit × Mem) => ∃ lb', r.2 = mk (up1 I 37 lb') L ∧ ∀ e, e < 6561 → lb' e = if Pe s B e = true ∧ ldr s B (fb_ct (Pe s B) e) = fb_ct (Pe s B) e0 then nn F else I 37 e) ?_ 6561 _ ?_ FU (FU_gt (by omega))
    rotate_left
    · refine ⟨fun _ => false, [e0], up1 (I 37) e0 (-4 - (-1)), 0, rfl, rfl, rfl, fb_ct_zero.mpr (fun _ _ => rfl), ⟨⟨rfl, he0, -1, up1_s _ _ _, rfl⟩, by simp, fun _ _ => rfl, fun e he hne => ?_, fun e h => ?_, Or.inr (by simp)⟩, fun a ha => absurd ha (by simp)⟩
      · rw [up1_n _ _ (by simpa using hne)]
        rfl
      · rcases h with h | h
        · exact absurd h (by simp)
        · have : e = e0 := by simpa using h
          subst this
          exact ⟨he0, hp0, Rh_rf _ _ _⟩
    rintro m ⟨w, v, h⟩ ⟨D, S, lb, k, hv, hh, hkm, hct, hS, hcl⟩
    simp only at hv hh hS
    subst hv hh
    obtain ⟨s1, s2, s3, s4, s5, s6⟩ := id hS
    cases S with
    | nil =>
      have hw : w = -1 := s1
      refine Or.inl ⟨((), mk (up1 I 37 lb) L), fun c => ?_, lb, rfl, fun e he => ?_⟩
      · subst hw
        simp only [gR_31_5, ln_37, Option.bind_some, if_true, ite_self]
      · rw [s4 e he (by simp)]
        have hD0 : D e0 = true := s6.resolve_right (by simp)
        by_cases hD : D e = true
        · obtain ⟨-, k2, k3⟩ := s5 e (Or.inl hD)
          rw [if_pos hD, if_pos ⟨k2, by rw [← ldr_eq hV k3, hl0]⟩]
        · rw [if_neg hD, if_neg]
          rintro ⟨k1, k2⟩
          -- all that is reached is done
          have hR : Rh s B (fb_ct (Pe s B) e0) (fb_ct (Pe s B) e) := by
            have := ldr_R s B (fb_ct (Pe s B) e)
            rw [k2] at this
            exact Rh_sy hV this
          obtain ⟨e', q1, q2, q3⟩ := hR (fun j => ∃ a, Pe s B a = true ∧ fb_ct (Pe s B) a = j ∧ D a = true) ⟨e0, hp0, rfl, hD0⟩ (by
            rintro a b ⟨x, x1, x2, x3⟩ ⟨u, c, c', g1, g2, g3, g4, g5, g6, g7, g8, g9, g10⟩
            have hc1 := ct_E s hB g3
            have hc2 := ct_E s hB g5
            have hx : x = wE B c := fb_ct_kth_one x1 (by rw [Pe_E hB g3]; exact g4) (by rw [x2, hc1, g9])
            obtain ⟨y1, y2⟩ := eX_E hB g3
            obtain ⟨y3, y4⟩ := eX_E hB g5
            have hP' : Pe s B (wE B c') = true := by rw [Pe_E hB g5]; exact g6
            have := hcl x x3 u (wE B c') g1 g2 (un_lt s g1 g2) (wE_lt hB g5) hP' (by
              unfold iX
              rw [hx, y1, y2, y3, g7]
              rfl) (by
              unfold iY
              rw [hx, y1, y2, y4, g8]
              rfl)
            exact ⟨wE B c', hP', by rw [hc2, g10], this.resolve_right (by simp)⟩)
          have he' : e' = e := fb_ct_kth_one q1 k1 q2
          rw [he'] at q3
          exact hD q3
    | cons e S =>
      obtain ⟨c1, c2, w', c3, c4⟩ := s1
      subst c1
      have hDe := s3 e (by simp)
      have hnd := List.nodup_cons.mp s2
      have hk : k < 6561 := by
        have h1 := fb_ct_le D 6561
        have h2 : ¬ fb_ct D 6561 = 6561 := fun q => by
          have := fb_ct_all.mp q e c2
          rw [hDe] at this
          exact absurd this (by decide)
        omega
      obtain ⟨m', rfl⟩ : ∃ m', m = m' + 1 := ⟨m - 1, by omega⟩
      refine Or.inr ⟨m', ?_⟩
      suffices hsf : ∃ s', (∀ (c : Int32 × Int32 × Mem → Option (Unit × Mem)), _ = c s') ∧ SPo s B e0 F I L m' s' from hsf.imp (fun s' q => ⟨rfl, q.1, q.2⟩)
      have q1 : ¬ (6561 : Int32) ≤ nn k := fun h => by
        have := (nn_le (m := 6561) (by omega) (by omega)).mp h
        omega
      have q2 : ¬ nn e = -1 := fun q => by
        have := nn_toInt (n := e) (by omega)
        rw [q] at this
        have h2 : (-1 : Int32).toInt = -1 := by decide
        omega
      have hbeh := behind_s I L lb c2 c3 c4
      have hset := setLabel_s (up1 I 37 lb) L c2 (nn F)
      rw [up1_up1, up1_s] at hset
      have hF1 : (up1 I 37 lb) 31 1 = nn F := by rw [up1_n _ _ (by decide)]; exact hIF
      simp only [gR_31_5, ln_37, Option.bind_some, if_neg q1, if_neg q2, kd_31, if_true, hbeh, gI_31, hF1, hset]
      obtain ⟨D', hD'⟩ : ∃ D' : Nat → Bool, D' = fun a => if a = e then true else D a := ⟨_, rfl⟩
      have hD'e : D' e = true := by rw [hD']; exact if_pos rfl
      have hD'n : ∀ a, a ≠ e → D' a = D a := fun a ha => by rw [hD']; exact if_neg ha
      have hct' : fb_ct D' 6561 = k + 1 := by
        have := fb_ct_upd D true (i := e) (n := 6561) c2
        rw [hDe] at this
        rw [hD', ← hct]
        simpa using this
      have hS1 : SPI s B e0 F (I 37) D' S (up1 lb e (nn F)) w' := by
        refine ⟨Chn_congr (fun a ha => up1_n _ _ (fun q => hnd.1 (q ▸ ha))) c4, hnd.2, fun a ha => ?_, fun a ha hna => ?_, fun a ha => ?_, ?_⟩
        · rw [hD'n a (fun q => hnd.1 (q ▸ ha))]
          exact s3 a (by simp [ha])
        · by_cases hae : a = e
          · rw [hae, up1_s, hD'e]
            rfl
          · rw [up1_n _ _ hae, hD'n a hae]
            exact s4 a ha (by simp [hae, hna])
        · by_cases hae : a = e
          · rw [hae]
            exact s5 e (Or.inr (by simp))
          · rw [hD'n a hae] at ha
            exact s5 a (ha.imp id (fun q => by simp [q]))
        · by_cases hae : e0 = e
          · rw [hae]
            exact Or.inl hD'e
          · rw [hD'n e0 hae]
            rcases s6 with q | q
            · exact Or.inl q
            · exact Or.inr (by simpa [hae] using q)
      have hcl1 : ∀ a, D' a = true → a ≠ e → Cl s B D' S a (un s 625) := by
        intro a ha hae u f k1 k2 k3 k4 k5 k6 k7
        rw [hD'n a hae] at ha
        rcases hcl a ha u f k1 k2 k3 k4 k5 k6 k7 with q | q
        · by_cases hfe : f = e
          · rw [hfe]
            exact Or.inl hD'e
          · rw [hD'n f hfe]
            exact Or.inl q
        · rcases List.mem_cons.mp q with rfl | q
          · exact Or.inl hD'e
          · exact Or.inr q
      refine lpK (g := fun (k : Int32 × Int32 × Mem → Option (Unit × Mem)) t => k t) (SPn s B e0 F I L D' e k) (un s 625) ⟨rfl, S, up1 lb e (nn F), rfl, hS1, fun u f _ _ q => absurd q (Nat.not_lt_zero _), hcl1⟩ ?_ ?_ (FU_gt (by omega))
      · rintro i hi ⟨w2, v, h⟩ ⟨hv, S2, lb2, hh, p1, p2, p3⟩
        simp only at hv hh p1
        subst hv hh
        obtain ⟨u, hu, hub, rfl⟩ := fb_ct_kth (p := Ub s) (n := 625) hi
        obtain ⟨S3, lb3, w3, v3, t1, t2, t3, t4, t5⟩ := step_u I L hV hB hb h0 hl0 hF p1 hD'e hu hub p2
        have hU0' : (up1 I 37 lb2) 38 0 = nn (un s 625) := by rw [up1_n _ _ (by decide)]; exact hU0
        have hU' : UAt s 39 (up1 I 37 lb2) 625 := fun c hc hcu j hj => by rw [up1_n _ _ (by decide)]; exact hU c hc hcu j hj
        have g0 : fX8_get 38 (nn (fb_ct (Ub s) u)) 0 (mk (up1 I 37 lb2) L) = some (uE u 0, mk (up1 I 37 lb2) L) := uget_38 _ L hU0' hU' hu hub (k := 0) (by omega)
        have g1 : fX8_get 38 (nn (fb_ct (Ub s) u)) 1 (mk (up1 I 37 lb2) L) = some (uE u 1, mk (up1 I 37 lb2) L) := uget_38 _ L hU0' hU' hu hub (k := 1) (by omega)
        have g2 : fX8_get 38 (nn (fb_ct (Ub s) u)) 2 (mk (up1 I 37 lb2) L) = some (uE u 2, mk (up1 I 37 lb2) L) := uget_38 _ L hU0' hU' hu hub (k := 2) (by omega)
        have g3 : fX8_get 38 (nn (fb_ct (Ub s) u)) 3 (mk (up1 I 37 lb2) L) = some (uE u 3, mk (up1 I 37 lb2) L) := uget_38 _ L hU0' hU' hu hub (k := 3) (by omega)
        have hle : ¬ nn (un s 625) ≤ nn (un s u) := fun q => by
          have h2 := un_lt s hu hub
          have := (nn_le (show un s 625 < 2147483648 by omega) (show un s u < 2147483648 by omega)).mp q
          omega
        refine ⟨(w3, nn (un s u + 1), mk (up1 I 37 lb3) L), fun _ c => ?_, rfl, S3, lb3, rfl, t3, t4, fun a ha hae u' f k1 k2 k3 k4 k5 k6 k7 => (p3 a ha hae u' f k1 k2 k3 k4 k5 k6 k7).imp id (t5 f)⟩
        show ((gI 8 (mk (up1 I 37 lb2) L) 38 0).bind fun v19 => if v19 ≤ nn (un s u) then _ else _) = _
        rw [gI_38, hU0', Option.bind_some, if_neg hle]
        simp only [kd_38, if_true, g0, g1, g2, g3, xOf_s e c2, yOf_s e c2, Option.bind_some, nm, kd_31]
        rw [show uE u 0 * eX e + uE u 1 * eY e = iX u e from rfl, show uE u 2 * eX e + uE u 3 * eY e = iY u e from rfl, t1, Option.bind_some]
        simp only [kd_31, if_true, t2, Option.bind_some, nn_s]
        rfl
      · rintro ⟨w2, v, h⟩ ⟨hv, S2, lb2, hh, p1, p2, p3⟩
        simp only at hv hh p1
        subst hv hh
        have hU0' : (up1 I 37 lb2) 38 0 = nn (un s 625) := by rw [up1_n _ _ (by decide)]; exact hU0
        refine ⟨(w2, nn (k + 1), mk (up1 I 37 lb2) L), fun c _ => ?_, D', S2, lb2, k + 1, rfl, rfl, by omega, hct', p1, fun a ha => ?_⟩
        · simp only [gI_38, hU0', Option.bind_some, Int32.le_refl, if_true, nm, nn_s]
        · by_cases hae : a = e
          · rw [hae]
            exact p2
          · exact p3 a ha hae
  obtain ⟨⟨_, h⟩, k1, lb', k2, k3⟩ := key
  simp only at k2
  subst k2
  exact ⟨lb', k1, k3⟩
end SQ
