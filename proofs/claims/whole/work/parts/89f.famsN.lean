section FN
variable (I : Nat → Nat → Int32) (L : Nat → Nat → Int64)
/-- links told so far: all of the answers ahead of i, of i's by the units ahead of k -/
def Dn (s : Sq) (B i k : Nat) (ls : Nat → Nat) : Prop := ∀ u c c', u < 625 → Ub s u = true → c < (2 * B + 1) * (2 * B + 1) → Pc s B c = true → c' < (2 * B + 1) * (2 * B + 1) → Pc s B c' = true → cX B c' = mX B u c → cY B c' = mY B u c → (fb_ct (Pc s B) c < i ∨ (fb_ct (Pc s B) c = i ∧ un s u < k)) → rt ls (fb_ct (Pc s B) c) = rt ls (fb_ct (Pc s B) c')
def UF (s : Sq) (B i k : Nat) (r : Nat → Int32) : Prop := ∃ ls, LsAt (nA s B) r ls ∧ (∀ j, ls j ≤ j) ∧ (∀ j, Rh s B j (ls j)) ∧ Dn s B i k ls
def NI1 (s : Sq) (B : Nat) (I : Nat → Nat → Int32) (L : Nat → Nat → Int64) (i : Nat) (t : Int32 × Mem) : Prop := t.1 = nn i ∧ ∃ p r, t.2 = mk (up1 (up1 I 71 p) 72 r) L ∧ (∀ c, c < (2 * B + 1) * (2 * B + 1) → Pc s B c = true → fb_ct (Pc s B) c < i → p c = nn (fb_ct (Pc s B) c)) ∧ ∀ j, j < i → r j = nn j
def NI2 (s : Sq) (B : Nat) (I : Nat → Nat → Int32) (L : Nat → Nat → Int64) (i : Nat) (t : Int32 × Mem) : Prop := t.1 = nn i ∧ ∃ r, t.2 = mk (up1 I 72 r) L ∧ UF s B i 0 r
def NI3 (s : Sq) (B : Nat) (I : Nat → Nat → Int32) (L : Nat → Nat → Int64) (i k : Nat) (t : Int32 × Mem) : Prop := t.1 = nn k ∧ ∃ r, t.2 = mk (up1 I 72 r) L ∧ UF s B i k r
def NI4 (s : Sq) (B : Nat) (I : Nat → Nat → Int32) (L : Nat → Nat → Int64) (i : Nat) (t : Int32 × Mem) : Prop := t.1 = nn i ∧ ∃ f, t.2 = mk (up1 (up1 I 73 f) 62 (up1 (I 62) 19 (nn (fb_ct (isL s B) i)))) L ∧ ∀ j, j < i → f j = nn (fm s B j)
theorem W_le {B : Nat} (hB : B ≤ 40) : (2 * B + 1) * (2 * B + 1) ≤ 6561 := Nat.mul_le_mul (show 2 * B + 1 ≤ 81 by omega) (show 2 * B + 1 ≤ 81 by omega)
theorem ans_kth {s : Sq} {B i : Nat} (h : i < nA s B) : ∃ c, c < (2 * B + 1) * (2 * B + 1) ∧ Pc s B c = true ∧ fb_ct (Pc s B) c = i := fb_ct_kth h
/-- the roots are the least that are reached, once all links are told -/
theorem rt_ldr {s : Sq} (hV : VSt s) {B : Nat} {ls : Nat → Nat} (h : ∀ j, ls j ≤ j) (hR : ∀ j, Rh s B j (ls j)) (hD : Dn s B (nA s B) 0 ls) : ∀ i, rt ls i = ldr s B i := by
  have hE : ∀ i j, Rh s B i j → rt ls i = rt ls j := fun i j q => q (fun k => rt ls i = rt ls k) rfl (by
    rintro a b ha ⟨u, c, c', g1, g2, g3, g4, g5, g6, g7, g8, g9, g10⟩
    have hlt := (Ed_lt (i := a) (j := b) ⟨u, c, c', g1, g2, g3, g4, g5, g6, g7, g8, g9, g10⟩).1
    have := hD u c c' g1 g2 g3 g4 g5 g6 g7 g8 (Or.inl (by rw [g9]; exact hlt))
    rw [g9, g10] at this
    exact ha.trans this)
  intro i
  have h1 := ldr_min (rt_R h hR i)
  have h2 := hE i (ldr s B i) (ldr_R s B i)
  have h3 := rt_le h (ldr s B i)
  omega
/-- one link by a unit, as the reference looks at it -/
theorem step_l {s : Sq} (hV : VSt s) {B : Nat} (hB : B ≤ 40) (e3 : I 62 3 = nn B) (e71 : ∀ c, c < (2 * B + 1) * (2 * B + 1) → Pc s B c = true → I 71 c = nn (fb_ct (Pc s B) c)) {r : Nat → Int32} {c : Nat} (hc : c < (2 * B + 1) * (2 * B + 1)) (hp : Pc s B c = true) {u : Nat} (hu : u < 625) (hub : Ub s u = true) (hU : UF s B (fb_ct (Pc s B) c) (un s u) r) :
    (¬ (inW B (mX B u c).toInt64 = true ∧ inW B (mY B u c).toInt64 = true) ∧ UF s B (fb_ct (Pc s B) c) (un s u + 1) r) ∨
    (inW B (mX B u c).toInt64 = true ∧ inW B (mY B u c).toInt64 = true ∧ ∃ c' r', c' < (2 * B + 1) * (2 * B + 1) ∧ fX10_cell 62 (mX B u c) (mY B u c) (mk (up1 I 72 r) L) = some (nn c', mk (up1 I 72 r) L) ∧ I 71 c' = nn (fb_ct (Pc s B) c') ∧ fX10_links 62 (nn (fb_ct (Pc s B) c)) (nn (fb_ct (Pc s B) c')) (mk (up1 I 72 r) L) = some ((), mk (up1 I 72 r') L) ∧ UF s B (fb_ct (Pc s B) c) (un s u + 1) r') := by
  have hn := nA_lt (s := s) hB
  obtain ⟨ls, l1, l2, l3, l4⟩ := hU
  by_cases hin : inW B (mX B u c).toInt64 = true ∧ inW B (mY B u c).toInt64 = true
  rotate_left
  · refine Or.inl ⟨hin, ls, l1, l2, l3, fun u' d d' k1 k2 k3 k4 k5 k6 k7 k8 k9 => ?_⟩
    rcases k9 with q | ⟨q, q2⟩
    · exact l4 u' d d' k1 k2 k3 k4 k5 k6 k7 k8 (Or.inl q)
    · by_cases q3 : un s u' < un s u
      · exact l4 u' d d' k1 k2 k3 k4 k5 k6 k7 k8 (Or.inr ⟨q, q3⟩)
      · exfalso
        have h4 : u' = u := fb_ct_kth_one k2 hub (show un s u' = un s u by omega)
        have h5 : d = c := fb_ct_kth_one k4 hp q
        subst h4 h5
        obtain ⟨i, j, hi, hj, hij⟩ := c_ij k5
        rw [← k7, ← k8, hij, cX_at hj, cY_at hj] at hin
        exact hin ⟨(inW_iff hB).mpr ⟨i, hi, rfl⟩, (inW_iff hB).mpr ⟨j, hj, rfl⟩⟩
  refine Or.inr ⟨hin.1, hin.2, ?_⟩
  obtain ⟨i, hi, hxi⟩ := (inW_iff hB).mp hin.1
  obtain ⟨j, hj, hyj⟩ := (inW_iff hB).mp hin.2
  have hcc : i * (2 * B + 1) + j < (2 * B + 1) * (2 * B + 1) := by
    have := Nat.mul_le_mul_right (2 * B + 1) (show i + 1 ≤ 2 * B + 1 by omega)
    rw [Nat.succ_mul] at this
    omega
  have hX : cX B (i * (2 * B + 1) + j) = mX B u c := by rw [cX_at hj, hxi]
  have hY : cY B (i * (2 * B + 1) + j) = mY B u c := by rw [cY_at hj, hyj]
  have hcell : fX10_cell 62 (mX B u c) (mY B u c) (mk (up1 I 72 r) L) = some (nn (i * (2 * B + 1) + j), mk (up1 I 72 r) L) := by
    rw [hxi, hyj]
    exact cell_s _ L (by rw [up1_n _ _ (by decide)]; exact e3) hj
  generalize i * (2 * B + 1) + j = c' at *
  have hp' := unit_P hV hB hu hub hc hp hX hY
  have hEd : Ed s B (fb_ct (Pc s B) c) (fb_ct (Pc s B) c') := ⟨u, c, c', hu, hub, hc, hp, hcc, hp', hX, hY, rfl, rfl⟩
  obtain ⟨n1, n2⟩ := Ed_lt hEd
  obtain ⟨r', ls', m1, m2, m3, m4, m5, m6⟩ := links_s I L hn l2 l1 n1 n2
  refine ⟨c', r', hcc, hcell, e71 c' hcc hp', m1, ls', m2, m3, m4 s B l3 (Rh_ed hEd) hV, fun u' d d' k1 k2 k3 k4 k5 k6 k7 k8 k9 => ?_⟩
  rcases k9 with q | ⟨q, q2⟩
  · exact m6 _ _ (l4 u' d d' k1 k2 k3 k4 k5 k6 k7 k8 (Or.inl q))
  · by_cases q3 : un s u' < un s u
    · exact m6 _ _ (l4 u' d d' k1 k2 k3 k4 k5 k6 k7 k8 (Or.inr ⟨q, q3⟩))
    · have h4 : u' = u := fb_ct_kth_one k2 hub (show un s u' = un s u by omega)
      have h5 : d = c := fb_ct_kth_one k4 hp q
      subst h4 h5
      have h6 : d' = c' := by
        obtain ⟨i1, j1, hi1, hj1, rfl⟩ := c_ij k5
        obtain ⟨i2, j2, hi2, hj2, rfl⟩ := c_ij hcc
        have w1 := k7.trans hX.symm
        have w2 := k8.trans hY.symm
        rw [cX_at hj1, cX_at hj2, i32_eq, wx_toInt (by omega) (by omega), wx_toInt (by omega) (by omega)] at w1
        rw [cY_at hj1, cY_at hj2, i32_eq, wx_toInt (by omega) (by omega), wx_toInt (by omega) (by omega)] at w2
        have : i1 = i2 := by omega
        have : j1 = j2 := by omega
        subst_vars
        rfl
      rw [h6]
      exact m5
end FN
