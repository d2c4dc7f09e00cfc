/-- where one comes to by the lesser ones -/
def rtf (ls : Nat → Nat) : Nat → Nat → Nat
  | 0, i => i
  | f + 1, i => if ls i = i then i else rtf ls f (ls i)
def rt (ls : Nat → Nat) (i : Nat) : Nat := rtf ls i i
theorem rtf_eq {ls : Nat → Nat} (h : ∀ j, ls j ≤ j) : ∀ f g i, i ≤ f → i ≤ g → rtf ls f i = rtf ls g i := by
  intro f
  induction f with
  | zero =>
    intro g i hf _
    have : i = 0 := by omega
    subst this
    have h0 : ls 0 = 0 := by have := h 0; omega
    cases g with
    | zero => rfl
    | succ g =>
      show 0 = if ls 0 = 0 then 0 else _
      rw [if_pos h0]
  | succ f ih =>
    intro g i hf hg
    cases g with
    | zero =>
      have : i = 0 := by omega
      subst this
      have h0 : ls 0 = 0 := by have := h 0; omega
      show (if ls 0 = 0 then 0 else _) = 0
      rw [if_pos h0]
    | succ g =>
      show (if ls i = i then i else rtf ls f (ls i)) = if ls i = i then i else rtf ls g (ls i)
      by_cases e : ls i = i
      · rw [if_pos e, if_pos e]
      · have := h i
        rw [if_neg e, if_neg e, ih g (ls i) (by omega) (by omega)]
theorem rt_s {ls : Nat → Nat} (h : ∀ j, ls j ≤ j) (i : Nat) : rt ls i = if ls i = i then i else rt ls (ls i) := by
  unfold rt
  by_cases e : ls i = i
  · rw [if_pos e]
    cases i with
    | zero => rfl
    | succ i =>
      show (if ls (i + 1) = i + 1 then i + 1 else _) = _
      rw [if_pos e]
  · rw [if_neg e]
    have := h i
    obtain ⟨f, hf⟩ : ∃ f, i = f + 1 := ⟨i - 1, by omega⟩
    rw [rtf_eq h i (f + 1) i (by omega) (by omega)]
    show (if ls i = i then i else rtf ls f (ls i)) = _
    rw [if_neg e, rtf_eq h f (ls i) (ls i) (by omega) (by omega)]
theorem rt_ind {ls : Nat → Nat} (h : ∀ j, ls j ≤ j) (P : Nat → Prop) (h1 : ∀ i, ls i = i → P i) (h2 : ∀ i, ¬ ls i = i → P (ls i) → P i) : ∀ i, P i := by
  intro i
  induction i using Nat.strongRecOn with
  | ind i ih =>
    by_cases e : ls i = i
    · exact h1 i e
    · have := h i
      exact h2 i e (ih (ls i) (by omega))
theorem rt_fix {ls : Nat → Nat} (h : ∀ j, ls j ≤ j) : ∀ i, ls (rt ls i) = rt ls i := rt_ind h (fun i => ls (rt ls i) = rt ls i) (fun i e => by rw [rt_s h, if_pos e]; exact e) (fun i e q => by rw [rt_s h i, if_neg e]; exact q)
theorem rt_le {ls : Nat → Nat} (h : ∀ j, ls j ≤ j) : ∀ i, rt ls i ≤ i := rt_ind h (fun i => rt ls i ≤ i) (fun i e => by rw [rt_s h, if_pos e]; exact Nat.le_refl i) (fun i e q => by rw [rt_s h i, if_neg e]; exact Nat.le_trans q (h i))
theorem rt_R {s : Sq} {B : Nat} {ls : Nat → Nat} (h : ∀ j, ls j ≤ j) (hR : ∀ j, Rh s B j (ls j)) : ∀ i, Rh s B i (rt ls i) := rt_ind h (fun i => Rh s B i (rt ls i)) (fun i e => by rw [rt_s h, if_pos e]; exact Rh_rf s B i) (fun i e q => by rw [rt_s h i, if_neg e]; exact Rh_tr (hR i) q)
theorem up_le {ls : Nat → Nat} (h : ∀ j, ls j ≤ j) {p q : Nat} (hpq : p ≤ q) : ∀ j, up1 ls q p j ≤ j := fun j => by
  simp only [up1_e]
  split
  · omega
  · exact h j
theorem rt_up {ls : Nat → Nat} (h : ∀ j, ls j ≤ j) {p q : Nat} (hpq : p < q) (hp : ls p = p) (hq : ls q = q) : ∀ i, rt (up1 ls q p) i = if rt ls i = q then p else rt ls i := by
  have h' := up_le h (show p ≤ q by omega)
  have hp' : rt (up1 ls q p) p = p := by rw [rt_s h', if_pos (by rw [up1_n _ _ (by omega)]; exact hp)]
  refine rt_ind h _ (fun i e => ?_) (fun i e k => ?_)
  · have hi : rt ls i = i := by rw [rt_s h, if_pos e]
    rw [hi]
    by_cases hiq : i = q
    · rw [if_pos hiq, hiq, rt_s h', if_neg (by rw [up1_s]; omega), up1_s, hp']
    · rw [if_neg hiq, rt_s h', if_pos (by rw [up1_n _ _ hiq]; exact e)]
  · have hiq : i ≠ q := fun e2 => e (by rw [e2]; exact hq)
    rw [rt_s h', if_neg (by rw [up1_n _ _ hiq]; exact e), up1_n _ _ hiq, k, rt_s h i, if_neg e]
theorem lpF_s {σ ρ : Type} (f : (σ → Option ρ) → σ → Option ρ) (n : Nat) (s : σ) : lpF f (n + 1) s = f (lpF f n) s := rfl
section FM
variable (I : Nat → Nat → Int32) (L : Nat → Nat → Int64)
def LsAt (n : Nat) (r : Nat → Int32) (ls : Nat → Nat) : Prop := ∀ j, j < n → r j = nn (ls j)
theorem leastOf_s {n : Nat} (hn : n ≤ 6561) {ls : Nat → Nat} (h : ∀ j, ls j ≤ j) (hA : LsAt n (I 72) ls) {i : Nat} (hi : i < n) : fX10_leastOf 62 (nn i) (mk I L) = some (nn (rt ls i), mk I L) := by
  unfold fX10_leastOf
  have key : ∀ i, i < n → ∀ m, i < m → lpF (fun k2 (v1 : Int32) =>
    (gR 10 (mk I L) 62 17).bind fun v4 =>
    (xI 11 (mk I L) v4 v1).bind fun v5 =>
    if v5 = v1 then
     some ((v1 : Int32), mk I L)
    else
     (gR 10 (mk I L) 62 17).bind fun v6 =>
     (xI 11 (mk I L) v6 v1).bind fun v7 =>
     k2 v7) m (nn i) = some (nn (rt ls i), mk I L) := by
    refine rt_ind h _ (fun i e hi m hm => ?_) (fun i e ih hi m hm => ?_)
    · obtain ⟨m', rfl⟩ : ∃ m', m = m' + 1 := ⟨m - 1, by omega⟩
      rw [rt_s h, if_pos e]
      rw [lpF_s]
      simp only [gR_62_17, Option.bind_some, xI_72, nn_lt0 (i) (by omega), nn_nat (show i < 2147483648 by omega), show i < 6561 by omega, not_false_eq_true, and_self, if_true, hA i hi, e]
    · obtain ⟨m', rfl⟩ : ∃ m', m = m' + 1 := ⟨m - 1, by omega⟩
      have hle := h i
      have hne : ¬ nn (ls i) = nn i := fun q => e ((nn_eq (by omega) (by omega)).mp q)
      rw [rt_s h, if_neg e, ← ih (by omega) m' (by omega)]
      rw [lpF_s]
      simp only [gR_62_17, Option.bind_some, xI_72, nn_lt0 (i) (by omega), nn_nat (show i < 2147483648 by omega), show i < 6561 by omega, not_false_eq_true, and_self, if_true, hA i hi, if_neg hne]
  exact key i hi FU (FU_gt (by omega))
theorem links_s {n : Nat} (hn : n ≤ 6561) {ls : Nat → Nat} (h : ∀ j, ls j ≤ j) {r : Nat → Int32} (hA : LsAt n r ls) {i j : Nat} (hi : i < n) (hj : j < n) : ∃ r' ls', fX10_links 62 (nn i) (nn j) (mk (up1 I 72 r) L) = some ((), mk (up1 I 72 r') L) ∧ LsAt n r' ls' ∧ (∀ k, ls' k ≤ k) ∧ (∀ s B, (∀ k, Rh s B k (ls k)) → Rh s B i j → VSt s → ∀ k, Rh s B k (ls' k)) ∧ rt ls' i = rt ls' j ∧ ∀ k l, rt ls k = rt ls l → rt ls' k = rt ls' l := by
  have hA' : LsAt n ((up1 I 72 r) 72) ls := by rw [up1_s]; exact hA
  have e1 := leastOf_s (up1 I 72 r) L hn h hA' hi
  have e2 := leastOf_s (up1 I 72 r) L hn h hA' hj
  have b1 := rt_le h i
  have b2 := rt_le h j
  have f1 := rt_fix h i
  have f2 := rt_fix h j
  by_cases hc : rt ls i ≤ rt ls j
  · refine ⟨up1 r (rt ls j) (nn (rt ls i)), up1 ls (rt ls j) (rt ls i), ?_, fun k hk => ?_, up_le h hc, fun s B hR hij hV k => ?_, ?_, ?_⟩
    · unfold fX10_links
      simp only [kd_62, if_true, e1, e2, Option.bind_some, gR_62_17, nn_le (show rt ls i < 2147483648 by omega) (show rt ls j < 2147483648 by omega), if_pos hc, yI_72, nn_lt0 (rt ls j) (by omega), nn_nat (show rt ls j < 2147483648 by omega), show rt ls j < 6561 by omega, not_false_eq_true, and_self, up1_s, up1_up1]
    · simp only [up1_e]
      split
      · rfl
      · exact hA k hk
    · simp only [up1_e]
      split
      · rename_i hk
        rw [hk]
        exact Rh_tr (Rh_sy hV (rt_R h hR j)) (Rh_tr (Rh_sy hV hij) (rt_R h hR i))
      · exact hR k
    · by_cases hlt : rt ls i < rt ls j
      · rw [rt_up h hlt f1 f2, rt_up h hlt f1 f2, if_neg (by omega), if_pos rfl]
      · have he : rt ls j = rt ls i := by omega
        rw [he, up1_idv f1, he]
    · intro k l hkl
      by_cases hlt : rt ls i < rt ls j
      · rw [rt_up h hlt f1 f2, rt_up h hlt f1 f2, hkl]
      · have he : rt ls j = rt ls i := by omega
        rw [he, up1_idv f1]
        exact hkl
  · have hlt : rt ls j < rt ls i := by omega
    refine ⟨up1 r (rt ls i) (nn (rt ls j)), up1 ls (rt ls i) (rt ls j), ?_, fun k hk => ?_, up_le h (by omega), fun s B hR hij hV k => ?_, ?_, ?_⟩
    · unfold fX10_links
      simp only [kd_62, if_true, e1, e2, Option.bind_some, gR_62_17, nn_le (show rt ls i < 2147483648 by omega) (show rt ls j < 2147483648 by omega), if_neg hc, yI_72, nn_lt0 (rt ls i) (by omega), nn_nat (show rt ls i < 2147483648 by omega), show rt ls i < 6561 by omega, not_false_eq_true, and_self, if_true, up1_s, up1_up1]
    · simp only [up1_e]
      split
      · rfl
      · exact hA k hk
    · simp only [up1_e]
      split
      · rename_i hk
        rw [hk]
        exact Rh_tr (Rh_sy hV (rt_R h hR i)) (Rh_tr hij (rt_R h hR j))
      · exact hR k
    · rw [rt_up h hlt f2 f1, rt_up h hlt f2 f1, if_pos rfl, if_neg (by omega)]
    · intro k l hkl
      rw [rt_up h hlt f2 f1, rt_up h hlt f2 f1, hkl]
/-- a cell of the reference -/
theorem wx_pB {B i : Nat} : wx B i + nn B = nn i := by
  unfold wx
  rw [Int32.sub_add_cancel]
theorem cell_s {B : Nat} (e3 : I 62 3 = nn B) {i j : Nat} (hj : j < 2 * B + 1) : fX10_cell 62 (wx B i) (wx B j) (mk I L) = some (nn (i * (2 * B + 1) + j), mk I L) := by
  unfold fX10_cell
  simp only [gI_62, e3, Option.bind_some, wx_pB]
  rw [show (2 : Int32) * nn B + 1 = nn (2 * B + 1) from by rw [show (2 : Int32) * nn B = nn (2 * B) from nn_mul 2 B, nn_s], nn_mul, Int32.add_assoc, wx_pB, nn_add]
theorem cell_c {B : Nat} (e3 : I 62 3 = nn B) {c : Nat} (hc : c < (2 * B + 1) * (2 * B + 1)) : fX10_cell 62 (cX B c) (cY B c) (mk I L) = some (nn c, mk I L) := by
  obtain ⟨i, j, hi, hj, rfl⟩ := c_ij hc
  rw [cX_at hj, cY_at hj]
  exact cell_s I L e3 hj
end FM
