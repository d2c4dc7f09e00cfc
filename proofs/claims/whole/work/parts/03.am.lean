/-! the memory of abstract addresses (1 ..): how many, the kind of each, its length, its slots: references, ints, longs -/
abbrev Mem := Nat × (Nat → Nat) × (Nat → Nat) × (Nat → Nat → Nat) × (Nat → Nat → Int32) × (Nat → Nat → Int64)
def mSz (h : Mem) : Nat := h.1
def mKd (h : Mem) : Nat → Nat := h.2.1
def mLn (h : Mem) : Nat → Nat := h.2.2.1
def mR (h : Mem) : Nat → Nat → Nat := h.2.2.2.1
def mI (h : Mem) : Nat → Nat → Int32 := h.2.2.2.2.1
def mL (h : Mem) : Nat → Nat → Int64 := h.2.2.2.2.2
def up1 {α : Type} (f : Nat → α) (k : Nat) (v : α) : Nat → α := fun j => if j = k then v else f j
def sR (h : Mem) (a : Nat) (f : Nat → Nat) : Mem := (h.1, h.2.1, h.2.2.1, up1 h.2.2.2.1 a f, h.2.2.2.2.1, h.2.2.2.2.2)
def sI (h : Mem) (a : Nat) (f : Nat → Int32) : Mem := (h.1, h.2.1, h.2.2.1, h.2.2.2.1, up1 h.2.2.2.2.1 a f, h.2.2.2.2.2)
def sL (h : Mem) (a : Nat) (f : Nat → Int64) : Mem := (h.1, h.2.1, h.2.2.1, h.2.2.2.1, h.2.2.2.2.1, up1 h.2.2.2.2.2 a f)
def alM (c n : Nat) (h : Mem) : Mem := (h.1 + 1, up1 h.2.1 (h.1 + 1) c, up1 h.2.2.1 (h.1 + 1) n, up1 h.2.2.2.1 (h.1 + 1) (fun _ => 0), up1 h.2.2.2.2.1 (h.1 + 1) (fun _ => 0), up1 h.2.2.2.2.2 (h.1 + 1) (fun _ => 0))
/-- the fields of each class: 0 int, 1 long, 2 reference -/
def FTY : List (List Nat) := [[0, 0, 0, 0, 2, 2], [2, 0, 0], [0, 2, 2, 2], [0, 0, 2, 2, 2, 2], [0, 2], [0, 2, 2, 0, 0, 0], [2, 2, 2, 2], [0, 2, 0], [0, 2], [2, 2, 0, 2, 2, 2, 2, 2, 2], [0, 2, 0, 0, 2, 0, 2, 0, 2, 0, 2, 2, 2, 0, 2, 0, 2, 2, 2, 0, 2, 2, 2, 2, 2, 0, 1, 1, 2, 0, 0, 2, 2, 2, 2, 2, 0, 2, 2]]
abbrev Ev := Nat × va_G × ClassId × ClassId × ClassId × ClassId × Nat × Nat
abbrev eD (E : Ev) : va_G := E.2.1
abbrev eI (E : Ev) : ClassId := E.2.2.1
abbrev eJ (E : Ev) : ClassId := E.2.2.2.1
abbrev eZ (E : Ev) : ClassId := E.2.2.2.2.1
abbrev eT (E : Ev) : ClassId := E.2.2.2.2.2.1
abbrev eP (E : Ev) : Nat := E.2.2.2.2.2.2.1
abbrev eM (E : Ev) : Nat := E.2.2.2.2.2.2.2
abbrev tys (E : Ev) : List (ClassId × FieldType) := [(eI E, .int), (eJ E, .long), (eZ E, .boolean), (eT E, .object "TwoLetterForms$Tape")]
abbrev rf (E : Ev) (a : Nat) : Value := .ref (E.1 + a)
def rv (E : Ev) (a : Nat) : Value := if a = 0 then .null else .ref (E.1 + a)
def rq (E : Ev) (a : Nat) : Option Nat := if a = 0 then none else some (E.1 + a)
theorem rv_rq (E : Ev) (a : Nat) : va_rf (rq E a) = rv E a := by
  unfold rq rv
  split <;> rfl
theorem rv_rf (E : Ev) {a : Nat} (h : a ≠ 0) : rv E a = rf E a := by simp [rv, h]
def fv (E : Ev) (t : Nat) (h : Mem) (a k : Nat) : Value := if t = 0 then .int (mI h a k) else if t = 1 then .long (mL h a k) else rv E (mR h a k)
def encO (E : Ev) (h : Mem) (a c : Nat) : List Value := (FTY.getD c []).mapIdx (fun k t => fv E t h a k)
def encE (E : Ev) (h : Mem) (a : Nat) : va_E :=
  if mKd h a < 11 then .inr (mKd h a, encO E h a (mKd h a))
  else if mKd h a = 11 then .inl (eI E, mLn h a, .inl (mI h a))
  else if mKd h a = 12 then .inl (eJ E, mLn h a, .inr (.inl (mL h a)))
  else if mKd h a = 13 then .inl (eZ E, mLn h a, .inl (mI h a))
  else .inl (eT E, mLn h a, .inr (.inr (.inr (.inr (fun j => rq E (mR h a j))))))
def enc (E : Ev) (h : Mem) : va_W := (List.range (mSz h)).map (fun k => (E.1 + 1 + k, encE E h (k + 1)))
def Wf (h : Mem) : Prop := ∀ a, mKd h a < 15 → 1 ≤ a ∧ a ≤ mSz h
def Sm (E : Ev) (h : Mem) (H : Heap) : Prop := va_P (eD E) vwCl (enc E h) H ∧ Wf h
def AB (E : Ev) : Nat → Prop := fun q => E.1 + 1 ≤ q
theorem enc_len (E : Ev) (h : Mem) : (enc E h).length = mSz h := by simp [enc]
theorem enc_at (E : Ev) (h : Mem) {a : Nat} (h1 : 1 ≤ a) (h2 : a ≤ mSz h) : (enc E h)[a - 1]? = some (E.1 + a, encE E h a) := by
  have h3 : a - 1 < mSz h := by omega
  have h4 : a - 1 + 1 = a := by omega
  have h5 : E.1 + 1 + (a - 1) = E.1 + a := by omega
  simp [enc, List.getElem?_map, List.getElem?_range h3, h4, h5]
theorem enc_get {E : Ev} {h : Mem} {k : Nat} {q : Nat × va_E} (hk : (enc E h)[k]? = some q) : k < mSz h ∧ q = (E.1 + 1 + k, encE E h (k + 1)) := by
  have h1 : k < (enc E h).length := (List.getElem?_eq_some_iff.mp hk).1
  rw [enc_len] at h1
  refine ⟨h1, ?_⟩
  have h2 := enc_at E h (a := k + 1) (by omega) (by omega)
  rw [Nat.add_sub_cancel, hk] at h2
  rw [Option.some.inj h2]
  congr 1
  omega
theorem enc_set {E : Ev} {h h' : Mem} {a : Nat} (hz : mSz h' = mSz h) (h1 : 1 ≤ a) (hne : ∀ b, b ≠ a → encE E h' b = encE E h b) {e : va_E} (he : encE E h' a = e) : (enc E h).set (a - 1) (E.1 + a, e) = enc E h' := by
  apply List.ext_getElem?
  intro k
  by_cases hk : k < mSz h
  · have e2 : (enc E h')[k]? = some (E.1 + (k + 1), encE E h' (k + 1)) := by
      have := enc_at E h' (a := k + 1) (by omega) (by omega)
      rwa [Nat.add_sub_cancel] at this
    have e1 : (enc E h)[k]? = some (E.1 + (k + 1), encE E h (k + 1)) := by
      have := enc_at E h (a := k + 1) (by omega) (by omega)
      rwa [Nat.add_sub_cancel] at this
    rw [e2]
    by_cases hka : k = a - 1
    · subst hka
      rw [List.getElem?_set_self (by rw [enc_len]; exact hk)]
      have h4 : a - 1 + 1 = a := by omega
      rw [h4, he]
    · rw [List.getElem?_set_ne (fun z => hka z.symm), e1, hne (k + 1) (by omega)]
  · rw [List.getElem?_eq_none (by rw [List.length_set, enc_len]; omega), List.getElem?_eq_none (by rw [enc_len]; omega)]
theorem enc_push {E : Ev} {h h' : Mem} (hz : mSz h' = mSz h + 1) (hne : ∀ b, 1 ≤ b → b ≤ mSz h → encE E h' b = encE E h b) {e : va_E} (he : encE E h' (mSz h + 1) = e) : enc E h ++ [(E.1 + 1 + mSz h, e)] = enc E h' := by
  apply List.ext_getElem?
  intro k
  by_cases hk : k < mSz h
  · have e2 : (enc E h')[k]? = some (E.1 + (k + 1), encE E h' (k + 1)) := by
      have := enc_at E h' (a := k + 1) (by omega) (by omega)
      rwa [Nat.add_sub_cancel] at this
    have e1 : (enc E h)[k]? = some (E.1 + (k + 1), encE E h (k + 1)) := by
      have := enc_at E h (a := k + 1) (by omega) (by omega)
      rwa [Nat.add_sub_cancel] at this
    rw [List.getElem?_append_left (by rw [enc_len]; exact hk), e1, e2, hne (k + 1) (by omega) (by omega)]
  · by_cases hk2 : k = mSz h
    · subst hk2
      have e2 : (enc E h')[mSz h]? = some (E.1 + (mSz h + 1), encE E h' (mSz h + 1)) := by
        have := enc_at E h' (a := mSz h + 1) (by omega) (by omega)
        rwa [Nat.add_sub_cancel] at this
      rw [List.getElem?_append_right (by rw [enc_len]; omega), enc_len, Nat.sub_self, e2, he]
      simp
      omega
    · rw [List.getElem?_eq_none (by simp [enc_len]; omega), List.getElem?_eq_none (by rw [enc_len]; omega)]
theorem enc_D (E : Ev) (h : Mem) : va_D (AB E) (enc E h) := by
  refine ⟨fun i j p q hi hj hpq => ?_, fun k q hk => ?_⟩
  · have h1 := (enc_get hi).2
    have h2 := (enc_get hj).2
    rw [h1, h2] at hpq
    simp at hpq
    omega
  · have h1 := (enc_get hk).2
    rw [h1]
    show E.1 + 1 ≤ E.1 + 1 + k
    omega
theorem encE_o {E : Ev} {h : Mem} {a c : Nat} (hk : mKd h a = c) (hc : c < 11) : encE E h a = .inr (c, encO E h a c) := by subst hk; simp [encE, hc]
theorem encE_i {E : Ev} {h : Mem} {a : Nat} (hk : mKd h a = 11) : encE E h a = .inl (eI E, mLn h a, .inl (mI h a)) := by simp [encE, hk]
theorem encE_l {E : Ev} {h : Mem} {a : Nat} (hk : mKd h a = 12) : encE E h a = .inl (eJ E, mLn h a, .inr (.inl (mL h a))) := by simp [encE, hk]
theorem encE_z {E : Ev} {h : Mem} {a : Nat} (hk : mKd h a = 13) : encE E h a = .inl (eZ E, mLn h a, .inl (mI h a)) := by simp [encE, hk]
theorem encE_t {E : Ev} {h : Mem} {a : Nat} (hk : mKd h a = 14) : encE E h a = .inl (eT E, mLn h a, .inr (.inr (.inr (.inr (fun j => rq E (mR h a j)))))) := by simp [encE, hk]
theorem encO_at {E : Ev} {h : Mem} {a c k t : Nat} (ht : (FTY.getD c [])[k]? = some t) : (encO E h a c)[k]? = some (fv E t h a k) := by unfold encO; rw [List.getElem?_mapIdx, ht]; rfl
theorem encO_len {E : Ev} {h : Mem} {a c : Nat} : (encO E h a c).length = (FTY.getD c []).length := by simp [encO]
theorem encO_set {E : Ev} {h h' : Mem} {a c k t : Nat} (ht : (FTY.getD c [])[k]? = some t) (hne : ∀ j u, (FTY.getD c [])[j]? = some u → j ≠ k → fv E u h' a j = fv E u h a j) {v : Value} (hv : fv E t h' a k = v) : (encO E h a c).set k v = encO E h' a c := by
  apply List.ext_getElem?
  intro j
  by_cases hj : j = k
  · subst hj
    have hl : j < (FTY.getD c []).length := (List.getElem?_eq_some_iff.mp ht).1
    rw [List.getElem?_set_self (by rw [encO_len]; exact hl), encO_at ht, hv]
  · rw [List.getElem?_set_ne (fun z => hj z.symm)]
    cases hu : (FTY.getD c [])[j]? with
    | none => unfold encO; rw [List.getElem?_mapIdx, List.getElem?_mapIdx, hu]; rfl
    | some u => rw [encO_at hu, encO_at hu, hne j u hu hj]
theorem up1_s {α : Type} (f : Nat → α) (k : Nat) (v : α) : up1 f k v k = v := by simp [up1]
theorem up1_n {α : Type} (f : Nat → α) {k j : Nat} (v : α) (h : j ≠ k) : up1 f k v j = f j := by simp [up1, h]
theorem mI_sI (h : Mem) (a : Nat) (f : Nat → Int32) : mI (sI h a f) = up1 (mI h) a f := rfl
theorem mL_sL (h : Mem) (a : Nat) (f : Nat → Int64) : mL (sL h a f) = up1 (mL h) a f := rfl
theorem mR_sR (h : Mem) (a : Nat) (f : Nat → Nat) : mR (sR h a f) = up1 (mR h) a f := rfl
theorem encE_nI {E : Ev} {h : Mem} {a : Nat} (f : Nat → Int32) {b : Nat} (hb : b ≠ a) : encE E (sI h a f) b = encE E h b := by
  have e1 : mI (sI h a f) b = mI h b := by rw [mI_sI, up1_n _ _ hb]
  unfold encE encO fv
  rw [e1]
  rfl
theorem encE_nL {E : Ev} {h : Mem} {a : Nat} (f : Nat → Int64) {b : Nat} (hb : b ≠ a) : encE E (sL h a f) b = encE E h b := by
  have e1 : mL (sL h a f) b = mL h b := by rw [mL_sL, up1_n _ _ hb]
  unfold encE encO fv
  rw [e1]
  rfl
theorem encE_nR {E : Ev} {h : Mem} {a : Nat} (f : Nat → Nat) {b : Nat} (hb : b ≠ a) : encE E (sR h a f) b = encE E h b := by
  have e1 : mR (sR h a f) b = mR h b := by rw [mR_sR, up1_n _ _ hb]
  unfold encE encO fv
  rw [e1]
  rfl
theorem Wf_sI {h : Mem} (hw : Wf h) (a : Nat) (f : Nat → Int32) : Wf (sI h a f) := hw
theorem Wf_sL {h : Mem} (hw : Wf h) (a : Nat) (f : Nat → Int64) : Wf (sL h a f) := hw
theorem Wf_sR {h : Mem} (hw : Wf h) (a : Nat) (f : Nat → Nat) : Wf (sR h a f) := hw
theorem Sm.at {E : Ev} {h : Mem} {H : Heap} (M : Sm E h H) {a : Nat} (hk : mKd h a < 15) : (enc E h)[a - 1]? = some (E.1 + a, encE E h a) := enc_at E h (M.2 a hk).1 (M.2 a hk).2
/-! the words -/
def WSA : List Cond := lw_tbl.filter goodWord
theorem wa {w : Cond} (i : Nat) (h : tables_1[i]? = some w) (hg : goodWord w = true) : w ∈ WSA := List.mem_filter.mpr ⟨List.mem_append_right _ (List.mem_of_getElem? h), hg⟩
theorem wap {q : MethodName × Nat} (i : Nat) (h : lw_privs[i]? = some q) (hg : goodWord (Cond.selects q.1.cls q.1 q.1) = true) : Cond.selects q.1.cls q.1 q.1 ∈ WSA := List.mem_filter.mpr ⟨List.mem_append_left _ (List.mem_map.mpr ⟨q, List.mem_of_getElem? h, rfl⟩), hg⟩
theorem wgood {ws : List Cond} (h : ∀ w ∈ ws, w ∈ WSA) : GoodIn WSA ws := fun w hw => ⟨h w hw, good_of_word (List.mem_filter.mp (h w hw)).2⟩
/-! the tables that nobody writes -/
def tabP (j : Nat) : Int32 := [2, 3, 5, 7, 11, 13].getD j 0
def tabM (j : Nat) : Int32 := [1, 1, 0, 1, 1, -1, 0, 1, 0, 1, 1, 0, -1, 0, 0, 1].getD j 0
def StOK (E : Ev) (U : State) (H : Heap) : Prop :=
  (va_Z "TwoLetterForms" "PRIMES" "[I" (.ref (eP E)) (AB E) U H ∧ va_T .int (eP E) 6 (fun j => .int (tabP j)) (AB E) U H) ∧
  (va_Z "TwoLetterForms$Form" "MOVE_TURNS" "[I" (.ref (eM E)) (AB E) U H ∧ va_T .int (eM E) 16 (fun j => .int (tabM j)) (AB E) U H)
theorem StOK.moved {E : Ev} {u U : State} {H : Heap} (hv : u.vm.Alike U.vm) (h : StOK E u H) : StOK E U H := ⟨⟨h.1.1.moved hv, h.1.2.moved hv⟩, ⟨h.2.1.moved hv, h.2.2.moved hv⟩⟩
theorem StOK.kept {E : Ev} {U : State} {H H1 : Heap} (h : StOK E U H) (hq : ∀ a : Nat, a < H.size → ¬ AB E a → H1[a]? = H[a]?) : StOK E U H1 := ⟨⟨h.1.1.kept hq, h.1.2.kept hq⟩, ⟨h.2.1.kept hq, h.2.2.kept hq⟩⟩
/-! words of nest mates, which a first use may change -/
def isNest : Cond → Bool
  | .fieldLinkNest .. => true
  | .methodLinkNest .. => true
  | _ => false
def NwOK (U : State) : Prop := (∀ w ∈ tables_1, isNest w = true → va_Nw w U) ∧ va_AO "TwoLetterForms$Tape" U
theorem NwOK.warm {s U : State} (hW : s.WarmedH U.vm) (h : NwOK s) : NwOK U := by
  refine ⟨fun w hw hn => ?_, h.2.moved hW.alike⟩
  have h1 := h.1 w hw hn
  cases w <;> first | exact Bool.noConfusion (show false = true from hn) | exact va_Nw.warmF hW h1 | exact va_Nw.warmM hW h1
theorem NwOK.same {u U : State} (hv : u.vm = U.vm) (h : NwOK u) : NwOK U := by
  refine ⟨fun w hw hn => ?_, h.2.moved (by rw [hv]; exact Vm.Alike.refl _)⟩
  have h1 := h.1 w hw hn
  cases w <;> first | exact Bool.noConfusion (show false = true from hn) | exact va_Nw.same rfl hv h1
/-! the judgement -/
abbrev Kx := Program × Launch × Env × State × MethodId × Array Value × List Frame × Method × Code
abbrev kP (K : Kx) : Program := K.1
abbrev kL (K : Kx) : Launch := K.2.1
abbrev kE (K : Kx) : Env := K.2.2.1
abbrev kS (K : Kx) : State := K.2.2.2.1
abbrev kM (K : Kx) : MethodId := K.2.2.2.2.1
abbrev kA (K : Kx) : Array Value := K.2.2.2.2.2.1
abbrev kB (K : Kx) : List Frame := K.2.2.2.2.2.2.1
abbrev kMe (K : Kx) : Method := K.2.2.2.2.2.2.2.1
abbrev kC (K : Kx) : Code := K.2.2.2.2.2.2.2.2
def CxOK (K : Kx) (E : Ev) (own : String) (cc : ByteArray) (nL : Nat) : Prop :=
  (kP K).tables.exec = Jvm.exec ∧ (kC K).code = cc ∧ (kC K).maxLocals = nL ∧ (kS K).vm.findClass own = some (kM K).cls ∧ (∀ w ∈ WSA, w.before (kA K) (kS K) = true) ∧ va_K (eD E) vwCl (tys E) (kS K) ∧ StOK E (kS K) (kS K).heap ∧ (kMe K).locks = false ∧ NwOK (kS K)
/-- the machine at pc, with these locals, this stack, this memory, comes to d's answer and memory -/
def Aw {α : Type} (K : Kx) (E : Ev) (R : Room) (nL : Nat) (Q : α → Mem → State → Prop) (cells slots pc : Nat) (L : List (Nat × Value)) (st : List Value) (h : Mem) (d : Option (α × Mem)) : Prop :=
  ∀ r h', d = some (r, h') → ∀ (H : Heap) (locs : List Loc) (ls : Array Slot), (kS K).heap.size + cells = E.1 + 1 + mSz h → Sm E h H → va_S (AB E) (kS K).heap H locs → lv_has ls nL L →
    W (kP K) (kL K) (kE K) R (kS K) (kM K) (kA K) (kB K) (kMe K) (kC K) H locs cells slots (Q r h') (F0 (kM K) pc ls st)
/-! reads and writes, told as options -/
def gI (c : Nat) (h : Mem) (a k : Nat) : Option Int32 := if mKd h a = c then some (mI h a k) else none
def gJ (c : Nat) (h : Mem) (a k : Nat) : Option Int64 := if mKd h a = c then some (mL h a k) else none
def gR (c : Nat) (h : Mem) (a k : Nat) : Option Nat := if mKd h a = c ∧ mR h a k ≠ 0 then some (mR h a k) else none
def pI (c : Nat) (h : Mem) (a k : Nat) (v : Int32) : Option Mem := if mKd h a = c then some (sI h a (up1 (mI h a) k v)) else none
def pJ (c : Nat) (h : Mem) (a k : Nat) (v : Int64) : Option Mem := if mKd h a = c then some (sL h a (up1 (mL h a) k v)) else none
def pR (c : Nat) (h : Mem) (a k : Nat) (v : Nat) : Option Mem := if mKd h a = c ∧ v ≠ 0 then some (sR h a (up1 (mR h a) k v)) else none
def inB (i : Int32) (n : Nat) : Prop := ¬ i < 0 ∧ i.toNatClampNeg < n
theorem inB_vp {i : Int32} {n : Nat} (h : inB i n) : vp_in i n := by
  intro q
  rcases q with q | q
  · exact h.1 q
  · exact absurd h.2 (by omega)
def xI (t : Nat) (h : Mem) (a : Nat) (i : Int32) : Option Int32 := if mKd h a = t ∧ ¬ i < 0 ∧ i.toNatClampNeg < mLn h a then some (mI h a i.toNatClampNeg) else none
def xJ (h : Mem) (a : Nat) (i : Int32) : Option Int64 := if mKd h a = 12 ∧ ¬ i < 0 ∧ i.toNatClampNeg < mLn h a then some (mL h a i.toNatClampNeg) else none
def xR (h : Mem) (a : Nat) (i : Int32) : Option Nat := if mKd h a = 14 ∧ (¬ i < 0 ∧ i.toNatClampNeg < mLn h a) ∧ mR h a i.toNatClampNeg ≠ 0 then some (mR h a i.toNatClampNeg) else none
def yI (t : Nat) (h : Mem) (a : Nat) (i : Int32) (v : Int32) : Option Mem := if mKd h a = t ∧ ¬ i < 0 ∧ i.toNatClampNeg < mLn h a then some (sI h a (up1 (mI h a) i.toNatClampNeg v)) else none
def yJ (h : Mem) (a : Nat) (i : Int32) (v : Int64) : Option Mem := if mKd h a = 12 ∧ ¬ i < 0 ∧ i.toNatClampNeg < mLn h a then some (sL h a (up1 (mL h a) i.toNatClampNeg v)) else none
def yR (h : Mem) (a : Nat) (i : Int32) (v : Nat) : Option Mem := if mKd h a = 14 ∧ (¬ i < 0 ∧ i.toNatClampNeg < mLn h a) ∧ mKd h v = 7 then some (sR h a (up1 (mR h a) i.toNatClampNeg v)) else none
def aLn (h : Mem) (a : Nat) : Option Int32 := if 11 ≤ mKd h a ∧ mKd h a < 15 then some (Int32.ofNat (mLn h a)) else none
def xT (f : Nat → Int32) (n : Nat) (i : Int32) : Option Int32 := if ¬ i < 0 ∧ i.toNatClampNeg < n then some (f i.toNatClampNeg) else none
def nm {α β : Type} (x : α) (f : α → β) : β := f x
def nwO {β : Type} (c n : Nat) (h : Mem) (f : Nat → Mem → Option β) : Option β := f (mSz h + 1) (alM c n h)
def nwA {β : Type} (c cap : Nat) (n : Int32) (h : Mem) (f : Nat → Mem → Option β) : Option β := if ¬ n < 0 ∧ n.toNatClampNeg ≤ cap then f (mSz h + 1) (alM c n.toNatClampNeg h) else none
def cpI (h : Mem) (a : Nat) (i : Int32) (b : Nat) (j : Int32) (n : Int32) : Option Mem := if (mKd h a = 11 ∧ mKd h b = 11) ∧ (¬ i < 0 ∧ ¬ j < 0 ∧ ¬ n < 0) ∧ i.toNatClampNeg + n.toNatClampNeg ≤ mLn h a ∧ j.toNatClampNeg + n.toNatClampNeg ≤ mLn h b then some (sI h b (va_cpy (mI h a) (mI h b) i.toNatClampNeg j.toNatClampNeg n.toNatClampNeg)) else none
def cpJ (h : Mem) (a : Nat) (i : Int32) (b : Nat) (j : Int32) (n : Int32) : Option Mem := if (mKd h a = 12 ∧ mKd h b = 12) ∧ (¬ i < 0 ∧ ¬ j < 0 ∧ ¬ n < 0) ∧ i.toNatClampNeg + n.toNatClampNeg ≤ mLn h a ∧ j.toNatClampNeg + n.toNatClampNeg ≤ mLn h b then some (sL h b (va_cpy (mL h a) (mL h b) i.toNatClampNeg j.toNatClampNeg n.toNatClampNeg)) else none
def lpF {σ ρ : Type} (f : (σ → Option ρ) → σ → Option ρ) : Nat → σ → Option ρ
  | 0, _ => none
  | n + 1, s => f (lpF f n) s
def jn {σ β : Type} (f : σ → β) (g : (σ → β) → β) : β := g f
def rvI : Int32 → Option Value := fun x => some (.int x)
def rvJ : Int64 → Option Value := fun x => some (.long x)
def rvV : Unit → Option Value := fun _ => none
def rvR (E : Ev) : Nat → Option Value := fun a => some (rv E a)

/-- what is known of a class's field k: its class's number, rows and words, its type -/
def ClOK (c : Nat) (C : String) (T : u_T) (N : Nat) (ty : Nat → FieldType) : Prop := vwCl[c]? = some (C, T, N) ∧ c < 11 ∧ (∀ w ∈ u_ws C T N, w ∈ WSA) ∧ (∀ k, k < N → parseFieldDescriptor (T k).2.2.1 = some (ty k)) ∧ (∀ a, a < N → ∀ b, b < N → a ≠ b → (T a).2.1 ≠ (T b).2.1) ∧ (FTY.getD c []).length = N ∧ (∀ k, k < N → defaultValue (ty k) = if (FTY.getD c []).getD k 0 = 0 then .int 0 else if (FTY.getD c []).getD k 0 = 1 then .long 0 else .null)
/-- a field's link: field k of class c, of type t (0 int, 1 long, 2 reference) -/
def FL (own : String) (index c k t : Nat) : Prop := ∃ (C : String) (T : u_T) (N : Nat) (ty : Nat → FieldType), ClOK c C T N ty ∧ k < N ∧ (FTY.getD c [])[k]? = some t ∧ Cond.fieldLink own index (T k).1 (T k).2.1 (T k).2.2.1 ∈ WSA
/-- .. of a field that isn't final, and of this type -/
def FW (own : String) (index c k t : Nat) (ft : FieldType) : Prop := ∃ (C : String) (T : u_T) (N : Nat) (ty : Nat → FieldType), ClOK c C T N ty ∧ k < N ∧ (FTY.getD c [])[k]? = some t ∧ Cond.fieldLink own index (T k).1 (T k).2.1 (T k).2.2.1 ∈ WSA ∧ (T k).2.2.2 = false ∧ ty k = ft
/-- .. of a final field of the own class -/
def FF (own : String) (index c k t : Nat) (ft : FieldType) : Prop := ∃ (C : String) (T : u_T) (N : Nat) (ty : Nat → FieldType), ClOK c C T N ty ∧ k < N ∧ (FTY.getD c [])[k]? = some t ∧ Cond.fieldLink own index (T k).1 (T k).2.1 (T k).2.2.1 ∈ WSA ∧ (T k).2.2.2 = true ∧ (T k).1 = own ∧ ty k = ft
/-- what is known of a method that is called -/
def CalV (y : MethodName) (bytes : ByteArray) (maxL : Nat) (ret : Option FieldType) (n : Nat) : Prop := (Cond.instanceMethod y ∈ WSA ∧ Cond.selects y.cls y y ∈ WSA ∧ Cond.initialized y.cls ∈ WSA ∧ Cond.code y bytes maxL ret ∈ WSA) ∧ (y.cls ≠ "java/lang/invoke/MethodHandle" ∧ y.cls ≠ "java/lang/invoke/VarHandle" ∧ (parseMethodDescriptor y.desc).map (fun d => d.parameters.length) = some n)
def CalS (y : MethodName) (bytes : ByteArray) (maxL : Nat) (ret : Option FieldType) (n : Nat) : Prop := (Cond.static y ∈ WSA ∧ Cond.initialized y.cls ∈ WSA ∧ Cond.code y bytes maxL ret ∈ WSA) ∧ (y.cls ≠ "java/lang/invoke/MethodHandle" ∧ y.cls ≠ "java/lang/invoke/VarHandle" ∧ (parseMethodDescriptor y.desc).map (fun d => d.parameters.length) = some n)
def CalI (y : MethodName) (bytes : ByteArray) (maxL : Nat) (n : Nat) : Prop := (Cond.instanceMethod y ∈ WSA ∧ Cond.initialized y.cls ∈ WSA ∧ Cond.code y bytes maxL none ∈ WSA ∧ y.name = "<init>") ∧ (y.cls ≠ "java/lang/invoke/MethodHandle" ∧ y.cls ≠ "java/lang/invoke/VarHandle" ∧ (parseMethodDescriptor y.desc).map (fun d => d.parameters.length) = some n)
section AW
variable {α : Type} {K : Kx} {E : Ev} {R : Room} {nL : Nat} {Q : α → Mem → State → Prop} {cells slots pc : Nat} {L : List (Nat × Value)} {st : List Value} {h : Mem} {own : String} {cc : ByteArray}
theorem aw_none : Aw K E R nL Q cells slots pc L st h (none : Option (α × Mem)) := fun _ _ e => by cases e
theorem aw_sub {L' : List (Nat × Value)} {d : Option (α × Mem)} (ks : List Nat) (hl : lv_pick L ks = L') (kk : Aw K E R nL Q cells slots pc L' st h d) : Aw K E R nL Q cells slots pc L st h d :=
  fun r h' e H locs ls hz M hS hls => kk r h' e H locs ls hz M hS (lv_sub hls ks hl)
theorem aw_eq {d d' : Option (α × Mem)} (he : d = d') (kk : Aw K E R nL Q cells slots pc L st h d') : Aw K E R nL Q cells slots pc L st h d := he ▸ kk
theorem aw_nm {β : Type} {d : β → Option (α × Mem)} {x : β} (kk : ∀ y, y = x → Aw K E R nL Q cells slots pc L st h (d y)) : Aw K E R nL Q cells slots pc L st h (nm x d) := kk x rfl

theorem aw_iload_n (C : CxOK K E own cc nL) {k : Fin 4} {i : Nat} {x : Int32} (hd : decode cc pc = .ok (.iload_n k, 1)) (hi : (k : Nat) = i) (j : Nat) (hj : L[j]? = some (i, .int x)) {d : Option (α × Mem)} (kk : Aw K E R nL Q cells slots (pc + 1) L (.int x :: st) h d) : Aw K E R nL Q cells slots pc L st h d :=
  fun r h' e H locs ls hz M hS hls => lv_iload_n C.1 C.2.1 hd hi (lv_at hls j hj) (kk r h' e H locs ls hz M hS hls)
theorem aw_iload (C : CxOK K E own cc nL) {i : Nat} {x : Int32} (hd : decode cc pc = .ok (.iload i, 2)) (j : Nat) (hj : L[j]? = some (i, .int x)) {d : Option (α × Mem)} (kk : Aw K E R nL Q cells slots (pc + 2) L (.int x :: st) h d) : Aw K E R nL Q cells slots pc L st h d :=
  fun r h' e H locs ls hz M hS hls => lv_iload C.1 C.2.1 hd (lv_at hls j hj) (kk r h' e H locs ls hz M hS hls)
theorem aw_istore_n (C : CxOK K E own cc nL) {k : Fin 4} {i : Nat} {x : Int32} {L' : List (Nat × Value)} (hd : decode cc pc = .ok (.istore_n k, 1)) (hi : (k : Nat) = i) (hn : i < nL) (hl : (i, (Value.int x)) :: L.filter (fun q => !(q.1 == i) && !(q.1 + 1 == i && q.2.category == 2)) = L') {d : Option (α × Mem)} (kk : Aw K E R nL Q cells slots (pc + 1) L' st h d) : Aw K E R nL Q cells slots pc L (.int x :: st) h d :=
  fun r h' e H locs ls hz M hS hls => lv_istore_n C.1 C.2.1 hd hi hls hn hl (fun ls' hls' => kk r h' e H locs ls' hz M hS hls')
theorem aw_istore (C : CxOK K E own cc nL) {i : Nat} {x : Int32} {L' : List (Nat × Value)} (hd : decode cc pc = .ok (.istore i, 2)) (hn : i < nL) (hl : (i, (Value.int x)) :: L.filter (fun q => !(q.1 == i) && !(q.1 + 1 == i && q.2.category == 2)) = L') {d : Option (α × Mem)} (kk : Aw K E R nL Q cells slots (pc + 2) L' st h d) : Aw K E R nL Q cells slots pc L (.int x :: st) h d :=
  fun r h' e H locs ls hz M hS hls => lv_istore C.1 C.2.1 hd hls hn hl (fun ls' hls' => kk r h' e H locs ls' hz M hS hls')
theorem aw_lload_n (C : CxOK K E own cc nL) {k : Fin 4} {i : Nat} {x : Int64} (hd : decode cc pc = .ok (.lload_n k, 1)) (hi : (k : Nat) = i) (j : Nat) (hj : L[j]? = some (i, .long x)) {d : Option (α × Mem)} (kk : Aw K E R nL Q cells slots (pc + 1) L (.long x :: st) h d) : Aw K E R nL Q cells slots pc L st h d :=
  fun r h' e H locs ls hz M hS hls => lv_lload_n C.1 C.2.1 hd hi (lv_at hls j hj) (kk r h' e H locs ls hz M hS hls)
theorem aw_lload (C : CxOK K E own cc nL) {i : Nat} {x : Int64} (hd : decode cc pc = .ok (.lload i, 2)) (j : Nat) (hj : L[j]? = some (i, .long x)) {d : Option (α × Mem)} (kk : Aw K E R nL Q cells slots (pc + 2) L (.long x :: st) h d) : Aw K E R nL Q cells slots pc L st h d :=
  fun r h' e H locs ls hz M hS hls => lv_lload C.1 C.2.1 hd (lv_at hls j hj) (kk r h' e H locs ls hz M hS hls)
theorem aw_lstore_n (C : CxOK K E own cc nL) {k : Fin 4} {i : Nat} {x : Int64} {L' : List (Nat × Value)} (hd : decode cc pc = .ok (.lstore_n k, 1)) (hi : (k : Nat) = i) (hn : i + 1 < nL) (hl : (i, (Value.long x)) :: L.filter (fun q => !(q.1 == i) && (!(q.1 == i + 1) && !(q.1 + 1 == i && q.2.category == 2))) = L') {d : Option (α × Mem)} (kk : Aw K E R nL Q cells slots (pc + 1) L' st h d) : Aw K E R nL Q cells slots pc L (.long x :: st) h d :=
  fun r h' e H locs ls hz M hS hls => lv_lstore_n C.1 C.2.1 hd hi hls hn hl (fun ls' hls' => kk r h' e H locs ls' hz M hS hls')
theorem aw_lstore (C : CxOK K E own cc nL) {i : Nat} {x : Int64} {L' : List (Nat × Value)} (hd : decode cc pc = .ok (.lstore i, 2)) (hn : i + 1 < nL) (hl : (i, (Value.long x)) :: L.filter (fun q => !(q.1 == i) && (!(q.1 == i + 1) && !(q.1 + 1 == i && q.2.category == 2))) = L') {d : Option (α × Mem)} (kk : Aw K E R nL Q cells slots (pc + 2) L' st h d) : Aw K E R nL Q cells slots pc L (.long x :: st) h d :=
  fun r h' e H locs ls hz M hS hls => lv_lstore C.1 C.2.1 hd hls hn hl (fun ls' hls' => kk r h' e H locs ls' hz M hS hls')
theorem aw_aload_n (C : CxOK K E own cc nL) {k : Fin 4} {i : Nat} {x : Nat} (hd : decode cc pc = .ok (.aload_n k, 1)) (hi : (k : Nat) = i) (j : Nat) (hj : L[j]? = some (i, .ref x)) {d : Option (α × Mem)} (kk : Aw K E R nL Q cells slots (pc + 1) L (.ref x :: st) h d) : Aw K E R nL Q cells slots pc L st h d :=
  fun r h' e H locs ls hz M hS hls => lv_aload_n C.1 C.2.1 hd hi (lv_at hls j hj) (kk r h' e H locs ls hz M hS hls)
theorem aw_aload (C : CxOK K E own cc nL) {i : Nat} {x : Nat} (hd : decode cc pc = .ok (.aload i, 2)) (j : Nat) (hj : L[j]? = some (i, .ref x)) {d : Option (α × Mem)} (kk : Aw K E R nL Q cells slots (pc + 2) L (.ref x :: st) h d) : Aw K E R nL Q cells slots pc L st h d :=
  fun r h' e H locs ls hz M hS hls => lv_aload C.1 C.2.1 hd (lv_at hls j hj) (kk r h' e H locs ls hz M hS hls)
theorem aw_astore_n (C : CxOK K E own cc nL) {k : Fin 4} {i : Nat} {x : Nat} {L' : List (Nat × Value)} (hd : decode cc pc = .ok (.astore_n k, 1)) (hi : (k : Nat) = i) (hn : i < nL) (hl : (i, (Value.ref x)) :: L.filter (fun q => !(q.1 == i) && !(q.1 + 1 == i && q.2.category == 2)) = L') {d : Option (α × Mem)} (kk : Aw K E R nL Q cells slots (pc + 1) L' st h d) : Aw K E R nL Q cells slots pc L (.ref x :: st) h d :=
  fun r h' e H locs ls hz M hS hls => lv_astore_n C.1 C.2.1 hd hi hls hn hl (fun ls' hls' => kk r h' e H locs ls' hz M hS hls')
theorem aw_astore (C : CxOK K E own cc nL) {i : Nat} {x : Nat} {L' : List (Nat × Value)} (hd : decode cc pc = .ok (.astore i, 2)) (hn : i < nL) (hl : (i, (Value.ref x)) :: L.filter (fun q => !(q.1 == i) && !(q.1 + 1 == i && q.2.category == 2)) = L') {d : Option (α × Mem)} (kk : Aw K E R nL Q cells slots (pc + 2) L' st h d) : Aw K E R nL Q cells slots pc L (.ref x :: st) h d :=
  fun r h' e H locs ls hz M hS hls => lv_astore C.1 C.2.1 hd hls hn hl (fun ls' hls' => kk r h' e H locs ls' hz M hS hls')
theorem aw_iinc (C : CxOK K E own cc nL) {i : Nat} {n : Int} {x v : Int32} {L' : List (Nat × Value)} (hd : decode cc pc = .ok (.iinc i n, 3)) (j : Nat) (hj : L[j]? = some (i, .int x)) (hv : x + Int32.ofInt n = v) (hn : i < nL) (hl : (i, Value.int v) :: L.filter (fun q => !(q.1 == i) && !(q.1 + 1 == i && q.2.category == 2)) = L') {d : Option (α × Mem)} (kk : Aw K E R nL Q cells slots (pc + 3) L' st h d) : Aw K E R nL Q cells slots pc L st h d :=
  fun r h' e H locs ls hz M hS hls => lv_iinc C.1 C.2.1 hd hls hj hv hn hl (fun ls' hls' => kk r h' e H locs ls' hz M hS hls')
theorem aw_iconst (C : CxOK K E own cc nL) {n : Int} {v : Int32} (hd : decode cc pc = .ok (.iconst n, 1)) (hv : Int32.ofInt n = v) {d : Option (α × Mem)} (kk : Aw K E R nL Q cells slots (pc + 1) L (.int v :: st) h d) : Aw K E R nL Q cells slots pc L (st) h d :=
  fun r h' e H locs ls hz M hS hls => lv_iconst C.1 C.2.1 hd hv (kk r h' e H locs ls hz M hS hls)
theorem aw_bipush (C : CxOK K E own cc nL) {n : Int} {v : Int32} (hd : decode cc pc = .ok (.bipush n, 2)) (hv : (Int8.ofInt n).toInt32 = v) {d : Option (α × Mem)} (kk : Aw K E R nL Q cells slots (pc + 2) L (.int v :: st) h d) : Aw K E R nL Q cells slots pc L (st) h d :=
  fun r h' e H locs ls hz M hS hls => lv_bipush C.1 C.2.1 hd hv (kk r h' e H locs ls hz M hS hls)
theorem aw_sipush (C : CxOK K E own cc nL) {n : Int} {v : Int32} (hd : decode cc pc = .ok (.sipush n, 3)) (hv : (Int16.ofInt n).toInt32 = v) {d : Option (α × Mem)} (kk : Aw K E R nL Q cells slots (pc + 3) L (.int v :: st) h d) : Aw K E R nL Q cells slots pc L (st) h d :=
  fun r h' e H locs ls hz M hS hls => lv_sipush C.1 C.2.1 hd hv (kk r h' e H locs ls hz M hS hls)
theorem aw_lconst (C : CxOK K E own cc nL) {n : Fin 2} {v : Int64} (hd : decode cc pc = .ok (.lconst n, 1)) (hv : Int64.ofNat (n : Nat) = v) {d : Option (α × Mem)} (kk : Aw K E R nL Q cells slots (pc + 1) L (.long v :: st) h d) : Aw K E R nL Q cells slots pc L (st) h d :=
  fun r h' e H locs ls hz M hS hls => lv_lconst C.1 C.2.1 hd hv (kk r h' e H locs ls hz M hS hls)
theorem aw_ldc2 (C : CxOK K E own cc nL) {index : Nat} {v : Int64} (hw : Jvm.Cond.constantLong own index v ∈ WSA) (hd : decode cc pc = .ok (.ldc2_w index, 3)) {d : Option (α × Mem)} (kk : Aw K E R nL Q cells slots (pc + 3) L (.long v :: st) h d) : Aw K E R nL Q cells slots pc L (st) h d :=
  fun r h' e H locs ls hz M hS hls => lv_ldc2 C.1 C.2.1 C.2.2.2.1 (C.2.2.2.2.1 _ hw) hd (kk r h' e H locs ls hz M hS hls)
theorem aw_ldc (C : CxOK K E own cc nL) {index : Nat} {v : Int32} (hw : Jvm.Cond.constant own index v ∈ WSA) (hd : decode cc pc = .ok (.ldc index, 2)) {d : Option (α × Mem)} (kk : Aw K E R nL Q cells slots (pc + 2) L (.int v :: st) h d) : Aw K E R nL Q cells slots pc L (st) h d :=
  fun r h' e H locs ls hz M hS hls => lv_ldc C.1 C.2.1 C.2.2.2.1 (C.2.2.2.2.1 _ hw) hd (kk r h' e H locs ls hz M hS hls)
theorem aw_ldcw (C : CxOK K E own cc nL) {index : Nat} {v : Int32} (hw : Jvm.Cond.constant own index v ∈ WSA) (hd : decode cc pc = .ok (.ldc_w index, 3)) {d : Option (α × Mem)} (kk : Aw K E R nL Q cells slots (pc + 3) L (.int v :: st) h d) : Aw K E R nL Q cells slots pc L (st) h d :=
  fun r h' e H locs ls hz M hS hls => lv_ldcw C.1 C.2.1 C.2.2.2.1 (C.2.2.2.2.1 _ hw) hd (kk r h' e H locs ls hz M hS hls)
theorem aw_null (C : CxOK K E own cc nL) (hd : decode cc pc = .ok (.aconst_null, 1)) {d : Option (α × Mem)} (kk : Aw K E R nL Q cells slots (pc + 1) L (.null :: st) h d) : Aw K E R nL Q cells slots pc L (st) h d :=
  fun r h' e H locs ls hz M hS hls => lv_null C.1 C.2.1 hd (kk r h' e H locs ls hz M hS hls)
theorem aw_nmI {d : Int32 → Option (α × Mem)} {x : Int32} (kk : ∀ v, v = x → Aw K E R nL Q cells slots pc L (.int v :: st) h (d v)) : Aw K E R nL Q cells slots pc L (.int x :: st) h (nm x d) := kk x rfl
theorem aw_nmJ {d : Int64 → Option (α × Mem)} {x : Int64} (kk : ∀ v, v = x → Aw K E R nL Q cells slots pc L (.long v :: st) h (d v)) : Aw K E R nL Q cells slots pc L (.long x :: st) h (nm x d) := kk x rfl
theorem aw_iincN (C : CxOK K E own cc nL) {i : Nat} {n : Int} {x k : Int32} {L1 : List (Nat × Value)} (hd : decode cc pc = .ok (.iinc i n, 3)) (j : Nat) (hj : L[j]? = some (i, .int x)) (hk : Int32.ofInt n = k) (hn : i < nL) (hl : L.filter (fun q => !(q.1 == i) && !(q.1 + 1 == i && q.2.category == 2)) = L1) {d : Int32 → Option (α × Mem)} (kk : ∀ v, v = x + k → Aw K E R nL Q cells slots (pc + 3) ((i, .int v) :: L1) st h (d v)) : Aw K E R nL Q cells slots pc L st h (nm (x + k) d) := by
  subst hk
  exact aw_iinc C hd j hj rfl hn (congrArg _ hl) (kk _ rfl)
theorem gR_ne {c a k v : Nat} (e : gR c h a k = some v) : v ≠ 0 := by
  unfold gR at e
  split at e
  · rename_i hc
    cases e
    exact hc.2
  · cases e
theorem xR_ne {a v : Nat} {i : Int32} (e : xR h a i = some v) : v ≠ 0 := by
  unfold xR at e
  split at e
  · rename_i hc
    cases e
    exact hc.2.2
  · cases e
theorem aw_iadd (C : CxOK K E own cc nL) {x y : Int32} (hd : decode cc pc = .ok (.iadd, 1)) {d : Option (α × Mem)} (kk : Aw K E R nL Q cells slots (pc + 1) L (.int (x + y) :: st) h d) : Aw K E R nL Q cells slots pc L (.int y :: .int x :: st) h d :=
  fun r h' e H locs ls hz M hS hls => lv_iadd C.1 C.2.1 hd (kk r h' e H locs ls hz M hS hls)
theorem aw_isub (C : CxOK K E own cc nL) {x y : Int32} (hd : decode cc pc = .ok (.isub, 1)) {d : Option (α × Mem)} (kk : Aw K E R nL Q cells slots (pc + 1) L (.int (x - y) :: st) h d) : Aw K E R nL Q cells slots pc L (.int y :: .int x :: st) h d :=
  fun r h' e H locs ls hz M hS hls => lv_isub C.1 C.2.1 hd (kk r h' e H locs ls hz M hS hls)
theorem aw_imul (C : CxOK K E own cc nL) {x y : Int32} (hd : decode cc pc = .ok (.imul, 1)) {d : Option (α × Mem)} (kk : Aw K E R nL Q cells slots (pc + 1) L (.int (x * y) :: st) h d) : Aw K E R nL Q cells slots pc L (.int y :: .int x :: st) h d :=
  fun r h' e H locs ls hz M hS hls => lv_imul C.1 C.2.1 hd (kk r h' e H locs ls hz M hS hls)
theorem aw_iand (C : CxOK K E own cc nL) {x y : Int32} (hd : decode cc pc = .ok (.iand, 1)) {d : Option (α × Mem)} (kk : Aw K E R nL Q cells slots (pc + 1) L (.int (x &&& y) :: st) h d) : Aw K E R nL Q cells slots pc L (.int y :: .int x :: st) h d :=
  fun r h' e H locs ls hz M hS hls => lv_iand C.1 C.2.1 hd (kk r h' e H locs ls hz M hS hls)
theorem aw_ior (C : CxOK K E own cc nL) {x y : Int32} (hd : decode cc pc = .ok (.ior, 1)) {d : Option (α × Mem)} (kk : Aw K E R nL Q cells slots (pc + 1) L (.int (x ||| y) :: st) h d) : Aw K E R nL Q cells slots pc L (.int y :: .int x :: st) h d :=
  fun r h' e H locs ls hz M hS hls => lv_ior C.1 C.2.1 hd (kk r h' e H locs ls hz M hS hls)
theorem aw_ixor (C : CxOK K E own cc nL) {x y : Int32} (hd : decode cc pc = .ok (.ixor, 1)) {d : Option (α × Mem)} (kk : Aw K E R nL Q cells slots (pc + 1) L (.int (x ^^^ y) :: st) h d) : Aw K E R nL Q cells slots pc L (.int y :: .int x :: st) h d :=
  fun r h' e H locs ls hz M hS hls => lv_ixor C.1 C.2.1 hd (kk r h' e H locs ls hz M hS hls)
theorem aw_ishr (C : CxOK K E own cc nL) {x y : Int32} (hd : decode cc pc = .ok (.ishr, 1)) {d : Option (α × Mem)} (kk : Aw K E R nL Q cells slots (pc + 1) L (.int (x >>> (y &&& 31)) :: st) h d) : Aw K E R nL Q cells slots pc L (.int y :: .int x :: st) h d :=
  fun r h' e H locs ls hz M hS hls => lv_ishr C.1 C.2.1 hd (kk r h' e H locs ls hz M hS hls)
theorem aw_ishl (C : CxOK K E own cc nL) {x y : Int32} (hd : decode cc pc = .ok (.ishl, 1)) {d : Option (α × Mem)} (kk : Aw K E R nL Q cells slots (pc + 1) L (.int (x <<< (y &&& 31)) :: st) h d) : Aw K E R nL Q cells slots pc L (.int y :: .int x :: st) h d :=
  fun r h' e H locs ls hz M hS hls => lv_ishl C.1 C.2.1 hd (kk r h' e H locs ls hz M hS hls)
theorem aw_iushr (C : CxOK K E own cc nL) {x y v : Int32} (hd : decode cc pc = .ok (.iushr, 1)) (hv : (x.toUInt32 >>> (y.toUInt32 &&& Int32.toUInt32 31)).toInt32 = v) {d : Option (α × Mem)} (kk : Aw K E R nL Q cells slots (pc + 1) L (.int v :: st) h d) : Aw K E R nL Q cells slots pc L (.int y :: .int x :: st) h d :=
  fun r h' e H locs ls hz M hS hls => lv_iushr C.1 C.2.1 hd hv (kk r h' e H locs ls hz M hS hls)
theorem aw_ladd (C : CxOK K E own cc nL) {x y : Int64} (hd : decode cc pc = .ok (.ladd, 1)) {d : Option (α × Mem)} (kk : Aw K E R nL Q cells slots (pc + 1) L (.long (x + y) :: st) h d) : Aw K E R nL Q cells slots pc L (.long y :: .long x :: st) h d :=
  fun r h' e H locs ls hz M hS hls => lv_ladd C.1 C.2.1 hd (kk r h' e H locs ls hz M hS hls)
theorem aw_lsub (C : CxOK K E own cc nL) {x y : Int64} (hd : decode cc pc = .ok (.lsub, 1)) {d : Option (α × Mem)} (kk : Aw K E R nL Q cells slots (pc + 1) L (.long (x - y) :: st) h d) : Aw K E R nL Q cells slots pc L (.long y :: .long x :: st) h d :=
  fun r h' e H locs ls hz M hS hls => lv_lsub C.1 C.2.1 hd (kk r h' e H locs ls hz M hS hls)
theorem aw_lmul (C : CxOK K E own cc nL) {x y : Int64} (hd : decode cc pc = .ok (.lmul, 1)) {d : Option (α × Mem)} (kk : Aw K E R nL Q cells slots (pc + 1) L (.long (x * y) :: st) h d) : Aw K E R nL Q cells slots pc L (.long y :: .long x :: st) h d :=
  fun r h' e H locs ls hz M hS hls => lv_lmul C.1 C.2.1 hd (kk r h' e H locs ls hz M hS hls)
theorem aw_land (C : CxOK K E own cc nL) {x y : Int64} (hd : decode cc pc = .ok (.land, 1)) {d : Option (α × Mem)} (kk : Aw K E R nL Q cells slots (pc + 1) L (.long (x &&& y) :: st) h d) : Aw K E R nL Q cells slots pc L (.long y :: .long x :: st) h d :=
  fun r h' e H locs ls hz M hS hls => lv_land C.1 C.2.1 hd (kk r h' e H locs ls hz M hS hls)
theorem aw_lor (C : CxOK K E own cc nL) {x y : Int64} (hd : decode cc pc = .ok (.lor, 1)) {d : Option (α × Mem)} (kk : Aw K E R nL Q cells slots (pc + 1) L (.long (x ||| y) :: st) h d) : Aw K E R nL Q cells slots pc L (.long y :: .long x :: st) h d :=
  fun r h' e H locs ls hz M hS hls => lv_lor C.1 C.2.1 hd (kk r h' e H locs ls hz M hS hls)
theorem aw_lxor (C : CxOK K E own cc nL) {x y : Int64} (hd : decode cc pc = .ok (.lxor, 1)) {d : Option (α × Mem)} (kk : Aw K E R nL Q cells slots (pc + 1) L (.long (x ^^^ y) :: st) h d) : Aw K E R nL Q cells slots pc L (.long y :: .long x :: st) h d :=
  fun r h' e H locs ls hz M hS hls => lv_lxor C.1 C.2.1 hd (kk r h' e H locs ls hz M hS hls)
theorem aw_lshl (C : CxOK K E own cc nL) {x : Int64} {y : Int32} (hd : decode cc pc = .ok (.lshl, 1)) {d : Option (α × Mem)} (kk : Aw K E R nL Q cells slots (pc + 1) L (.long (x <<< (y.toInt64 &&& 63)) :: st) h d) : Aw K E R nL Q cells slots pc L (.int y :: .long x :: st) h d :=
  fun r h' e H locs ls hz M hS hls => lv_lshl C.1 C.2.1 hd rfl (kk r h' e H locs ls hz M hS hls)
theorem aw_ineg (C : CxOK K E own cc nL) {x : Int32} (hd : decode cc pc = .ok (.ineg, 1)) {d : Option (α × Mem)} (kk : Aw K E R nL Q cells slots (pc + 1) L (.int (-x) :: st) h d) : Aw K E R nL Q cells slots pc L (.int x :: st) h d :=
  fun r h' e H locs ls hz M hS hls => lv_ineg C.1 C.2.1 hd (kk r h' e H locs ls hz M hS hls)
theorem aw_lneg (C : CxOK K E own cc nL) {x : Int64} (hd : decode cc pc = .ok (.lneg, 1)) {d : Option (α × Mem)} (kk : Aw K E R nL Q cells slots (pc + 1) L (.long (-x) :: st) h d) : Aw K E R nL Q cells slots pc L (.long x :: st) h d :=
  fun r h' e H locs ls hz M hS hls => lv_lneg C.1 C.2.1 hd (kk r h' e H locs ls hz M hS hls)
theorem aw_i2l (C : CxOK K E own cc nL) {x : Int32} (hd : decode cc pc = .ok (.i2l, 1)) {d : Option (α × Mem)} (kk : Aw K E R nL Q cells slots (pc + 1) L (.long x.toInt64 :: st) h d) : Aw K E R nL Q cells slots pc L (.int x :: st) h d :=
  fun r h' e H locs ls hz M hS hls => lv_i2l C.1 C.2.1 hd rfl (kk r h' e H locs ls hz M hS hls)
theorem aw_l2i (C : CxOK K E own cc nL) {x : Int64} (hd : decode cc pc = .ok (.l2i, 1)) {d : Option (α × Mem)} (kk : Aw K E R nL Q cells slots (pc + 1) L (.int x.toInt32 :: st) h d) : Aw K E R nL Q cells slots pc L (.long x :: st) h d :=
  fun r h' e H locs ls hz M hS hls => lv_l2i C.1 C.2.1 hd rfl (kk r h' e H locs ls hz M hS hls)
theorem aw_i2b (C : CxOK K E own cc nL) {x : Int32} (hd : decode cc pc = .ok (.i2b, 1)) {d : Option (α × Mem)} (kk : Aw K E R nL Q cells slots (pc + 1) L (.int x.toInt8.toInt32 :: st) h d) : Aw K E R nL Q cells slots pc L (.int x :: st) h d :=
  fun r h' e H locs ls hz M hS hls => lv_i2b C.1 C.2.1 hd rfl (kk r h' e H locs ls hz M hS hls)
theorem aw_i2s (C : CxOK K E own cc nL) {x : Int32} (hd : decode cc pc = .ok (.i2s, 1)) {d : Option (α × Mem)} (kk : Aw K E R nL Q cells slots (pc + 1) L (.int x.toInt16.toInt32 :: st) h d) : Aw K E R nL Q cells slots pc L (.int x :: st) h d :=
  fun r h' e H locs ls hz M hS hls => lv_i2s C.1 C.2.1 hd rfl (kk r h' e H locs ls hz M hS hls)
theorem aw_lcmp (C : CxOK K E own cc nL) {x y : Int64} (hd : decode cc pc = .ok (.lcmp, 1)) {d : Option (α × Mem)} (kk : Aw K E R nL Q cells slots (pc + 1) L (.int (lg_cmp x y) :: st) h d) : Aw K E R nL Q cells slots pc L (.long y :: .long x :: st) h d :=
  fun r h' e H locs ls hz M hS hls => W.lcmp C.1 C.2.1 hd (kk r h' e H locs ls hz M hS hls)
theorem aw_dup (C : CxOK K E own cc nL) {v : Value} (hv : v.category = 1) (hd : decode cc pc = .ok (.dup, 1)) {d : Option (α × Mem)} (kk : Aw K E R nL Q cells slots (pc + 1) L (v :: v :: st) h d) : Aw K E R nL Q cells slots pc L (v :: st) h d :=
  fun r h' e H locs ls hz M hS hls => lv_dup C.1 C.2.1 hd hv (kk r h' e H locs ls hz M hS hls)
theorem aw_dup2 (C : CxOK K E own cc nL) {v u : Value} (hv : v.category = 1) (hu : u.category = 1) (hd : decode cc pc = .ok (.dup2, 1)) {d : Option (α × Mem)} (kk : Aw K E R nL Q cells slots (pc + 1) L (v :: u :: v :: u :: st) h d) : Aw K E R nL Q cells slots pc L (v :: u :: st) h d :=
  fun r h' e H locs ls hz M hS hls => lv_dup2_11 C.1 C.2.1 hd hv hu (kk r h' e H locs ls hz M hS hls)
theorem aw_dup_x1 (C : CxOK K E own cc nL) {v u : Value} (hv : v.category = 1) (hu : u.category = 1) (hd : decode cc pc = .ok (.dup_x1, 1)) {d : Option (α × Mem)} (kk : Aw K E R nL Q cells slots (pc + 1) L (v :: u :: v :: st) h d) : Aw K E R nL Q cells slots pc L (v :: u :: st) h d :=
  fun r h' e H locs ls hz M hS hls => lv_dup_x1 C.1 C.2.1 hd hv hu (kk r h' e H locs ls hz M hS hls)
theorem aw_pop (C : CxOK K E own cc nL) {v : Value} (hv : v.category = 1) (hd : decode cc pc = .ok (.pop, 1)) {d : Option (α × Mem)} (kk : Aw K E R nL Q cells slots (pc + 1) L (st) h d) : Aw K E R nL Q cells slots pc L (v :: st) h d :=
  fun r h' e H locs ls hz M hS hls => lv_pop C.1 C.2.1 hd hv (kk r h' e H locs ls hz M hS hls)
theorem aw_idiv (C : CxOK K E own cc nL) {x y : Int32} (hd : decode cc pc = .ok (.idiv, 1)) {d : Option (α × Mem)} (kk : ¬ y = 0 → Aw K E R nL Q cells slots (pc + 1) L (.int (x / y) :: st) h d) : Aw K E R nL Q cells slots pc L (.int y :: .int x :: st) h (if y = 0 then none else d) := by
  intro r h' e H locs ls hz M hS hls
  by_cases hy : y = 0
  · rw [if_pos hy] at e; cases e
  · rw [if_neg hy] at e; exact lv_idiv C.1 C.2.1 hd hy (kk hy r h' e H locs ls hz M hS hls)
theorem aw_irem (C : CxOK K E own cc nL) {x y : Int32} (hd : decode cc pc = .ok (.irem, 1)) {d : Option (α × Mem)} (kk : ¬ y = 0 → Aw K E R nL Q cells slots (pc + 1) L (.int (x - x / y * y) :: st) h d) : Aw K E R nL Q cells slots pc L (.int y :: .int x :: st) h (if y = 0 then none else d) := by
  intro r h' e H locs ls hz M hS hls
  by_cases hy : y = 0
  · rw [if_pos hy] at e; cases e
  · rw [if_neg hy] at e; exact lv_irem C.1 C.2.1 hd hy (kk hy r h' e H locs ls hz M hS hls)
theorem aw_ldiv (C : CxOK K E own cc nL) {x y : Int64} (hd : decode cc pc = .ok (.ldiv, 1)) {d : Option (α × Mem)} (kk : ¬ y = 0 → Aw K E R nL Q cells slots (pc + 1) L (.long (x / y) :: st) h d) : Aw K E R nL Q cells slots pc L (.long y :: .long x :: st) h (if y = 0 then none else d) := by
  intro r h' e H locs ls hz M hS hls
  by_cases hy : y = 0
  · rw [if_pos hy] at e; cases e
  · rw [if_neg hy] at e; exact lv_ldiv C.1 C.2.1 hd hy (kk hy r h' e H locs ls hz M hS hls)
theorem aw_lrem (C : CxOK K E own cc nL) {x y : Int64} (hd : decode cc pc = .ok (.lrem, 1)) {d : Option (α × Mem)} (kk : ¬ y = 0 → Aw K E R nL Q cells slots (pc + 1) L (.long (x - x / y * y) :: st) h d) : Aw K E R nL Q cells slots pc L (.long y :: .long x :: st) h (if y = 0 then none else d) := by
  intro r h' e H locs ls hz M hS hls
  by_cases hy : y = 0
  · rw [if_pos hy] at e; cases e
  · rw [if_neg hy] at e; exact lv_lrem C.1 C.2.1 hd hy (kk hy r h' e H locs ls hz M hS hls)
theorem aw_if_eq (C : CxOK K E own cc nL) {x : Int32} {off : Int} (tgt : Nat) (hd : decode cc pc = .ok (.ifCond .eq off, 3)) (ht : (pc : Int) + off = (tgt : Int)) {d1 d2 : Option (α × Mem)} (kt : (x = 0) → Aw K E R nL Q cells slots tgt L st h d1) (kf : ¬ (x = 0) → Aw K E R nL Q cells slots (pc + 3) L st h d2) : Aw K E R nL Q cells slots pc L (.int x :: st) h (if x = 0 then d1 else d2) := by
  intro r h' e H locs ls hz M hS hls
  refine lv_if_eq C.1 C.2.1 hd ht (fun hc => ?_) (fun hc => ?_)
  · rw [if_pos hc] at e; exact kt hc r h' e H locs ls hz M hS hls
  · rw [if_neg hc] at e; exact kf hc r h' e H locs ls hz M hS hls
theorem aw_if_eq_t (C : CxOK K E own cc nL) {x : Int32} {off : Int} (tgt : Nat) (hd : decode cc pc = .ok (.ifCond .eq off, 3)) (ht : (pc : Int) + off = (tgt : Int)) (hc : x = 0) {d : Option (α × Mem)} (kt : Aw K E R nL Q cells slots tgt L st h d) : Aw K E R nL Q cells slots pc L (.int x :: st) h d := fun r h' e H locs ls hz M hS hls => lv_if_eq C.1 C.2.1 hd ht (fun _ => kt r h' e H locs ls hz M hS hls) (fun hn => absurd hc hn)
theorem aw_if_eq_f (C : CxOK K E own cc nL) {x : Int32} {off : Int} (tgt : Nat) (hd : decode cc pc = .ok (.ifCond .eq off, 3)) (ht : (pc : Int) + off = (tgt : Int)) (hc : ¬ (x = 0)) {d : Option (α × Mem)} (kf : Aw K E R nL Q cells slots (pc + 3) L st h d) : Aw K E R nL Q cells slots pc L (.int x :: st) h d := fun r h' e H locs ls hz M hS hls => lv_if_eq C.1 C.2.1 hd ht (fun hn => absurd hn hc) (fun _ => kf r h' e H locs ls hz M hS hls)
theorem aw_icmp_eq (C : CxOK K E own cc nL) {x y : Int32} {off : Int} (tgt : Nat) (hd : decode cc pc = .ok (.if_icmp .eq off, 3)) (ht : (pc : Int) + off = (tgt : Int)) {d1 d2 : Option (α × Mem)} (kt : (x = y) → Aw K E R nL Q cells slots tgt L st h d1) (kf : ¬ (x = y) → Aw K E R nL Q cells slots (pc + 3) L st h d2) : Aw K E R nL Q cells slots pc L (.int y :: .int x :: st) h (if x = y then d1 else d2) := by
  intro r h' e H locs ls hz M hS hls
  refine lv_icmp_eq C.1 C.2.1 hd ht (fun hc => ?_) (fun hc => ?_)
  · rw [if_pos hc] at e; exact kt hc r h' e H locs ls hz M hS hls
  · rw [if_neg hc] at e; exact kf hc r h' e H locs ls hz M hS hls
theorem aw_icmp_eq_t (C : CxOK K E own cc nL) {x y : Int32} {off : Int} (tgt : Nat) (hd : decode cc pc = .ok (.if_icmp .eq off, 3)) (ht : (pc : Int) + off = (tgt : Int)) (hc : x = y) {d : Option (α × Mem)} (kt : Aw K E R nL Q cells slots tgt L st h d) : Aw K E R nL Q cells slots pc L (.int y :: .int x :: st) h d := fun r h' e H locs ls hz M hS hls => lv_icmp_eq C.1 C.2.1 hd ht (fun _ => kt r h' e H locs ls hz M hS hls) (fun hn => absurd hc hn)
theorem aw_icmp_eq_f (C : CxOK K E own cc nL) {x y : Int32} {off : Int} (tgt : Nat) (hd : decode cc pc = .ok (.if_icmp .eq off, 3)) (ht : (pc : Int) + off = (tgt : Int)) (hc : ¬ (x = y)) {d : Option (α × Mem)} (kf : Aw K E R nL Q cells slots (pc + 3) L st h d) : Aw K E R nL Q cells slots pc L (.int y :: .int x :: st) h d := fun r h' e H locs ls hz M hS hls => lv_icmp_eq C.1 C.2.1 hd ht (fun hn => absurd hn hc) (fun _ => kf r h' e H locs ls hz M hS hls)
theorem aw_if_ne (C : CxOK K E own cc nL) {x : Int32} {off : Int} (tgt : Nat) (hd : decode cc pc = .ok (.ifCond .ne off, 3)) (ht : (pc : Int) + off = (tgt : Int)) {d1 d2 : Option (α × Mem)} (kf : (x = 0) → Aw K E R nL Q cells slots (pc + 3) L st h d1) (kt : ¬ (x = 0) → Aw K E R nL Q cells slots tgt L st h d2) : Aw K E R nL Q cells slots pc L (.int x :: st) h (if x = 0 then d1 else d2) := by
  intro r h' e H locs ls hz M hS hls
  refine lv_if_ne C.1 C.2.1 hd ht (fun hc => ?_) (fun hc => ?_)
  · rw [if_neg hc] at e; exact kt hc r h' e H locs ls hz M hS hls
  · rw [if_pos hc] at e; exact kf hc r h' e H locs ls hz M hS hls
theorem aw_if_ne_t (C : CxOK K E own cc nL) {x : Int32} {off : Int} (tgt : Nat) (hd : decode cc pc = .ok (.ifCond .ne off, 3)) (ht : (pc : Int) + off = (tgt : Int)) (hc : ¬ (x = 0)) {d : Option (α × Mem)} (kt : Aw K E R nL Q cells slots tgt L st h d) : Aw K E R nL Q cells slots pc L (.int x :: st) h d := fun r h' e H locs ls hz M hS hls => lv_if_ne C.1 C.2.1 hd ht (fun _ => kt r h' e H locs ls hz M hS hls) (fun hn => absurd hn hc)
theorem aw_if_ne_f (C : CxOK K E own cc nL) {x : Int32} {off : Int} (tgt : Nat) (hd : decode cc pc = .ok (.ifCond .ne off, 3)) (ht : (pc : Int) + off = (tgt : Int)) (hc : x = 0) {d : Option (α × Mem)} (kf : Aw K E R nL Q cells slots (pc + 3) L st h d) : Aw K E R nL Q cells slots pc L (.int x :: st) h d := fun r h' e H locs ls hz M hS hls => lv_if_ne C.1 C.2.1 hd ht (fun hn => absurd hc hn) (fun _ => kf r h' e H locs ls hz M hS hls)
theorem aw_icmp_ne (C : CxOK K E own cc nL) {x y : Int32} {off : Int} (tgt : Nat) (hd : decode cc pc = .ok (.if_icmp .ne off, 3)) (ht : (pc : Int) + off = (tgt : Int)) {d1 d2 : Option (α × Mem)} (kf : (x = y) → Aw K E R nL Q cells slots (pc + 3) L st h d1) (kt : ¬ (x = y) → Aw K E R nL Q cells slots tgt L st h d2) : Aw K E R nL Q cells slots pc L (.int y :: .int x :: st) h (if x = y then d1 else d2) := by
  intro r h' e H locs ls hz M hS hls
  refine lv_icmp_ne C.1 C.2.1 hd ht (fun hc => ?_) (fun hc => ?_)
  · rw [if_neg hc] at e; exact kt hc r h' e H locs ls hz M hS hls
  · rw [if_pos hc] at e; exact kf hc r h' e H locs ls hz M hS hls
theorem aw_icmp_ne_t (C : CxOK K E own cc nL) {x y : Int32} {off : Int} (tgt : Nat) (hd : decode cc pc = .ok (.if_icmp .ne off, 3)) (ht : (pc : Int) + off = (tgt : Int)) (hc : ¬ (x = y)) {d : Option (α × Mem)} (kt : Aw K E R nL Q cells slots tgt L st h d) : Aw K E R nL Q cells slots pc L (.int y :: .int x :: st) h d := fun r h' e H locs ls hz M hS hls => lv_icmp_ne C.1 C.2.1 hd ht (fun _ => kt r h' e H locs ls hz M hS hls) (fun hn => absurd hn hc)
theorem aw_icmp_ne_f (C : CxOK K E own cc nL) {x y : Int32} {off : Int} (tgt : Nat) (hd : decode cc pc = .ok (.if_icmp .ne off, 3)) (ht : (pc : Int) + off = (tgt : Int)) (hc : x = y) {d : Option (α × Mem)} (kf : Aw K E R nL Q cells slots (pc + 3) L st h d) : Aw K E R nL Q cells slots pc L (.int y :: .int x :: st) h d := fun r h' e H locs ls hz M hS hls => lv_icmp_ne C.1 C.2.1 hd ht (fun hn => absurd hc hn) (fun _ => kf r h' e H locs ls hz M hS hls)
theorem aw_if_lt (C : CxOK K E own cc nL) {x : Int32} {off : Int} (tgt : Nat) (hd : decode cc pc = .ok (.ifCond .lt off, 3)) (ht : (pc : Int) + off = (tgt : Int)) {d1 d2 : Option (α × Mem)} (kt : (x < 0) → Aw K E R nL Q cells slots tgt L st h d1) (kf : ¬ (x < 0) → Aw K E R nL Q cells slots (pc + 3) L st h d2) : Aw K E R nL Q cells slots pc L (.int x :: st) h (if x < 0 then d1 else d2) := by
  intro r h' e H locs ls hz M hS hls
  refine lv_if_lt C.1 C.2.1 hd ht (fun hc => ?_) (fun hc => ?_)
  · rw [if_pos hc] at e; exact kt hc r h' e H locs ls hz M hS hls
  · rw [if_neg hc] at e; exact kf hc r h' e H locs ls hz M hS hls
theorem aw_if_lt_t (C : CxOK K E own cc nL) {x : Int32} {off : Int} (tgt : Nat) (hd : decode cc pc = .ok (.ifCond .lt off, 3)) (ht : (pc : Int) + off = (tgt : Int)) (hc : x < 0) {d : Option (α × Mem)} (kt : Aw K E R nL Q cells slots tgt L st h d) : Aw K E R nL Q cells slots pc L (.int x :: st) h d := fun r h' e H locs ls hz M hS hls => lv_if_lt C.1 C.2.1 hd ht (fun _ => kt r h' e H locs ls hz M hS hls) (fun hn => absurd hc hn)
theorem aw_if_lt_f (C : CxOK K E own cc nL) {x : Int32} {off : Int} (tgt : Nat) (hd : decode cc pc = .ok (.ifCond .lt off, 3)) (ht : (pc : Int) + off = (tgt : Int)) (hc : ¬ (x < 0)) {d : Option (α × Mem)} (kf : Aw K E R nL Q cells slots (pc + 3) L st h d) : Aw K E R nL Q cells slots pc L (.int x :: st) h d := fun r h' e H locs ls hz M hS hls => lv_if_lt C.1 C.2.1 hd ht (fun hn => absurd hn hc) (fun _ => kf r h' e H locs ls hz M hS hls)
theorem aw_icmp_lt (C : CxOK K E own cc nL) {x y : Int32} {off : Int} (tgt : Nat) (hd : decode cc pc = .ok (.if_icmp .lt off, 3)) (ht : (pc : Int) + off = (tgt : Int)) {d1 d2 : Option (α × Mem)} (kt : (x < y) → Aw K E R nL Q cells slots tgt L st h d1) (kf : ¬ (x < y) → Aw K E R nL Q cells slots (pc + 3) L st h d2) : Aw K E R nL Q cells slots pc L (.int y :: .int x :: st) h (if x < y then d1 else d2) := by
  intro r h' e H locs ls hz M hS hls
  refine lv_icmp_lt C.1 C.2.1 hd ht (fun hc => ?_) (fun hc => ?_)
  · rw [if_pos hc] at e; exact kt hc r h' e H locs ls hz M hS hls
  · rw [if_neg hc] at e; exact kf hc r h' e H locs ls hz M hS hls
theorem aw_icmp_lt_t (C : CxOK K E own cc nL) {x y : Int32} {off : Int} (tgt : Nat) (hd : decode cc pc = .ok (.if_icmp .lt off, 3)) (ht : (pc : Int) + off = (tgt : Int)) (hc : x < y) {d : Option (α × Mem)} (kt : Aw K E R nL Q cells slots tgt L st h d) : Aw K E R nL Q cells slots pc L (.int y :: .int x :: st) h d := fun r h' e H locs ls hz M hS hls => lv_icmp_lt C.1 C.2.1 hd ht (fun _ => kt r h' e H locs ls hz M hS hls) (fun hn => absurd hc hn)
theorem aw_icmp_lt_f (C : CxOK K E own cc nL) {x y : Int32} {off : Int} (tgt : Nat) (hd : decode cc pc = .ok (.if_icmp .lt off, 3)) (ht : (pc : Int) + off = (tgt : Int)) (hc : ¬ (x < y)) {d : Option (α × Mem)} (kf : Aw K E R nL Q cells slots (pc + 3) L st h d) : Aw K E R nL Q cells slots pc L (.int y :: .int x :: st) h d := fun r h' e H locs ls hz M hS hls => lv_icmp_lt C.1 C.2.1 hd ht (fun hn => absurd hn hc) (fun _ => kf r h' e H locs ls hz M hS hls)
theorem aw_if_ge (C : CxOK K E own cc nL) {x : Int32} {off : Int} (tgt : Nat) (hd : decode cc pc = .ok (.ifCond .ge off, 3)) (ht : (pc : Int) + off = (tgt : Int)) {d1 d2 : Option (α × Mem)} (kt : (0 ≤ x) → Aw K E R nL Q cells slots tgt L st h d1) (kf : ¬ (0 ≤ x) → Aw K E R nL Q cells slots (pc + 3) L st h d2) : Aw K E R nL Q cells slots pc L (.int x :: st) h (if 0 ≤ x then d1 else d2) := by
  intro r h' e H locs ls hz M hS hls
  refine lv_if_ge C.1 C.2.1 hd ht (fun hc => ?_) (fun hc => ?_)
  · rw [if_pos hc] at e; exact kt hc r h' e H locs ls hz M hS hls
  · rw [if_neg hc] at e; exact kf hc r h' e H locs ls hz M hS hls
theorem aw_if_ge_t (C : CxOK K E own cc nL) {x : Int32} {off : Int} (tgt : Nat) (hd : decode cc pc = .ok (.ifCond .ge off, 3)) (ht : (pc : Int) + off = (tgt : Int)) (hc : 0 ≤ x) {d : Option (α × Mem)} (kt : Aw K E R nL Q cells slots tgt L st h d) : Aw K E R nL Q cells slots pc L (.int x :: st) h d := fun r h' e H locs ls hz M hS hls => lv_if_ge C.1 C.2.1 hd ht (fun _ => kt r h' e H locs ls hz M hS hls) (fun hn => absurd hc hn)
theorem aw_if_ge_f (C : CxOK K E own cc nL) {x : Int32} {off : Int} (tgt : Nat) (hd : decode cc pc = .ok (.ifCond .ge off, 3)) (ht : (pc : Int) + off = (tgt : Int)) (hc : ¬ (0 ≤ x)) {d : Option (α × Mem)} (kf : Aw K E R nL Q cells slots (pc + 3) L st h d) : Aw K E R nL Q cells slots pc L (.int x :: st) h d := fun r h' e H locs ls hz M hS hls => lv_if_ge C.1 C.2.1 hd ht (fun hn => absurd hn hc) (fun _ => kf r h' e H locs ls hz M hS hls)
theorem aw_icmp_ge (C : CxOK K E own cc nL) {x y : Int32} {off : Int} (tgt : Nat) (hd : decode cc pc = .ok (.if_icmp .ge off, 3)) (ht : (pc : Int) + off = (tgt : Int)) {d1 d2 : Option (α × Mem)} (kt : (y ≤ x) → Aw K E R nL Q cells slots tgt L st h d1) (kf : ¬ (y ≤ x) → Aw K E R nL Q cells slots (pc + 3) L st h d2) : Aw K E R nL Q cells slots pc L (.int y :: .int x :: st) h (if y ≤ x then d1 else d2) := by
  intro r h' e H locs ls hz M hS hls
  refine lv_icmp_ge C.1 C.2.1 hd ht (fun hc => ?_) (fun hc => ?_)
  · rw [if_pos hc] at e; exact kt hc r h' e H locs ls hz M hS hls
  · rw [if_neg hc] at e; exact kf hc r h' e H locs ls hz M hS hls
theorem aw_icmp_ge_t (C : CxOK K E own cc nL) {x y : Int32} {off : Int} (tgt : Nat) (hd : decode cc pc = .ok (.if_icmp .ge off, 3)) (ht : (pc : Int) + off = (tgt : Int)) (hc : y ≤ x) {d : Option (α × Mem)} (kt : Aw K E R nL Q cells slots tgt L st h d) : Aw K E R nL Q cells slots pc L (.int y :: .int x :: st) h d := fun r h' e H locs ls hz M hS hls => lv_icmp_ge C.1 C.2.1 hd ht (fun _ => kt r h' e H locs ls hz M hS hls) (fun hn => absurd hc hn)
theorem aw_icmp_ge_f (C : CxOK K E own cc nL) {x y : Int32} {off : Int} (tgt : Nat) (hd : decode cc pc = .ok (.if_icmp .ge off, 3)) (ht : (pc : Int) + off = (tgt : Int)) (hc : ¬ (y ≤ x)) {d : Option (α × Mem)} (kf : Aw K E R nL Q cells slots (pc + 3) L st h d) : Aw K E R nL Q cells slots pc L (.int y :: .int x :: st) h d := fun r h' e H locs ls hz M hS hls => lv_icmp_ge C.1 C.2.1 hd ht (fun hn => absurd hn hc) (fun _ => kf r h' e H locs ls hz M hS hls)
theorem aw_if_gt (C : CxOK K E own cc nL) {x : Int32} {off : Int} (tgt : Nat) (hd : decode cc pc = .ok (.ifCond .gt off, 3)) (ht : (pc : Int) + off = (tgt : Int)) {d1 d2 : Option (α × Mem)} (kt : (0 < x) → Aw K E R nL Q cells slots tgt L st h d1) (kf : ¬ (0 < x) → Aw K E R nL Q cells slots (pc + 3) L st h d2) : Aw K E R nL Q cells slots pc L (.int x :: st) h (if 0 < x then d1 else d2) := by
  intro r h' e H locs ls hz M hS hls
  refine lv_if_gt C.1 C.2.1 hd ht (fun hc => ?_) (fun hc => ?_)
  · rw [if_pos hc] at e; exact kt hc r h' e H locs ls hz M hS hls
  · rw [if_neg hc] at e; exact kf hc r h' e H locs ls hz M hS hls
theorem aw_if_gt_t (C : CxOK K E own cc nL) {x : Int32} {off : Int} (tgt : Nat) (hd : decode cc pc = .ok (.ifCond .gt off, 3)) (ht : (pc : Int) + off = (tgt : Int)) (hc : 0 < x) {d : Option (α × Mem)} (kt : Aw K E R nL Q cells slots tgt L st h d) : Aw K E R nL Q cells slots pc L (.int x :: st) h d := fun r h' e H locs ls hz M hS hls => lv_if_gt C.1 C.2.1 hd ht (fun _ => kt r h' e H locs ls hz M hS hls) (fun hn => absurd hc hn)
theorem aw_if_gt_f (C : CxOK K E own cc nL) {x : Int32} {off : Int} (tgt : Nat) (hd : decode cc pc = .ok (.ifCond .gt off, 3)) (ht : (pc : Int) + off = (tgt : Int)) (hc : ¬ (0 < x)) {d : Option (α × Mem)} (kf : Aw K E R nL Q cells slots (pc + 3) L st h d) : Aw K E R nL Q cells slots pc L (.int x :: st) h d := fun r h' e H locs ls hz M hS hls => lv_if_gt C.1 C.2.1 hd ht (fun hn => absurd hn hc) (fun _ => kf r h' e H locs ls hz M hS hls)
theorem aw_icmp_gt (C : CxOK K E own cc nL) {x y : Int32} {off : Int} (tgt : Nat) (hd : decode cc pc = .ok (.if_icmp .gt off, 3)) (ht : (pc : Int) + off = (tgt : Int)) {d1 d2 : Option (α × Mem)} (kt : (y < x) → Aw K E R nL Q cells slots tgt L st h d1) (kf : ¬ (y < x) → Aw K E R nL Q cells slots (pc + 3) L st h d2) : Aw K E R nL Q cells slots pc L (.int y :: .int x :: st) h (if y < x then d1 else d2) := by
  intro r h' e H locs ls hz M hS hls
  refine lv_icmp_gt C.1 C.2.1 hd ht (fun hc => ?_) (fun hc => ?_)
  · rw [if_pos hc] at e; exact kt hc r h' e H locs ls hz M hS hls
  · rw [if_neg hc] at e; exact kf hc r h' e H locs ls hz M hS hls
theorem aw_icmp_gt_t (C : CxOK K E own cc nL) {x y : Int32} {off : Int} (tgt : Nat) (hd : decode cc pc = .ok (.if_icmp .gt off, 3)) (ht : (pc : Int) + off = (tgt : Int)) (hc : y < x) {d : Option (α × Mem)} (kt : Aw K E R nL Q cells slots tgt L st h d) : Aw K E R nL Q cells slots pc L (.int y :: .int x :: st) h d := fun r h' e H locs ls hz M hS hls => lv_icmp_gt C.1 C.2.1 hd ht (fun _ => kt r h' e H locs ls hz M hS hls) (fun hn => absurd hc hn)
theorem aw_icmp_gt_f (C : CxOK K E own cc nL) {x y : Int32} {off : Int} (tgt : Nat) (hd : decode cc pc = .ok (.if_icmp .gt off, 3)) (ht : (pc : Int) + off = (tgt : Int)) (hc : ¬ (y < x)) {d : Option (α × Mem)} (kf : Aw K E R nL Q cells slots (pc + 3) L st h d) : Aw K E R nL Q cells slots pc L (.int y :: .int x :: st) h d := fun r h' e H locs ls hz M hS hls => lv_icmp_gt C.1 C.2.1 hd ht (fun hn => absurd hn hc) (fun _ => kf r h' e H locs ls hz M hS hls)
theorem aw_if_le (C : CxOK K E own cc nL) {x : Int32} {off : Int} (tgt : Nat) (hd : decode cc pc = .ok (.ifCond .le off, 3)) (ht : (pc : Int) + off = (tgt : Int)) {d1 d2 : Option (α × Mem)} (kt : (x ≤ 0) → Aw K E R nL Q cells slots tgt L st h d1) (kf : ¬ (x ≤ 0) → Aw K E R nL Q cells slots (pc + 3) L st h d2) : Aw K E R nL Q cells slots pc L (.int x :: st) h (if x ≤ 0 then d1 else d2) := by
  intro r h' e H locs ls hz M hS hls
  refine lv_if_le C.1 C.2.1 hd ht (fun hc => ?_) (fun hc => ?_)
  · rw [if_pos hc] at e; exact kt hc r h' e H locs ls hz M hS hls
  · rw [if_neg hc] at e; exact kf hc r h' e H locs ls hz M hS hls
theorem aw_if_le_t (C : CxOK K E own cc nL) {x : Int32} {off : Int} (tgt : Nat) (hd : decode cc pc = .ok (.ifCond .le off, 3)) (ht : (pc : Int) + off = (tgt : Int)) (hc : x ≤ 0) {d : Option (α × Mem)} (kt : Aw K E R nL Q cells slots tgt L st h d) : Aw K E R nL Q cells slots pc L (.int x :: st) h d := fun r h' e H locs ls hz M hS hls => lv_if_le C.1 C.2.1 hd ht (fun _ => kt r h' e H locs ls hz M hS hls) (fun hn => absurd hc hn)
theorem aw_if_le_f (C : CxOK K E own cc nL) {x : Int32} {off : Int} (tgt : Nat) (hd : decode cc pc = .ok (.ifCond .le off, 3)) (ht : (pc : Int) + off = (tgt : Int)) (hc : ¬ (x ≤ 0)) {d : Option (α × Mem)} (kf : Aw K E R nL Q cells slots (pc + 3) L st h d) : Aw K E R nL Q cells slots pc L (.int x :: st) h d := fun r h' e H locs ls hz M hS hls => lv_if_le C.1 C.2.1 hd ht (fun hn => absurd hn hc) (fun _ => kf r h' e H locs ls hz M hS hls)
theorem aw_icmp_le (C : CxOK K E own cc nL) {x y : Int32} {off : Int} (tgt : Nat) (hd : decode cc pc = .ok (.if_icmp .le off, 3)) (ht : (pc : Int) + off = (tgt : Int)) {d1 d2 : Option (α × Mem)} (kt : (x ≤ y) → Aw K E R nL Q cells slots tgt L st h d1) (kf : ¬ (x ≤ y) → Aw K E R nL Q cells slots (pc + 3) L st h d2) : Aw K E R nL Q cells slots pc L (.int y :: .int x :: st) h (if x ≤ y then d1 else d2) := by
  intro r h' e H locs ls hz M hS hls
  refine lv_icmp_le C.1 C.2.1 hd ht (fun hc => ?_) (fun hc => ?_)
  · rw [if_pos hc] at e; exact kt hc r h' e H locs ls hz M hS hls
  · rw [if_neg hc] at e; exact kf hc r h' e H locs ls hz M hS hls
theorem aw_icmp_le_t (C : CxOK K E own cc nL) {x y : Int32} {off : Int} (tgt : Nat) (hd : decode cc pc = .ok (.if_icmp .le off, 3)) (ht : (pc : Int) + off = (tgt : Int)) (hc : x ≤ y) {d : Option (α × Mem)} (kt : Aw K E R nL Q cells slots tgt L st h d) : Aw K E R nL Q cells slots pc L (.int y :: .int x :: st) h d := fun r h' e H locs ls hz M hS hls => lv_icmp_le C.1 C.2.1 hd ht (fun _ => kt r h' e H locs ls hz M hS hls) (fun hn => absurd hc hn)
theorem aw_icmp_le_f (C : CxOK K E own cc nL) {x y : Int32} {off : Int} (tgt : Nat) (hd : decode cc pc = .ok (.if_icmp .le off, 3)) (ht : (pc : Int) + off = (tgt : Int)) (hc : ¬ (x ≤ y)) {d : Option (α × Mem)} (kf : Aw K E R nL Q cells slots (pc + 3) L st h d) : Aw K E R nL Q cells slots pc L (.int y :: .int x :: st) h d := fun r h' e H locs ls hz M hS hls => lv_icmp_le C.1 C.2.1 hd ht (fun hn => absurd hn hc) (fun _ => kf r h' e H locs ls hz M hS hls)
theorem aw_goto (C : CxOK K E own cc nL) {off : Int} (tgt : Nat) (hd : decode cc pc = .ok (.goto off, 3)) (ht : (pc : Int) + off = (tgt : Int)) {d : Option (α × Mem)} (kk : Aw K E R nL Q cells slots tgt L st h d) : Aw K E R nL Q cells slots pc L st h d :=
  fun r h' e H locs ls hz M hS hls => lv_goto C.1 C.2.1 hd ht (kk r h' e H locs ls hz M hS hls)
theorem aw_ifnull_f (C : CxOK K E own cc nL) {x : Nat} {off : Int} (hd : decode cc pc = .ok (.ifnull off, 3)) {d : Option (α × Mem)} (kk : Aw K E R nL Q cells slots (pc + 3) L st h d) : Aw K E R nL Q cells slots pc L (.ref x :: st) h d :=
  fun r h' e H locs ls hz M hS hls => lv_ifnull C.1 C.2.1 hd (kk r h' e H locs ls hz M hS hls)
theorem aw_ifnull_t (C : CxOK K E own cc nL) {off : Int} (tgt : Nat) (hd : decode cc pc = .ok (.ifnull off, 3)) (ht : (pc : Int) + off = (tgt : Int)) {d : Option (α × Mem)} (kk : Aw K E R nL Q cells slots tgt L st h d) : Aw K E R nL Q cells slots pc L (.null :: st) h d :=
  fun r h' e H locs ls hz M hS hls => lv_ifnullN C.1 C.2.1 hd ht (kk r h' e H locs ls hz M hS hls)
theorem aw_ifnonnull_f (C : CxOK K E own cc nL) {off : Int} (hd : decode cc pc = .ok (.ifnonnull off, 3)) {d : Option (α × Mem)} (kk : Aw K E R nL Q cells slots (pc + 3) L st h d) : Aw K E R nL Q cells slots pc L (.null :: st) h d :=
  fun r h' e H locs ls hz M hS hls => lv_ifnonnullN C.1 C.2.1 hd (kk r h' e H locs ls hz M hS hls)
theorem aw_ifnonnull_t (C : CxOK K E own cc nL) {x : Nat} {off : Int} (tgt : Nat) (hd : decode cc pc = .ok (.ifnonnull off, 3)) (ht : (pc : Int) + off = (tgt : Int)) {d : Option (α × Mem)} (kk : Aw K E R nL Q cells slots tgt L st h d) : Aw K E R nL Q cells slots pc L (.ref x :: st) h d :=
  fun r h' e H locs ls hz M hS hls => lv_ifnonnull C.1 C.2.1 hd ht (kk r h' e H locs ls hz M hS hls)
theorem aw_aload_nN (C : CxOK K E own cc nL) {k : Fin 4} {i : Nat} (hd : decode cc pc = .ok (.aload_n k, 1)) (hi : (k : Nat) = i) (j : Nat) (hj : L[j]? = some (i, .null)) {d : Option (α × Mem)} (kk : Aw K E R nL Q cells slots (pc + 1) L (.null :: st) h d) : Aw K E R nL Q cells slots pc L st h d :=
  fun r h' e H locs ls hz M hS hls => lv_aload_nN C.1 C.2.1 hd hi (lv_at hls j hj) (kk r h' e H locs ls hz M hS hls)
theorem aw_aloadN (C : CxOK K E own cc nL) {i : Nat} (hd : decode cc pc = .ok (.aload i, 2)) (j : Nat) (hj : L[j]? = some (i, .null)) {d : Option (α × Mem)} (kk : Aw K E R nL Q cells slots (pc + 2) L (.null :: st) h d) : Aw K E R nL Q cells slots pc L st h d :=
  fun r h' e H locs ls hz M hS hls => lv_aloadN C.1 C.2.1 hd (lv_at hls j hj) (kk r h' e H locs ls hz M hS hls)
theorem aw_astore_nN (C : CxOK K E own cc nL) {k : Fin 4} {i : Nat} {L' : List (Nat × Value)} (hd : decode cc pc = .ok (.astore_n k, 1)) (hi : (k : Nat) = i) (hn : i < nL) (hl : (i, Value.null) :: L.filter (fun q => !(q.1 == i) && !(q.1 + 1 == i && q.2.category == 2)) = L') {d : Option (α × Mem)} (kk : Aw K E R nL Q cells slots (pc + 1) L' st h d) : Aw K E R nL Q cells slots pc L (.null :: st) h d :=
  fun r h' e H locs ls hz M hS hls => lv_astore_nN C.1 C.2.1 hd hi hls hn hl (fun ls' hls' => kk r h' e H locs ls' hz M hS hls')
theorem aw_astoreN (C : CxOK K E own cc nL) {i : Nat} {L' : List (Nat × Value)} (hd : decode cc pc = .ok (.astore i, 2)) (hn : i < nL) (hl : (i, Value.null) :: L.filter (fun q => !(q.1 == i) && !(q.1 + 1 == i && q.2.category == 2)) = L') {d : Option (α × Mem)} (kk : Aw K E R nL Q cells slots (pc + 2) L' st h d) : Aw K E R nL Q cells slots pc L (.null :: st) h d :=
  fun r h' e H locs ls hz M hS hls => lv_astoreN C.1 C.2.1 hd hls hn hl (fun ls' hls' => kk r h' e H locs ls' hz M hS hls')
theorem aw_loop {σ : Type} (Lf : σ → List (Nat × Value)) (hf : σ → Mem) (f : (σ → Option (α × Mem)) → σ → Option (α × Mem)) (hb : ∀ k, (∀ s, Aw K E R nL Q cells slots pc (Lf s) [] (hf s) (k s)) → ∀ s, Aw K E R nL Q cells slots pc (Lf s) [] (hf s) (f k s)) : ∀ n s, Aw K E R nL Q cells slots pc (Lf s) [] (hf s) (lpF f n s) := by
  intro n
  induction n with
  | zero => exact fun s => aw_none
  | succ n ih => exact fun s => hb _ ih s
theorem aw_jn {σ : Type} (pc2 : Nat) (Lf : σ → List (Nat × Value)) (sf : σ → List Value) (hf : σ → Mem) {f : σ → Option (α × Mem)} {g : (σ → Option (α × Mem)) → Option (α × Mem)} (h1 : ∀ s, Aw K E R nL Q cells slots pc2 (Lf s) (sf s) (hf s) (f s)) (h2 : ∀ k, (∀ s, Aw K E R nL Q cells slots pc2 (Lf s) (sf s) (hf s) (k s)) → Aw K E R nL Q cells slots pc L st h (g k)) : Aw K E R nL Q cells slots pc L st h (jn f g) := h2 f h1
end AW

