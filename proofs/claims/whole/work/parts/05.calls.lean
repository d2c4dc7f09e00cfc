/-! a method's contract over the memory; calls and returns -/
def PcM (E : Ev) (av : List Value) (h : Mem) : Array Value → State → Prop := fun v U => v = av.toArray ∧ Sm E h U.heap ∧ U.heap.size = E.1 + 1 + mSz h ∧ va_K (eD E) vwCl (tys E) U ∧ StOK E U U.heap ∧ NwOK U
def QcM (E : Ev) (n : Nat) (r : Option Value) (h' : Mem) : Array Value → State → Outcome → State → Prop := fun _ st oc t => (oc = .returned r ∧ Sm E h' t.heap ∧ mSz h' = n) ∧ va_F (AB E) st t
def AMet {α : Type} (E : Ev) (l : Launch) (y : MethodName) (cc : ByteArray) (nL : Nat) (ret : Option FieldType) (rm : Room) (av : List Value) (h : Mem) (rvf : α → Option Value) (d : Option (α × Mem)) : Prop :=
  ∀ r h', d = some (r, h') → Met l y (Cond.code y cc nL ret :: WSA) rm (PcM E av h) (QcM E (mSz h + rm.cells) (rvf r) h') rm.cells rm.slots (AB E)
def Qm {α : Type} (K : Kx) (E : Ev) (n : Nat) (rvf : α → Option Value) (mc ms : Nat) : α → Mem → State → Prop := fun r h' => MQ (kB K) (QcM E n (rvf r) h') (kA K) (kS K) mc ms (AB E)
/-- the model runs none of these in its bytecode's place -/
theorem mathRows : (Jvm.natives.all fun r => !(r.cls == "java/lang/Math" && ["(II)I", "(JI)I", "(JJ)J", "(J)J"].contains r.desc)) = true := by decide +kernel
theorem mathPlain {x : MethodName} (hc : x.cls = "java/lang/Math") (hd : ["(II)I", "(JI)I", "(JJ)J", "(J)J"].contains x.desc = true) : plainFor x = true := by
  unfold plainFor
  rw [Bool.or_eq_true]; right
  rw [Option.isNone_iff_eq_none, NativeRow.find?, List.find?_eq_none]
  intro r hr h
  have h1 := List.all_eq_true.mp mathRows r hr
  simp only [Bool.and_eq_true, beq_iff_eq] at h
  rw [h.1.2, h.2, hc, hd] at h1
  simp at h1
theorem ofWF {l : Launch} {y : MethodName} {ws ws' : List Cond} {rm : Room} {Pc : Array Value → State → Prop} {Qc : Array Value → State → Outcome → State → Prop} {mc ms : Nat} {free : Addr → Prop} {cc : ByteArray} {maxL : Nat} {ret : Option FieldType}
    (hy : plainFor y = true) (hw : ws = Cond.code y cc maxL ret :: ws')
    (body : ∀ p e s m args below meth c s₁, BodyLoose p l y (headSpec ws rm) cc maxL ret e s m args below meth c s₁ → c.maxLocals = maxL → Pc args s →
      W p l e (headSpec ws rm).room s m args below meth c s.heap [] 0 0 (MQ below Qc args s mc ms free) (entryFrame m args maxL)) : Met l y ws rm Pc Qc mc ms free := by
  refine MetFree.of_bodyRF (code := cc) (maxLocals := maxL) (ret := ret) hy ?_ ?_
  · intro args s m h hn
    obtain ⟨meth, c, h1, h2, h3, h4, h5, h6, -, -⟩ := Cond.code_spec hn (atoms_spec (ws := ws) h _ (by rw [hw]; exact List.mem_cons_self))
    exact ⟨meth, c, h1, h2, h3, h4, h5, h6⟩
  · intro p e s m args below meth c s₁ B hml hP _ hst
    have hh0 : s₁.heap = s.heap := by rw [B.state]; rfl
    obtain ⟨t, a1, o, b1, b2, b3⟩ := body p e s m args below meth c s₁ B hml hP s₁ hh0 (Stand.of_body B)
    exact ⟨t, o, hst.trans a1, b1, b2, ⟨b3.1, b3.2⟩⟩
theorem am_intro {α : Type} {E : Ev} {l : Launch} {y : MethodName} {cc : ByteArray} {nL : Nat} {ret : Option FieldType} {rm : Room} {av : List Value} {h : Mem} {rvf : α → Option Value} {d : Option (α × Mem)} (hy : plainFor y = true) (hsz : (lg_sl av).length ≤ nL)
    (body : ∀ K : Kx, kL K = l → CxOK K E y.cls cc nL → (kMe K).sig.returnType = ret → (kMe K).name = y.name → (kS K).heap.size = E.1 + 1 + mSz h → Aw K E rm nL (Qm K E (mSz h + rm.cells) rvf rm.cells rm.slots) 0 0 0 (lv_args 0 av) [] h d) : AMet E l y cc nL ret rm av h rvf d := by
  intro r h' e
  refine ofWF (cc := cc) (maxL := nL) (ret := ret) hy rfl ?_
  intro p e0 s m args below meth c s₁ B hml hv
  obtain ⟨rfl, hM, hz, hK, hSt, hNw⟩ := hv
  have hts := atoms_spec (ws := Cond.code y cc nL ret :: WSA) B.pre
  have hC : CxOK (p, l, e0, s, m, av.toArray, below, meth, c) E y.cls cc nL := ⟨B.exec, B.bytes, hml, findClass_of_methodNamed B.named, fun w hw => hts w (List.mem_cons_of_mem _ hw), hK, hSt, B.notSynchronized, hNw⟩
  have hl := lv_entry av (n := nL) hsz
  rw [lg_entry_eq]
  exact body (p, l, e0, s, m, av.toArray, below, meth, c) rfl hC B.returns (name_of_methodNamed B.named B.method).1 hz r h' e s.heap [] _ (by show s.heap.size + 0 = _; omega) hM va_S.rf hl
theorem PcM_blind (E : Ev) (av : List Value) (h : Mem) : FrameBlind (PcM E av h) := fun a U g mk q => ⟨q.1, q.2.1, q.2.2.1, va_K.moved (u := U) (U := U.calling g mk a) (Vm.Alike.refl U.vm) q.2.2.2.1, q.2.2.2.2.1.moved (u := U) (U := U.calling g mk a) (Vm.Alike.refl U.vm), q.2.2.2.2.2.same (u := U) (U := U.calling g mk a) rfl⟩
section AC
variable {α β : Type} {K : Kx} {E : Ev} {R : Room} {nL : Nat} {Q : α → Mem → State → Prop} {cells slots pc : Nat} {L : List (Nat × Value)} {rest : List Value} {h : Mem} {own : String} {cc : ByteArray} {ls : Array Slot} {H : Heap} {locs : List Loc}
variable {y : MethodName} {bytes : ByteArray} {maxL n index : Nat} {ret : Option FieldType} {rm : Room} {As : List Value} {a : Nat} {rvf : β → Option Value} {dy : Option (β × Mem)}
theorem aw_pre (C : CxOK K E own cc nL) (hz : (kS K).heap.size + cells = E.1 + 1 + mSz h) (M : Sm E h H) (hS : va_S (AB E) (kS K).heap H locs) (hHz : H.size = E.1 + 1 + mSz h) (av : List Value) : ∀ U : State, U.heap = H → (kS K).WarmedH U.vm → PcM E av h av.toArray U := by
  intro U hU hW
  refine ⟨rfl, by rw [hU]; exact M, by rw [hU]; exact hHz, va_K.moved hW.alike C.2.2.2.2.2.1, ?_, C.2.2.2.2.2.2.2.2.warm hW⟩
  rw [hU]
  exact (C.2.2.2.2.2.2.1.kept (H1 := H) hS.2.1).moved hW.alike
/-- the heap holds as many cells as were counted -/
theorem aw_size (hz : (kS K).heap.size + cells = E.1 + 1 + mSz h) (hE : E.1 + 1 ≤ (kS K).heap.size) (M : Sm E h H) (hS : va_S (AB E) (kS K).heap H locs) {T : State} (hT : T.heap = H) (X : Stand (kP K) (kL K) (kE K) R (kS K) (kM K) (kA K) (kB K) (kMe K) (kC K) T locs cells slots) : H.size = E.1 + 1 + mSz h := by
  have h1 := X.heapSize
  rw [hT] at h1
  by_cases h0 : mSz h = 0
  · have := hS.1
    omega
  · have h2 := enc_at E h (a := mSz h) (by omega) (Nat.le_refl _)
    have h3 := (M.1 _ _ h2).lt
    have h4 : E.1 + mSz h < H.size := h3
    omega
theorem aw_run {rest' : List Value} {r' : Option Value} {h1 : Mem} {av : Array Value} (hr : va_Run (kP K) (kL K) (kE K) R (kS K) (kM K) (kA K) (kB K) (kMe K) (kC K) H locs cells slots rm.cells rm.slots (F0 (kM K) pc ls rest') rest (QcM E (mSz h + rm.cells) r' h1 av) (AB E)) (hz : (kS K).heap.size + cells = E.1 + 1 + mSz h) (hS : va_S (AB E) (kS K).heap H locs) {Q' : State → Prop}
    (kk : ∀ (H1 : Heap) (locs1 : List Loc), (kS K).heap.size + (cells + rm.cells) = E.1 + 1 + mSz h1 → Sm E h1 H1 → va_S (AB E) (kS K).heap H1 locs1 → W (kP K) (kL K) (kE K) R (kS K) (kM K) (kA K) (kB K) (kMe K) (kC K) H1 locs1 (cells + rm.cells) (slots + rm.slots) Q' (F0 (kM K) (pc + 3) ls (r'.toList ++ rest))) : W (kP K) (kL K) (kE K) R (kS K) (kM K) (kA K) (kB K) (kMe K) (kC K) H locs cells slots Q' (F0 (kM K) pc ls rest') := by
  intro T hT X
  obtain ⟨v, st₀, t, T', Lc, h0, X', hL, e1, e2, ⟨⟨hv, hM, hsz⟩, hF1, hF2⟩, stp⟩ := hr T hT X
  cases hv
  rw [h0] at hF1 hF2
  have hS' : va_S (AB E) (kS K).heap T'.heap (locs ++ Lc) := ⟨Nat.le_trans hS.1 (by rw [e1]; exact hF1), fun q h1 h2 => by rw [e1, hF2 q (Nat.lt_of_lt_of_le h1 hS.1) h2]; exact hS.2.1 q h1 h2, fun q hq => by
    rcases List.mem_append.mp hq with h | h
    · exact hS.2.2 q h
    · exact hL q h⟩
  obtain ⟨t2, a1, b1⟩ := kk T'.heap (locs ++ Lc) (by rw [hsz]; omega) (by rw [e1]; exact hM) hS' T' rfl X'
  exact ⟨t2, stp t2 a1, b1⟩

theorem aw_callV0 (C : CxOK K E own cc nL) (hE : E.1 + 1 ≤ (kS K).heap.size) {c N : Nat} {T : u_T} (hcl : vwCl[c]? = some (y.cls, T, N)) (hc11 : c < 11) (hcal : CalV y bytes maxL ret n) (hw : Cond.methodLink own index y ∈ WSA) (hn : As.length = n) (hR : rm.frames + 1 ≤ R.frames ∧ 8 + (maxL + 11) + rm.locals ≤ R.locals) (hf : cells + rm.cells ≤ R.cells ∧ slots + rm.slots ≤ R.slots) (hd : decode cc pc = .ok (.invokevirtual index, 3))
    (hM : AMet E (kL K) y bytes maxL ret rm (rf E a :: As) h rvf dy) (hst : (rest.map fun v => v.category).sum ≤ 8) {d : β × Mem → Option (α × Mem)} (kk : ∀ r h1, dy = some (r, h1) → Aw K E R nL Q (cells + rm.cells) (slots + rm.slots) (pc + 3) L ((rvf r).toList ++ rest) h1 (d (r, h1))) : Aw K E R nL Q cells slots pc L (As.reverse ++ rf E a :: rest) h (if mKd h a = c then dy.bind d else none) := by
  intro r h' e H locs ls hz M hS hls
  by_cases hk : mKd h a = c
  · rw [if_pos hk] at e
    cases hdy : dy with
    | none => rw [hdy] at e; cases e
    | some x =>
      obtain ⟨r1, h1⟩ := x
      rw [hdy] at e
      have he := M.at (a := a) (by omega)
      rw [encE_o hk hc11] at he
      obtain ⟨⟨w1, w2, w3, w4⟩, hnm⟩ := hcal
      have hG : GoodIn WSA (wsV own index y.cls y (Cond.code y bytes maxL ret :: WSA)) := wgood (by
        intro w hw'
        simp only [wsV, List.mem_append, List.mem_cons, List.not_mem_nil, or_false] at hw'
        rcases hw' with (rfl | rfl | rfl | rfl) | rfl | h9
        · exact hw
        · exact w1
        · exact w2
        · exact w3
        · exact w4
        · exact h9)
      intro T hT X
      have hHz := aw_size hz hE M hS hT X
      exact aw_run (rm := rm) (r' := rvf r1) (h1 := h1) (va_runV (As := As) (rest := rest) (b := E.1 + a) (C := y.cls) ⟨C.1, C.2.1, C.2.2.1, C.2.2.2.1, C.2.2.2.2.1⟩ (hM r1 h1 hdy) (cwV n C.2.2.2.2.1 hG rfl rfl rfl ⟨rfl, hnm⟩ hR) ⟨PcM_blind E _ h, va_recv C.2.2.2.2.2.1 M.1 hcl he, aw_pre C hz M hS hHz _⟩ rfl hn hls.1 rfl (lv_room hst) hd hf) hz hS (fun H1 locs1 hz1 hM1 hS1 => kk r1 h1 hdy r h' e H1 locs1 ls hz1 hM1 hS1 hls) T hT X
  · rw [if_neg hk] at e; cases e
theorem aw_callS0 (C : CxOK K E own cc nL) (hE : E.1 + 1 ≤ (kS K).heap.size) (hcal : CalS y bytes maxL ret n) (hw : Cond.methodLink own index y ∈ WSA) (hn : As.length = n) (hR : rm.frames + 1 ≤ R.frames ∧ 8 + (maxL + 11) + rm.locals ≤ R.locals) (hf : cells + rm.cells ≤ R.cells ∧ slots + rm.slots ≤ R.slots) (hd : decode cc pc = .ok (.invokestatic index, 3))
    (hM : AMet E (kL K) y bytes maxL ret rm As h rvf dy) (hst : (rest.map fun v => v.category).sum ≤ 8) {d : β × Mem → Option (α × Mem)} (kk : ∀ r h1, dy = some (r, h1) → Aw K E R nL Q (cells + rm.cells) (slots + rm.slots) (pc + 3) L ((rvf r).toList ++ rest) h1 (d (r, h1))) : Aw K E R nL Q cells slots pc L (As.reverse ++ rest) h (dy.bind d) := by
  intro r h' e H locs ls hz M hS hls
  cases hdy : dy with
  | none => rw [hdy] at e; cases e
  | some x =>
    obtain ⟨r1, h1⟩ := x
    rw [hdy] at e
    obtain ⟨⟨w1, w3, w4⟩, hnm⟩ := hcal
    have hG : GoodIn WSA (va_wsS own index y (Cond.code y bytes maxL ret :: WSA)) := wgood (by
      intro w hw'
      simp only [va_wsS, List.mem_append, List.mem_cons, List.not_mem_nil, or_false] at hw'
      rcases hw' with (rfl | rfl | rfl) | rfl | h9
      · exact hw
      · exact w1
      · exact w3
      · exact w4
      · exact h9)
    intro T hT X
    have hHz := aw_size hz hE M hS hT X
    exact aw_run (rm := rm) (r' := rvf r1) (h1 := h1) (va_runS (As := As) (rest := rest) ⟨C.1, C.2.1, C.2.2.1, C.2.2.2.1, C.2.2.2.2.1⟩ (hM r1 h1 hdy) (va_cwS n C.2.2.2.2.1 hG rfl rfl rfl hnm hR) ⟨PcM_blind E _ h, aw_pre C hz M hS hHz _⟩ rfl hn hls.1 rfl (lv_room hst) hd hf) hz hS (fun H1 locs1 hz1 hM1 hS1 => kk r1 h1 hdy r h' e H1 locs1 ls hz1 hM1 hS1 hls) T hT X
theorem aw_callSN0 (C : CxOK K E own cc nL) (hE : E.1 + 1 ≤ (kS K).heap.size) (hcal : CalS y bytes maxL ret n) {host : String} (hw : Cond.methodLinkNest own index y host ∈ tables_1) (hn : As.length = n) (hR : rm.frames + 1 ≤ R.frames ∧ 8 + (maxL + 11) + rm.locals ≤ R.locals) (hf : cells + rm.cells ≤ R.cells ∧ slots + rm.slots ≤ R.slots) (hd : decode cc pc = .ok (.invokestatic index, 3))
    (hM : AMet E (kL K) y bytes maxL ret rm As h rvf dy) (hst : (rest.map fun v => v.category).sum ≤ 8) {d : β × Mem → Option (α × Mem)} (kk : ∀ r h1, dy = some (r, h1) → Aw K E R nL Q (cells + rm.cells) (slots + rm.slots) (pc + 3) L ((rvf r).toList ++ rest) h1 (d (r, h1))) : Aw K E R nL Q cells slots pc L (As.reverse ++ rest) h (dy.bind d) := by
  intro r h' e H locs ls hz M hS hls
  cases hdy : dy with
  | none => rw [hdy] at e; cases e
  | some x =>
    obtain ⟨r1, h1⟩ := x
    rw [hdy] at e
    obtain ⟨⟨w1, w3, w4⟩, hnm⟩ := hcal
    have hG : GoodIn WSA (Cond.code y bytes maxL ret :: WSA) := wgood (by
      intro w hw'
      rcases List.mem_cons.mp hw' with rfl | h9
      · exact w4
      · exact h9)
    intro T hT X
    have hHz := aw_size hz hE M hS hT X
    exact aw_run (rm := rm) (r' := rvf r1) (h1 := h1) (va_runSN (As := As) (rest := rest) ⟨C.1, C.2.1, C.2.2.1, C.2.2.2.1, C.2.2.2.2.1⟩ (hM r1 h1 hdy) ⟨va_cnB n C.2.2.2.2.1 hG rfl rfl rfl (C.2.2.2.2.2.2.2.2.1 _ hw rfl) (C.2.2.2.2.1 _ w3) hnm hR, C.2.2.2.2.1 _ w1, trivial⟩ ⟨PcM_blind E _ h, aw_pre C hz M hS hHz _⟩ rfl hn hls.1 rfl (lv_room hst) hd hf) hz hS (fun H1 locs1 hz1 hM1 hS1 => kk r1 h1 hdy r h' e H1 locs1 ls hz1 hM1 hS1 hls) T hT X
theorem aw_callI0 (C : CxOK K E own cc nL) (hE : E.1 + 1 ≤ (kS K).heap.size) (hcal : CalI y bytes maxL n) (hw : Cond.methodLink own index y ∈ WSA) (hn : As.length = n) (hR : rm.frames + 1 ≤ R.frames ∧ 8 + (maxL + 11) + rm.locals ≤ R.locals) (hf : cells + rm.cells ≤ R.cells ∧ slots + rm.slots ≤ R.slots) (hd : decode cc pc = .ok (.invokespecial index, 3))
    (hM : AMet E (kL K) y bytes maxL none rm (rf E a :: As) h rvf dy) (hst : (rest.map fun v => v.category).sum ≤ 8) {d : β × Mem → Option (α × Mem)} (kk : ∀ r h1, dy = some (r, h1) → Aw K E R nL Q (cells + rm.cells) (slots + rm.slots) (pc + 3) L ((rvf r).toList ++ rest) h1 (d (r, h1))) : Aw K E R nL Q cells slots pc L (As.reverse ++ rf E a :: rest) h (dy.bind d) := by
  intro r h' e H locs ls hz M hS hls
  cases hdy : dy with
  | none => rw [hdy] at e; cases e
  | some x =>
    obtain ⟨r1, h1⟩ := x
    rw [hdy] at e
    obtain ⟨⟨w1, w3, w4, w5⟩, hnm⟩ := hcal
    have hG : GoodIn WSA (Cond.code y bytes maxL none :: WSA) := wgood (by
      intro w hw'
      rcases List.mem_cons.mp hw' with rfl | h9
      · exact w4
      · exact h9)
    intro T hT X
    have hHz := aw_size hz hE M hS hT X
    exact aw_run (rm := rm) (r' := rvf r1) (h1 := h1) (va_runI (As := As) (rest := rest) (b := E.1 + a) ⟨C.1, C.2.1, C.2.2.1, C.2.2.2.1, C.2.2.2.2.1⟩ (hM r1 h1 hdy) (cwI n C.2.2.2.2.1 hG rfl rfl rfl (C.2.2.2.2.1 _ w3) (C.2.2.2.2.1 _ hw) (C.2.2.2.2.1 _ w1) w5 hnm hR) ⟨PcM_blind E _ h, aw_pre C hz M hS hHz _⟩ rfl hn hls.1 rfl (lv_room hst) hd hf) hz hS (fun H1 locs1 hz1 hM1 hS1 => kk r1 h1 hdy r h' e H1 locs1 ls hz1 hM1 hS1 hls) T hT X
theorem aw_callIN0 (C : CxOK K E own cc nL) (hE : E.1 + 1 ≤ (kS K).heap.size) (hcal : CalI y bytes maxL n) {host : String} (hw : Cond.methodLinkNest own index y host ∈ tables_1) (hn : As.length = n) (hR : rm.frames + 1 ≤ R.frames ∧ 8 + (maxL + 11) + rm.locals ≤ R.locals) (hf : cells + rm.cells ≤ R.cells ∧ slots + rm.slots ≤ R.slots) (hd : decode cc pc = .ok (.invokespecial index, 3))
    (hM : AMet E (kL K) y bytes maxL none rm (rf E a :: As) h rvf dy) (hst : (rest.map fun v => v.category).sum ≤ 8) {d : β × Mem → Option (α × Mem)} (kk : ∀ r h1, dy = some (r, h1) → Aw K E R nL Q (cells + rm.cells) (slots + rm.slots) (pc + 3) L ((rvf r).toList ++ rest) h1 (d (r, h1))) : Aw K E R nL Q cells slots pc L (As.reverse ++ rf E a :: rest) h (dy.bind d) := by
  intro r h' e H locs ls hz M hS hls
  cases hdy : dy with
  | none => rw [hdy] at e; cases e
  | some x =>
    obtain ⟨r1, h1⟩ := x
    rw [hdy] at e
    obtain ⟨⟨w1, w3, w4, w5⟩, hnm⟩ := hcal
    have hG : GoodIn WSA (Cond.code y bytes maxL none :: WSA) := wgood (by
      intro w hw'
      rcases List.mem_cons.mp hw' with rfl | h9
      · exact w4
      · exact h9)
    intro T hT X
    have hHz := aw_size hz hE M hS hT X
    exact aw_run (rm := rm) (r' := rvf r1) (h1 := h1) (va_runIN (As := As) (rest := rest) (b := E.1 + a) ⟨C.1, C.2.1, C.2.2.1, C.2.2.2.1, C.2.2.2.2.1⟩ (hM r1 h1 hdy) ⟨va_cnB n C.2.2.2.2.1 hG rfl rfl rfl (C.2.2.2.2.2.2.2.2.1 _ hw rfl) (C.2.2.2.2.1 _ w3) hnm hR, w5, C.2.2.2.2.1 _ w1⟩ ⟨PcM_blind E _ h, aw_pre C hz M hS hHz _⟩ rfl hn hls.1 rfl (lv_room hst) hd hf) hz hS (fun H1 locs1 hz1 hM1 hS1 => kk r1 h1 hdy r h' e H1 locs1 ls hz1 hM1 hS1 hls) T hT X
theorem aw_objInit (C : CxOK K E own cc nL) (hw1 : Cond.methodLink own index Lib.objectInit ∈ WSA) (hw2 : Cond.instanceMethod Lib.objectInit ∈ WSA) (hw3 : Cond.code Lib.objectInit ⟨#[0xb1]⟩ 1 none ∈ WSA) (hd : decode cc pc = .ok (.invokespecial index, 3)) (hfr : 1 ≤ R.frames) (hlo : (rest.map fun v => v.category).sum + 12 ≤ R.locals) {d : Option (α × Mem)} (kk : Aw K E R nL Q cells slots (pc + 3) L rest h d) : Aw K E R nL Q cells slots pc L (rf E a :: rest) h d := by
  intro r h' e H locs ls hz M hS hls
  refine W.objInit C.1 C.2.1 C.2.2.2.1 (C.2.2.2.2.1 _ hw1) (C.2.2.2.2.1 _ hw2) (C.2.2.2.2.1 _ hw3) rfl (by rw [C.2.2.1]; exact hls.1) rfl hd hfr (by show 2 * 0 + _ + 12 ≤ _; omega) ?_
  exact kk r h' e H locs ls hz M hS hls

theorem aw_callVI (C : CxOK K E own cc nL) (hE : E.1 + 1 ≤ (kS K).heap.size) {c N : Nat} {T : u_T} (hcl : vwCl[c]? = some (y.cls, T, N)) (hc11 : c < 11) (hcal : CalV y bytes maxL ret n) (hw : Cond.methodLink own index y ∈ WSA) (hn : As.length = n) (hR : rm.frames + 1 ≤ R.frames ∧ 8 + (maxL + 11) + rm.locals ≤ R.locals) (hf : cells + rm.cells ≤ R.cells ∧ slots + rm.slots ≤ R.slots) (hd : decode cc pc = .ok (.invokevirtual index, 3)) {dy : Option (Int32 × Mem)} (hM : AMet E (kL K) y bytes maxL ret rm (rf E a :: As) h rvI dy) {st : List Value} (hrev : As.reverse ++ rf E a :: rest = st) (hst : (rest.map fun v => v.category).sum ≤ 8) {d : Int32 × Mem → Option (α × Mem)} {c' s' : Nat} (hc' : cells + rm.cells = c') (hs' : slots + rm.slots = s') (kk : ∀ r h1, dy = some (r, h1) → Aw K E R nL Q c' s' (pc + 3) L (.int r :: rest) h1 (d (r, h1))) : Aw K E R nL Q cells slots pc L st h (if mKd h a = c then dy.bind d else none) := by
  subst hrev hc' hs'
  exact aw_callV0 C hE hcl hc11 hcal hw hn hR hf hd hM hst kk
theorem aw_callVJ (C : CxOK K E own cc nL) (hE : E.1 + 1 ≤ (kS K).heap.size) {c N : Nat} {T : u_T} (hcl : vwCl[c]? = some (y.cls, T, N)) (hc11 : c < 11) (hcal : CalV y bytes maxL ret n) (hw : Cond.methodLink own index y ∈ WSA) (hn : As.length = n) (hR : rm.frames + 1 ≤ R.frames ∧ 8 + (maxL + 11) + rm.locals ≤ R.locals) (hf : cells + rm.cells ≤ R.cells ∧ slots + rm.slots ≤ R.slots) (hd : decode cc pc = .ok (.invokevirtual index, 3)) {dy : Option (Int64 × Mem)} (hM : AMet E (kL K) y bytes maxL ret rm (rf E a :: As) h rvJ dy) {st : List Value} (hrev : As.reverse ++ rf E a :: rest = st) (hst : (rest.map fun v => v.category).sum ≤ 8) {d : Int64 × Mem → Option (α × Mem)} {c' s' : Nat} (hc' : cells + rm.cells = c') (hs' : slots + rm.slots = s') (kk : ∀ r h1, dy = some (r, h1) → Aw K E R nL Q c' s' (pc + 3) L (.long r :: rest) h1 (d (r, h1))) : Aw K E R nL Q cells slots pc L st h (if mKd h a = c then dy.bind d else none) := by
  subst hrev hc' hs'
  exact aw_callV0 C hE hcl hc11 hcal hw hn hR hf hd hM hst kk
theorem aw_callVV (C : CxOK K E own cc nL) (hE : E.1 + 1 ≤ (kS K).heap.size) {c N : Nat} {T : u_T} (hcl : vwCl[c]? = some (y.cls, T, N)) (hc11 : c < 11) (hcal : CalV y bytes maxL ret n) (hw : Cond.methodLink own index y ∈ WSA) (hn : As.length = n) (hR : rm.frames + 1 ≤ R.frames ∧ 8 + (maxL + 11) + rm.locals ≤ R.locals) (hf : cells + rm.cells ≤ R.cells ∧ slots + rm.slots ≤ R.slots) (hd : decode cc pc = .ok (.invokevirtual index, 3)) {dy : Option (Unit × Mem)} (hM : AMet E (kL K) y bytes maxL ret rm (rf E a :: As) h rvV dy) {st : List Value} (hrev : As.reverse ++ rf E a :: rest = st) (hst : (rest.map fun v => v.category).sum ≤ 8) {d : Unit × Mem → Option (α × Mem)} {c' s' : Nat} (hc' : cells + rm.cells = c') (hs' : slots + rm.slots = s') (kk : ∀ r h1, dy = some (r, h1) → Aw K E R nL Q c' s' (pc + 3) L (rest) h1 (d (r, h1))) : Aw K E R nL Q cells slots pc L st h (if mKd h a = c then dy.bind d else none) := by
  subst hrev hc' hs'
  exact aw_callV0 C hE hcl hc11 hcal hw hn hR hf hd hM hst kk
theorem aw_callSI (C : CxOK K E own cc nL) (hE : E.1 + 1 ≤ (kS K).heap.size) (hcal : CalS y bytes maxL ret n) (hw : Cond.methodLink own index y ∈ WSA) (hn : As.length = n) (hR : rm.frames + 1 ≤ R.frames ∧ 8 + (maxL + 11) + rm.locals ≤ R.locals) (hf : cells + rm.cells ≤ R.cells ∧ slots + rm.slots ≤ R.slots) (hd : decode cc pc = .ok (.invokestatic index, 3)) {dy : Option (Int32 × Mem)} (hM : AMet E (kL K) y bytes maxL ret rm As h rvI dy) {st : List Value} (hrev : As.reverse ++ rest = st) (hst : (rest.map fun v => v.category).sum ≤ 8) {d : Int32 × Mem → Option (α × Mem)} {c' s' : Nat} (hc' : cells + rm.cells = c') (hs' : slots + rm.slots = s') (kk : ∀ r h1, dy = some (r, h1) → Aw K E R nL Q c' s' (pc + 3) L (.int r :: rest) h1 (d (r, h1))) : Aw K E R nL Q cells slots pc L st h (dy.bind d) := by
  subst hrev hc' hs'
  exact aw_callS0 C hE hcal hw hn hR hf hd hM hst kk
theorem aw_callSJ (C : CxOK K E own cc nL) (hE : E.1 + 1 ≤ (kS K).heap.size) (hcal : CalS y bytes maxL ret n) (hw : Cond.methodLink own index y ∈ WSA) (hn : As.length = n) (hR : rm.frames + 1 ≤ R.frames ∧ 8 + (maxL + 11) + rm.locals ≤ R.locals) (hf : cells + rm.cells ≤ R.cells ∧ slots + rm.slots ≤ R.slots) (hd : decode cc pc = .ok (.invokestatic index, 3)) {dy : Option (Int64 × Mem)} (hM : AMet E (kL K) y bytes maxL ret rm As h rvJ dy) {st : List Value} (hrev : As.reverse ++ rest = st) (hst : (rest.map fun v => v.category).sum ≤ 8) {d : Int64 × Mem → Option (α × Mem)} {c' s' : Nat} (hc' : cells + rm.cells = c') (hs' : slots + rm.slots = s') (kk : ∀ r h1, dy = some (r, h1) → Aw K E R nL Q c' s' (pc + 3) L (.long r :: rest) h1 (d (r, h1))) : Aw K E R nL Q cells slots pc L st h (dy.bind d) := by
  subst hrev hc' hs'
  exact aw_callS0 C hE hcal hw hn hR hf hd hM hst kk
theorem aw_callSV (C : CxOK K E own cc nL) (hE : E.1 + 1 ≤ (kS K).heap.size) (hcal : CalS y bytes maxL ret n) (hw : Cond.methodLink own index y ∈ WSA) (hn : As.length = n) (hR : rm.frames + 1 ≤ R.frames ∧ 8 + (maxL + 11) + rm.locals ≤ R.locals) (hf : cells + rm.cells ≤ R.cells ∧ slots + rm.slots ≤ R.slots) (hd : decode cc pc = .ok (.invokestatic index, 3)) {dy : Option (Unit × Mem)} (hM : AMet E (kL K) y bytes maxL ret rm As h rvV dy) {st : List Value} (hrev : As.reverse ++ rest = st) (hst : (rest.map fun v => v.category).sum ≤ 8) {d : Unit × Mem → Option (α × Mem)} {c' s' : Nat} (hc' : cells + rm.cells = c') (hs' : slots + rm.slots = s') (kk : ∀ r h1, dy = some (r, h1) → Aw K E R nL Q c' s' (pc + 3) L (rest) h1 (d (r, h1))) : Aw K E R nL Q cells slots pc L st h (dy.bind d) := by
  subst hrev hc' hs'
  exact aw_callS0 C hE hcal hw hn hR hf hd hM hst kk
theorem aw_callSNI (C : CxOK K E own cc nL) (hE : E.1 + 1 ≤ (kS K).heap.size) (hcal : CalS y bytes maxL ret n) {host : String} (hw : Cond.methodLinkNest own index y host ∈ tables_1) (hn : As.length = n) (hR : rm.frames + 1 ≤ R.frames ∧ 8 + (maxL + 11) + rm.locals ≤ R.locals) (hf : cells + rm.cells ≤ R.cells ∧ slots + rm.slots ≤ R.slots) (hd : decode cc pc = .ok (.invokestatic index, 3)) {dy : Option (Int32 × Mem)} (hM : AMet E (kL K) y bytes maxL ret rm As h rvI dy) {st : List Value} (hrev : As.reverse ++ rest = st) (hst : (rest.map fun v => v.category).sum ≤ 8) {d : Int32 × Mem → Option (α × Mem)} {c' s' : Nat} (hc' : cells + rm.cells = c') (hs' : slots + rm.slots = s') (kk : ∀ r h1, dy = some (r, h1) → Aw K E R nL Q c' s' (pc + 3) L (.int r :: rest) h1 (d (r, h1))) : Aw K E R nL Q cells slots pc L st h (dy.bind d) := by
  subst hrev hc' hs'
  exact aw_callSN0 C hE hcal hw hn hR hf hd hM hst kk
theorem aw_callIV (C : CxOK K E own cc nL) (hE : E.1 + 1 ≤ (kS K).heap.size) (hcal : CalI y bytes maxL n) (hw : Cond.methodLink own index y ∈ WSA) (hn : As.length = n) (hR : rm.frames + 1 ≤ R.frames ∧ 8 + (maxL + 11) + rm.locals ≤ R.locals) (hf : cells + rm.cells ≤ R.cells ∧ slots + rm.slots ≤ R.slots) (hd : decode cc pc = .ok (.invokespecial index, 3)) {dy : Option (Unit × Mem)} (hM : AMet E (kL K) y bytes maxL none rm (rf E a :: As) h rvV dy) {st : List Value} (hrev : As.reverse ++ rf E a :: rest = st) (hst : (rest.map fun v => v.category).sum ≤ 8) {d : Unit × Mem → Option (α × Mem)} {c' s' : Nat} (hc' : cells + rm.cells = c') (hs' : slots + rm.slots = s') (kk : ∀ r h1, dy = some (r, h1) → Aw K E R nL Q c' s' (pc + 3) L (rest) h1 (d (r, h1))) : Aw K E R nL Q cells slots pc L st h (dy.bind d) := by
  subst hrev hc' hs'
  exact aw_callI0 C hE hcal hw hn hR hf hd hM hst kk
theorem aw_callINV (C : CxOK K E own cc nL) (hE : E.1 + 1 ≤ (kS K).heap.size) (hcal : CalI y bytes maxL n) {host : String} (hw : Cond.methodLinkNest own index y host ∈ tables_1) (hn : As.length = n) (hR : rm.frames + 1 ≤ R.frames ∧ 8 + (maxL + 11) + rm.locals ≤ R.locals) (hf : cells + rm.cells ≤ R.cells ∧ slots + rm.slots ≤ R.slots) (hd : decode cc pc = .ok (.invokespecial index, 3)) {dy : Option (Unit × Mem)} (hM : AMet E (kL K) y bytes maxL none rm (rf E a :: As) h rvV dy) {st : List Value} (hrev : As.reverse ++ rf E a :: rest = st) (hst : (rest.map fun v => v.category).sum ≤ 8) {d : Unit × Mem → Option (α × Mem)} {c' s' : Nat} (hc' : cells + rm.cells = c') (hs' : slots + rm.slots = s') (kk : ∀ r h1, dy = some (r, h1) → Aw K E R nL Q c' s' (pc + 3) L (rest) h1 (d (r, h1))) : Aw K E R nL Q cells slots pc L st h (dy.bind d) := by
  subst hrev hc' hs'
  exact aw_callIN0 C hE hcal hw hn hR hf hd hM hst kk
theorem aw_callVR (C : CxOK K E own cc nL) (hE : E.1 + 1 ≤ (kS K).heap.size) {c N : Nat} {T : u_T} (hcl : vwCl[c]? = some (y.cls, T, N)) (hc11 : c < 11) (hcal : CalV y bytes maxL ret n) (hw : Cond.methodLink own index y ∈ WSA) (hn : As.length = n) (hR : rm.frames + 1 ≤ R.frames ∧ 8 + (maxL + 11) + rm.locals ≤ R.locals) (hf : cells + rm.cells ≤ R.cells ∧ slots + rm.slots ≤ R.slots) (hd : decode cc pc = .ok (.invokevirtual index, 3)) {dy : Option (Nat × Mem)} (hM : AMet E (kL K) y bytes maxL ret rm (rf E a :: As) h (rvR E) dy) {st : List Value} (hrev : As.reverse ++ rf E a :: rest = st) (hst : (rest.map fun v => v.category).sum ≤ 8) {d : Nat × Mem → Option (α × Mem)} {c' s' : Nat} (hc' : cells + rm.cells = c') (hs' : slots + rm.slots = s') (k1 : ∀ h1, dy = some (0, h1) → Aw K E R nL Q c' s' (pc + 3) L (.null :: rest) h1 (d (0, h1))) (k2 : ∀ r h1, dy = some (r, h1) → r ≠ 0 → Aw K E R nL Q c' s' (pc + 3) L (rf E r :: rest) h1 (d (r, h1))) : Aw K E R nL Q cells slots pc L st h (if mKd h a = c then dy.bind d else none) := by
  subst hrev hc' hs'
  refine aw_callV0 C hE hcl hc11 hcal hw hn hR hf hd hM hst (fun r h1 hr => ?_)
  by_cases h0 : r = 0
  · subst h0
    exact k1 h1 hr
  · have := k2 r h1 hr h0
    rw [show (rvR E r).toList ++ rest = rf E r :: rest from by simp [rvR, rv_rf E h0]]
    exact this
theorem aw_itt {c : Prop} [Decidable c] {st : List Value} (hc : c) {d1 d2 : Option (α × Mem)} (kk : Aw K E R nL Q cells slots pc L st h d1) : Aw K E R nL Q cells slots pc L st h (if c then d1 else d2) := by
  rw [if_pos hc]
  exact kk
theorem aw_itf {c : Prop} [Decidable c] {st : List Value} (hc : ¬ c) {d1 d2 : Option (α × Mem)} (kk : Aw K E R nL Q cells slots pc L st h d2) : Aw K E R nL Q cells slots pc L st h (if c then d1 else d2) := by
  rw [if_neg hc]
  exact kk
/-! returns -/
theorem aw_post {n : Nat} {rvf : β → Option Value} {r : β} {h' : Mem} {t : State} (hz : (kS K).heap.size + cells = E.1 + 1 + mSz h') (hz0 : n = mSz h' ) (M : Sm E h' H) (hS : va_S (AB E) (kS K).heap H locs) (ht : t.heap = H) : QcM E n (rvf r) h' (kA K) (kS K) (.returned (rvf r)) t := ⟨⟨rfl, by rw [ht]; exact M, hz0.symm⟩, hS.F ht⟩
theorem aw_ireturn (C : CxOK K E own cc nL) {ft : FieldType} (hr : (kMe K).sig.returnType = some ft) {v : Int32} (hn : narrow ft (.int v) = .int v) {n m0 : Nat} (hz0 : (kS K).heap.size = E.1 + 1 + m0) (hn0 : n = m0 + cells) (hd : decode cc pc = .ok (.ireturn, 1)) : Aw K E R nL (Qm K E n rvI cells slots) cells slots pc L [.int v] h (some (v, h)) := by
  intro r h' e H locs ls hz M hS hls
  cases e
  exact W.zret C.1 C.2.1 hr hn (fun t ht hW => aw_post (rvf := rvI) (r := v) hz (by omega) M hS ht) hS.2.2 hd (hlocks := C.2.2.2.2.2.2.2.1)
theorem aw_lreturn (C : CxOK K E own cc nL) (hr : (kMe K).sig.returnType = some .long) {v : Int64} {n m0 : Nat} (hz0 : (kS K).heap.size = E.1 + 1 + m0) (hn0 : n = m0 + cells) (hd : decode cc pc = .ok (.lreturn, 1)) : Aw K E R nL (Qm K E n rvJ cells slots) cells slots pc L [.long v] h (some (v, h)) := by
  intro r h' e H locs ls hz M hS hls
  cases e
  exact W.lret C.1 C.2.1 hr (fun t ht hW => aw_post (rvf := rvJ) (r := v) hz (by omega) M hS ht) hS.2.2 hd (hlocks := C.2.2.2.2.2.2.2.1)
theorem aw_return (C : CxOK K E own cc nL) (hr : (kMe K).sig.returnType = none) {n m0 : Nat} (hz0 : (kS K).heap.size = E.1 + 1 + m0) (hn0 : n = m0 + cells) (hd : decode cc pc = .ok (.return_, 1)) : Aw K E R nL (Qm K E n rvV cells slots) cells slots pc L [] h (some ((), h)) := by
  intro r h' e H locs ls hz M hS hls
  cases e
  exact W.vret C.1 C.2.1 hr (fun t ht hW => aw_post (rvf := rvV) (r := ()) hz (by omega) M hS ht) hS.2.2 hd (hlocks := C.2.2.2.2.2.2.2.1)
theorem aw_areturn (C : CxOK K E own cc nL) {s : String} (hr : (kMe K).sig.returnType = some (.object s)) {v : Nat} (hv : v ≠ 0) {n m0 : Nat} (hz0 : (kS K).heap.size = E.1 + 1 + m0) (hn0 : n = m0 + cells) (hd : decode cc pc = .ok (.areturn, 1)) : Aw K E R nL (Qm K E n (rvR E) cells slots) cells slots pc L [rf E v] h (some (v, h)) := by
  intro r h' e H locs ls hz M hS hls
  cases e
  exact W.aret (v := rf E v) C.1 C.2.1 hr (Or.inl ⟨_, rfl⟩) (Or.inr ⟨_, rfl⟩) (fun t ht hW => by rw [← rv_rf E hv]; exact aw_post (rvf := rvR E) (r := v) hz (by omega) M hS ht) hS.2.2 hd (hlocks := C.2.2.2.2.2.2.2.1)
theorem aw_areturnN (C : CxOK K E own cc nL) {s : String} (hr : (kMe K).sig.returnType = some (.object s)) {n m0 : Nat} (hz0 : (kS K).heap.size = E.1 + 1 + m0) (hn0 : n = m0 + cells) (hd : decode cc pc = .ok (.areturn, 1)) : Aw K E R nL (Qm K E n (rvR E) cells slots) cells slots pc L [.null] h (some (0, h)) := by
  intro r h' e H locs ls hz M hS hls
  cases e
  exact W.aret (v := .null) C.1 C.2.1 hr (Or.inl ⟨_, rfl⟩) (Or.inl rfl) (fun t ht hW => aw_post (rvf := rvR E) (r := 0) hz (by omega) M hS ht) hS.2.2 hd (hlocks := C.2.2.2.2.2.2.2.1)
theorem aw_zreturn (C : CxOK K E own cc nL) (hr : (kMe K).sig.returnType = some .boolean) {v : Int32} {n m0 : Nat} (hz0 : (kS K).heap.size = E.1 + 1 + m0) (hn0 : n = m0 + cells) (hd : decode cc pc = .ok (.ireturn, 1)) : Aw K E R nL (Qm K E n rvI cells slots) cells slots pc L [.int v] h (if v = 0 ∨ v = 1 then some (v, h) else none) := by
  by_cases hv : v = 0 ∨ v = 1
  · rw [if_pos hv]
    exact aw_ireturn C hr (by rcases hv with rfl | rfl <;> rfl) hz0 hn0 hd
  · rw [if_neg hv]
    exact aw_none
theorem aw_widen {α : Type} {Q : α → Mem → State → Prop} {k m : Nat} (h1 : cells = k) (h2 : slots ≤ m) {st : List Value} {d : Option (α × Mem)} (kk : Aw K E R nL Q k m pc L st h d) : Aw K E R nL Q cells slots pc L st h d := by
  subst h1
  exact fun r h' e H locs ls hz M hS hls => W.widen (Nat.le_refl _) h2 (kk r h' e H locs ls hz M hS hls)
/-! switches -/
theorem aw_tableIn {α : Type} {Q : α → Mem → State → Prop} {st : List Value} (C : CxOK K E own cc nL) {dflt lo hi : Int} {offs : Array Int} {len : Nat} {x : Int32} (k : Int32) {off : Int} (tgt : Nat) (hx : x = k) (hd : decode cc pc = .ok (.tableswitch dflt lo hi offs, len)) (h1 : ¬ k.toInt < lo) (h2 : ¬ hi < k.toInt) (ho : offs[(k.toInt - lo).toNat]? = some off) (ht : (pc : Int) + off = (tgt : Int)) {d : Option (α × Mem)} (kk : Aw K E R nL Q cells slots tgt L st h d) : Aw K E R nL Q cells slots pc L (.int x :: st) h d := by
  subst hx
  exact fun r h' e H locs ls hz M hS hls => lv_tableIn C.1 C.2.1 hd h1 h2 ho ht (kk r h' e H locs ls hz M hS hls)
theorem aw_tableOut {α : Type} {Q : α → Mem → State → Prop} {st : List Value} (C : CxOK K E own cc nL) {dflt lo hi : Int} {offs : Array Int} {len : Nat} {x : Int32} (tgt : Nat) (hd : decode cc pc = .ok (.tableswitch dflt lo hi offs, len)) (ho : x.toInt < lo ∨ hi < x.toInt) (ht : (pc : Int) + dflt = (tgt : Int)) {d : Option (α × Mem)} (kk : Aw K E R nL Q cells slots tgt L st h d) : Aw K E R nL Q cells slots pc L (.int x :: st) h d :=
  fun r h' e H locs ls hz M hS hls => lv_tableOut C.1 C.2.1 hd ho ht (kk r h' e H locs ls hz M hS hls)
theorem aw_lookup {α : Type} {Q : α → Mem → State → Prop} {st : List Value} (C : CxOK K E own cc nL) {dflt : Int} {ps : Array (Int × Int)} {len : Nat} {x : Int32} {off : Int} (tgt : Nat) (hd : decode cc pc = .ok (.lookupswitch dflt ps, len)) (hp : (ps.toList.zip (ps.toList.drop 1)).all (fun (a, next) => a.1 < next.1) = true) (ho : Op.lookupswitch.offset ps.toList dflt x.toInt = off) (ht : (pc : Int) + off = (tgt : Int)) {d : Option (α × Mem)} (kk : Aw K E R nL Q cells slots tgt L st h d) : Aw K E R nL Q cells slots pc L (.int x :: st) h d :=
  fun r h' e H locs ls hz M hS hls => lv_lookup C.1 C.2.1 hd hp ho ht (kk r h' e H locs ls hz M hS hls)
theorem aw_case {α : Type} {Q : α → Mem → State → Prop} {st : List Value} {x : Int32} (k : Int32) {d1 d2 : Option (α × Mem)} (k1 : x = k → Aw K E R nL Q cells slots pc L st h d1) (k2 : ¬ x = k → Aw K E R nL Q cells slots pc L st h d2) : Aw K E R nL Q cells slots pc L st h (if x = k then d1 else d2) := by
  by_cases hc : x = k
  · rw [if_pos hc]; exact k1 hc
  · rw [if_neg hc]; exact k2 hc

theorem aw_copyI {α : Type} {Q : α → Mem → State → Prop} (C : CxOK K E own cc nL) {a b : Nat} {i j k : Int32} (hw1 : Cond.methodLink own index arraycopyName ∈ WSA) (hw2 : Cond.native arraycopyName ∈ WSA) (hw3 : Cond.static arraycopyName ∈ WSA) (hw4 : Cond.initialized "java/lang/System" ∈ WSA) (hfr : 1 ≤ R.frames) (hlo : (rest.map fun v => v.category).sum + (nativeFrameWords "java/lang/System" "arraycopy" 5 + 11) ≤ R.locals) (hd : decode cc pc = .ok (.invokestatic index, 3)) {d : Mem → Option (α × Mem)} (kk : ∀ h1, cpI h a i b j k = some h1 → Aw K E R nL Q cells slots (pc + 3) L rest h1 (d h1)) : Aw K E R nL Q cells slots pc L (.int k :: .int j :: rf E b :: .int i :: rf E a :: rest) h ((cpI h a i b j k).bind d) := by
  intro r h' e H locs ls hz M hS hls
  by_cases hk : (mKd h a = 11 ∧ mKd h b = 11) ∧ (¬ i < 0 ∧ ¬ j < 0 ∧ ¬ k < 0) ∧ i.toNatClampNeg + k.toNatClampNeg ≤ mLn h a ∧ j.toNatClampNeg + k.toNatClampNeg ≤ mLn h b
  · have hg : cpI h a i b j k = some (sI h b (va_cpy (mI h a) (mI h b) i.toNatClampNeg j.toNatClampNeg k.toNatClampNeg)) := by unfold cpI; rw [if_pos hk]
    rw [hg] at e
    have h15 : mKd h b < 15 := by omega
    have hea := M.at (a := a) (by omega)
    have heb := M.at h15
    rw [encE_i hk.1.1] at hea
    rw [encE_i hk.1.2] at heb
    have hk' : mKd (sI h b (va_cpy (mI h a) (mI h b) i.toNatClampNeg j.toNatClampNeg k.toNatClampNeg)) b = 11 := hk.1.2
    have key : (enc E h).set (b - 1) (E.1 + b, .inl (eI E, mLn h b, .inl (va_cpy (mI h a) (mI h b) i.toNatClampNeg j.toNatClampNeg k.toNatClampNeg))) = enc E (sI h b (va_cpy (mI h a) (mI h b) i.toNatClampNeg j.toNatClampNeg k.toNatClampNeg)) := by
      refine enc_set (E := E) (h := h) (h' := sI h b (va_cpy (mI h a) (mI h b) i.toNatClampNeg j.toNatClampNeg k.toNatClampNeg)) rfl (M.2 b h15).1 (fun q hq => encE_nI _ hq) ?_
      rw [encE_i hk', mI_sI, up1_s]
      rfl
    refine va_copyi (D := eD E) C.1 C.2.1 (C.2.2.1.trans hls.1.symm) C.2.2.2.1 (C.2.2.2.2.1 _ hw1) (C.2.2.2.2.1 _ hw2) (C.2.2.2.2.1 _ hw3) (C.2.2.2.2.1 _ hw4) C.2.2.2.2.2.1 M.1 (enc_D E h) hS (a - 1) (b - 1) 0 0 (ty := .int) hea heb rfl rfl rfl hk.2.1.1 hk.2.1.2.1 hk.2.1.2.2 hk.2.2.1 hk.2.2.2 (fun _ _ => rfl) hfr hlo hd (fun H1 locs1 hP hD hS1 => ?_)
    rw [key] at hP
    exact kk _ hg r h' e H1 locs1 ls hz ⟨hP, M.2⟩ hS1 hls
  · have hg : cpI h a i b j k = none := by unfold cpI; rw [if_neg hk]
    rw [hg] at e; cases e
theorem aw_copyJ {α : Type} {Q : α → Mem → State → Prop} (C : CxOK K E own cc nL) {a b : Nat} {i j k : Int32} (hw1 : Cond.methodLink own index arraycopyName ∈ WSA) (hw2 : Cond.native arraycopyName ∈ WSA) (hw3 : Cond.static arraycopyName ∈ WSA) (hw4 : Cond.initialized "java/lang/System" ∈ WSA) (hfr : 1 ≤ R.frames) (hlo : (rest.map fun v => v.category).sum + (nativeFrameWords "java/lang/System" "arraycopy" 5 + 11) ≤ R.locals) (hd : decode cc pc = .ok (.invokestatic index, 3)) {d : Mem → Option (α × Mem)} (kk : ∀ h1, cpJ h a i b j k = some h1 → Aw K E R nL Q cells slots (pc + 3) L rest h1 (d h1)) : Aw K E R nL Q cells slots pc L (.int k :: .int j :: rf E b :: .int i :: rf E a :: rest) h ((cpJ h a i b j k).bind d) := by
  intro r h' e H locs ls hz M hS hls
  by_cases hk : (mKd h a = 12 ∧ mKd h b = 12) ∧ (¬ i < 0 ∧ ¬ j < 0 ∧ ¬ k < 0) ∧ i.toNatClampNeg + k.toNatClampNeg ≤ mLn h a ∧ j.toNatClampNeg + k.toNatClampNeg ≤ mLn h b
  · have hg : cpJ h a i b j k = some (sL h b (va_cpy (mL h a) (mL h b) i.toNatClampNeg j.toNatClampNeg k.toNatClampNeg)) := by unfold cpJ; rw [if_pos hk]
    rw [hg] at e
    have h15 : mKd h b < 15 := by omega
    have hea := M.at (a := a) (by omega)
    have heb := M.at h15
    rw [encE_l hk.1.1] at hea
    rw [encE_l hk.1.2] at heb
    have hk' : mKd (sL h b (va_cpy (mL h a) (mL h b) i.toNatClampNeg j.toNatClampNeg k.toNatClampNeg)) b = 12 := hk.1.2
    have key : (enc E h).set (b - 1) (E.1 + b, .inl (eJ E, mLn h b, .inr (.inl (va_cpy (mL h a) (mL h b) i.toNatClampNeg j.toNatClampNeg k.toNatClampNeg)))) = enc E (sL h b (va_cpy (mL h a) (mL h b) i.toNatClampNeg j.toNatClampNeg k.toNatClampNeg)) := by
      refine enc_set (E := E) (h := h) (h' := sL h b (va_cpy (mL h a) (mL h b) i.toNatClampNeg j.toNatClampNeg k.toNatClampNeg)) rfl (M.2 b h15).1 (fun q hq => encE_nL _ hq) ?_
      rw [encE_l hk', mL_sL, up1_s]
      rfl
    refine va_copyl (D := eD E) C.1 C.2.1 (C.2.2.1.trans hls.1.symm) C.2.2.2.1 (C.2.2.2.2.1 _ hw1) (C.2.2.2.2.1 _ hw2) (C.2.2.2.2.1 _ hw3) (C.2.2.2.2.1 _ hw4) C.2.2.2.2.2.1 M.1 (enc_D E h) hS (a - 1) (b - 1) 1 1 (ty := .long) hea heb rfl rfl rfl hk.2.1.1 hk.2.1.2.1 hk.2.1.2.2 hk.2.2.1 hk.2.2.2 (fun _ _ => rfl) hfr hlo hd (fun H1 locs1 hP hD hS1 => ?_)
    rw [key] at hP
    exact kk _ hg r h' e H1 locs1 ls hz ⟨hP, M.2⟩ hS1 hls
  · have hg : cpJ h a i b j k = none := by unfold cpJ; rw [if_neg hk]
    rw [hg] at e; cases e
end AC
