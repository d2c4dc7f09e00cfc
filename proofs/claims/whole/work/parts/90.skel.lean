/-! THE CLAIM OUT OF ONE WALK OF THE LAW'S BODY. Your part is whole_start (and what it stands on); all else here is the same for every law, but numbers. -/
def R_law : String := "TwoLetterFormsLaw"
def lw_P (b : Addr) (xs : List Int32) (args : Array Value) (s : State) : Prop := args = #[.ref b] ∧ s.IntsAt b xs ∧ xs.length ≤ 3072 ∧ (Jvm.Cond.and given_1 narrow_1).before args s = true
def lw_Q (_ : Array Value) (s : State) (o : Outcome) (t : State) : Prop := o = .returned (some (.int 1)) ∧ Framed s o t [] 600000 7302250
def lw_Z (below : List Frame) (a : Array Value) (s : State) : State → Prop := fun t => ∃ o, t.status = .running ∧ Ended t below o ∧ lw_Q a s o t
/-- the law's own end, with 1 on the stack, nothing written that was there before, its room as the claim has it -/
theorem lw_ret {p : Program} {l : Launch} {e : Env} {s : State} {m : MethodId} {below : List Frame} {meth : Method} {c : Code} {b : Nat} (hx : p.tables.exec = Jvm.exec) (hb : c.code = code) (hr : meth.sig.returnType = ret) (hlocks : meth.locks = false) {pc : Nat} {H : Heap} {ls : Array Slot} (hdg : decode code pc = .ok (.ireturn, 1)) : W p l e room_1 s m #[Value.ref b] below meth c H [] 600000 7302250 (lw_Z below #[Value.ref b] s) (F0 m pc ls [.int 1]) := by
  intro T hT X
  obtain ⟨fs, hret, hrun, hended, hW, hframe⟩ := X.leave (v := some (.int 1)) (hlocks := hlocks) (fun h => by rw [hr] at h; cases h)
  have hmeth' : T.vm.method? m = some meth := X.method'
  refine ⟨T.setFrames fs, ?_, .returned (some (.int 1)), hrun, hended, rfl, ⟨_, rfl⟩, hW, hframe⟩
  jvm_step X.here [X.here.top, hx, hb, hdg, hmeth', hr, ret, narrow_b1]
  (try refine ⟨rfl, ?_⟩); (try refine ⟨rfl, ?_⟩)
  first | (intro acts; rw [hret _ acts rfl rfl rfl]) | rw [hret _ _ rfl rfl rfl]
  exact Steps.refl _
/-- what holds at the law's entry: the machine, the code, the tables' words (any of lw_tbl by 'hts w (by decide +kernel)'), the script of L ints xs at the cell b, what the Statement gives of the start (any of its parts by flat_of_before) -/
def lw_At (p : Program) (s : State) (m : MethodId) (meth : Method) (c : Code) (b L : Nat) (xs : Nat → Int32) : Prop :=
  p.tables.exec = Jvm.exec ∧ c.code = code ∧ meth.sig.returnType = ret ∧ c.maxLocals = 4 ∧ s.vm.findClass R_law = some m.cls ∧ (∀ w ∈ lw_tbl, w.before #[Value.ref b] s = true) ∧ va_X b L xs s s.heap ∧ b < s.heap.size ∧ meth.locks = false ∧ (Jvm.Cond.and given_1 narrow_1).before #[Value.ref b] s = true
theorem st_P {b : Nat} {s : State} {A : Nat → Prop} (hgv : (Jvm.Cond.and given_1 narrow_1).before #[Value.ref b] s = true) (hA : ∀ a : Nat, a < s.heap.size → ¬ A a) (h1 : (Cond.laysStatic "TwoLetterForms" "PRIMES" "[I").before #[Value.ref b] s = true) (h2 : (Cond.initialized "TwoLetterForms").before #[Value.ref b] s = true) : ∃ t : Nat, va_Z "TwoLetterForms" "PRIMES" "[I" (.ref t) A s s.heap ∧ va_T .int t 6 (fun j => .int (tabP j)) A s s.heap := by
  have hs := flat_of_before _ hgv
  obtain ⟨t, ht, hT⟩ := va_Tof (N := 6) (f := fun j => .int (tabP j)) (by decide) (hs (Cond.arrayOf (Term.static "TwoLetterForms" "PRIMES" "[I") .int) (by decide +kernel)) (va_eqt (hs (Cond.eq (Term.length (Term.static "TwoLetterForms" "PRIMES" "[I")) (.int 6)) (by decide +kernel))) (by
      intro j hj
      rcases (show j = 0 ∨ j = 1 ∨ j = 2 ∨ j = 3 ∨ j = 4 ∨ j = 5 by omega) with rfl | rfl | rfl | rfl | rfl | rfl
      · exact va_eqt (hs (Cond.eq (Term.elem (Term.static "TwoLetterForms" "PRIMES" "[I") (.int 0)) (.int (2))) (by decide +kernel))
      · exact va_eqt (hs (Cond.eq (Term.elem (Term.static "TwoLetterForms" "PRIMES" "[I") (.int 1)) (.int (3))) (by decide +kernel))
      · exact va_eqt (hs (Cond.eq (Term.elem (Term.static "TwoLetterForms" "PRIMES" "[I") (.int 2)) (.int (5))) (by decide +kernel))
      · exact va_eqt (hs (Cond.eq (Term.elem (Term.static "TwoLetterForms" "PRIMES" "[I") (.int 3)) (.int (7))) (by decide +kernel))
      · exact va_eqt (hs (Cond.eq (Term.elem (Term.static "TwoLetterForms" "PRIMES" "[I") (.int 4)) (.int (11))) (by decide +kernel))
      · exact va_eqt (hs (Cond.eq (Term.elem (Term.static "TwoLetterForms" "PRIMES" "[I") (.int 5)) (.int (13))) (by decide +kernel))) hA
  exact ⟨t, va_Zof h1 h2 ht hA, hT⟩
theorem st_M {b : Nat} {s : State} {A : Nat → Prop} (hgv : (Jvm.Cond.and given_1 narrow_1).before #[Value.ref b] s = true) (hA : ∀ a : Nat, a < s.heap.size → ¬ A a) (h1 : (Cond.laysStatic "TwoLetterForms$Form" "MOVE_TURNS" "[I").before #[Value.ref b] s = true) (h2 : (Cond.initialized "TwoLetterForms$Form").before #[Value.ref b] s = true) : ∃ t : Nat, va_Z "TwoLetterForms$Form" "MOVE_TURNS" "[I" (.ref t) A s s.heap ∧ va_T .int t 16 (fun j => .int (tabM j)) A s s.heap := by
  have hs := flat_of_before _ hgv
  obtain ⟨t, ht, hT⟩ := va_Tof (N := 16) (f := fun j => .int (tabM j)) (by decide) (hs (Cond.arrayOf (Term.static "TwoLetterForms$Form" "MOVE_TURNS" "[I") .int) (by decide +kernel)) (va_eqt (hs (Cond.eq (Term.length (Term.static "TwoLetterForms$Form" "MOVE_TURNS" "[I")) (.int 16)) (by decide +kernel))) (by
      intro j hj
      rcases (show j = 0 ∨ j = 1 ∨ j = 2 ∨ j = 3 ∨ j = 4 ∨ j = 5 ∨ j = 6 ∨ j = 7 ∨ j = 8 ∨ j = 9 ∨ j = 10 ∨ j = 11 ∨ j = 12 ∨ j = 13 ∨ j = 14 ∨ j = 15 by omega) with rfl | rfl | rfl | rfl | rfl | rfl | rfl | rfl | rfl | rfl | rfl | rfl | rfl | rfl | rfl | rfl
      · exact va_eqt (hs (Cond.eq (Term.elem (Term.static "TwoLetterForms$Form" "MOVE_TURNS" "[I") (.int 0)) (.int (1))) (by decide +kernel))
      · exact va_eqt (hs (Cond.eq (Term.elem (Term.static "TwoLetterForms$Form" "MOVE_TURNS" "[I") (.int 1)) (.int (1))) (by decide +kernel))
      · exact va_eqt (hs (Cond.eq (Term.elem (Term.static "TwoLetterForms$Form" "MOVE_TURNS" "[I") (.int 2)) (.int (0))) (by decide +kernel))
      · exact va_eqt (hs (Cond.eq (Term.elem (Term.static "TwoLetterForms$Form" "MOVE_TURNS" "[I") (.int 3)) (.int (1))) (by decide +kernel))
      · exact va_eqt (hs (Cond.eq (Term.elem (Term.static "TwoLetterForms$Form" "MOVE_TURNS" "[I") (.int 4)) (.int (1))) (by decide +kernel))
      · exact va_eqt (hs (Cond.eq (Term.elem (Term.static "TwoLetterForms$Form" "MOVE_TURNS" "[I") (.int 5)) (.int (-1))) (by decide +kernel))
      · exact va_eqt (hs (Cond.eq (Term.elem (Term.static "TwoLetterForms$Form" "MOVE_TURNS" "[I") (.int 6)) (.int (0))) (by decide +kernel))
      · exact va_eqt (hs (Cond.eq (Term.elem (Term.static "TwoLetterForms$Form" "MOVE_TURNS" "[I") (.int 7)) (.int (1))) (by decide +kernel))
      · exact va_eqt (hs (Cond.eq (Term.elem (Term.static "TwoLetterForms$Form" "MOVE_TURNS" "[I") (.int 8)) (.int (0))) (by decide +kernel))
      · exact va_eqt (hs (Cond.eq (Term.elem (Term.static "TwoLetterForms$Form" "MOVE_TURNS" "[I") (.int 9)) (.int (1))) (by decide +kernel))
      · exact va_eqt (hs (Cond.eq (Term.elem (Term.static "TwoLetterForms$Form" "MOVE_TURNS" "[I") (.int 10)) (.int (1))) (by decide +kernel))
      · exact va_eqt (hs (Cond.eq (Term.elem (Term.static "TwoLetterForms$Form" "MOVE_TURNS" "[I") (.int 11)) (.int (0))) (by decide +kernel))
      · exact va_eqt (hs (Cond.eq (Term.elem (Term.static "TwoLetterForms$Form" "MOVE_TURNS" "[I") (.int 12)) (.int (-1))) (by decide +kernel))
      · exact va_eqt (hs (Cond.eq (Term.elem (Term.static "TwoLetterForms$Form" "MOVE_TURNS" "[I") (.int 13)) (.int (0))) (by decide +kernel))
      · exact va_eqt (hs (Cond.eq (Term.elem (Term.static "TwoLetterForms$Form" "MOVE_TURNS" "[I") (.int 14)) (.int (0))) (by decide +kernel))
      · exact va_eqt (hs (Cond.eq (Term.elem (Term.static "TwoLetterForms$Form" "MOVE_TURNS" "[I") (.int 15)) (.int (1))) (by decide +kernel))) hA
  exact ⟨t, va_Zof h1 h2 ht hA, hT⟩
section ALW
variable {α : Type} {K : Kx} {E : Ev} {R : Room} {nL : Nat} {Q : α → Mem → State → Prop} {cells slots pc : Nat} {L : List (Nat × Value)} {st : List Value} {h : Mem} {own : String} {cc : ByteArray} {b N : Nat} {xs : Nat → Int32}
theorem aw_sload (C : CxOK K E own cc nL) (hX : va_X b N xs (kS K) (kS K).heap) (hbl : b < (kS K).heap.size) (hbA : ¬ AB E b) {i : Int32} (hd : decode cc pc = .ok (.iaload, 1)) {d : Int32 → Option (α × Mem)} (kk : ∀ v, xT xs N i = some v → Aw K E R nL Q cells slots (pc + 1) L (.int v :: st) h (d v)) : Aw K E R nL Q cells slots pc L (.int i :: .ref b :: st) h ((xT xs N i).bind d) := by
  intro r h' e H locs ls hz M hS hls
  by_cases hk : ¬ i < 0 ∧ i.toNatClampNeg < N
  · have hg : xT xs N i = some (xs i.toNatClampNeg) := by unfold xT; rw [if_pos hk]
    rw [hg] at e
    exact va_sld C.1 C.2.1 hX hbl hbA hS (inB_vp hk) hd (kk _ hg r h' e H locs ls hz M hS hls)
  · have hg : xT xs N i = none := by unfold xT; rw [if_neg hk]
    rw [hg] at e; cases e
theorem aw_slen (C : CxOK K E own cc nL) (hX : va_X b N xs (kS K) (kS K).heap) (hbl : b < (kS K).heap.size) (hbA : ¬ AB E b) (hd : decode cc pc = .ok (.arraylength, 1)) {d : Option (α × Mem)} (kk : Aw K E R nL Q cells slots (pc + 1) L (.int (Int32.ofNat N) :: st) h d) : Aw K E R nL Q cells slots pc L (.ref b :: st) h d :=
  fun r h' e H locs ls hz M hS hls => va_slen C.1 C.2.1 hX hbl hbA hS hd (kk r h' e H locs ls hz M hS hls)
end ALW
theorem aw_lawret {p : Program} {l : Launch} {e : Env} {s : State} {m : MethodId} {b : Nat} {below : List Frame} {meth : Method} {c : Code} {E : Ev} {cells slots pc : Nat} {L : List (Nat × Value)} {h : Mem} {own : String} (C : CxOK (p, l, e, s, m, #[Value.ref b], below, meth, c) E own code 4) (hE0 : s.heap.size = E.1 + 1) (hr : meth.sig.returnType = ret) (hc : cells ≤ 600000) (hs : slots ≤ 7302250) (hd : decode code pc = .ok (.ireturn, 1)) : Aw (p, l, e, s, m, #[Value.ref b], below, meth, c) E room_1 4 (fun (_ : Unit) _ => lw_Z below #[Value.ref b] s) cells slots pc L [.int 1] h (some ((), h)) := by
  intro r h' e0 H locs ls hz M hS hls
  refine va_forget (fun q hq => ?_) ?_
  · have h1 : E.1 + 1 ≤ q.base := hS.2.2 q hq
    show s.heap.size ≤ q.base
    rw [hE0]
    exact h1
  · exact W.widen hc hs (lw_ret C.1 C.2.1 hr C.2.2.2.2.2.2.2.1 hd)
