def s_find (U : State) (ty : FieldType) (cA : ClassId) : Prop := U.vm.findClass ("[" ++ ty.toString) = some cA
section AH
variable {α : Type} {K : Kx} {E : Ev} {R : Room} {nL : Nat} {Q : α → Mem → State → Prop} {cells slots pc : Nat} {L : List (Nat × Value)} {st : List Value} {h : Mem} {own : String} {cc : ByteArray}
theorem aw_getI (C : CxOK K E own cc nL) {index c k a : Nat} (hf : FL own index c k 0) (hd : decode cc pc = .ok (.getfield index, 3)) {d : Int32 → Option (α × Mem)} (kk : ∀ v, gI c h a k = some v → Aw K E R nL Q cells slots (pc + 3) L (.int v :: st) h (d v)) : Aw K E R nL Q cells slots pc L (rf E a :: st) h ((gI c h a k).bind d) := by
  intro r h' e H locs ls hz M hS hls
  by_cases hk : mKd h a = c
  · have hg : gI c h a k = some (mI h a k) := by unfold gI; rw [if_pos hk]
    rw [hg] at e
    obtain ⟨Cn, T, N, ty, ⟨hc, hc11, hin, hty, hnm, hlen, hdf⟩, hkN, hft, hw⟩ := hf
    have he := M.at (a := a) (by omega)
    rw [encE_o hk hc11] at he
    refine va_get (D := eD E) (ci := c) (C := Cn) (T := T) (N := N) (v := .int (mI h a k)) C.1 C.2.1 C.2.2.2.2.1 hin C.2.2.2.1 C.2.2.2.2.2.1 M.1 (a - 1) he hc k hkN (C.2.2.2.2.1 _ hw) (fun _ h9 => h9) (encO_at hft) hd ?_
    exact kk _ hg r h' e H locs ls hz M hS hls
  · have hg : gI c h a k = none := by unfold gI; rw [if_neg hk]
    rw [hg] at e; cases e
theorem aw_getJ (C : CxOK K E own cc nL) {index c k a : Nat} (hf : FL own index c k 1) (hd : decode cc pc = .ok (.getfield index, 3)) {d : Int64 → Option (α × Mem)} (kk : ∀ v, gJ c h a k = some v → Aw K E R nL Q cells slots (pc + 3) L (.long v :: st) h (d v)) : Aw K E R nL Q cells slots pc L (rf E a :: st) h ((gJ c h a k).bind d) := by
  intro r h' e H locs ls hz M hS hls
  by_cases hk : mKd h a = c
  · have hg : gJ c h a k = some (mL h a k) := by unfold gJ; rw [if_pos hk]
    rw [hg] at e
    obtain ⟨Cn, T, N, ty, ⟨hc, hc11, hin, hty, hnm, hlen, hdf⟩, hkN, hft, hw⟩ := hf
    have he := M.at (a := a) (by omega)
    rw [encE_o hk hc11] at he
    refine va_get (D := eD E) (ci := c) (C := Cn) (T := T) (N := N) (v := .long (mL h a k)) C.1 C.2.1 C.2.2.2.2.1 hin C.2.2.2.1 C.2.2.2.2.2.1 M.1 (a - 1) he hc k hkN (C.2.2.2.2.1 _ hw) (fun _ h9 => h9) (encO_at hft) hd ?_
    exact kk _ hg r h' e H locs ls hz M hS hls
  · have hg : gJ c h a k = none := by unfold gJ; rw [if_neg hk]
    rw [hg] at e; cases e
theorem aw_getR (C : CxOK K E own cc nL) {index c k a : Nat} (hf : FL own index c k 2) (hd : decode cc pc = .ok (.getfield index, 3)) {d : Nat → Option (α × Mem)} (kk : ∀ v, gR c h a k = some v → Aw K E R nL Q cells slots (pc + 3) L (rf E v :: st) h (d v)) : Aw K E R nL Q cells slots pc L (rf E a :: st) h ((gR c h a k).bind d) := by
  intro r h' e H locs ls hz M hS hls
  by_cases hk : mKd h a = c ∧ mR h a k ≠ 0
  · have hg : gR c h a k = some (mR h a k) := by unfold gR; rw [if_pos hk]
    rw [hg] at e
    obtain ⟨Cn, T, N, ty, ⟨hc, hc11, hin, hty, hnm, hlen, hdf⟩, hkN, hft, hw⟩ := hf
    have he := M.at (a := a) (by omega)
    rw [encE_o hk.1 hc11] at he
    refine va_get (D := eD E) (ci := c) (C := Cn) (T := T) (N := N) (v := rf E (mR h a k)) C.1 C.2.1 C.2.2.2.2.1 hin C.2.2.2.1 C.2.2.2.2.2.1 M.1 (a - 1) he hc k hkN (C.2.2.2.2.1 _ hw) (fun _ h9 => h9) ((encO_at hft).trans (congrArg some (rv_rf E hk.2))) hd ?_
    exact kk _ hg r h' e H locs ls hz M hS hls
  · have hg : gR c h a k = none := by unfold gR; rw [if_neg hk]
    rw [hg] at e; cases e
theorem aw_putI (C : CxOK K E own cc nL) {index c k a : Nat} {ft : FieldType} {v : Int32} (hf : FW own index c k 0 ft) (hn : narrow ft (.int v) = .int v) (hfi : fits ft (.int v) = true) (hd : decode cc pc = .ok (.putfield index, 3)) {d : Mem → Option (α × Mem)} (kk : ∀ h1, pI c h a k v = some h1 → Aw K E R nL Q cells slots (pc + 3) L st h1 (d h1)) : Aw K E R nL Q cells slots pc L (.int v :: rf E a :: st) h ((pI c h a k v).bind d) := by
  intro r h' e H locs ls hz M hS hls
  by_cases hk : mKd h a = c
  · have hg : pI c h a k v = some (sI h a (up1 (mI h a) k v)) := by unfold pI; rw [if_pos hk]
    rw [hg] at e
    obtain ⟨Cn, T, N, ty, ⟨hc, hc11, hin, hty, hnm, hlen, hdf⟩, hkN, hft, hw, hfin, hyt⟩ := hf
    have h15 : mKd h a < 15 := by omega
    have he := M.at h15
    rw [encE_o hk hc11] at he
    have hk' : mKd (sI h a (up1 (mI h a) k v)) a = c := hk
    have key : (enc E h).set (a - 1) (E.1 + a, .inr (c, (encO E h a c).set k (.int v))) = enc E (sI h a (up1 (mI h a) k v)) := by
      refine enc_set (E := E) (h := h) (h' := sI h a (up1 (mI h a) k v)) rfl (M.2 a h15).1 (fun b hb => encE_nI _ hb) ?_
      rw [encE_o hk' hc11, encO_set hft (v := .int v) ?_ ?_]
      · intro j u hu hj
        have e1 : mI (sI h a (up1 (mI h a) k v)) a j = mI h a j := by rw [mI_sI, up1_s, up1_n _ _ hj]
        unfold fv
        rw [e1]
        rfl
      · have e1 : mI (sI h a (up1 (mI h a) k v)) a k = v := by rw [mI_sI, up1_s, up1_s]
        show (Value.int (mI (sI h a (up1 (mI h a) k v)) a k)) = Value.int v
        rw [e1]
    refine va_put (D := eD E) (ci := c) (C := Cn) (T := T) (N := N) (v := .int v) (ty := ft) C.1 C.2.1 C.2.2.2.2.1 hin ty hty hnm C.2.2.2.1 C.2.2.2.2.2.1 M.1 (enc_D E h) hS (a - 1) he hc k hkN (C.2.2.2.2.1 _ hw) (fun _ h9 => h9) hfin (by rw [hty k hkN, hyt]) hn hfi (by rw [encO_len, hlen]; exact hkN) hd (fun H1 locs1 hP hD hS1 => ?_)
    rw [key] at hP
    exact kk _ hg r h' e H1 locs1 ls hz ⟨hP, M.2⟩ hS1 hls
  · have hg : pI c h a k v = none := by unfold pI; rw [if_neg hk]
    rw [hg] at e; cases e
theorem aw_putJ (C : CxOK K E own cc nL) {index c k a : Nat} {ft : FieldType} {v : Int64} (hf : FW own index c k 1 ft) (hn : narrow ft (.long v) = .long v) (hfi : fits ft (.long v) = true) (hd : decode cc pc = .ok (.putfield index, 3)) {d : Mem → Option (α × Mem)} (kk : ∀ h1, pJ c h a k v = some h1 → Aw K E R nL Q cells slots (pc + 3) L st h1 (d h1)) : Aw K E R nL Q cells slots pc L (.long v :: rf E a :: st) h ((pJ c h a k v).bind d) := by
  intro r h' e H locs ls hz M hS hls
  by_cases hk : mKd h a = c
  · have hg : pJ c h a k v = some (sL h a (up1 (mL h a) k v)) := by unfold pJ; rw [if_pos hk]
    rw [hg] at e
    obtain ⟨Cn, T, N, ty, ⟨hc, hc11, hin, hty, hnm, hlen, hdf⟩, hkN, hft, hw, hfin, hyt⟩ := hf
    have h15 : mKd h a < 15 := by omega
    have he := M.at h15
    rw [encE_o hk hc11] at he
    have hk' : mKd (sL h a (up1 (mL h a) k v)) a = c := hk
    have key : (enc E h).set (a - 1) (E.1 + a, .inr (c, (encO E h a c).set k (.long v))) = enc E (sL h a (up1 (mL h a) k v)) := by
      refine enc_set (E := E) (h := h) (h' := sL h a (up1 (mL h a) k v)) rfl (M.2 a h15).1 (fun b hb => encE_nL _ hb) ?_
      rw [encE_o hk' hc11, encO_set hft (v := .long v) ?_ ?_]
      · intro j u hu hj
        have e1 : mL (sL h a (up1 (mL h a) k v)) a j = mL h a j := by rw [mL_sL, up1_s, up1_n _ _ hj]
        unfold fv
        rw [e1]
        rfl
      · have e1 : mL (sL h a (up1 (mL h a) k v)) a k = v := by rw [mL_sL, up1_s, up1_s]
        show (Value.long (mL (sL h a (up1 (mL h a) k v)) a k)) = Value.long v
        rw [e1]
    refine va_put (D := eD E) (ci := c) (C := Cn) (T := T) (N := N) (v := .long v) (ty := ft) C.1 C.2.1 C.2.2.2.2.1 hin ty hty hnm C.2.2.2.1 C.2.2.2.2.2.1 M.1 (enc_D E h) hS (a - 1) he hc k hkN (C.2.2.2.2.1 _ hw) (fun _ h9 => h9) hfin (by rw [hty k hkN, hyt]) hn hfi (by rw [encO_len, hlen]; exact hkN) hd (fun H1 locs1 hP hD hS1 => ?_)
    rw [key] at hP
    exact kk _ hg r h' e H1 locs1 ls hz ⟨hP, M.2⟩ hS1 hls
  · have hg : pJ c h a k v = none := by unfold pJ; rw [if_neg hk]
    rw [hg] at e; cases e
theorem aw_putR (C : CxOK K E own cc nL) (hnm2 : (kMe K).name = "<init>") {index c k a : Nat} {ft : FieldType} {v : Nat} (hf : FF own index c k 2 ft) (hn : narrow ft (rf E v) = rf E v) (hfi : fits ft (rf E v) = true) (hd : decode cc pc = .ok (.putfield index, 3)) {d : Mem → Option (α × Mem)} (kk : ∀ h1, pR c h a k v = some h1 → Aw K E R nL Q cells slots (pc + 3) L st h1 (d h1)) : Aw K E R nL Q cells slots pc L (rf E v :: rf E a :: st) h ((pR c h a k v).bind d) := by
  intro r h' e H locs ls hz M hS hls
  by_cases hk : mKd h a = c ∧ v ≠ 0
  · have hg : pR c h a k v = some (sR h a (up1 (mR h a) k v)) := by unfold pR; rw [if_pos hk]
    rw [hg] at e
    obtain ⟨Cn, T, N, ty, ⟨hc, hc11, hin, hty, hnm, hlen, hdf⟩, hkN, hft, hw, hfin, hdecl, hyt⟩ := hf
    have h15 : mKd h a < 15 := by omega
    have he := M.at h15
    rw [encE_o hk.1 hc11] at he
    have hk' : mKd (sR h a (up1 (mR h a) k v)) a = c := hk.1
    have key : (enc E h).set (a - 1) (E.1 + a, .inr (c, (encO E h a c).set k (rf E v))) = enc E (sR h a (up1 (mR h a) k v)) := by
      refine enc_set (E := E) (h := h) (h' := sR h a (up1 (mR h a) k v)) rfl (M.2 a h15).1 (fun b hb => encE_nR _ hb) ?_
      rw [encE_o hk' hc11, encO_set hft (v := rf E v) ?_ ?_]
      · intro j u hu hj
        have e1 : mR (sR h a (up1 (mR h a) k v)) a j = mR h a j := by rw [mR_sR, up1_s, up1_n _ _ hj]
        unfold fv
        rw [e1]
        rfl
      · have e1 : mR (sR h a (up1 (mR h a) k v)) a k = v := by rw [mR_sR, up1_s, up1_s]
        show rv E (mR (sR h a (up1 (mR h a) k v)) a k) = rf E v
        rw [e1, rv_rf E hk.2]
    refine va_putF (D := eD E) (ci := c) (C := Cn) (T := T) (N := N) (v := rf E v) (ty := ft) C.1 C.2.1 C.2.2.2.2.1 hin ty hty hnm C.2.2.2.1 C.2.2.2.2.2.1 M.1 (enc_D E h) hS (a - 1) he hc k hkN (C.2.2.2.2.1 _ hw) (fun _ h9 => h9) hfin hnm2 hdecl (by rw [hty k hkN, hyt]) hn hfi (by rw [encO_len, hlen]; exact hkN) hd (fun H1 locs1 hP hD hS1 => ?_)
    rw [key] at hP
    exact kk _ hg r h' e H1 locs1 ls hz ⟨hP, M.2⟩ hS1 hls
  · have hg : pR c h a k v = none := by unfold pR; rw [if_neg hk]
    rw [hg] at e; cases e
theorem aw_iaload (C : CxOK K E own cc nL) {a : Nat} {i : Int32} (hd : decode cc pc = .ok (.iaload, 1)) {d : Int32 → Option (α × Mem)} (kk : ∀ v, xI 11 h a i = some v → Aw K E R nL Q cells slots (pc + 1) L (.int v :: st) h (d v)) : Aw K E R nL Q cells slots pc L (.int i :: rf E a :: st) h ((xI 11 h a i).bind d) := by
  intro r h' e H locs ls hz M hS hls
  by_cases hk : mKd h a = 11 ∧ ¬ i < 0 ∧ i.toNatClampNeg < mLn h a
  · have hg : xI 11 h a i = some (mI h a i.toNatClampNeg) := by unfold xI; rw [if_pos hk]
    rw [hg] at e
    have he := M.at (a := a) (by omega)
    rw [encE_i hk.1] at he
    exact va_iald (D := eD E) C.1 C.2.1 C.2.2.2.2.2.1 M.1 (a - 1) 0 he rfl (inB_vp hk.2) hd (kk _ hg r h' e H locs ls hz M hS hls)
  · have hg : xI 11 h a i = none := by unfold xI; rw [if_neg hk]
    rw [hg] at e; cases e
theorem aw_baload (C : CxOK K E own cc nL) {a : Nat} {i : Int32} (hd : decode cc pc = .ok (.baload, 1)) {d : Int32 → Option (α × Mem)} (kk : ∀ v, xI 13 h a i = some v → Aw K E R nL Q cells slots (pc + 1) L (.int v :: st) h (d v)) : Aw K E R nL Q cells slots pc L (.int i :: rf E a :: st) h ((xI 13 h a i).bind d) := by
  intro r h' e H locs ls hz M hS hls
  by_cases hk : mKd h a = 13 ∧ ¬ i < 0 ∧ i.toNatClampNeg < mLn h a
  · have hg : xI 13 h a i = some (mI h a i.toNatClampNeg) := by unfold xI; rw [if_pos hk]
    rw [hg] at e
    have he := M.at (a := a) (by omega)
    rw [encE_z hk.1] at he
    exact va_zald (D := eD E) C.1 C.2.1 C.2.2.2.2.2.1 M.1 (a - 1) 2 he rfl (inB_vp hk.2) hd (kk _ hg r h' e H locs ls hz M hS hls)
  · have hg : xI 13 h a i = none := by unfold xI; rw [if_neg hk]
    rw [hg] at e; cases e
theorem aw_laload (C : CxOK K E own cc nL) {a : Nat} {i : Int32} (hd : decode cc pc = .ok (.laload, 1)) {d : Int64 → Option (α × Mem)} (kk : ∀ v, xJ h a i = some v → Aw K E R nL Q cells slots (pc + 1) L (.long v :: st) h (d v)) : Aw K E R nL Q cells slots pc L (.int i :: rf E a :: st) h ((xJ h a i).bind d) := by
  intro r h' e H locs ls hz M hS hls
  by_cases hk : mKd h a = 12 ∧ ¬ i < 0 ∧ i.toNatClampNeg < mLn h a
  · have hg : xJ h a i = some (mL h a i.toNatClampNeg) := by unfold xJ; rw [if_pos hk]
    rw [hg] at e
    have he := M.at (a := a) (by omega)
    rw [encE_l hk.1] at he
    exact va_lald (D := eD E) C.1 C.2.1 C.2.2.2.2.2.1 M.1 (a - 1) 1 he rfl (inB_vp hk.2) hd (kk _ hg r h' e H locs ls hz M hS hls)
  · have hg : xJ h a i = none := by unfold xJ; rw [if_neg hk]
    rw [hg] at e; cases e
theorem aw_aaload (C : CxOK K E own cc nL) {a : Nat} {i : Int32} (hd : decode cc pc = .ok (.aaload, 1)) {d : Nat → Option (α × Mem)} (kk : ∀ v, xR h a i = some v → Aw K E R nL Q cells slots (pc + 1) L (rf E v :: st) h (d v)) : Aw K E R nL Q cells slots pc L (.int i :: rf E a :: st) h ((xR h a i).bind d) := by
  intro r h' e H locs ls hz M hS hls
  by_cases hk : mKd h a = 14 ∧ (¬ i < 0 ∧ i.toNatClampNeg < mLn h a) ∧ mR h a i.toNatClampNeg ≠ 0
  · have hg : xR h a i = some (mR h a i.toNatClampNeg) := by unfold xR; rw [if_pos hk]
    rw [hg] at e
    have he := M.at (a := a) (by omega)
    rw [encE_t hk.1] at he
    have kk' := kk _ hg r h' e H locs ls hz M hS hls
    rw [show rf E (mR h a i.toNatClampNeg) = va_rf (rq E (mR h a i.toNatClampNeg)) from by rw [rv_rq, rv_rf E hk.2.2]] at kk'
    exact va_aldq (D := eD E) C.1 C.2.1 C.2.2.2.2.2.1 M.1 (a - 1) 3 he rfl (inB_vp hk.2.1) hd kk'
  · have hg : xR h a i = none := by unfold xR; rw [if_neg hk]
    rw [hg] at e; cases e
theorem aw_iastore (C : CxOK K E own cc nL) {a : Nat} {i : Int32} {v : Int32} (hd : decode cc pc = .ok (.iastore, 1)) {d : Mem → Option (α × Mem)} (kk : ∀ h1, yI 11 h a i v = some h1 → Aw K E R nL Q cells slots (pc + 1) L st h1 (d h1)) : Aw K E R nL Q cells slots pc L (.int v :: .int i :: rf E a :: st) h ((yI 11 h a i v).bind d) := by
  intro r h' e H locs ls hz M hS hls
  by_cases hk : mKd h a = 11 ∧ ¬ i < 0 ∧ i.toNatClampNeg < mLn h a
  · have hg : yI 11 h a i v = some (sI h a (up1 (mI h a) i.toNatClampNeg v)) := by unfold yI; rw [if_pos hk]
    rw [hg] at e
    have h15 : mKd h a < 15 := by omega
    have he := M.at h15
    rw [encE_i hk.1] at he
    have hk' : mKd (sI h a (up1 (mI h a) i.toNatClampNeg v)) a = 11 := hk.1
    have key : (enc E h).set (a - 1) (E.1 + a, .inl (eI E, mLn h a, .inl (upd (mI h a) i.toNatClampNeg v))) = enc E (sI h a (up1 (mI h a) i.toNatClampNeg v)) := by
      refine enc_set (E := E) (h := h) (h' := sI h a (up1 (mI h a) i.toNatClampNeg v)) rfl (M.2 a h15).1 (fun b hb => encE_nI _ hb) ?_
      rw [encE_i hk', mI_sI, up1_s]
      rfl
    refine va_iast (D := eD E) C.1 C.2.1 C.2.2.2.2.2.1 M.1 (enc_D E h) hS (a - 1) 0 he rfl (inB_vp hk.2) hd (fun H1 locs1 hP hD hS1 => ?_)
    skip
    rw [key] at hP
    exact kk _ hg r h' e H1 locs1 ls hz ⟨hP, M.2⟩ hS1 hls
  · have hg : yI 11 h a i v = none := by unfold yI; rw [if_neg hk]
    rw [hg] at e; cases e
theorem aw_bastore (C : CxOK K E own cc nL) {a : Nat} {i : Int32} {v : Int32} (hv : vp_nar .boolean v = v) (hd : decode cc pc = .ok (.bastore, 1)) {d : Mem → Option (α × Mem)} (kk : ∀ h1, yI 13 h a i v = some h1 → Aw K E R nL Q cells slots (pc + 1) L st h1 (d h1)) : Aw K E R nL Q cells slots pc L (.int v :: .int i :: rf E a :: st) h ((yI 13 h a i v).bind d) := by
  intro r h' e H locs ls hz M hS hls
  by_cases hk : mKd h a = 13 ∧ ¬ i < 0 ∧ i.toNatClampNeg < mLn h a
  · have hg : yI 13 h a i v = some (sI h a (up1 (mI h a) i.toNatClampNeg v)) := by unfold yI; rw [if_pos hk]
    rw [hg] at e
    have h15 : mKd h a < 15 := by omega
    have he := M.at h15
    rw [encE_z hk.1] at he
    have hk' : mKd (sI h a (up1 (mI h a) i.toNatClampNeg v)) a = 13 := hk.1
    have key : (enc E h).set (a - 1) (E.1 + a, .inl (eZ E, mLn h a, .inl (upd (mI h a) i.toNatClampNeg v))) = enc E (sI h a (up1 (mI h a) i.toNatClampNeg v)) := by
      refine enc_set (E := E) (h := h) (h' := sI h a (up1 (mI h a) i.toNatClampNeg v)) rfl (M.2 a h15).1 (fun b hb => encE_nI _ hb) ?_
      rw [encE_z hk', mI_sI, up1_s]
      rfl
    refine va_zast (D := eD E) C.1 C.2.1 C.2.2.2.2.2.1 M.1 (enc_D E h) hS (a - 1) 2 he rfl (inB_vp hk.2) hd (fun H1 locs1 hP hD hS1 => ?_)
    rw [hv] at hP
    rw [key] at hP
    exact kk _ hg r h' e H1 locs1 ls hz ⟨hP, M.2⟩ hS1 hls
  · have hg : yI 13 h a i v = none := by unfold yI; rw [if_neg hk]
    rw [hg] at e; cases e
theorem aw_lastore (C : CxOK K E own cc nL) {a : Nat} {i : Int32} {v : Int64} (hd : decode cc pc = .ok (.lastore, 1)) {d : Mem → Option (α × Mem)} (kk : ∀ h1, yJ h a i v = some h1 → Aw K E R nL Q cells slots (pc + 1) L st h1 (d h1)) : Aw K E R nL Q cells slots pc L (.long v :: .int i :: rf E a :: st) h ((yJ h a i v).bind d) := by
  intro r h' e H locs ls hz M hS hls
  by_cases hk : mKd h a = 12 ∧ ¬ i < 0 ∧ i.toNatClampNeg < mLn h a
  · have hg : yJ h a i v = some (sL h a (up1 (mL h a) i.toNatClampNeg v)) := by unfold yJ; rw [if_pos hk]
    rw [hg] at e
    have h15 : mKd h a < 15 := by omega
    have he := M.at h15
    rw [encE_l hk.1] at he
    have hk' : mKd (sL h a (up1 (mL h a) i.toNatClampNeg v)) a = 12 := hk.1
    have key : (enc E h).set (a - 1) (E.1 + a, .inl (eJ E, mLn h a, .inr (.inl (vp_updL (mL h a) i.toNatClampNeg v)))) = enc E (sL h a (up1 (mL h a) i.toNatClampNeg v)) := by
      refine enc_set (E := E) (h := h) (h' := sL h a (up1 (mL h a) i.toNatClampNeg v)) rfl (M.2 a h15).1 (fun b hb => encE_nL _ hb) ?_
      rw [encE_l hk', mL_sL, up1_s]
      rfl
    refine va_last (D := eD E) C.1 C.2.1 C.2.2.2.2.2.1 M.1 (enc_D E h) hS (a - 1) 1 he rfl (inB_vp hk.2) hd (fun H1 locs1 hP hD hS1 => ?_)
    skip
    rw [key] at hP
    exact kk _ hg r h' e H1 locs1 ls hz ⟨hP, M.2⟩ hS1 hls
  · have hg : yJ h a i v = none := by unfold yJ; rw [if_neg hk]
    rw [hg] at e; cases e
theorem aw_aastore (C : CxOK K E own cc nL) {a v : Nat} {i : Int32} (hd : decode cc pc = .ok (.aastore, 1)) {d : Mem → Option (α × Mem)} (kk : ∀ h1, yR h a i v = some h1 → Aw K E R nL Q cells slots (pc + 1) L st h1 (d h1)) : Aw K E R nL Q cells slots pc L (rf E v :: .int i :: rf E a :: st) h ((yR h a i v).bind d) := by
  intro r h' e H locs ls hz M hS hls
  by_cases hk : mKd h a = 14 ∧ (¬ i < 0 ∧ i.toNatClampNeg < mLn h a) ∧ mKd h v = 7
  · have hg : yR h a i v = some (sR h a (up1 (mR h a) i.toNatClampNeg v)) := by unfold yR; rw [if_pos hk]
    rw [hg] at e
    have h15 : mKd h a < 15 := by omega
    have he := M.at h15
    have hev := M.at (a := v) (by omega)
    rw [encE_t hk.1] at he
    rw [encE_o hk.2.2 (by omega)] at hev
    have hk' : mKd (sR h a (up1 (mR h a) i.toNatClampNeg v)) a = 14 := hk.1
    have hv0 : v ≠ 0 := by have := (M.2 v (by omega)).1; omega
    have key : (enc E h).set (a - 1) (E.1 + a, .inl (eT E, mLn h a, .inr (.inr (.inr (.inr (va_up (fun j => rq E (mR h a j)) i.toNatClampNeg (some (E.1 + v)))))))) = enc E (sR h a (up1 (mR h a) i.toNatClampNeg v)) := by
      refine enc_set (E := E) (h := h) (h' := sR h a (up1 (mR h a) i.toNatClampNeg v)) rfl (M.2 a h15).1 (fun b hb => encE_nR _ hb) ?_
      rw [encE_t hk', mR_sR, up1_s]
      have : (fun j => rq E (up1 (mR h a) i.toNatClampNeg v j)) = va_up (fun j => rq E (mR h a j)) i.toNatClampNeg (some (E.1 + v)) := by
        funext j
        unfold up1 va_up
        split
        · simp [rq, hv0]
        · rfl
      rw [this]
      rfl
    refine va_astq (D := eD E) (r := (RX7, TX7, 3)) C.1 C.2.1 C.2.2.2.2.2.1 M.1 (enc_D E h) hS (a - 1) 3 (v - 1) 7 he rfl hev rfl (inB_vp hk.2.1) hd (fun H1 locs1 hP hD hS1 => ?_)
    rw [key] at hP
    exact kk _ hg r h' e H1 locs1 ls hz ⟨hP, M.2⟩ hS1 hls
  · have hg : yR h a i v = none := by unfold yR; rw [if_neg hk]
    rw [hg] at e; cases e
theorem aw_arraylength (C : CxOK K E own cc nL) {a : Nat} (hd : decode cc pc = .ok (.arraylength, 1)) {d : Int32 → Option (α × Mem)} (kk : ∀ v, aLn h a = some v → Aw K E R nL Q cells slots (pc + 1) L (.int v :: st) h (d v)) : Aw K E R nL Q cells slots pc L (rf E a :: st) h ((aLn h a).bind d) := by
  intro r h' e H locs ls hz M hS hls
  by_cases hk : 11 ≤ mKd h a ∧ mKd h a < 15
  · have hg : aLn h a = some (Int32.ofNat (mLn h a)) := by unfold aLn; rw [if_pos hk]
    rw [hg] at e
    have kk' := kk _ hg r h' e H locs ls hz M hS hls
    have he := M.at hk.2
    rcases (show mKd h a = 11 ∨ mKd h a = 12 ∨ mKd h a = 13 ∨ mKd h a = 14 by omega) with h1 | h1 | h1 | h1
    · rw [encE_i h1] at he
      exact va_alen (D := eD E) C.1 C.2.1 C.2.2.2.2.2.1 M.1 (a - 1) 0 he rfl rfl hd kk'
    · rw [encE_l h1] at he
      exact va_alen (D := eD E) C.1 C.2.1 C.2.2.2.2.2.1 M.1 (a - 1) 1 he rfl rfl hd kk'
    · rw [encE_z h1] at he
      exact va_alen (D := eD E) C.1 C.2.1 C.2.2.2.2.2.1 M.1 (a - 1) 2 he rfl rfl hd kk'
    · rw [encE_t h1] at he
      exact va_alen (D := eD E) C.1 C.2.1 C.2.2.2.2.2.1 M.1 (a - 1) 3 he rfl rfl hd kk'
  · have hg : aLn h a = none := by unfold aLn; rw [if_neg hk]
    rw [hg] at e; cases e
/-! the static tables -/
theorem aw_getsP (C : CxOK K E own cc nL) {index : Nat} (hw : Cond.fieldLink own index "TwoLetterForms" "PRIMES" "[I" ∈ WSA) (hd : decode cc pc = .ok (.getstatic index, 3)) {d : Option (α × Mem)} (kk : Aw K E R nL Q cells slots (pc + 3) L (.ref (eP E) :: st) h d) : Aw K E R nL Q cells slots pc L st h d :=
  fun r h' e H locs ls hz M hS hls => va_gets C.1 C.2.1 C.2.2.2.2.2.2.1.1.1 hS C.2.2.2.1 (C.2.2.2.2.1 _ hw) (fun _ h9 => h9) hd (kk r h' e H locs ls hz M hS hls)
theorem aw_getsPN (C : CxOK K E own cc nL) {index : Nat} {host : String} (hw : Cond.fieldLinkNest own index "TwoLetterForms" "PRIMES" "[I" host ∈ tables_1) (hd : decode cc pc = .ok (.getstatic index, 3)) {d : Option (α × Mem)} (kk : Aw K E R nL Q cells slots (pc + 3) L (.ref (eP E) :: st) h d) : Aw K E R nL Q cells slots pc L st h d :=
  fun r h' e H locs ls hz M hS hls => va_getsN C.1 C.2.1 C.2.2.2.2.2.2.1.1.1 hS C.2.2.2.1 (va_Nw.use rfl (C.2.2.2.2.2.2.2.2.1 _ hw rfl)) (fun _ h9 => h9) hd (kk r h' e H locs ls hz M hS hls)
theorem aw_getsM (C : CxOK K E own cc nL) {index : Nat} (hw : Cond.fieldLink own index "TwoLetterForms$Form" "MOVE_TURNS" "[I" ∈ WSA) (hd : decode cc pc = .ok (.getstatic index, 3)) {d : Option (α × Mem)} (kk : Aw K E R nL Q cells slots (pc + 3) L (.ref (eM E) :: st) h d) : Aw K E R nL Q cells slots pc L st h d :=
  fun r h' e H locs ls hz M hS hls => va_gets C.1 C.2.1 C.2.2.2.2.2.2.1.2.1 hS C.2.2.2.1 (C.2.2.2.2.1 _ hw) (fun _ h9 => h9) hd (kk r h' e H locs ls hz M hS hls)
theorem aw_tloadP (C : CxOK K E own cc nL) {i : Int32} (hd : decode cc pc = .ok (.iaload, 1)) {d : Int32 → Option (α × Mem)} (kk : ∀ v, xT tabP 6 i = some v → Aw K E R nL Q cells slots (pc + 1) L (.int v :: st) h (d v)) : Aw K E R nL Q cells slots pc L (.int i :: .ref (eP E) :: st) h ((xT tabP 6 i).bind d) := by
  intro r h' e H locs ls hz M hS hls
  by_cases hk : ¬ i < 0 ∧ i.toNatClampNeg < 6
  · have hg : xT tabP 6 i = some (tabP i.toNatClampNeg) := by unfold xT; rw [if_pos hk]
    rw [hg] at e
    exact va_ti (t := eP E) C.1 C.2.1 C.2.2.2.2.2.2.1.1.2 hS (inB_vp hk) rfl hd (kk _ hg r h' e H locs ls hz M hS hls)
  · have hg : xT tabP 6 i = none := by unfold xT; rw [if_neg hk]
    rw [hg] at e; cases e
theorem aw_tlenP (C : CxOK K E own cc nL) (hd : decode cc pc = .ok (.arraylength, 1)) {d : Option (α × Mem)} (kk : Aw K E R nL Q cells slots (pc + 1) L (.int 6 :: st) h d) : Aw K E R nL Q cells slots pc L (.ref (eP E) :: st) h d :=
  fun r h' e H locs ls hz M hS hls => va_tlen (t := eP E) C.1 C.2.1 C.2.2.2.2.2.2.1.1.2 hS rfl hd (kk r h' e H locs ls hz M hS hls)
theorem aw_tloadM (C : CxOK K E own cc nL) {i : Int32} (hd : decode cc pc = .ok (.iaload, 1)) {d : Int32 → Option (α × Mem)} (kk : ∀ v, xT tabM 16 i = some v → Aw K E R nL Q cells slots (pc + 1) L (.int v :: st) h (d v)) : Aw K E R nL Q cells slots pc L (.int i :: .ref (eM E) :: st) h ((xT tabM 16 i).bind d) := by
  intro r h' e H locs ls hz M hS hls
  by_cases hk : ¬ i < 0 ∧ i.toNatClampNeg < 16
  · have hg : xT tabM 16 i = some (tabM i.toNatClampNeg) := by unfold xT; rw [if_pos hk]
    rw [hg] at e
    exact va_ti (t := eM E) C.1 C.2.1 C.2.2.2.2.2.2.1.2.2 hS (inB_vp hk) rfl hd (kk _ hg r h' e H locs ls hz M hS hls)
  · have hg : xT tabM 16 i = none := by unfold xT; rw [if_neg hk]
    rw [hg] at e; cases e
theorem aw_tlenM (C : CxOK K E own cc nL) (hd : decode cc pc = .ok (.arraylength, 1)) {d : Option (α × Mem)} (kk : Aw K E R nL Q cells slots (pc + 1) L (.int 16 :: st) h d) : Aw K E R nL Q cells slots pc L (.ref (eM E) :: st) h d :=
  fun r h' e H locs ls hz M hS hls => va_tlen (t := eM E) C.1 C.2.1 C.2.2.2.2.2.2.1.2.2 hS rfl hd (kk r h' e H locs ls hz M hS hls)
theorem Wf_al {h : Mem} (hw : Wf h) (c n : Nat) : Wf (alM c n h) := by
  intro a ha
  by_cases h1 : a = h.1 + 1
  · subst h1
    exact ⟨by omega, Nat.le_refl _⟩
  · have h2 : mKd (alM c n h) a = mKd h a := by show up1 h.2.1 (h.1 + 1) c a = h.2.1 a; rw [up1_n _ _ h1]
    rw [h2] at ha
    have h3 := hw a ha
    have h4 : mSz (alM c n h) = mSz h + 1 := rfl
    exact ⟨h3.1, by omega⟩
theorem encE_al {E : Ev} {h : Mem} (c n : Nat) {b : Nat} (hb : b ≠ mSz h + 1) : encE E (alM c n h) b = encE E h b := by
  have hb' : b ≠ h.1 + 1 := hb
  have e1 : mKd (alM c n h) b = mKd h b := up1_n _ _ hb'
  have e2 : mLn (alM c n h) b = mLn h b := up1_n _ _ hb'
  have e3 : mI (alM c n h) b = mI h b := up1_n _ _ hb'
  have e4 : mL (alM c n h) b = mL h b := up1_n _ _ hb'
  have e5 : mR (alM c n h) b = mR h b := up1_n _ _ hb'
  unfold encE encO fv
  rw [e1, e2, e3, e4, e5]
theorem al_kd (c n : Nat) (h : Mem) : mKd (alM c n h) (mSz h + 1) = c := up1_s _ _ _
theorem al_ln (c n : Nat) (h : Mem) : mLn (alM c n h) (mSz h + 1) = n := up1_s _ _ _
theorem al_I (c n : Nat) (h : Mem) : mI (alM c n h) (mSz h + 1) = fun _ => 0 := up1_s _ _ _
theorem al_L (c n : Nat) (h : Mem) : mL (alM c n h) (mSz h + 1) = fun _ => 0 := up1_s _ _ _
theorem al_R (c n : Nat) (h : Mem) : mR (alM c n h) (mSz h + 1) = fun _ => 0 := up1_s _ _ _
/-- a new cell's address is the next one: the heap holds no more than was counted, and what is there lies apart -/
theorem al_addr {E : Ev} {h : Mem} {H1 : Heap} {q : Nat} {e : va_E} {D : va_G} {n : Nat} (hD : va_D (AB E) (enc E h ++ [(q, e)])) (hP : va_P D vwCl (enc E h ++ [(q, e)]) H1) (hsz : H1.size ≤ n) (hn : n = E.1 + 1 + mSz h + 1) : q = E.1 + 1 + mSz h := by
  have hq : (enc E h ++ [(q, e)])[mSz h]? = some (q, e) := by
    rw [List.getElem?_append_right (by rw [enc_len]; omega), enc_len, Nat.sub_self]
    rfl
  have h1 : q < H1.size := (hP _ _ hq).lt
  have h2 : E.1 + 1 ≤ q := hD.2 _ _ hq
  by_cases h3 : q < E.1 + 1 + mSz h
  · exfalso
    have h4 : q - (E.1 + 1) < mSz h := by omega
    have h5 := enc_at E h (a := q - (E.1 + 1) + 1) (by omega) (by omega)
    rw [Nat.add_sub_cancel] at h5
    have h6 : (enc E h ++ [(q, e)])[q - (E.1 + 1)]? = some (E.1 + (q - (E.1 + 1) + 1), encE E h (q - (E.1 + 1) + 1)) := by
      rw [List.getElem?_append_left (by rw [enc_len]; exact h4)]
      exact h5
    have h7 := hD.1 _ _ _ _ h6 hq (show E.1 + (q - (E.1 + 1) + 1) = q by omega)
    omega
  · omega
theorem aw_new (C : CxOK K E own cc nL) {c index N : Nat} {Cn : String} {T : u_T} {ty : Nat → FieldType} (hcl : ClOK c Cn T N ty) (hw1 : Cond.classLink own index Cn ∈ WSA) (hw2 : Cond.instantiable Cn N ∈ WSA) (hw3 : Cond.initialized Cn ∈ WSA) (hE : E.1 + 1 ≤ (kS K).heap.size) (hcells : cells + 1 ≤ R.cells) (hslots : slots + N ≤ R.slots) (hd : decode cc pc = .ok (.new index, 3)) {d : Nat → Mem → Option (α × Mem)} (kk : ∀ a h1, a = mSz h + 1 → h1 = alM c N h → Aw K E R nL Q (cells + 1) (slots + N) (pc + 3) L (rf E a :: st) h1 (d a h1)) : Aw K E R nL Q cells slots pc L st h (nwO c N h d) := by
  intro r h' e H locs ls hz M hS hls
  have hcl' := hcl
  obtain ⟨hc, hc11, hin, hty, hnm, hlen, hdf⟩ := hcl'
  have hA : ∀ q, (kS K).heap.size ≤ q → AB E q := fun q hq => Nat.le_trans hE hq
  refine va_new (D := eD E) (ci := c) (fs := encO E (alM c N h) (mSz h + 1) c) C.1 C.2.1 C.2.2.2.2.1 hin ty hty C.2.2.2.1 (C.2.2.2.2.1 _ hw1) (C.2.2.2.2.1 _ hw2) (C.2.2.2.2.1 _ hw3) C.2.2.2.2.2.1 M.1 (enc_D E h) hS hA hc ?_ hcells hslots hd (fun q H1 hP hD hS1 => ?_)
  · intro j hj
    rw [hdf j hj]
    have hj2 : j < (FTY.getD c []).length := by rw [hlen]; exact hj
    obtain ⟨t, ht⟩ : ∃ t, (FTY.getD c [])[j]? = some t := ⟨_, List.getElem?_eq_getElem hj2⟩
    have hgd : (FTY.getD c []).getD j 0 = t := by show ((FTY.getD c [])[j]?).getD 0 = t; rw [ht]; rfl
    rw [hgd]
    unfold vp_V
    show _ = ((encO E (alM c N h) (mSz h + 1) c)[j]?).getD .null
    rw [encO_at ht]
    show _ = fv E t _ _ _
    unfold fv
    rw [al_I, al_L, al_R]
    rfl
  · intro T hT X
    have hs := X.heapSize
    rw [hT] at hs
    have hq := al_addr hD hP hs (by omega)
    subst hq
    have key : enc E h ++ [(E.1 + 1 + mSz h, .inr (c, encO E (alM c N h) (mSz h + 1) c))] = enc E (alM c N h) := enc_push rfl (fun b h1 h2 => encE_al c N (by omega)) (encE_o (al_kd c N h) hc11)
    rw [key] at hP
    have := kk (mSz h + 1) (alM c N h) rfl rfl r h' e H1 locs ls (by show _ = E.1 + 1 + (mSz h + 1); omega) ⟨hP, Wf_al M.2 c N⟩ hS1 hls
    rw [show rf E (mSz h + 1) = .ref (E.1 + 1 + mSz h) from congrArg Value.ref (show E.1 + (mSz h + 1) = E.1 + 1 + mSz h by omega)] at this
    exact this T hT X
theorem aw_newAI (C : CxOK K E own cc nL) {cap : Nat} {n : Int32} (hw : Cond.arrayClass .int ∈ WSA) (hE : E.1 + 1 ≤ (kS K).heap.size) (hcap : cap ≤ 100000) (hcells : cells + 1 ≤ R.cells) (hslots : slots + cap ≤ R.slots) (hd : decode cc pc = .ok (.newarray .int, 2)) {d : Nat → Mem → Option (α × Mem)} (kk : ∀ a h1, a = mSz h + 1 → h1 = alM 11 n.toNatClampNeg h → Aw K E R nL Q (cells + 1) (slots + cap) (pc + 2) L (rf E a :: st) h1 (d a h1)) : Aw K E R nL Q cells slots pc L (.int n :: st) h (nwA 11 cap n h d) := by
  intro r h' e H locs ls hz M hS hls
  by_cases hk : ¬ n < 0 ∧ n.toNatClampNeg ≤ cap
  · have e' : d (mSz h + 1) (alM 11 n.toNatClampNeg h) = some (r, h') := by unfold nwA at e; rw [if_pos hk] at e; exact e
    have hA : ∀ q, (kS K).heap.size ≤ q → AB E q := fun q hq => Nat.le_trans hE hq
    refine va_newa (D := eD E) (atype := .int) (ty := .int) (a0 := (n.toNatClampNeg, .inl (fun _ => 0))) C.1 C.2.1 (C.2.2.2.2.1 _ hw) rfl C.2.2.2.2.2.1 M.1 (enc_D E h) hS hA (fun cA => ?_) hk.1 rfl ?_ hcells (by omega) hd (fun q cA H1 hK1 hP hD hS1 => ?_)
    · first | rw [vp_cell_i] | rw [vp_cell_l]
      rfl
    · show _ * 4 ≤ 536870912
      omega
    · intro T hT X
      have hcA : cA = eI E := by
        have h1 : s_find (kS K) .int cA := (hK1.2 4 (cA, .int) rfl).2
        have h2 : s_find (kS K) .int (eI E) := (C.2.2.2.2.2.1.2 0 (eI E, .int) rfl).2
        exact Option.some.inj (h1.symm.trans h2)
      subst hcA
      have hs := X.heapSize
      rw [hT] at hs
      have hq := al_addr hD hP hs (by omega)
      subst hq
      have key : enc E h ++ [(E.1 + 1 + mSz h, .inl (eI E, n.toNatClampNeg, .inl (fun _ => 0)))] = enc E (alM 11 n.toNatClampNeg h) := enc_push rfl (fun b h1 h2 => encE_al _ _ (by omega)) (by rw [encE_i (al_kd _ _ h), al_ln]; first | rw [al_I] | rw [al_L])
      rw [key] at hP
      have hz2 : (kS K).heap.size + (cells + 1) = E.1 + 1 + mSz (alM 11 n.toNatClampNeg h) := by
        show _ = E.1 + 1 + (mSz h + 1)
        omega
      have := (kk (mSz h + 1) (alM 11 n.toNatClampNeg h) rfl rfl r h' e' H1 locs ls hz2 ⟨hP, Wf_al M.2 _ _⟩ hS1 hls)
      rw [show rf E (mSz h + 1) = .ref (E.1 + 1 + mSz h) from congrArg Value.ref (show E.1 + (mSz h + 1) = E.1 + 1 + mSz h by omega)] at this
      exact this T hT (stand_widen X (Nat.le_refl _) (by omega))
  · unfold nwA at e
    rw [if_neg hk] at e; cases e
theorem aw_newAJ (C : CxOK K E own cc nL) {cap : Nat} {n : Int32} (hw : Cond.arrayClass .long ∈ WSA) (hE : E.1 + 1 ≤ (kS K).heap.size) (hcap : cap ≤ 100000) (hcells : cells + 1 ≤ R.cells) (hslots : slots + cap ≤ R.slots) (hd : decode cc pc = .ok (.newarray .long, 2)) {d : Nat → Mem → Option (α × Mem)} (kk : ∀ a h1, a = mSz h + 1 → h1 = alM 12 n.toNatClampNeg h → Aw K E R nL Q (cells + 1) (slots + cap) (pc + 2) L (rf E a :: st) h1 (d a h1)) : Aw K E R nL Q cells slots pc L (.int n :: st) h (nwA 12 cap n h d) := by
  intro r h' e H locs ls hz M hS hls
  by_cases hk : ¬ n < 0 ∧ n.toNatClampNeg ≤ cap
  · have e' : d (mSz h + 1) (alM 12 n.toNatClampNeg h) = some (r, h') := by unfold nwA at e; rw [if_pos hk] at e; exact e
    have hA : ∀ q, (kS K).heap.size ≤ q → AB E q := fun q hq => Nat.le_trans hE hq
    refine va_newa (D := eD E) (atype := .long) (ty := .long) (a0 := (n.toNatClampNeg, .inr (.inl (fun _ => 0)))) C.1 C.2.1 (C.2.2.2.2.1 _ hw) rfl C.2.2.2.2.2.1 M.1 (enc_D E h) hS hA (fun cA => ?_) hk.1 rfl ?_ hcells (by omega) hd (fun q cA H1 hK1 hP hD hS1 => ?_)
    · first | rw [vp_cell_i] | rw [vp_cell_l]
      rfl
    · show _ * 8 ≤ 536870912
      omega
    · intro T hT X
      have hcA : cA = eJ E := by
        have h1 : s_find (kS K) .long cA := (hK1.2 4 (cA, .long) rfl).2
        have h2 : s_find (kS K) .long (eJ E) := (C.2.2.2.2.2.1.2 1 (eJ E, .long) rfl).2
        exact Option.some.inj (h1.symm.trans h2)
      subst hcA
      have hs := X.heapSize
      rw [hT] at hs
      have hq := al_addr hD hP hs (by omega)
      subst hq
      have key : enc E h ++ [(E.1 + 1 + mSz h, .inl (eJ E, n.toNatClampNeg, .inr (.inl (fun _ => 0))))] = enc E (alM 12 n.toNatClampNeg h) := enc_push rfl (fun b h1 h2 => encE_al _ _ (by omega)) (by rw [encE_l (al_kd _ _ h), al_ln]; first | rw [al_I] | rw [al_L])
      rw [key] at hP
      have hz2 : (kS K).heap.size + (cells + 1) = E.1 + 1 + mSz (alM 12 n.toNatClampNeg h) := by
        show _ = E.1 + 1 + (mSz h + 1)
        omega
      have := (kk (mSz h + 1) (alM 12 n.toNatClampNeg h) rfl rfl r h' e' H1 locs ls hz2 ⟨hP, Wf_al M.2 _ _⟩ hS1 hls)
      rw [show rf E (mSz h + 1) = .ref (E.1 + 1 + mSz h) from congrArg Value.ref (show E.1 + (mSz h + 1) = E.1 + 1 + mSz h by omega)] at this
      exact this T hT (stand_widen X (Nat.le_refl _) (by omega))
  · unfold nwA at e
    rw [if_neg hk] at e; cases e
theorem aw_newAZ (C : CxOK K E own cc nL) {cap : Nat} {n : Int32} (hw : Cond.arrayClass .boolean ∈ WSA) (hE : E.1 + 1 ≤ (kS K).heap.size) (hcap : cap ≤ 100000) (hcells : cells + 1 ≤ R.cells) (hslots : slots + cap ≤ R.slots) (hd : decode cc pc = .ok (.newarray .boolean, 2)) {d : Nat → Mem → Option (α × Mem)} (kk : ∀ a h1, a = mSz h + 1 → h1 = alM 13 n.toNatClampNeg h → Aw K E R nL Q (cells + 1) (slots + cap) (pc + 2) L (rf E a :: st) h1 (d a h1)) : Aw K E R nL Q cells slots pc L (.int n :: st) h (nwA 13 cap n h d) := by
  intro r h' e H locs ls hz M hS hls
  by_cases hk : ¬ n < 0 ∧ n.toNatClampNeg ≤ cap
  · have e' : d (mSz h + 1) (alM 13 n.toNatClampNeg h) = some (r, h') := by unfold nwA at e; rw [if_pos hk] at e; exact e
    have hA : ∀ q, (kS K).heap.size ≤ q → AB E q := fun q hq => Nat.le_trans hE hq
    refine va_newa (D := eD E) (atype := .boolean) (ty := .boolean) (a0 := (n.toNatClampNeg, .inl (fun _ => 0))) C.1 C.2.1 (C.2.2.2.2.1 _ hw) rfl C.2.2.2.2.2.1 M.1 (enc_D E h) hS hA (fun cA => ?_) hk.1 rfl ?_ hcells (by omega) hd (fun q cA H1 hK1 hP hD hS1 => ?_)
    · first | rw [vp_cell_i] | rw [vp_cell_l]
      rfl
    · show _ * 1 ≤ 536870912
      omega
    · intro T hT X
      have hcA : cA = eZ E := by
        have h1 : s_find (kS K) .boolean cA := (hK1.2 4 (cA, .boolean) rfl).2
        have h2 : s_find (kS K) .boolean (eZ E) := (C.2.2.2.2.2.1.2 2 (eZ E, .boolean) rfl).2
        exact Option.some.inj (h1.symm.trans h2)
      subst hcA
      have hs := X.heapSize
      rw [hT] at hs
      have hq := al_addr hD hP hs (by omega)
      subst hq
      have key : enc E h ++ [(E.1 + 1 + mSz h, .inl (eZ E, n.toNatClampNeg, .inl (fun _ => 0)))] = enc E (alM 13 n.toNatClampNeg h) := enc_push rfl (fun b h1 h2 => encE_al _ _ (by omega)) (by rw [encE_z (al_kd _ _ h), al_ln]; first | rw [al_I] | rw [al_L])
      rw [key] at hP
      have hz2 : (kS K).heap.size + (cells + 1) = E.1 + 1 + mSz (alM 13 n.toNatClampNeg h) := by
        show _ = E.1 + 1 + (mSz h + 1)
        omega
      have := (kk (mSz h + 1) (alM 13 n.toNatClampNeg h) rfl rfl r h' e' H1 locs ls hz2 ⟨hP, Wf_al M.2 _ _⟩ hS1 hls)
      rw [show rf E (mSz h + 1) = .ref (E.1 + 1 + mSz h) from congrArg Value.ref (show E.1 + (mSz h + 1) = E.1 + 1 + mSz h by omega)] at this
      exact this T hT (stand_widen X (Nat.le_refl _) (by omega))
  · unfold nwA at e
    rw [if_neg hk] at e; cases e
theorem aw_newq (C : CxOK K E own cc nL) {index cap : Nat} {n : Int32} (hw1 : Cond.classLink own index "TwoLetterForms$Tape" ∈ WSA) (hE : E.1 + 1 ≤ (kS K).heap.size) (hcap : cap ≤ 100000) (hcells : cells + 1 ≤ R.cells) (hslots : slots + cap ≤ R.slots) (hd : decode cc pc = .ok (.anewarray index, 3)) {d : Nat → Mem → Option (α × Mem)} (kk : ∀ a h1, a = mSz h + 1 → h1 = alM 14 n.toNatClampNeg h → Aw K E R nL Q (cells + 1) (slots + cap) (pc + 3) L (rf E a :: st) h1 (d a h1)) : Aw K E R nL Q cells slots pc L (.int n :: st) h (nwA 14 cap n h d) := by
  intro r h' e H locs ls hz M hS hls
  by_cases hk : ¬ n < 0 ∧ n.toNatClampNeg ≤ cap
  · have e' : d (mSz h + 1) (alM 14 n.toNatClampNeg h) = some (r, h') := by unfold nwA at e; rw [if_pos hk] at e; exact e
    have hA : ∀ q, (kS K).heap.size ≤ q → AB E q := fun q hq => Nat.le_trans hE hq
    refine va_newq (D := eD E) C.1 C.2.1 C.2.2.2.1 (C.2.2.2.2.1 _ hw1) C.2.2.2.2.2.2.2.2.2 C.2.2.2.2.2.1 M.1 (enc_D E h) hS hA hk.1 rfl (by omega) hcells (by omega) hd (fun q cA H1 hK1 hP hD hS1 => ?_)
    intro T hT X
    have hcA : cA = eT E := by
      obtain ⟨_, _, _, _, _, h1⟩ := (hK1.2 4 (cA, .object "TwoLetterForms$Tape") rfl).2
      obtain ⟨_, _, _, _, _, h2⟩ := (C.2.2.2.2.2.1.2 3 (eT E, .object "TwoLetterForms$Tape") rfl).2
      exact Option.some.inj (h1.symm.trans h2)
    subst hcA
    have hs := X.heapSize
    rw [hT] at hs
    have hq := al_addr hD hP hs (by omega)
    subst hq
    have key : enc E h ++ [(E.1 + 1 + mSz h, .inl (eT E, n.toNatClampNeg, .inr (.inr (.inr (.inr (fun _ => none))))))] = enc E (alM 14 n.toNatClampNeg h) := enc_push rfl (fun b h1 h2 => encE_al _ _ (by omega)) (by rw [encE_t (al_kd _ _ h), al_ln, al_R]; rfl)
    rw [key] at hP
    have hz2 : (kS K).heap.size + (cells + 1) = E.1 + 1 + mSz (alM 14 n.toNatClampNeg h) := by
      show _ = E.1 + 1 + (mSz h + 1)
      omega
    have := (kk (mSz h + 1) (alM 14 n.toNatClampNeg h) rfl rfl r h' e' H1 locs ls hz2 ⟨hP, Wf_al M.2 _ _⟩ hS1 hls)
    rw [show rf E (mSz h + 1) = .ref (E.1 + 1 + mSz h) from congrArg Value.ref (show E.1 + (mSz h + 1) = E.1 + 1 + mSz h by omega)] at this
    exact this T hT (stand_widen X (Nat.le_refl _) (by omega))
  · unfold nwA at e
    rw [if_neg hk] at e; cases e
end AH
