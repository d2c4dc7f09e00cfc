set_option maxHeartbeats 40000000 in
set_option maxRecDepth 100000 in
theorem law_aw {p : Program} {l : Launch} {e : Env} {s : State} {m : MethodId} {b N : Nat} {xs : Nat → Int32} {below : List Frame} {meth : Method} {c : Code} {E : Ev} (K : Kx) (hK : K = (p, l, e, s, m, #[Value.ref b], below, meth, c)) (C : CxOK K E "TwoLetterFormsLaw" cL_law 4) (hE0 : s.heap.size = E.1 + 1) (hr : meth.sig.returnType = ret) (hX : va_X b N xs (kS K) (kS K).heap) (hbl : b < (kS K).heap.size) (hbA : ¬ AB E b) (hE : E.1 + 1 ≤ (kS K).heap.size) (h0 : Mem) : Aw K E room_1 4 (fun (_ : Unit) _ => lw_Z below #[Value.ref b] s) 0 0 0 [(0, .ref b)] [] h0 (fL_law xs N h0) := by
  have hret : ∀ (cells slots pc : Nat) (L : List (Nat × Value)) (h : Mem), cells ≤ 600000 → slots ≤ 7302250 → decode cL_law pc = .ok (.ireturn, 1) → Aw K E room_1 4 (fun (_ : Unit) _ => lw_Z below #[Value.ref b] s) cells slots pc L [.int 1] h (some ((), h)) := by
    subst hK
    exact fun cells slots pc L h hc hs hd => aw_lawret C hE0 hr hc hs hd
  unfold fL_law
  refine aw_new (pc := 0) C clX9 lk_L_7 in_9 it_9 hE (Nat.le_of_ble_eq_true rfl) (Nat.le_of_ble_eq_true rfl) dL_law_0 (fun v1 h2 ev1 eh2 => ?_)
  refine aw_dup (pc := 3) C rfl dL_law_3 ?_
  refine aw_callIV (pc := 4) (R := room_1) (As := []) (rest := [rf E v1]) (st := [rf E v1, rf E v1]) (c' := 61) (s' := 7881) C hE cal_X9_init ml_L_9 rfl ⟨(Nat.le_of_ble_eq_true rfl), (Nat.le_of_ble_eq_true rfl)⟩ ⟨(Nat.le_of_ble_eq_true rfl), (Nat.le_of_ble_eq_true rfl)⟩ dL_law_4 (okX9_init E (kL K) v1 h2) rfl (Nat.le_of_ble_eq_true rfl) rfl rfl (fun _u h3 eh3 => ?_)
  refine aw_astore_n (pc := 7) (L' := [(1, rf E v1), (0, .ref b)]) C dL_law_7 rfl (by decide) rfl ?_
  refine aw_new (pc := 8) C clX10 lk_L_10 in_10 it_10 hE (Nat.le_of_ble_eq_true rfl) (Nat.le_of_ble_eq_true rfl) dL_law_8 (fun v4 h5 ev4 eh5 => ?_)
  refine aw_dup (pc := 11) C rfl dL_law_11 ?_
  refine aw_callIV (pc := 12) (R := room_1) (As := []) (rest := [rf E v4]) (st := [rf E v4, rf E v4]) (c' := 86) (s' := 43889) C hE cal_X10_init ml_L_12 rfl ⟨(Nat.le_of_ble_eq_true rfl), (Nat.le_of_ble_eq_true rfl)⟩ ⟨(Nat.le_of_ble_eq_true rfl), (Nat.le_of_ble_eq_true rfl)⟩ dL_law_12 (okX10_init E (kL K) v4 h5) rfl (Nat.le_of_ble_eq_true rfl) rfl rfl (fun _u h6 eh6 => ?_)
  refine aw_astore_n (pc := 15) (L' := [(2, rf E v4), (1, rf E v1), (0, .ref b)]) C dL_law_15 rfl (by decide) rfl ?_
  refine aw_iconst (pc := 16) (v := 0) C dL_law_16 (by decide) ?_
  refine aw_istore_n (pc := 17) (L' := [(3, .int 0), (2, rf E v4), (1, rf E v1), (0, .ref b)]) C dL_law_17 rfl (by decide) rfl ?_
  refine aw_sub (L' := [(0, .ref b), (1, rf E v1), (2, rf E v4), (3, .int 0)]) [3, 2, 1, 0] rfl ?_
  refine aw_loop (pc := 18) (σ := Int32 × Mem) (fun s => [(0, .ref b), (1, rf E v1), (2, rf E v4), (3, .int s.1)]) (fun s => s.2) _ (fun k9 ih10 s => ?_) _ _
  obtain ⟨v7, h8⟩ := s
  show Aw K E _ _ _ _ _ 18 [(0, .ref b), (1, rf E v1), (2, rf E v4), (3, .int v7)] [] h8 _
  refine aw_iload_n (pc := 18) C dL_law_18 rfl 3 rfl ?_
  refine aw_aload_n (pc := 19) C dL_law_19 rfl 0 rfl ?_
  refine aw_slen (pc := 20) C hX hbl hbA dL_law_20 ?_
  refine aw_bipush (pc := 21) (v := 6) C dL_law_21 (by decide) ?_
  refine aw_isub (pc := 23) C dL_law_23 ?_
  refine aw_icmp_gt (pc := 24) C 1207 dL_law_24 (by decide) (fun c362 => ?_) (fun c362 => ?_)
  · refine aw_iconst (pc := 1207) (v := 1) C dL_law_1207 (by decide) ?_
    exact hret _ _ _ _ _ (Nat.le_of_ble_eq_true rfl) (Nat.le_of_ble_eq_true rfl) dL_law_1208
  refine aw_aload_n (pc := 27) C dL_law_27 rfl 0 rfl ?_
  refine aw_iload_n (pc := 28) C dL_law_28 rfl 3 rfl ?_
  refine aw_sload (pc := 29) C hX hbl hbA dL_law_29 (fun v11 ev11 => ?_)
  refine aw_bipush (pc := 30) (v := 63) C dL_law_30 (by decide) ?_
  refine aw_iand (pc := 32) C dL_law_32 ?_
  refine aw_nmI (pc := 33) (fun v12 ev12 => ?_)
  refine aw_case 0 (fun c13 => ?_) (fun c13 => ?_)
  · refine aw_tableIn (pc := 33) C 0 184 c13 dL_law_33 (by decide) (by decide) rfl (by decide) ?_
    refine aw_aload_n (pc := 184) C dL_law_184 rfl 1 rfl ?_
    refine aw_aload_n (pc := 185) C dL_law_185 rfl 0 rfl ?_
    refine aw_iload_n (pc := 186) C dL_law_186 rfl 3 rfl ?_
    refine aw_iconst (pc := 187) (v := 1) C dL_law_187 (by decide) ?_
    refine aw_iadd (pc := 188) C dL_law_188 ?_
    refine aw_sload (pc := 189) C hX hbl hbA dL_law_189 (fun v14 ev14 => ?_)
    refine aw_callVI (pc := 190) (R := room_1) (c := 9) (As := [.int v14]) (rest := []) (st := [.int v14, rf E v1]) (c' := 86) (s' := 43889) C hE rfl (by decide) cal_X9_degree ml_L_13 rfl ⟨(Nat.le_of_ble_eq_true rfl), (Nat.le_of_ble_eq_true rfl)⟩ ⟨(Nat.le_of_ble_eq_true rfl), (Nat.le_of_ble_eq_true rfl)⟩ dL_law_190 (okX9_degree E (kL K) v1 v14 h8) rfl (Nat.le_of_ble_eq_true rfl) rfl rfl (fun v16 h15 eh15 => ?_)
    refine aw_aload_n (pc := 193) C dL_law_193 rfl 2 rfl ?_
    refine aw_aload_n (pc := 194) C dL_law_194 rfl 0 rfl ?_
    refine aw_iload_n (pc := 195) C dL_law_195 rfl 3 rfl ?_
    refine aw_iconst (pc := 196) (v := 1) C dL_law_196 (by decide) ?_
    refine aw_iadd (pc := 197) C dL_law_197 ?_
    refine aw_sload (pc := 198) C hX hbl hbA dL_law_198 (fun v17 ev17 => ?_)
    refine aw_callVI (pc := 199) (R := room_1) (c := 10) (As := [.int v17]) (rest := [.int v16]) (st := [.int v17, rf E v4, .int v16]) (c' := 86) (s' := 43889) C hE rfl (by decide) cal_X10_degree ml_L_17 rfl ⟨(Nat.le_of_ble_eq_true rfl), (Nat.le_of_ble_eq_true rfl)⟩ ⟨(Nat.le_of_ble_eq_true rfl), (Nat.le_of_ble_eq_true rfl)⟩ dL_law_199 (okX10_degree E (kL K) v4 v17 h15) rfl (Nat.le_of_ble_eq_true rfl) rfl rfl (fun v19 h18 eh18 => ?_)
    refine aw_icmp_eq (pc := 202) C 1201 dL_law_202 (by decide) (fun c21 => ?_) (fun c21 => ?_)
    · refine aw_iincN (pc := 1201) (L1 := [(0, .ref b), (1, rf E v1), (2, rf E v4)]) (k := 6) C dL_law_1201 3 rfl (by decide) (by decide) rfl (fun v20 ev20 => ?_)
      refine aw_goto (pc := 1204) C 18 dL_law_1204 (by decide) ?_
      exact aw_sub (L' := [(0, .ref b), (1, rf E v1), (2, rf E v4), (3, .int v20)]) [1, 2, 3, 0] rfl (ih10 (v20, h18))
    refine aw_iconst (pc := 205) (v := 0) C dL_law_205 (by decide) ?_
    exact aw_none
  refine aw_case 1 (fun c22 => ?_) (fun c22 => ?_)
  · refine aw_tableIn (pc := 33) C 1 207 c22 dL_law_33 (by decide) (by decide) rfl (by decide) ?_
    refine aw_aload_n (pc := 207) C dL_law_207 rfl 1 rfl ?_
    refine aw_aload_n (pc := 208) C dL_law_208 rfl 0 rfl ?_
    refine aw_iload_n (pc := 209) C dL_law_209 rfl 3 rfl ?_
    refine aw_iconst (pc := 210) (v := 1) C dL_law_210 (by decide) ?_
    refine aw_iadd (pc := 211) C dL_law_211 ?_
    refine aw_sload (pc := 212) C hX hbl hbA dL_law_212 (fun v23 ev23 => ?_)
    refine aw_aload_n (pc := 213) C dL_law_213 rfl 0 rfl ?_
    refine aw_iload_n (pc := 214) C dL_law_214 rfl 3 rfl ?_
    refine aw_iconst (pc := 215) (v := 2) C dL_law_215 (by decide) ?_
    refine aw_iadd (pc := 216) C dL_law_216 ?_
    refine aw_sload (pc := 217) C hX hbl hbA dL_law_217 (fun v24 ev24 => ?_)
    refine aw_callVI (pc := 218) (R := room_1) (c := 9) (As := [.int v23, .int v24]) (rest := []) (st := [.int v24, .int v23, rf E v1]) (c' := 86) (s' := 43889) C hE rfl (by decide) cal_X9_number ml_L_18 rfl ⟨(Nat.le_of_ble_eq_true rfl), (Nat.le_of_ble_eq_true rfl)⟩ ⟨(Nat.le_of_ble_eq_true rfl), (Nat.le_of_ble_eq_true rfl)⟩ dL_law_218 (okX9_number E (kL K) v1 v23 v24 h8) rfl (Nat.le_of_ble_eq_true rfl) rfl rfl (fun v26 h25 eh25 => ?_)
    refine aw_aload_n (pc := 221) C dL_law_221 rfl 2 rfl ?_
    refine aw_aload_n (pc := 222) C dL_law_222 rfl 0 rfl ?_
    refine aw_iload_n (pc := 223) C dL_law_223 rfl 3 rfl ?_
    refine aw_iconst (pc := 224) (v := 1) C dL_law_224 (by decide) ?_
    refine aw_iadd (pc := 225) C dL_law_225 ?_
    refine aw_sload (pc := 226) C hX hbl hbA dL_law_226 (fun v27 ev27 => ?_)
    refine aw_aload_n (pc := 227) C dL_law_227 rfl 0 rfl ?_
    refine aw_iload_n (pc := 228) C dL_law_228 rfl 3 rfl ?_
    refine aw_iconst (pc := 229) (v := 2) C dL_law_229 (by decide) ?_
    refine aw_iadd (pc := 230) C dL_law_230 ?_
    refine aw_sload (pc := 231) C hX hbl hbA dL_law_231 (fun v28 ev28 => ?_)
    refine aw_callVI (pc := 232) (R := room_1) (c := 10) (As := [.int v27, .int v28]) (rest := [.int v26]) (st := [.int v28, .int v27, rf E v4, .int v26]) (c' := 86) (s' := 43889) C hE rfl (by decide) cal_X10_number ml_L_22 rfl ⟨(Nat.le_of_ble_eq_true rfl), (Nat.le_of_ble_eq_true rfl)⟩ ⟨(Nat.le_of_ble_eq_true rfl), (Nat.le_of_ble_eq_true rfl)⟩ dL_law_232 (okX10_number E (kL K) v4 v27 v28 h25) rfl (Nat.le_of_ble_eq_true rfl) rfl rfl (fun v30 h29 eh29 => ?_)
    refine aw_icmp_eq (pc := 235) C 1201 dL_law_235 (by decide) (fun c32 => ?_) (fun c32 => ?_)
    · refine aw_iincN (pc := 1201) (L1 := [(0, .ref b), (1, rf E v1), (2, rf E v4)]) (k := 6) C dL_law_1201 3 rfl (by decide) (by decide) rfl (fun v31 ev31 => ?_)
      refine aw_goto (pc := 1204) C 18 dL_law_1204 (by decide) ?_
      exact aw_sub (L' := [(0, .ref b), (1, rf E v1), (2, rf E v4), (3, .int v31)]) [1, 2, 3, 0] rfl (ih10 (v31, h29))
    refine aw_iconst (pc := 238) (v := 0) C dL_law_238 (by decide) ?_
    exact aw_none
  refine aw_case 2 (fun c33 => ?_) (fun c33 => ?_)
  · refine aw_tableIn (pc := 33) C 2 240 c33 dL_law_33 (by decide) (by decide) rfl (by decide) ?_
    refine aw_aload_n (pc := 240) C dL_law_240 rfl 1 rfl ?_
    refine aw_aload_n (pc := 241) C dL_law_241 rfl 0 rfl ?_
    refine aw_iload_n (pc := 242) C dL_law_242 rfl 3 rfl ?_
    refine aw_iconst (pc := 243) (v := 1) C dL_law_243 (by decide) ?_
    refine aw_iadd (pc := 244) C dL_law_244 ?_
    refine aw_sload (pc := 245) C hX hbl hbA dL_law_245 (fun v34 ev34 => ?_)
    refine aw_callVI (pc := 246) (R := room_1) (c := 9) (As := [.int v34]) (rest := []) (st := [.int v34, rf E v1]) (c' := 86) (s' := 43889) C hE rfl (by decide) cal_X9_equal ml_L_23 rfl ⟨(Nat.le_of_ble_eq_true rfl), (Nat.le_of_ble_eq_true rfl)⟩ ⟨(Nat.le_of_ble_eq_true rfl), (Nat.le_of_ble_eq_true rfl)⟩ dL_law_246 (okX9_equal E (kL K) v1 v34 h8) rfl (Nat.le_of_ble_eq_true rfl) rfl rfl (fun v36 h35 eh35 => ?_)
    refine aw_aload_n (pc := 249) C dL_law_249 rfl 2 rfl ?_
    refine aw_aload_n (pc := 250) C dL_law_250 rfl 0 rfl ?_
    refine aw_iload_n (pc := 251) C dL_law_251 rfl 3 rfl ?_
    refine aw_iconst (pc := 252) (v := 1) C dL_law_252 (by decide) ?_
    refine aw_iadd (pc := 253) C dL_law_253 ?_
    refine aw_sload (pc := 254) C hX hbl hbA dL_law_254 (fun v37 ev37 => ?_)
    refine aw_callVI (pc := 255) (R := room_1) (c := 10) (As := [.int v37]) (rest := [.int v36]) (st := [.int v37, rf E v4, .int v36]) (c' := 86) (s' := 43889) C hE rfl (by decide) cal_X10_equal ml_L_26 rfl ⟨(Nat.le_of_ble_eq_true rfl), (Nat.le_of_ble_eq_true rfl)⟩ ⟨(Nat.le_of_ble_eq_true rfl), (Nat.le_of_ble_eq_true rfl)⟩ dL_law_255 (okX10_equal E (kL K) v4 v37 h35) rfl (Nat.le_of_ble_eq_true rfl) rfl rfl (fun v39 h38 eh38 => ?_)
    refine aw_icmp_eq (pc := 258) C 1201 dL_law_258 (by decide) (fun c41 => ?_) (fun c41 => ?_)
    · refine aw_iincN (pc := 1201) (L1 := [(0, .ref b), (1, rf E v1), (2, rf E v4)]) (k := 6) C dL_law_1201 3 rfl (by decide) (by decide) rfl (fun v40 ev40 => ?_)
      refine aw_goto (pc := 1204) C 18 dL_law_1204 (by decide) ?_
      exact aw_sub (L' := [(0, .ref b), (1, rf E v1), (2, rf E v4), (3, .int v40)]) [1, 2, 3, 0] rfl (ih10 (v40, h38))
    refine aw_iconst (pc := 261) (v := 0) C dL_law_261 (by decide) ?_
    exact aw_none
  refine aw_case 3 (fun c42 => ?_) (fun c42 => ?_)
  · refine aw_tableIn (pc := 33) C 3 263 c42 dL_law_33 (by decide) (by decide) rfl (by decide) ?_
    refine aw_aload_n (pc := 263) C dL_law_263 rfl 1 rfl ?_
    refine aw_aload_n (pc := 264) C dL_law_264 rfl 0 rfl ?_
    refine aw_iload_n (pc := 265) C dL_law_265 rfl 3 rfl ?_
    refine aw_iconst (pc := 266) (v := 1) C dL_law_266 (by decide) ?_
    refine aw_iadd (pc := 267) C dL_law_267 ?_
    refine aw_sload (pc := 268) C hX hbl hbA dL_law_268 (fun v43 ev43 => ?_)
    refine aw_callVI (pc := 269) (R := room_1) (c := 9) (As := [.int v43]) (rest := []) (st := [.int v43, rf E v1]) (c' := 86) (s' := 43889) C hE rfl (by decide) cal_X9_window ml_L_27 rfl ⟨(Nat.le_of_ble_eq_true rfl), (Nat.le_of_ble_eq_true rfl)⟩ ⟨(Nat.le_of_ble_eq_true rfl), (Nat.le_of_ble_eq_true rfl)⟩ dL_law_269 (okX9_window E (kL K) v1 v43 h8) rfl (Nat.le_of_ble_eq_true rfl) rfl rfl (fun v45 h44 eh44 => ?_)
    refine aw_aload_n (pc := 272) C dL_law_272 rfl 2 rfl ?_
    refine aw_aload_n (pc := 273) C dL_law_273 rfl 0 rfl ?_
    refine aw_iload_n (pc := 274) C dL_law_274 rfl 3 rfl ?_
    refine aw_iconst (pc := 275) (v := 1) C dL_law_275 (by decide) ?_
    refine aw_iadd (pc := 276) C dL_law_276 ?_
    refine aw_sload (pc := 277) C hX hbl hbA dL_law_277 (fun v46 ev46 => ?_)
    refine aw_callVI (pc := 278) (R := room_1) (c := 10) (As := [.int v46]) (rest := [.int v45]) (st := [.int v46, rf E v4, .int v45]) (c' := 86) (s' := 43889) C hE rfl (by decide) cal_X10_window ml_L_30 rfl ⟨(Nat.le_of_ble_eq_true rfl), (Nat.le_of_ble_eq_true rfl)⟩ ⟨(Nat.le_of_ble_eq_true rfl), (Nat.le_of_ble_eq_true rfl)⟩ dL_law_278 (okX10_window E (kL K) v4 v46 h44) rfl (Nat.le_of_ble_eq_true rfl) rfl rfl (fun v48 h47 eh47 => ?_)
    refine aw_icmp_eq (pc := 281) C 1201 dL_law_281 (by decide) (fun c50 => ?_) (fun c50 => ?_)
    · refine aw_iincN (pc := 1201) (L1 := [(0, .ref b), (1, rf E v1), (2, rf E v4)]) (k := 6) C dL_law_1201 3 rfl (by decide) (by decide) rfl (fun v49 ev49 => ?_)
      refine aw_goto (pc := 1204) C 18 dL_law_1204 (by decide) ?_
      exact aw_sub (L' := [(0, .ref b), (1, rf E v1), (2, rf E v4), (3, .int v49)]) [1, 2, 3, 0] rfl (ih10 (v49, h47))
    refine aw_iconst (pc := 284) (v := 0) C dL_law_284 (by decide) ?_
    exact aw_none
  refine aw_case 4 (fun c51 => ?_) (fun c51 => ?_)
  · refine aw_tableIn (pc := 33) C 4 286 c51 dL_law_33 (by decide) (by decide) rfl (by decide) ?_
    refine aw_aload_n (pc := 286) C dL_law_286 rfl 1 rfl ?_
    refine aw_aload_n (pc := 287) C dL_law_287 rfl 0 rfl ?_
    refine aw_iload_n (pc := 288) C dL_law_288 rfl 3 rfl ?_
    refine aw_iconst (pc := 289) (v := 1) C dL_law_289 (by decide) ?_
    refine aw_iadd (pc := 290) C dL_law_290 ?_
    refine aw_sload (pc := 291) C hX hbl hbA dL_law_291 (fun v52 ev52 => ?_)
    refine aw_callVI (pc := 292) (R := room_1) (c := 9) (As := [.int v52]) (rest := []) (st := [.int v52, rf E v1]) (c' := 86) (s' := 43889) C hE rfl (by decide) cal_X9_move ml_L_31 rfl ⟨(Nat.le_of_ble_eq_true rfl), (Nat.le_of_ble_eq_true rfl)⟩ ⟨(Nat.le_of_ble_eq_true rfl), (Nat.le_of_ble_eq_true rfl)⟩ dL_law_292 (okX9_move E (kL K) v1 v52 h8) rfl (Nat.le_of_ble_eq_true rfl) rfl rfl (fun v54 h53 eh53 => ?_)
    refine aw_aload_n (pc := 295) C dL_law_295 rfl 2 rfl ?_
    refine aw_aload_n (pc := 296) C dL_law_296 rfl 0 rfl ?_
    refine aw_iload_n (pc := 297) C dL_law_297 rfl 3 rfl ?_
    refine aw_iconst (pc := 298) (v := 1) C dL_law_298 (by decide) ?_
    refine aw_iadd (pc := 299) C dL_law_299 ?_
    refine aw_sload (pc := 300) C hX hbl hbA dL_law_300 (fun v55 ev55 => ?_)
    refine aw_callVI (pc := 301) (R := room_1) (c := 10) (As := [.int v55]) (rest := [.int v54]) (st := [.int v55, rf E v4, .int v54]) (c' := 86) (s' := 43889) C hE rfl (by decide) cal_X10_move ml_L_34 rfl ⟨(Nat.le_of_ble_eq_true rfl), (Nat.le_of_ble_eq_true rfl)⟩ ⟨(Nat.le_of_ble_eq_true rfl), (Nat.le_of_ble_eq_true rfl)⟩ dL_law_301 (okX10_move E (kL K) v4 v55 h53) rfl (Nat.le_of_ble_eq_true rfl) rfl rfl (fun v57 h56 eh56 => ?_)
    refine aw_icmp_eq (pc := 304) C 1201 dL_law_304 (by decide) (fun c59 => ?_) (fun c59 => ?_)
    · refine aw_iincN (pc := 1201) (L1 := [(0, .ref b), (1, rf E v1), (2, rf E v4)]) (k := 6) C dL_law_1201 3 rfl (by decide) (by decide) rfl (fun v58 ev58 => ?_)
      refine aw_goto (pc := 1204) C 18 dL_law_1204 (by decide) ?_
      exact aw_sub (L' := [(0, .ref b), (1, rf E v1), (2, rf E v4), (3, .int v58)]) [1, 2, 3, 0] rfl (ih10 (v58, h56))
    refine aw_iconst (pc := 307) (v := 0) C dL_law_307 (by decide) ?_
    exact aw_none
  refine aw_case 5 (fun c60 => ?_) (fun c60 => ?_)
  · refine aw_tableIn (pc := 33) C 5 309 c60 dL_law_33 (by decide) (by decide) rfl (by decide) ?_
    refine aw_aload_n (pc := 309) C dL_law_309 rfl 1 rfl ?_
    refine aw_aload_n (pc := 310) C dL_law_310 rfl 0 rfl ?_
    refine aw_iload_n (pc := 311) C dL_law_311 rfl 3 rfl ?_
    refine aw_iconst (pc := 312) (v := 1) C dL_law_312 (by decide) ?_
    refine aw_iadd (pc := 313) C dL_law_313 ?_
    refine aw_sload (pc := 314) C hX hbl hbA dL_law_314 (fun v61 ev61 => ?_)
    refine aw_aload_n (pc := 315) C dL_law_315 rfl 0 rfl ?_
    refine aw_iload_n (pc := 316) C dL_law_316 rfl 3 rfl ?_
    refine aw_iconst (pc := 317) (v := 2) C dL_law_317 (by decide) ?_
    refine aw_iadd (pc := 318) C dL_law_318 ?_
    refine aw_sload (pc := 319) C hX hbl hbA dL_law_319 (fun v62 ev62 => ?_)
    refine aw_aload_n (pc := 320) C dL_law_320 rfl 0 rfl ?_
    refine aw_iload_n (pc := 321) C dL_law_321 rfl 3 rfl ?_
    refine aw_iconst (pc := 322) (v := 3) C dL_law_322 (by decide) ?_
    refine aw_iadd (pc := 323) C dL_law_323 ?_
    refine aw_sload (pc := 324) C hX hbl hbA dL_law_324 (fun v63 ev63 => ?_)
    refine aw_aload_n (pc := 325) C dL_law_325 rfl 0 rfl ?_
    refine aw_iload_n (pc := 326) C dL_law_326 rfl 3 rfl ?_
    refine aw_iconst (pc := 327) (v := 4) C dL_law_327 (by decide) ?_
    refine aw_iadd (pc := 328) C dL_law_328 ?_
    refine aw_sload (pc := 329) C hX hbl hbA dL_law_329 (fun v64 ev64 => ?_)
    refine aw_callVI (pc := 330) (R := room_1) (c := 9) (As := [.int v61, .int v62, .int v63, .int v64]) (rest := []) (st := [.int v64, .int v63, .int v62, .int v61, rf E v1]) (c' := 86) (s' := 43889) C hE rfl (by decide) cal_X9_turn ml_L_35 rfl ⟨(Nat.le_of_ble_eq_true rfl), (Nat.le_of_ble_eq_true rfl)⟩ ⟨(Nat.le_of_ble_eq_true rfl), (Nat.le_of_ble_eq_true rfl)⟩ dL_law_330 (okX9_turn E (kL K) v1 v61 v62 v63 v64 h8) rfl (Nat.le_of_ble_eq_true rfl) rfl rfl (fun v66 h65 eh65 => ?_)
    refine aw_aload_n (pc := 333) C dL_law_333 rfl 2 rfl ?_
    refine aw_aload_n (pc := 334) C dL_law_334 rfl 0 rfl ?_
    refine aw_iload_n (pc := 335) C dL_law_335 rfl 3 rfl ?_
    refine aw_iconst (pc := 336) (v := 1) C dL_law_336 (by decide) ?_
    refine aw_iadd (pc := 337) C dL_law_337 ?_
    refine aw_sload (pc := 338) C hX hbl hbA dL_law_338 (fun v67 ev67 => ?_)
    refine aw_aload_n (pc := 339) C dL_law_339 rfl 0 rfl ?_
    refine aw_iload_n (pc := 340) C dL_law_340 rfl 3 rfl ?_
    refine aw_iconst (pc := 341) (v := 2) C dL_law_341 (by decide) ?_
    refine aw_iadd (pc := 342) C dL_law_342 ?_
    refine aw_sload (pc := 343) C hX hbl hbA dL_law_343 (fun v68 ev68 => ?_)
    refine aw_aload_n (pc := 344) C dL_law_344 rfl 0 rfl ?_
    refine aw_iload_n (pc := 345) C dL_law_345 rfl 3 rfl ?_
    refine aw_iconst (pc := 346) (v := 3) C dL_law_346 (by decide) ?_
    refine aw_iadd (pc := 347) C dL_law_347 ?_
    refine aw_sload (pc := 348) C hX hbl hbA dL_law_348 (fun v69 ev69 => ?_)
    refine aw_aload_n (pc := 349) C dL_law_349 rfl 0 rfl ?_
    refine aw_iload_n (pc := 350) C dL_law_350 rfl 3 rfl ?_
    refine aw_iconst (pc := 351) (v := 4) C dL_law_351 (by decide) ?_
    refine aw_iadd (pc := 352) C dL_law_352 ?_
    refine aw_sload (pc := 353) C hX hbl hbA dL_law_353 (fun v70 ev70 => ?_)
    refine aw_callVI (pc := 354) (R := room_1) (c := 10) (As := [.int v67, .int v68, .int v69, .int v70]) (rest := [.int v66]) (st := [.int v70, .int v69, .int v68, .int v67, rf E v4, .int v66]) (c' := 86) (s' := 43889) C hE rfl (by decide) cal_X10_turn ml_L_39 rfl ⟨(Nat.le_of_ble_eq_true rfl), (Nat.le_of_ble_eq_true rfl)⟩ ⟨(Nat.le_of_ble_eq_true rfl), (Nat.le_of_ble_eq_true rfl)⟩ dL_law_354 (okX10_turn E (kL K) v4 v67 v68 v69 v70 h65) rfl (Nat.le_of_ble_eq_true rfl) rfl rfl (fun v72 h71 eh71 => ?_)
    refine aw_icmp_eq (pc := 357) C 1201 dL_law_357 (by decide) (fun c74 => ?_) (fun c74 => ?_)
    · refine aw_iincN (pc := 1201) (L1 := [(0, .ref b), (1, rf E v1), (2, rf E v4)]) (k := 6) C dL_law_1201 3 rfl (by decide) (by decide) rfl (fun v73 ev73 => ?_)
      refine aw_goto (pc := 1204) C 18 dL_law_1204 (by decide) ?_
      exact aw_sub (L' := [(0, .ref b), (1, rf E v1), (2, rf E v4), (3, .int v73)]) [1, 2, 3, 0] rfl (ih10 (v73, h71))
    refine aw_iconst (pc := 360) (v := 0) C dL_law_360 (by decide) ?_
    exact aw_none
  refine aw_case 6 (fun c75 => ?_) (fun c75 => ?_)
  · refine aw_tableIn (pc := 33) C 6 362 c75 dL_law_33 (by decide) (by decide) rfl (by decide) ?_
    refine aw_aload_n (pc := 362) C dL_law_362 rfl 1 rfl ?_
    refine aw_aload_n (pc := 363) C dL_law_363 rfl 0 rfl ?_
    refine aw_iload_n (pc := 364) C dL_law_364 rfl 3 rfl ?_
    refine aw_iconst (pc := 365) (v := 1) C dL_law_365 (by decide) ?_
    refine aw_iadd (pc := 366) C dL_law_366 ?_
    refine aw_sload (pc := 367) C hX hbl hbA dL_law_367 (fun v76 ev76 => ?_)
    refine aw_callVI (pc := 368) (R := room_1) (c := 9) (As := [.int v76]) (rest := []) (st := [.int v76, rf E v1]) (c' := 86) (s' := 43889) C hE rfl (by decide) cal_X9_feed ml_L_40 rfl ⟨(Nat.le_of_ble_eq_true rfl), (Nat.le_of_ble_eq_true rfl)⟩ ⟨(Nat.le_of_ble_eq_true rfl), (Nat.le_of_ble_eq_true rfl)⟩ dL_law_368 (okX9_feed E (kL K) v1 v76 h8) rfl (Nat.le_of_ble_eq_true rfl) rfl rfl (fun v78 h77 eh77 => ?_)
    refine aw_aload_n (pc := 371) C dL_law_371 rfl 2 rfl ?_
    refine aw_aload_n (pc := 372) C dL_law_372 rfl 0 rfl ?_
    refine aw_iload_n (pc := 373) C dL_law_373 rfl 3 rfl ?_
    refine aw_iconst (pc := 374) (v := 1) C dL_law_374 (by decide) ?_
    refine aw_iadd (pc := 375) C dL_law_375 ?_
    refine aw_sload (pc := 376) C hX hbl hbA dL_law_376 (fun v79 ev79 => ?_)
    refine aw_callVI (pc := 377) (R := room_1) (c := 10) (As := [.int v79]) (rest := [.int v78]) (st := [.int v79, rf E v4, .int v78]) (c' := 86) (s' := 43889) C hE rfl (by decide) cal_X10_feed ml_L_43 rfl ⟨(Nat.le_of_ble_eq_true rfl), (Nat.le_of_ble_eq_true rfl)⟩ ⟨(Nat.le_of_ble_eq_true rfl), (Nat.le_of_ble_eq_true rfl)⟩ dL_law_377 (okX10_feed E (kL K) v4 v79 h77) rfl (Nat.le_of_ble_eq_true rfl) rfl rfl (fun v81 h80 eh80 => ?_)
    refine aw_icmp_eq (pc := 380) C 1201 dL_law_380 (by decide) (fun c83 => ?_) (fun c83 => ?_)
    · refine aw_iincN (pc := 1201) (L1 := [(0, .ref b), (1, rf E v1), (2, rf E v4)]) (k := 6) C dL_law_1201 3 rfl (by decide) (by decide) rfl (fun v82 ev82 => ?_)
      refine aw_goto (pc := 1204) C 18 dL_law_1204 (by decide) ?_
      exact aw_sub (L' := [(0, .ref b), (1, rf E v1), (2, rf E v4), (3, .int v82)]) [1, 2, 3, 0] rfl (ih10 (v82, h80))
    refine aw_iconst (pc := 383) (v := 0) C dL_law_383 (by decide) ?_
    exact aw_none
  refine aw_case 7 (fun c84 => ?_) (fun c84 => ?_)
  · refine aw_tableIn (pc := 33) C 7 385 c84 dL_law_33 (by decide) (by decide) rfl (by decide) ?_
    refine aw_aload_n (pc := 385) C dL_law_385 rfl 1 rfl ?_
    refine aw_callVI (pc := 386) (R := room_1) (c := 9) (As := []) (rest := []) (st := [rf E v1]) (c' := 86) (s' := 43889) C hE rfl (by decide) cal_X9_read ml_L_44 rfl ⟨(Nat.le_of_ble_eq_true rfl), (Nat.le_of_ble_eq_true rfl)⟩ ⟨(Nat.le_of_ble_eq_true rfl), (Nat.le_of_ble_eq_true rfl)⟩ dL_law_386 (okX9_read E (kL K) v1 h8) rfl (Nat.le_of_ble_eq_true rfl) rfl rfl (fun v86 h85 eh85 => ?_)
    refine aw_aload_n (pc := 389) C dL_law_389 rfl 2 rfl ?_
    refine aw_callVI (pc := 390) (R := room_1) (c := 10) (As := []) (rest := [.int v86]) (st := [rf E v4, .int v86]) (c' := 86) (s' := 43889) C hE rfl (by decide) cal_X10_read ml_L_48 rfl ⟨(Nat.le_of_ble_eq_true rfl), (Nat.le_of_ble_eq_true rfl)⟩ ⟨(Nat.le_of_ble_eq_true rfl), (Nat.le_of_ble_eq_true rfl)⟩ dL_law_390 (okX10_read E (kL K) v4 h85) rfl (Nat.le_of_ble_eq_true rfl) rfl rfl (fun v88 h87 eh87 => ?_)
    refine aw_icmp_eq (pc := 393) C 1201 dL_law_393 (by decide) (fun c90 => ?_) (fun c90 => ?_)
    · refine aw_iincN (pc := 1201) (L1 := [(0, .ref b), (1, rf E v1), (2, rf E v4)]) (k := 6) C dL_law_1201 3 rfl (by decide) (by decide) rfl (fun v89 ev89 => ?_)
      refine aw_goto (pc := 1204) C 18 dL_law_1204 (by decide) ?_
      exact aw_sub (L' := [(0, .ref b), (1, rf E v1), (2, rf E v4), (3, .int v89)]) [1, 2, 3, 0] rfl (ih10 (v89, h87))
    refine aw_iconst (pc := 396) (v := 0) C dL_law_396 (by decide) ?_
    exact aw_none
  refine aw_case 8 (fun c91 => ?_) (fun c91 => ?_)
  · refine aw_tableIn (pc := 33) C 8 398 c91 dL_law_33 (by decide) (by decide) rfl (by decide) ?_
    refine aw_aload_n (pc := 398) C dL_law_398 rfl 1 rfl ?_
    refine aw_aload_n (pc := 399) C dL_law_399 rfl 0 rfl ?_
    refine aw_iload_n (pc := 400) C dL_law_400 rfl 3 rfl ?_
    refine aw_iconst (pc := 401) (v := 1) C dL_law_401 (by decide) ?_
    refine aw_iadd (pc := 402) C dL_law_402 ?_
    refine aw_sload (pc := 403) C hX hbl hbA dL_law_403 (fun v92 ev92 => ?_)
    refine aw_callVI (pc := 404) (R := room_1) (c := 9) (As := [.int v92]) (rest := []) (st := [.int v92, rf E v1]) (c' := 86) (s' := 43889) C hE rfl (by decide) cal_X9_of ml_L_49 rfl ⟨(Nat.le_of_ble_eq_true rfl), (Nat.le_of_ble_eq_true rfl)⟩ ⟨(Nat.le_of_ble_eq_true rfl), (Nat.le_of_ble_eq_true rfl)⟩ dL_law_404 (okX9_of E (kL K) v1 v92 h8) rfl (Nat.le_of_ble_eq_true rfl) rfl rfl (fun v94 h93 eh93 => ?_)
    refine aw_aload_n (pc := 407) C dL_law_407 rfl 2 rfl ?_
    refine aw_aload_n (pc := 408) C dL_law_408 rfl 0 rfl ?_
    refine aw_iload_n (pc := 409) C dL_law_409 rfl 3 rfl ?_
    refine aw_iconst (pc := 410) (v := 1) C dL_law_410 (by decide) ?_
    refine aw_iadd (pc := 411) C dL_law_411 ?_
    refine aw_sload (pc := 412) C hX hbl hbA dL_law_412 (fun v95 ev95 => ?_)
    refine aw_callVI (pc := 413) (R := room_1) (c := 10) (As := [.int v95]) (rest := [.int v94]) (st := [.int v95, rf E v4, .int v94]) (c' := 86) (s' := 43889) C hE rfl (by decide) cal_X10_of ml_L_52 rfl ⟨(Nat.le_of_ble_eq_true rfl), (Nat.le_of_ble_eq_true rfl)⟩ ⟨(Nat.le_of_ble_eq_true rfl), (Nat.le_of_ble_eq_true rfl)⟩ dL_law_413 (okX10_of E (kL K) v4 v95 h93) rfl (Nat.le_of_ble_eq_true rfl) rfl rfl (fun v97 h96 eh96 => ?_)
    refine aw_icmp_eq (pc := 416) C 1201 dL_law_416 (by decide) (fun c99 => ?_) (fun c99 => ?_)
    · refine aw_iincN (pc := 1201) (L1 := [(0, .ref b), (1, rf E v1), (2, rf E v4)]) (k := 6) C dL_law_1201 3 rfl (by decide) (by decide) rfl (fun v98 ev98 => ?_)
      refine aw_goto (pc := 1204) C 18 dL_law_1204 (by decide) ?_
      exact aw_sub (L' := [(0, .ref b), (1, rf E v1), (2, rf E v4), (3, .int v98)]) [1, 2, 3, 0] rfl (ih10 (v98, h96))
    refine aw_iconst (pc := 419) (v := 0) C dL_law_419 (by decide) ?_
    exact aw_none
  refine aw_case 9 (fun c100 => ?_) (fun c100 => ?_)
  · refine aw_tableIn (pc := 33) C 9 421 c100 dL_law_33 (by decide) (by decide) rfl (by decide) ?_
    refine aw_aload_n (pc := 421) C dL_law_421 rfl 1 rfl ?_
    refine aw_aload_n (pc := 422) C dL_law_422 rfl 0 rfl ?_
    refine aw_iload_n (pc := 423) C dL_law_423 rfl 3 rfl ?_
    refine aw_iconst (pc := 424) (v := 1) C dL_law_424 (by decide) ?_
    refine aw_iadd (pc := 425) C dL_law_425 ?_
    refine aw_sload (pc := 426) C hX hbl hbA dL_law_426 (fun v101 ev101 => ?_)
    refine aw_callVI (pc := 427) (R := room_1) (c := 9) (As := [.int v101]) (rest := []) (st := [.int v101, rf E v1]) (c' := 86) (s' := 43889) C hE rfl (by decide) cal_X9_told ml_L_53 rfl ⟨(Nat.le_of_ble_eq_true rfl), (Nat.le_of_ble_eq_true rfl)⟩ ⟨(Nat.le_of_ble_eq_true rfl), (Nat.le_of_ble_eq_true rfl)⟩ dL_law_427 (okX9_told E (kL K) v1 v101 h8) rfl (Nat.le_of_ble_eq_true rfl) rfl rfl (fun v103 h102 eh102 => ?_)
    refine aw_aload_n (pc := 430) C dL_law_430 rfl 2 rfl ?_
    refine aw_aload_n (pc := 431) C dL_law_431 rfl 0 rfl ?_
    refine aw_iload_n (pc := 432) C dL_law_432 rfl 3 rfl ?_
    refine aw_iconst (pc := 433) (v := 1) C dL_law_433 (by decide) ?_
    refine aw_iadd (pc := 434) C dL_law_434 ?_
    refine aw_sload (pc := 435) C hX hbl hbA dL_law_435 (fun v104 ev104 => ?_)
    refine aw_callVI (pc := 436) (R := room_1) (c := 10) (As := [.int v104]) (rest := [.int v103]) (st := [.int v104, rf E v4, .int v103]) (c' := 86) (s' := 43889) C hE rfl (by decide) cal_X10_told ml_L_56 rfl ⟨(Nat.le_of_ble_eq_true rfl), (Nat.le_of_ble_eq_true rfl)⟩ ⟨(Nat.le_of_ble_eq_true rfl), (Nat.le_of_ble_eq_true rfl)⟩ dL_law_436 (okX10_told E (kL K) v4 v104 h102) rfl (Nat.le_of_ble_eq_true rfl) rfl rfl (fun v106 h105 eh105 => ?_)
    refine aw_icmp_eq (pc := 439) C 1201 dL_law_439 (by decide) (fun c108 => ?_) (fun c108 => ?_)
    · refine aw_iincN (pc := 1201) (L1 := [(0, .ref b), (1, rf E v1), (2, rf E v4)]) (k := 6) C dL_law_1201 3 rfl (by decide) (by decide) rfl (fun v107 ev107 => ?_)
      refine aw_goto (pc := 1204) C 18 dL_law_1204 (by decide) ?_
      exact aw_sub (L' := [(0, .ref b), (1, rf E v1), (2, rf E v4), (3, .int v107)]) [1, 2, 3, 0] rfl (ih10 (v107, h105))
    refine aw_iconst (pc := 442) (v := 0) C dL_law_442 (by decide) ?_
    exact aw_none
  refine aw_case 10 (fun c109 => ?_) (fun c109 => ?_)
  · refine aw_tableIn (pc := 33) C 10 444 c109 dL_law_33 (by decide) (by decide) rfl (by decide) ?_
    refine aw_aload_n (pc := 444) C dL_law_444 rfl 1 rfl ?_
    refine aw_aload_n (pc := 445) C dL_law_445 rfl 0 rfl ?_
    refine aw_iload_n (pc := 446) C dL_law_446 rfl 3 rfl ?_
    refine aw_iconst (pc := 447) (v := 1) C dL_law_447 (by decide) ?_
    refine aw_iadd (pc := 448) C dL_law_448 ?_
    refine aw_sload (pc := 449) C hX hbl hbA dL_law_449 (fun v110 ev110 => ?_)
    refine aw_aload_n (pc := 450) C dL_law_450 rfl 0 rfl ?_
    refine aw_iload_n (pc := 451) C dL_law_451 rfl 3 rfl ?_
    refine aw_iconst (pc := 452) (v := 2) C dL_law_452 (by decide) ?_
    refine aw_iadd (pc := 453) C dL_law_453 ?_
    refine aw_sload (pc := 454) C hX hbl hbA dL_law_454 (fun v111 ev111 => ?_)
    refine aw_callVJ (pc := 455) (R := room_1) (c := 9) (As := [.int v110, .int v111]) (rest := []) (st := [.int v111, .int v110, rf E v1]) (c' := 86) (s' := 43889) C hE rfl (by decide) cal_X9_value ml_L_57 rfl ⟨(Nat.le_of_ble_eq_true rfl), (Nat.le_of_ble_eq_true rfl)⟩ ⟨(Nat.le_of_ble_eq_true rfl), (Nat.le_of_ble_eq_true rfl)⟩ dL_law_455 (okX9_value E (kL K) v1 v110 v111 h8) rfl (Nat.le_of_ble_eq_true rfl) rfl rfl (fun v113 h112 eh112 => ?_)
    refine aw_aload_n (pc := 458) C dL_law_458 rfl 2 rfl ?_
    refine aw_aload_n (pc := 459) C dL_law_459 rfl 0 rfl ?_
    refine aw_iload_n (pc := 460) C dL_law_460 rfl 3 rfl ?_
    refine aw_iconst (pc := 461) (v := 1) C dL_law_461 (by decide) ?_
    refine aw_iadd (pc := 462) C dL_law_462 ?_
    refine aw_sload (pc := 463) C hX hbl hbA dL_law_463 (fun v114 ev114 => ?_)
    refine aw_aload_n (pc := 464) C dL_law_464 rfl 0 rfl ?_
    refine aw_iload_n (pc := 465) C dL_law_465 rfl 3 rfl ?_
    refine aw_iconst (pc := 466) (v := 2) C dL_law_466 (by decide) ?_
    refine aw_iadd (pc := 467) C dL_law_467 ?_
    refine aw_sload (pc := 468) C hX hbl hbA dL_law_468 (fun v115 ev115 => ?_)
    refine aw_callVJ (pc := 469) (R := room_1) (c := 10) (As := [.int v114, .int v115]) (rest := [.long v113]) (st := [.int v115, .int v114, rf E v4, .long v113]) (c' := 86) (s' := 43889) C hE rfl (by decide) cal_X10_value ml_L_61 rfl ⟨(Nat.le_of_ble_eq_true rfl), (Nat.le_of_ble_eq_true rfl)⟩ ⟨(Nat.le_of_ble_eq_true rfl), (Nat.le_of_ble_eq_true rfl)⟩ dL_law_469 (okX10_value E (kL K) v4 v114 v115 h112) rfl (Nat.le_of_ble_eq_true rfl) rfl rfl (fun v117 h116 eh116 => ?_)
    refine aw_lcmp (pc := 472) C dL_law_472 ?_
    refine aw_if_eq (pc := 473) C 1201 dL_law_473 (by decide) (fun c119 => ?_) (fun c119 => ?_)
    · refine aw_iincN (pc := 1201) (L1 := [(0, .ref b), (1, rf E v1), (2, rf E v4)]) (k := 6) C dL_law_1201 3 rfl (by decide) (by decide) rfl (fun v118 ev118 => ?_)
      refine aw_goto (pc := 1204) C 18 dL_law_1204 (by decide) ?_
      exact aw_sub (L' := [(0, .ref b), (1, rf E v1), (2, rf E v4), (3, .int v118)]) [1, 2, 3, 0] rfl (ih10 (v118, h116))
    refine aw_iconst (pc := 476) (v := 0) C dL_law_476 (by decide) ?_
    exact aw_none
  refine aw_case 11 (fun c120 => ?_) (fun c120 => ?_)
  · refine aw_tableIn (pc := 33) C 11 478 c120 dL_law_33 (by decide) (by decide) rfl (by decide) ?_
    refine aw_aload_n (pc := 478) C dL_law_478 rfl 1 rfl ?_
    refine aw_aload_n (pc := 479) C dL_law_479 rfl 0 rfl ?_
    refine aw_iload_n (pc := 480) C dL_law_480 rfl 3 rfl ?_
    refine aw_iconst (pc := 481) (v := 1) C dL_law_481 (by decide) ?_
    refine aw_iadd (pc := 482) C dL_law_482 ?_
    refine aw_sload (pc := 483) C hX hbl hbA dL_law_483 (fun v121 ev121 => ?_)
    refine aw_aload_n (pc := 484) C dL_law_484 rfl 0 rfl ?_
    refine aw_iload_n (pc := 485) C dL_law_485 rfl 3 rfl ?_
    refine aw_iconst (pc := 486) (v := 2) C dL_law_486 (by decide) ?_
    refine aw_iadd (pc := 487) C dL_law_487 ?_
    refine aw_sload (pc := 488) C hX hbl hbA dL_law_488 (fun v122 ev122 => ?_)
    refine aw_callVI (pc := 489) (R := room_1) (c := 9) (As := [.int v121, .int v122]) (rest := []) (st := [.int v122, .int v121, rf E v1]) (c' := 86) (s' := 43889) C hE rfl (by decide) cal_X9_answer ml_L_62 rfl ⟨(Nat.le_of_ble_eq_true rfl), (Nat.le_of_ble_eq_true rfl)⟩ ⟨(Nat.le_of_ble_eq_true rfl), (Nat.le_of_ble_eq_true rfl)⟩ dL_law_489 (okX9_answer E (kL K) v1 v121 v122 h8) rfl (Nat.le_of_ble_eq_true rfl) rfl rfl (fun v124 h123 eh123 => ?_)
    refine aw_aload_n (pc := 492) C dL_law_492 rfl 2 rfl ?_
    refine aw_aload_n (pc := 493) C dL_law_493 rfl 0 rfl ?_
    refine aw_iload_n (pc := 494) C dL_law_494 rfl 3 rfl ?_
    refine aw_iconst (pc := 495) (v := 1) C dL_law_495 (by decide) ?_
    refine aw_iadd (pc := 496) C dL_law_496 ?_
    refine aw_sload (pc := 497) C hX hbl hbA dL_law_497 (fun v125 ev125 => ?_)
    refine aw_aload_n (pc := 498) C dL_law_498 rfl 0 rfl ?_
    refine aw_iload_n (pc := 499) C dL_law_499 rfl 3 rfl ?_
    refine aw_iconst (pc := 500) (v := 2) C dL_law_500 (by decide) ?_
    refine aw_iadd (pc := 501) C dL_law_501 ?_
    refine aw_sload (pc := 502) C hX hbl hbA dL_law_502 (fun v126 ev126 => ?_)
    refine aw_callVI (pc := 503) (R := room_1) (c := 10) (As := [.int v125, .int v126]) (rest := [.int v124]) (st := [.int v126, .int v125, rf E v4, .int v124]) (c' := 86) (s' := 43889) C hE rfl (by decide) cal_X10_answer ml_L_65 rfl ⟨(Nat.le_of_ble_eq_true rfl), (Nat.le_of_ble_eq_true rfl)⟩ ⟨(Nat.le_of_ble_eq_true rfl), (Nat.le_of_ble_eq_true rfl)⟩ dL_law_503 (okX10_answer E (kL K) v4 v125 v126 h123) rfl (Nat.le_of_ble_eq_true rfl) rfl rfl (fun v128 h127 eh127 => ?_)
    refine aw_icmp_eq (pc := 506) C 1201 dL_law_506 (by decide) (fun c130 => ?_) (fun c130 => ?_)
    · refine aw_iincN (pc := 1201) (L1 := [(0, .ref b), (1, rf E v1), (2, rf E v4)]) (k := 6) C dL_law_1201 3 rfl (by decide) (by decide) rfl (fun v129 ev129 => ?_)
      refine aw_goto (pc := 1204) C 18 dL_law_1204 (by decide) ?_
      exact aw_sub (L' := [(0, .ref b), (1, rf E v1), (2, rf E v4), (3, .int v129)]) [1, 2, 3, 0] rfl (ih10 (v129, h127))
    refine aw_iconst (pc := 509) (v := 0) C dL_law_509 (by decide) ?_
    exact aw_none
  refine aw_case 12 (fun c131 => ?_) (fun c131 => ?_)
  · refine aw_tableIn (pc := 33) C 12 511 c131 dL_law_33 (by decide) (by decide) rfl (by decide) ?_
    refine aw_aload_n (pc := 511) C dL_law_511 rfl 1 rfl ?_
    refine aw_aload_n (pc := 512) C dL_law_512 rfl 0 rfl ?_
    refine aw_iload_n (pc := 513) C dL_law_513 rfl 3 rfl ?_
    refine aw_iconst (pc := 514) (v := 1) C dL_law_514 (by decide) ?_
    refine aw_iadd (pc := 515) C dL_law_515 ?_
    refine aw_sload (pc := 516) C hX hbl hbA dL_law_516 (fun v132 ev132 => ?_)
    refine aw_aload_n (pc := 517) C dL_law_517 rfl 0 rfl ?_
    refine aw_iload_n (pc := 518) C dL_law_518 rfl 3 rfl ?_
    refine aw_iconst (pc := 519) (v := 2) C dL_law_519 (by decide) ?_
    refine aw_iadd (pc := 520) C dL_law_520 ?_
    refine aw_sload (pc := 521) C hX hbl hbA dL_law_521 (fun v133 ev133 => ?_)
    refine aw_callVI (pc := 522) (R := room_1) (c := 9) (As := [.int v132, .int v133]) (rest := []) (st := [.int v133, .int v132, rf E v1]) (c' := 86) (s' := 43889) C hE rfl (by decide) cal_X9_prime ml_L_66 rfl ⟨(Nat.le_of_ble_eq_true rfl), (Nat.le_of_ble_eq_true rfl)⟩ ⟨(Nat.le_of_ble_eq_true rfl), (Nat.le_of_ble_eq_true rfl)⟩ dL_law_522 (okX9_prime E (kL K) v1 v132 v133 h8) rfl (Nat.le_of_ble_eq_true rfl) rfl rfl (fun v135 h134 eh134 => ?_)
    refine aw_aload_n (pc := 525) C dL_law_525 rfl 2 rfl ?_
    refine aw_aload_n (pc := 526) C dL_law_526 rfl 0 rfl ?_
    refine aw_iload_n (pc := 527) C dL_law_527 rfl 3 rfl ?_
    refine aw_iconst (pc := 528) (v := 1) C dL_law_528 (by decide) ?_
    refine aw_iadd (pc := 529) C dL_law_529 ?_
    refine aw_sload (pc := 530) C hX hbl hbA dL_law_530 (fun v136 ev136 => ?_)
    refine aw_aload_n (pc := 531) C dL_law_531 rfl 0 rfl ?_
    refine aw_iload_n (pc := 532) C dL_law_532 rfl 3 rfl ?_
    refine aw_iconst (pc := 533) (v := 2) C dL_law_533 (by decide) ?_
    refine aw_iadd (pc := 534) C dL_law_534 ?_
    refine aw_sload (pc := 535) C hX hbl hbA dL_law_535 (fun v137 ev137 => ?_)
    refine aw_callVI (pc := 536) (R := room_1) (c := 10) (As := [.int v136, .int v137]) (rest := [.int v135]) (st := [.int v137, .int v136, rf E v4, .int v135]) (c' := 86) (s' := 43889) C hE rfl (by decide) cal_X10_prime ml_L_69 rfl ⟨(Nat.le_of_ble_eq_true rfl), (Nat.le_of_ble_eq_true rfl)⟩ ⟨(Nat.le_of_ble_eq_true rfl), (Nat.le_of_ble_eq_true rfl)⟩ dL_law_536 (okX10_prime E (kL K) v4 v136 v137 h134) rfl (Nat.le_of_ble_eq_true rfl) rfl rfl (fun v139 h138 eh138 => ?_)
    refine aw_icmp_eq (pc := 539) C 1201 dL_law_539 (by decide) (fun c141 => ?_) (fun c141 => ?_)
    · refine aw_iincN (pc := 1201) (L1 := [(0, .ref b), (1, rf E v1), (2, rf E v4)]) (k := 6) C dL_law_1201 3 rfl (by decide) (by decide) rfl (fun v140 ev140 => ?_)
      refine aw_goto (pc := 1204) C 18 dL_law_1204 (by decide) ?_
      exact aw_sub (L' := [(0, .ref b), (1, rf E v1), (2, rf E v4), (3, .int v140)]) [1, 2, 3, 0] rfl (ih10 (v140, h138))
    refine aw_iconst (pc := 542) (v := 0) C dL_law_542 (by decide) ?_
    exact aw_none
  refine aw_case 13 (fun c142 => ?_) (fun c142 => ?_)
  · refine aw_tableIn (pc := 33) C 13 544 c142 dL_law_33 (by decide) (by decide) rfl (by decide) ?_
    refine aw_aload_n (pc := 544) C dL_law_544 rfl 1 rfl ?_
    refine aw_aload_n (pc := 545) C dL_law_545 rfl 0 rfl ?_
    refine aw_iload_n (pc := 546) C dL_law_546 rfl 3 rfl ?_
    refine aw_iconst (pc := 547) (v := 1) C dL_law_547 (by decide) ?_
    refine aw_iadd (pc := 548) C dL_law_548 ?_
    refine aw_sload (pc := 549) C hX hbl hbA dL_law_549 (fun v143 ev143 => ?_)
    refine aw_callVI (pc := 550) (R := room_1) (c := 9) (As := [.int v143]) (rest := []) (st := [.int v143, rf E v1]) (c' := 86) (s' := 43889) C hE rfl (by decide) cal_X9_reason ml_L_70 rfl ⟨(Nat.le_of_ble_eq_true rfl), (Nat.le_of_ble_eq_true rfl)⟩ ⟨(Nat.le_of_ble_eq_true rfl), (Nat.le_of_ble_eq_true rfl)⟩ dL_law_550 (okX9_reason E (kL K) v1 v143 h8) rfl (Nat.le_of_ble_eq_true rfl) rfl rfl (fun v145 h144 eh144 => ?_)
    refine aw_aload_n (pc := 553) C dL_law_553 rfl 2 rfl ?_
    refine aw_aload_n (pc := 554) C dL_law_554 rfl 0 rfl ?_
    refine aw_iload_n (pc := 555) C dL_law_555 rfl 3 rfl ?_
    refine aw_iconst (pc := 556) (v := 1) C dL_law_556 (by decide) ?_
    refine aw_iadd (pc := 557) C dL_law_557 ?_
    refine aw_sload (pc := 558) C hX hbl hbA dL_law_558 (fun v146 ev146 => ?_)
    refine aw_callVI (pc := 559) (R := room_1) (c := 10) (As := [.int v146]) (rest := [.int v145]) (st := [.int v146, rf E v4, .int v145]) (c' := 86) (s' := 43889) C hE rfl (by decide) cal_X10_reason ml_L_73 rfl ⟨(Nat.le_of_ble_eq_true rfl), (Nat.le_of_ble_eq_true rfl)⟩ ⟨(Nat.le_of_ble_eq_true rfl), (Nat.le_of_ble_eq_true rfl)⟩ dL_law_559 (okX10_reason E (kL K) v4 v146 h144) rfl (Nat.le_of_ble_eq_true rfl) rfl rfl (fun v148 h147 eh147 => ?_)
    refine aw_icmp_eq (pc := 562) C 1201 dL_law_562 (by decide) (fun c150 => ?_) (fun c150 => ?_)
    · refine aw_iincN (pc := 1201) (L1 := [(0, .ref b), (1, rf E v1), (2, rf E v4)]) (k := 6) C dL_law_1201 3 rfl (by decide) (by decide) rfl (fun v149 ev149 => ?_)
      refine aw_goto (pc := 1204) C 18 dL_law_1204 (by decide) ?_
      exact aw_sub (L' := [(0, .ref b), (1, rf E v1), (2, rf E v4), (3, .int v149)]) [1, 2, 3, 0] rfl (ih10 (v149, h147))
    refine aw_iconst (pc := 565) (v := 0) C dL_law_565 (by decide) ?_
    exact aw_none
  refine aw_case 14 (fun c151 => ?_) (fun c151 => ?_)
  · refine aw_tableIn (pc := 33) C 14 567 c151 dL_law_33 (by decide) (by decide) rfl (by decide) ?_
    refine aw_aload_n (pc := 567) C dL_law_567 rfl 1 rfl ?_
    refine aw_aload_n (pc := 568) C dL_law_568 rfl 0 rfl ?_
    refine aw_iload_n (pc := 569) C dL_law_569 rfl 3 rfl ?_
    refine aw_iconst (pc := 570) (v := 1) C dL_law_570 (by decide) ?_
    refine aw_iadd (pc := 571) C dL_law_571 ?_
    refine aw_sload (pc := 572) C hX hbl hbA dL_law_572 (fun v152 ev152 => ?_)
    refine aw_aload_n (pc := 573) C dL_law_573 rfl 0 rfl ?_
    refine aw_iload_n (pc := 574) C dL_law_574 rfl 3 rfl ?_
    refine aw_iconst (pc := 575) (v := 2) C dL_law_575 (by decide) ?_
    refine aw_iadd (pc := 576) C dL_law_576 ?_
    refine aw_sload (pc := 577) C hX hbl hbA dL_law_577 (fun v153 ev153 => ?_)
    refine aw_callVI (pc := 578) (R := room_1) (c := 9) (As := [.int v152, .int v153]) (rest := []) (st := [.int v153, .int v152, rf E v1]) (c' := 86) (s' := 43889) C hE rfl (by decide) cal_X9_unit ml_L_74 rfl ⟨(Nat.le_of_ble_eq_true rfl), (Nat.le_of_ble_eq_true rfl)⟩ ⟨(Nat.le_of_ble_eq_true rfl), (Nat.le_of_ble_eq_true rfl)⟩ dL_law_578 (okX9_unit E (kL K) v1 v152 v153 h8) rfl (Nat.le_of_ble_eq_true rfl) rfl rfl (fun v155 h154 eh154 => ?_)
    refine aw_aload_n (pc := 581) C dL_law_581 rfl 2 rfl ?_
    refine aw_aload_n (pc := 582) C dL_law_582 rfl 0 rfl ?_
    refine aw_iload_n (pc := 583) C dL_law_583 rfl 3 rfl ?_
    refine aw_iconst (pc := 584) (v := 1) C dL_law_584 (by decide) ?_
    refine aw_iadd (pc := 585) C dL_law_585 ?_
    refine aw_sload (pc := 586) C hX hbl hbA dL_law_586 (fun v156 ev156 => ?_)
    refine aw_aload_n (pc := 587) C dL_law_587 rfl 0 rfl ?_
    refine aw_iload_n (pc := 588) C dL_law_588 rfl 3 rfl ?_
    refine aw_iconst (pc := 589) (v := 2) C dL_law_589 (by decide) ?_
    refine aw_iadd (pc := 590) C dL_law_590 ?_
    refine aw_sload (pc := 591) C hX hbl hbA dL_law_591 (fun v157 ev157 => ?_)
    refine aw_callVI (pc := 592) (R := room_1) (c := 10) (As := [.int v156, .int v157]) (rest := [.int v155]) (st := [.int v157, .int v156, rf E v4, .int v155]) (c' := 86) (s' := 43889) C hE rfl (by decide) cal_X10_unit ml_L_77 rfl ⟨(Nat.le_of_ble_eq_true rfl), (Nat.le_of_ble_eq_true rfl)⟩ ⟨(Nat.le_of_ble_eq_true rfl), (Nat.le_of_ble_eq_true rfl)⟩ dL_law_592 (okX10_unit E (kL K) v4 v156 v157 h154) rfl (Nat.le_of_ble_eq_true rfl) rfl rfl (fun v159 h158 eh158 => ?_)
    refine aw_icmp_eq (pc := 595) C 1201 dL_law_595 (by decide) (fun c161 => ?_) (fun c161 => ?_)
    · refine aw_iincN (pc := 1201) (L1 := [(0, .ref b), (1, rf E v1), (2, rf E v4)]) (k := 6) C dL_law_1201 3 rfl (by decide) (by decide) rfl (fun v160 ev160 => ?_)
      refine aw_goto (pc := 1204) C 18 dL_law_1204 (by decide) ?_
      exact aw_sub (L' := [(0, .ref b), (1, rf E v1), (2, rf E v4), (3, .int v160)]) [1, 2, 3, 0] rfl (ih10 (v160, h158))
    refine aw_iconst (pc := 598) (v := 0) C dL_law_598 (by decide) ?_
    exact aw_none
  refine aw_case 15 (fun c162 => ?_) (fun c162 => ?_)
  · refine aw_tableIn (pc := 33) C 15 600 c162 dL_law_33 (by decide) (by decide) rfl (by decide) ?_
    refine aw_aload_n (pc := 600) C dL_law_600 rfl 1 rfl ?_
    refine aw_aload_n (pc := 601) C dL_law_601 rfl 0 rfl ?_
    refine aw_iload_n (pc := 602) C dL_law_602 rfl 3 rfl ?_
    refine aw_iconst (pc := 603) (v := 1) C dL_law_603 (by decide) ?_
    refine aw_iadd (pc := 604) C dL_law_604 ?_
    refine aw_sload (pc := 605) C hX hbl hbA dL_law_605 (fun v163 ev163 => ?_)
    refine aw_callVI (pc := 606) (R := room_1) (c := 9) (As := [.int v163]) (rest := []) (st := [.int v163, rf E v1]) (c' := 86) (s' := 43889) C hE rfl (by decide) cal_X9_family ml_L_78 rfl ⟨(Nat.le_of_ble_eq_true rfl), (Nat.le_of_ble_eq_true rfl)⟩ ⟨(Nat.le_of_ble_eq_true rfl), (Nat.le_of_ble_eq_true rfl)⟩ dL_law_606 (okX9_family E (kL K) v1 v163 h8) rfl (Nat.le_of_ble_eq_true rfl) rfl rfl (fun v165 h164 eh164 => ?_)
    refine aw_aload_n (pc := 609) C dL_law_609 rfl 2 rfl ?_
    refine aw_aload_n (pc := 610) C dL_law_610 rfl 0 rfl ?_
    refine aw_iload_n (pc := 611) C dL_law_611 rfl 3 rfl ?_
    refine aw_iconst (pc := 612) (v := 1) C dL_law_612 (by decide) ?_
    refine aw_iadd (pc := 613) C dL_law_613 ?_
    refine aw_sload (pc := 614) C hX hbl hbA dL_law_614 (fun v166 ev166 => ?_)
    refine aw_callVI (pc := 615) (R := room_1) (c := 10) (As := [.int v166]) (rest := [.int v165]) (st := [.int v166, rf E v4, .int v165]) (c' := 86) (s' := 43889) C hE rfl (by decide) cal_X10_family ml_L_81 rfl ⟨(Nat.le_of_ble_eq_true rfl), (Nat.le_of_ble_eq_true rfl)⟩ ⟨(Nat.le_of_ble_eq_true rfl), (Nat.le_of_ble_eq_true rfl)⟩ dL_law_615 (okX10_family E (kL K) v4 v166 h164) rfl (Nat.le_of_ble_eq_true rfl) rfl rfl (fun v168 h167 eh167 => ?_)
    refine aw_icmp_eq (pc := 618) C 1201 dL_law_618 (by decide) (fun c170 => ?_) (fun c170 => ?_)
    · refine aw_iincN (pc := 1201) (L1 := [(0, .ref b), (1, rf E v1), (2, rf E v4)]) (k := 6) C dL_law_1201 3 rfl (by decide) (by decide) rfl (fun v169 ev169 => ?_)
      refine aw_goto (pc := 1204) C 18 dL_law_1204 (by decide) ?_
      exact aw_sub (L' := [(0, .ref b), (1, rf E v1), (2, rf E v4), (3, .int v169)]) [1, 2, 3, 0] rfl (ih10 (v169, h167))
    refine aw_iconst (pc := 621) (v := 0) C dL_law_621 (by decide) ?_
    exact aw_none
  refine aw_case 16 (fun c171 => ?_) (fun c171 => ?_)
  · refine aw_tableIn (pc := 33) C 16 623 c171 dL_law_33 (by decide) (by decide) rfl (by decide) ?_
    refine aw_aload_n (pc := 623) C dL_law_623 rfl 1 rfl ?_
    refine aw_aload_n (pc := 624) C dL_law_624 rfl 0 rfl ?_
    refine aw_iload_n (pc := 625) C dL_law_625 rfl 3 rfl ?_
    refine aw_iconst (pc := 626) (v := 1) C dL_law_626 (by decide) ?_
    refine aw_iadd (pc := 627) C dL_law_627 ?_
    refine aw_sload (pc := 628) C hX hbl hbA dL_law_628 (fun v172 ev172 => ?_)
    refine aw_callVI (pc := 629) (R := room_1) (c := 9) (As := [.int v172]) (rest := []) (st := [.int v172, rf E v1]) (c' := 86) (s' := 43889) C hE rfl (by decide) cal_X9_part ml_L_82 rfl ⟨(Nat.le_of_ble_eq_true rfl), (Nat.le_of_ble_eq_true rfl)⟩ ⟨(Nat.le_of_ble_eq_true rfl), (Nat.le_of_ble_eq_true rfl)⟩ dL_law_629 (okX9_part E (kL K) v1 v172 h8) rfl (Nat.le_of_ble_eq_true rfl) rfl rfl (fun v174 h173 eh173 => ?_)
    refine aw_aload_n (pc := 632) C dL_law_632 rfl 2 rfl ?_
    refine aw_aload_n (pc := 633) C dL_law_633 rfl 0 rfl ?_
    refine aw_iload_n (pc := 634) C dL_law_634 rfl 3 rfl ?_
    refine aw_iconst (pc := 635) (v := 1) C dL_law_635 (by decide) ?_
    refine aw_iadd (pc := 636) C dL_law_636 ?_
    refine aw_sload (pc := 637) C hX hbl hbA dL_law_637 (fun v175 ev175 => ?_)
    refine aw_callVI (pc := 638) (R := room_1) (c := 10) (As := [.int v175]) (rest := [.int v174]) (st := [.int v175, rf E v4, .int v174]) (c' := 86) (s' := 43889) C hE rfl (by decide) cal_X10_part ml_L_85 rfl ⟨(Nat.le_of_ble_eq_true rfl), (Nat.le_of_ble_eq_true rfl)⟩ ⟨(Nat.le_of_ble_eq_true rfl), (Nat.le_of_ble_eq_true rfl)⟩ dL_law_638 (okX10_part E (kL K) v4 v175 h173) rfl (Nat.le_of_ble_eq_true rfl) rfl rfl (fun v177 h176 eh176 => ?_)
    refine aw_icmp_eq (pc := 641) C 1201 dL_law_641 (by decide) (fun c179 => ?_) (fun c179 => ?_)
    · refine aw_iincN (pc := 1201) (L1 := [(0, .ref b), (1, rf E v1), (2, rf E v4)]) (k := 6) C dL_law_1201 3 rfl (by decide) (by decide) rfl (fun v178 ev178 => ?_)
      refine aw_goto (pc := 1204) C 18 dL_law_1204 (by decide) ?_
      exact aw_sub (L' := [(0, .ref b), (1, rf E v1), (2, rf E v4), (3, .int v178)]) [1, 2, 3, 0] rfl (ih10 (v178, h176))
    refine aw_iconst (pc := 644) (v := 0) C dL_law_644 (by decide) ?_
    exact aw_none
  refine aw_case 17 (fun c180 => ?_) (fun c180 => ?_)
  · refine aw_tableIn (pc := 33) C 17 646 c180 dL_law_33 (by decide) (by decide) rfl (by decide) ?_
    refine aw_aload_n (pc := 646) C dL_law_646 rfl 1 rfl ?_
    refine aw_aload_n (pc := 647) C dL_law_647 rfl 0 rfl ?_
    refine aw_iload_n (pc := 648) C dL_law_648 rfl 3 rfl ?_
    refine aw_iconst (pc := 649) (v := 1) C dL_law_649 (by decide) ?_
    refine aw_iadd (pc := 650) C dL_law_650 ?_
    refine aw_sload (pc := 651) C hX hbl hbA dL_law_651 (fun v181 ev181 => ?_)
    refine aw_aload_n (pc := 652) C dL_law_652 rfl 0 rfl ?_
    refine aw_iload_n (pc := 653) C dL_law_653 rfl 3 rfl ?_
    refine aw_iconst (pc := 654) (v := 2) C dL_law_654 (by decide) ?_
    refine aw_iadd (pc := 655) C dL_law_655 ?_
    refine aw_sload (pc := 656) C hX hbl hbA dL_law_656 (fun v182 ev182 => ?_)
    refine aw_callVJ (pc := 657) (R := room_1) (c := 9) (As := [.int v181, .int v182]) (rest := []) (st := [.int v182, .int v181, rf E v1]) (c' := 86) (s' := 43889) C hE rfl (by decide) cal_X9_convergent ml_L_86 rfl ⟨(Nat.le_of_ble_eq_true rfl), (Nat.le_of_ble_eq_true rfl)⟩ ⟨(Nat.le_of_ble_eq_true rfl), (Nat.le_of_ble_eq_true rfl)⟩ dL_law_657 (okX9_convergent E (kL K) v1 v181 v182 h8) rfl (Nat.le_of_ble_eq_true rfl) rfl rfl (fun v184 h183 eh183 => ?_)
    refine aw_aload_n (pc := 660) C dL_law_660 rfl 2 rfl ?_
    refine aw_aload_n (pc := 661) C dL_law_661 rfl 0 rfl ?_
    refine aw_iload_n (pc := 662) C dL_law_662 rfl 3 rfl ?_
    refine aw_iconst (pc := 663) (v := 1) C dL_law_663 (by decide) ?_
    refine aw_iadd (pc := 664) C dL_law_664 ?_
    refine aw_sload (pc := 665) C hX hbl hbA dL_law_665 (fun v185 ev185 => ?_)
    refine aw_aload_n (pc := 666) C dL_law_666 rfl 0 rfl ?_
    refine aw_iload_n (pc := 667) C dL_law_667 rfl 3 rfl ?_
    refine aw_iconst (pc := 668) (v := 2) C dL_law_668 (by decide) ?_
    refine aw_iadd (pc := 669) C dL_law_669 ?_
    refine aw_sload (pc := 670) C hX hbl hbA dL_law_670 (fun v186 ev186 => ?_)
    refine aw_callVJ (pc := 671) (R := room_1) (c := 10) (As := [.int v185, .int v186]) (rest := [.long v184]) (st := [.int v186, .int v185, rf E v4, .long v184]) (c' := 86) (s' := 43889) C hE rfl (by decide) cal_X10_convergent ml_L_89 rfl ⟨(Nat.le_of_ble_eq_true rfl), (Nat.le_of_ble_eq_true rfl)⟩ ⟨(Nat.le_of_ble_eq_true rfl), (Nat.le_of_ble_eq_true rfl)⟩ dL_law_671 (okX10_convergent E (kL K) v4 v185 v186 h183) rfl (Nat.le_of_ble_eq_true rfl) rfl rfl (fun v188 h187 eh187 => ?_)
    refine aw_lcmp (pc := 674) C dL_law_674 ?_
    refine aw_if_eq (pc := 675) C 1201 dL_law_675 (by decide) (fun c190 => ?_) (fun c190 => ?_)
    · refine aw_iincN (pc := 1201) (L1 := [(0, .ref b), (1, rf E v1), (2, rf E v4)]) (k := 6) C dL_law_1201 3 rfl (by decide) (by decide) rfl (fun v189 ev189 => ?_)
      refine aw_goto (pc := 1204) C 18 dL_law_1204 (by decide) ?_
      exact aw_sub (L' := [(0, .ref b), (1, rf E v1), (2, rf E v4), (3, .int v189)]) [1, 2, 3, 0] rfl (ih10 (v189, h187))
    refine aw_iconst (pc := 678) (v := 0) C dL_law_678 (by decide) ?_
    exact aw_none
  refine aw_case 18 (fun c191 => ?_) (fun c191 => ?_)
  · refine aw_tableIn (pc := 33) C 18 680 c191 dL_law_33 (by decide) (by decide) rfl (by decide) ?_
    refine aw_aload_n (pc := 680) C dL_law_680 rfl 1 rfl ?_
    refine aw_aload_n (pc := 681) C dL_law_681 rfl 0 rfl ?_
    refine aw_iload_n (pc := 682) C dL_law_682 rfl 3 rfl ?_
    refine aw_iconst (pc := 683) (v := 1) C dL_law_683 (by decide) ?_
    refine aw_iadd (pc := 684) C dL_law_684 ?_
    refine aw_sload (pc := 685) C hX hbl hbA dL_law_685 (fun v192 ev192 => ?_)
    refine aw_aload_n (pc := 686) C dL_law_686 rfl 0 rfl ?_
    refine aw_iload_n (pc := 687) C dL_law_687 rfl 3 rfl ?_
    refine aw_iconst (pc := 688) (v := 2) C dL_law_688 (by decide) ?_
    refine aw_iadd (pc := 689) C dL_law_689 ?_
    refine aw_sload (pc := 690) C hX hbl hbA dL_law_690 (fun v193 ev193 => ?_)
    refine aw_aload_n (pc := 691) C dL_law_691 rfl 0 rfl ?_
    refine aw_iload_n (pc := 692) C dL_law_692 rfl 3 rfl ?_
    refine aw_iconst (pc := 693) (v := 3) C dL_law_693 (by decide) ?_
    refine aw_iadd (pc := 694) C dL_law_694 ?_
    refine aw_sload (pc := 695) C hX hbl hbA dL_law_695 (fun v194 ev194 => ?_)
    refine aw_callVI (pc := 696) (R := room_1) (c := 9) (As := [.int v192, .int v193, .int v194]) (rest := []) (st := [.int v194, .int v193, .int v192, rf E v1]) (c' := 86) (s' := 43889) C hE rfl (by decide) cal_X9_see ml_L_90 rfl ⟨(Nat.le_of_ble_eq_true rfl), (Nat.le_of_ble_eq_true rfl)⟩ ⟨(Nat.le_of_ble_eq_true rfl), (Nat.le_of_ble_eq_true rfl)⟩ dL_law_696 (okX9_see E (kL K) v1 v192 v193 v194 h8) rfl (Nat.le_of_ble_eq_true rfl) rfl rfl (fun v196 h195 eh195 => ?_)
    refine aw_aload_n (pc := 699) C dL_law_699 rfl 2 rfl ?_
    refine aw_aload_n (pc := 700) C dL_law_700 rfl 0 rfl ?_
    refine aw_iload_n (pc := 701) C dL_law_701 rfl 3 rfl ?_
    refine aw_iconst (pc := 702) (v := 1) C dL_law_702 (by decide) ?_
    refine aw_iadd (pc := 703) C dL_law_703 ?_
    refine aw_sload (pc := 704) C hX hbl hbA dL_law_704 (fun v197 ev197 => ?_)
    refine aw_aload_n (pc := 705) C dL_law_705 rfl 0 rfl ?_
    refine aw_iload_n (pc := 706) C dL_law_706 rfl 3 rfl ?_
    refine aw_iconst (pc := 707) (v := 2) C dL_law_707 (by decide) ?_
    refine aw_iadd (pc := 708) C dL_law_708 ?_
    refine aw_sload (pc := 709) C hX hbl hbA dL_law_709 (fun v198 ev198 => ?_)
    refine aw_aload_n (pc := 710) C dL_law_710 rfl 0 rfl ?_
    refine aw_iload_n (pc := 711) C dL_law_711 rfl 3 rfl ?_
    refine aw_iconst (pc := 712) (v := 3) C dL_law_712 (by decide) ?_
    refine aw_iadd (pc := 713) C dL_law_713 ?_
    refine aw_sload (pc := 714) C hX hbl hbA dL_law_714 (fun v199 ev199 => ?_)
    refine aw_callVI (pc := 715) (R := room_1) (c := 10) (As := [.int v197, .int v198, .int v199]) (rest := [.int v196]) (st := [.int v199, .int v198, .int v197, rf E v4, .int v196]) (c' := 86) (s' := 43889) C hE rfl (by decide) cal_X10_see ml_L_94 rfl ⟨(Nat.le_of_ble_eq_true rfl), (Nat.le_of_ble_eq_true rfl)⟩ ⟨(Nat.le_of_ble_eq_true rfl), (Nat.le_of_ble_eq_true rfl)⟩ dL_law_715 (okX10_see E (kL K) v4 v197 v198 v199 h195) rfl (Nat.le_of_ble_eq_true rfl) rfl rfl (fun v201 h200 eh200 => ?_)
    refine aw_icmp_eq (pc := 718) C 1201 dL_law_718 (by decide) (fun c203 => ?_) (fun c203 => ?_)
    · refine aw_iincN (pc := 1201) (L1 := [(0, .ref b), (1, rf E v1), (2, rf E v4)]) (k := 6) C dL_law_1201 3 rfl (by decide) (by decide) rfl (fun v202 ev202 => ?_)
      refine aw_goto (pc := 1204) C 18 dL_law_1204 (by decide) ?_
      exact aw_sub (L' := [(0, .ref b), (1, rf E v1), (2, rf E v4), (3, .int v202)]) [1, 2, 3, 0] rfl (ih10 (v202, h200))
    refine aw_iconst (pc := 721) (v := 0) C dL_law_721 (by decide) ?_
    exact aw_none
  refine aw_case 19 (fun c204 => ?_) (fun c204 => ?_)
  · refine aw_tableIn (pc := 33) C 19 723 c204 dL_law_33 (by decide) (by decide) rfl (by decide) ?_
    refine aw_aload_n (pc := 723) C dL_law_723 rfl 1 rfl ?_
    refine aw_aload_n (pc := 724) C dL_law_724 rfl 0 rfl ?_
    refine aw_iload_n (pc := 725) C dL_law_725 rfl 3 rfl ?_
    refine aw_iconst (pc := 726) (v := 1) C dL_law_726 (by decide) ?_
    refine aw_iadd (pc := 727) C dL_law_727 ?_
    refine aw_sload (pc := 728) C hX hbl hbA dL_law_728 (fun v205 ev205 => ?_)
    refine aw_aload_n (pc := 729) C dL_law_729 rfl 0 rfl ?_
    refine aw_iload_n (pc := 730) C dL_law_730 rfl 3 rfl ?_
    refine aw_iconst (pc := 731) (v := 2) C dL_law_731 (by decide) ?_
    refine aw_iadd (pc := 732) C dL_law_732 ?_
    refine aw_sload (pc := 733) C hX hbl hbA dL_law_733 (fun v206 ev206 => ?_)
    refine aw_callVI (pc := 734) (R := room_1) (c := 9) (As := [.int v205, .int v206]) (rest := []) (st := [.int v206, .int v205, rf E v1]) (c' := 86) (s' := 43889) C hE rfl (by decide) cal_X9_fits ml_L_95 rfl ⟨(Nat.le_of_ble_eq_true rfl), (Nat.le_of_ble_eq_true rfl)⟩ ⟨(Nat.le_of_ble_eq_true rfl), (Nat.le_of_ble_eq_true rfl)⟩ dL_law_734 (okX9_fits E (kL K) v1 v205 v206 h8) rfl (Nat.le_of_ble_eq_true rfl) rfl rfl (fun v208 h207 eh207 => ?_)
    refine aw_aload_n (pc := 737) C dL_law_737 rfl 2 rfl ?_
    refine aw_aload_n (pc := 738) C dL_law_738 rfl 0 rfl ?_
    refine aw_iload_n (pc := 739) C dL_law_739 rfl 3 rfl ?_
    refine aw_iconst (pc := 740) (v := 1) C dL_law_740 (by decide) ?_
    refine aw_iadd (pc := 741) C dL_law_741 ?_
    refine aw_sload (pc := 742) C hX hbl hbA dL_law_742 (fun v209 ev209 => ?_)
    refine aw_aload_n (pc := 743) C dL_law_743 rfl 0 rfl ?_
    refine aw_iload_n (pc := 744) C dL_law_744 rfl 3 rfl ?_
    refine aw_iconst (pc := 745) (v := 2) C dL_law_745 (by decide) ?_
    refine aw_iadd (pc := 746) C dL_law_746 ?_
    refine aw_sload (pc := 747) C hX hbl hbA dL_law_747 (fun v210 ev210 => ?_)
    refine aw_callVI (pc := 748) (R := room_1) (c := 10) (As := [.int v209, .int v210]) (rest := [.int v208]) (st := [.int v210, .int v209, rf E v4, .int v208]) (c' := 86) (s' := 43889) C hE rfl (by decide) cal_X10_fits ml_L_98 rfl ⟨(Nat.le_of_ble_eq_true rfl), (Nat.le_of_ble_eq_true rfl)⟩ ⟨(Nat.le_of_ble_eq_true rfl), (Nat.le_of_ble_eq_true rfl)⟩ dL_law_748 (okX10_fits E (kL K) v4 v209 v210 h207) rfl (Nat.le_of_ble_eq_true rfl) rfl rfl (fun v212 h211 eh211 => ?_)
    refine aw_icmp_eq (pc := 751) C 1201 dL_law_751 (by decide) (fun c214 => ?_) (fun c214 => ?_)
    · refine aw_iincN (pc := 1201) (L1 := [(0, .ref b), (1, rf E v1), (2, rf E v4)]) (k := 6) C dL_law_1201 3 rfl (by decide) (by decide) rfl (fun v213 ev213 => ?_)
      refine aw_goto (pc := 1204) C 18 dL_law_1204 (by decide) ?_
      exact aw_sub (L' := [(0, .ref b), (1, rf E v1), (2, rf E v4), (3, .int v213)]) [1, 2, 3, 0] rfl (ih10 (v213, h211))
    refine aw_iconst (pc := 754) (v := 0) C dL_law_754 (by decide) ?_
    exact aw_none
  refine aw_case 20 (fun c215 => ?_) (fun c215 => ?_)
  · refine aw_tableIn (pc := 33) C 20 756 c215 dL_law_33 (by decide) (by decide) rfl (by decide) ?_
    refine aw_aload_n (pc := 756) C dL_law_756 rfl 1 rfl ?_
    refine aw_aload_n (pc := 757) C dL_law_757 rfl 0 rfl ?_
    refine aw_iload_n (pc := 758) C dL_law_758 rfl 3 rfl ?_
    refine aw_iconst (pc := 759) (v := 1) C dL_law_759 (by decide) ?_
    refine aw_iadd (pc := 760) C dL_law_760 ?_
    refine aw_sload (pc := 761) C hX hbl hbA dL_law_761 (fun v216 ev216 => ?_)
    refine aw_callVJ (pc := 762) (R := room_1) (c := 9) (As := [.int v216]) (rest := []) (st := [.int v216, rf E v1]) (c' := 86) (s' := 43889) C hE rfl (by decide) cal_X9_odds ml_L_99 rfl ⟨(Nat.le_of_ble_eq_true rfl), (Nat.le_of_ble_eq_true rfl)⟩ ⟨(Nat.le_of_ble_eq_true rfl), (Nat.le_of_ble_eq_true rfl)⟩ dL_law_762 (okX9_odds E (kL K) v1 v216 h8) rfl (Nat.le_of_ble_eq_true rfl) rfl rfl (fun v218 h217 eh217 => ?_)
    refine aw_aload_n (pc := 765) C dL_law_765 rfl 2 rfl ?_
    refine aw_aload_n (pc := 766) C dL_law_766 rfl 0 rfl ?_
    refine aw_iload_n (pc := 767) C dL_law_767 rfl 3 rfl ?_
    refine aw_iconst (pc := 768) (v := 1) C dL_law_768 (by decide) ?_
    refine aw_iadd (pc := 769) C dL_law_769 ?_
    refine aw_sload (pc := 770) C hX hbl hbA dL_law_770 (fun v219 ev219 => ?_)
    refine aw_callVJ (pc := 771) (R := room_1) (c := 10) (As := [.int v219]) (rest := [.long v218]) (st := [.int v219, rf E v4, .long v218]) (c' := 86) (s' := 43889) C hE rfl (by decide) cal_X10_odds ml_L_103 rfl ⟨(Nat.le_of_ble_eq_true rfl), (Nat.le_of_ble_eq_true rfl)⟩ ⟨(Nat.le_of_ble_eq_true rfl), (Nat.le_of_ble_eq_true rfl)⟩ dL_law_771 (okX10_odds E (kL K) v4 v219 h217) rfl (Nat.le_of_ble_eq_true rfl) rfl rfl (fun v221 h220 eh220 => ?_)
    refine aw_lcmp (pc := 774) C dL_law_774 ?_
    refine aw_if_eq (pc := 775) C 1201 dL_law_775 (by decide) (fun c223 => ?_) (fun c223 => ?_)
    · refine aw_iincN (pc := 1201) (L1 := [(0, .ref b), (1, rf E v1), (2, rf E v4)]) (k := 6) C dL_law_1201 3 rfl (by decide) (by decide) rfl (fun v222 ev222 => ?_)
      refine aw_goto (pc := 1204) C 18 dL_law_1204 (by decide) ?_
      exact aw_sub (L' := [(0, .ref b), (1, rf E v1), (2, rf E v4), (3, .int v222)]) [1, 2, 3, 0] rfl (ih10 (v222, h220))
    refine aw_iconst (pc := 778) (v := 0) C dL_law_778 (by decide) ?_
    exact aw_none
  refine aw_case 21 (fun c224 => ?_) (fun c224 => ?_)
  · refine aw_tableIn (pc := 33) C 21 780 c224 dL_law_33 (by decide) (by decide) rfl (by decide) ?_
    refine aw_aload_n (pc := 780) C dL_law_780 rfl 1 rfl ?_
    refine aw_aload_n (pc := 781) C dL_law_781 rfl 0 rfl ?_
    refine aw_iload_n (pc := 782) C dL_law_782 rfl 3 rfl ?_
    refine aw_iconst (pc := 783) (v := 1) C dL_law_783 (by decide) ?_
    refine aw_iadd (pc := 784) C dL_law_784 ?_
    refine aw_sload (pc := 785) C hX hbl hbA dL_law_785 (fun v225 ev225 => ?_)
    refine aw_callVJ (pc := 786) (R := room_1) (c := 9) (As := [.int v225]) (rest := []) (st := [.int v225, rf E v1]) (c' := 86) (s' := 43889) C hE rfl (by decide) cal_X9_mean ml_L_104 rfl ⟨(Nat.le_of_ble_eq_true rfl), (Nat.le_of_ble_eq_true rfl)⟩ ⟨(Nat.le_of_ble_eq_true rfl), (Nat.le_of_ble_eq_true rfl)⟩ dL_law_786 (okX9_mean E (kL K) v1 v225 h8) rfl (Nat.le_of_ble_eq_true rfl) rfl rfl (fun v227 h226 eh226 => ?_)
    refine aw_aload_n (pc := 789) C dL_law_789 rfl 2 rfl ?_
    refine aw_aload_n (pc := 790) C dL_law_790 rfl 0 rfl ?_
    refine aw_iload_n (pc := 791) C dL_law_791 rfl 3 rfl ?_
    refine aw_iconst (pc := 792) (v := 1) C dL_law_792 (by decide) ?_
    refine aw_iadd (pc := 793) C dL_law_793 ?_
    refine aw_sload (pc := 794) C hX hbl hbA dL_law_794 (fun v228 ev228 => ?_)
    refine aw_callVJ (pc := 795) (R := room_1) (c := 10) (As := [.int v228]) (rest := [.long v227]) (st := [.int v228, rf E v4, .long v227]) (c' := 86) (s' := 43889) C hE rfl (by decide) cal_X10_mean ml_L_107 rfl ⟨(Nat.le_of_ble_eq_true rfl), (Nat.le_of_ble_eq_true rfl)⟩ ⟨(Nat.le_of_ble_eq_true rfl), (Nat.le_of_ble_eq_true rfl)⟩ dL_law_795 (okX10_mean E (kL K) v4 v228 h226) rfl (Nat.le_of_ble_eq_true rfl) rfl rfl (fun v230 h229 eh229 => ?_)
    refine aw_lcmp (pc := 798) C dL_law_798 ?_
    refine aw_if_eq (pc := 799) C 1201 dL_law_799 (by decide) (fun c232 => ?_) (fun c232 => ?_)
    · refine aw_iincN (pc := 1201) (L1 := [(0, .ref b), (1, rf E v1), (2, rf E v4)]) (k := 6) C dL_law_1201 3 rfl (by decide) (by decide) rfl (fun v231 ev231 => ?_)
      refine aw_goto (pc := 1204) C 18 dL_law_1204 (by decide) ?_
      exact aw_sub (L' := [(0, .ref b), (1, rf E v1), (2, rf E v4), (3, .int v231)]) [1, 2, 3, 0] rfl (ih10 (v231, h229))
    refine aw_iconst (pc := 802) (v := 0) C dL_law_802 (by decide) ?_
    exact aw_none
  refine aw_case 22 (fun c233 => ?_) (fun c233 => ?_)
  · refine aw_tableIn (pc := 33) C 22 804 c233 dL_law_33 (by decide) (by decide) rfl (by decide) ?_
    refine aw_aload_n (pc := 804) C dL_law_804 rfl 1 rfl ?_
    refine aw_aload_n (pc := 805) C dL_law_805 rfl 0 rfl ?_
    refine aw_iload_n (pc := 806) C dL_law_806 rfl 3 rfl ?_
    refine aw_iconst (pc := 807) (v := 1) C dL_law_807 (by decide) ?_
    refine aw_iadd (pc := 808) C dL_law_808 ?_
    refine aw_sload (pc := 809) C hX hbl hbA dL_law_809 (fun v234 ev234 => ?_)
    refine aw_aload_n (pc := 810) C dL_law_810 rfl 0 rfl ?_
    refine aw_iload_n (pc := 811) C dL_law_811 rfl 3 rfl ?_
    refine aw_iconst (pc := 812) (v := 2) C dL_law_812 (by decide) ?_
    refine aw_iadd (pc := 813) C dL_law_813 ?_
    refine aw_sload (pc := 814) C hX hbl hbA dL_law_814 (fun v235 ev235 => ?_)
    refine aw_callVI (pc := 815) (R := room_1) (c := 9) (As := [.int v234, .int v235]) (rest := []) (st := [.int v235, .int v234, rf E v1]) (c' := 86) (s' := 43889) C hE rfl (by decide) cal_X9_event ml_L_108 rfl ⟨(Nat.le_of_ble_eq_true rfl), (Nat.le_of_ble_eq_true rfl)⟩ ⟨(Nat.le_of_ble_eq_true rfl), (Nat.le_of_ble_eq_true rfl)⟩ dL_law_815 (okX9_event E (kL K) v1 v234 v235 h8) rfl (Nat.le_of_ble_eq_true rfl) rfl rfl (fun v237 h236 eh236 => ?_)
    refine aw_aload_n (pc := 818) C dL_law_818 rfl 2 rfl ?_
    refine aw_aload_n (pc := 819) C dL_law_819 rfl 0 rfl ?_
    refine aw_iload_n (pc := 820) C dL_law_820 rfl 3 rfl ?_
    refine aw_iconst (pc := 821) (v := 1) C dL_law_821 (by decide) ?_
    refine aw_iadd (pc := 822) C dL_law_822 ?_
    refine aw_sload (pc := 823) C hX hbl hbA dL_law_823 (fun v238 ev238 => ?_)
    refine aw_aload_n (pc := 824) C dL_law_824 rfl 0 rfl ?_
    refine aw_iload_n (pc := 825) C dL_law_825 rfl 3 rfl ?_
    refine aw_iconst (pc := 826) (v := 2) C dL_law_826 (by decide) ?_
    refine aw_iadd (pc := 827) C dL_law_827 ?_
    refine aw_sload (pc := 828) C hX hbl hbA dL_law_828 (fun v239 ev239 => ?_)
    refine aw_callVI (pc := 829) (R := room_1) (c := 10) (As := [.int v238, .int v239]) (rest := [.int v237]) (st := [.int v239, .int v238, rf E v4, .int v237]) (c' := 86) (s' := 43889) C hE rfl (by decide) cal_X10_event ml_L_111 rfl ⟨(Nat.le_of_ble_eq_true rfl), (Nat.le_of_ble_eq_true rfl)⟩ ⟨(Nat.le_of_ble_eq_true rfl), (Nat.le_of_ble_eq_true rfl)⟩ dL_law_829 (okX10_event E (kL K) v4 v238 v239 h236) rfl (Nat.le_of_ble_eq_true rfl) rfl rfl (fun v241 h240 eh240 => ?_)
    refine aw_icmp_eq (pc := 832) C 1201 dL_law_832 (by decide) (fun c243 => ?_) (fun c243 => ?_)
    · refine aw_iincN (pc := 1201) (L1 := [(0, .ref b), (1, rf E v1), (2, rf E v4)]) (k := 6) C dL_law_1201 3 rfl (by decide) (by decide) rfl (fun v242 ev242 => ?_)
      refine aw_goto (pc := 1204) C 18 dL_law_1204 (by decide) ?_
      exact aw_sub (L' := [(0, .ref b), (1, rf E v1), (2, rf E v4), (3, .int v242)]) [1, 2, 3, 0] rfl (ih10 (v242, h240))
    refine aw_iconst (pc := 835) (v := 0) C dL_law_835 (by decide) ?_
    exact aw_none
  refine aw_case 23 (fun c244 => ?_) (fun c244 => ?_)
  · refine aw_tableIn (pc := 33) C 23 837 c244 dL_law_33 (by decide) (by decide) rfl (by decide) ?_
    refine aw_aload_n (pc := 837) C dL_law_837 rfl 1 rfl ?_
    refine aw_aload_n (pc := 838) C dL_law_838 rfl 0 rfl ?_
    refine aw_iload_n (pc := 839) C dL_law_839 rfl 3 rfl ?_
    refine aw_iconst (pc := 840) (v := 1) C dL_law_840 (by decide) ?_
    refine aw_iadd (pc := 841) C dL_law_841 ?_
    refine aw_sload (pc := 842) C hX hbl hbA dL_law_842 (fun v245 ev245 => ?_)
    refine aw_callVI (pc := 843) (R := room_1) (c := 9) (As := [.int v245]) (rest := []) (st := [.int v245, rf E v1]) (c' := 86) (s' := 43889) C hE rfl (by decide) cal_X9_after ml_L_112 rfl ⟨(Nat.le_of_ble_eq_true rfl), (Nat.le_of_ble_eq_true rfl)⟩ ⟨(Nat.le_of_ble_eq_true rfl), (Nat.le_of_ble_eq_true rfl)⟩ dL_law_843 (okX9_after E (kL K) v1 v245 h8) rfl (Nat.le_of_ble_eq_true rfl) rfl rfl (fun v247 h246 eh246 => ?_)
    refine aw_aload_n (pc := 846) C dL_law_846 rfl 2 rfl ?_
    refine aw_aload_n (pc := 847) C dL_law_847 rfl 0 rfl ?_
    refine aw_iload_n (pc := 848) C dL_law_848 rfl 3 rfl ?_
    refine aw_iconst (pc := 849) (v := 1) C dL_law_849 (by decide) ?_
    refine aw_iadd (pc := 850) C dL_law_850 ?_
    refine aw_sload (pc := 851) C hX hbl hbA dL_law_851 (fun v248 ev248 => ?_)
    refine aw_callVI (pc := 852) (R := room_1) (c := 10) (As := [.int v248]) (rest := [.int v247]) (st := [.int v248, rf E v4, .int v247]) (c' := 86) (s' := 43889) C hE rfl (by decide) cal_X10_after ml_L_115 rfl ⟨(Nat.le_of_ble_eq_true rfl), (Nat.le_of_ble_eq_true rfl)⟩ ⟨(Nat.le_of_ble_eq_true rfl), (Nat.le_of_ble_eq_true rfl)⟩ dL_law_852 (okX10_after E (kL K) v4 v248 h246) rfl (Nat.le_of_ble_eq_true rfl) rfl rfl (fun v250 h249 eh249 => ?_)
    refine aw_icmp_eq (pc := 855) C 1201 dL_law_855 (by decide) (fun c252 => ?_) (fun c252 => ?_)
    · refine aw_iincN (pc := 1201) (L1 := [(0, .ref b), (1, rf E v1), (2, rf E v4)]) (k := 6) C dL_law_1201 3 rfl (by decide) (by decide) rfl (fun v251 ev251 => ?_)
      refine aw_goto (pc := 1204) C 18 dL_law_1204 (by decide) ?_
      exact aw_sub (L' := [(0, .ref b), (1, rf E v1), (2, rf E v4), (3, .int v251)]) [1, 2, 3, 0] rfl (ih10 (v251, h249))
    refine aw_iconst (pc := 858) (v := 0) C dL_law_858 (by decide) ?_
    exact aw_none
  refine aw_case 24 (fun c253 => ?_) (fun c253 => ?_)
  · refine aw_tableIn (pc := 33) C 24 860 c253 dL_law_33 (by decide) (by decide) rfl (by decide) ?_
    refine aw_aload_n (pc := 860) C dL_law_860 rfl 1 rfl ?_
    refine aw_aload_n (pc := 861) C dL_law_861 rfl 0 rfl ?_
    refine aw_iload_n (pc := 862) C dL_law_862 rfl 3 rfl ?_
    refine aw_iconst (pc := 863) (v := 1) C dL_law_863 (by decide) ?_
    refine aw_iadd (pc := 864) C dL_law_864 ?_
    refine aw_sload (pc := 865) C hX hbl hbA dL_law_865 (fun v254 ev254 => ?_)
    refine aw_aload_n (pc := 866) C dL_law_866 rfl 0 rfl ?_
    refine aw_iload_n (pc := 867) C dL_law_867 rfl 3 rfl ?_
    refine aw_iconst (pc := 868) (v := 2) C dL_law_868 (by decide) ?_
    refine aw_iadd (pc := 869) C dL_law_869 ?_
    refine aw_sload (pc := 870) C hX hbl hbA dL_law_870 (fun v255 ev255 => ?_)
    refine aw_callVI (pc := 871) (R := room_1) (c := 9) (As := [.int v254, .int v255]) (rest := []) (st := [.int v255, .int v254, rf E v1]) (c' := 86) (s' := 43889) C hE rfl (by decide) cal_X9_book ml_L_116 rfl ⟨(Nat.le_of_ble_eq_true rfl), (Nat.le_of_ble_eq_true rfl)⟩ ⟨(Nat.le_of_ble_eq_true rfl), (Nat.le_of_ble_eq_true rfl)⟩ dL_law_871 (okX9_book E (kL K) v1 v254 v255 h8) rfl (Nat.le_of_ble_eq_true rfl) rfl rfl (fun v257 h256 eh256 => ?_)
    refine aw_aload_n (pc := 874) C dL_law_874 rfl 2 rfl ?_
    refine aw_aload_n (pc := 875) C dL_law_875 rfl 0 rfl ?_
    refine aw_iload_n (pc := 876) C dL_law_876 rfl 3 rfl ?_
    refine aw_iconst (pc := 877) (v := 1) C dL_law_877 (by decide) ?_
    refine aw_iadd (pc := 878) C dL_law_878 ?_
    refine aw_sload (pc := 879) C hX hbl hbA dL_law_879 (fun v258 ev258 => ?_)
    refine aw_aload_n (pc := 880) C dL_law_880 rfl 0 rfl ?_
    refine aw_iload_n (pc := 881) C dL_law_881 rfl 3 rfl ?_
    refine aw_iconst (pc := 882) (v := 2) C dL_law_882 (by decide) ?_
    refine aw_iadd (pc := 883) C dL_law_883 ?_
    refine aw_sload (pc := 884) C hX hbl hbA dL_law_884 (fun v259 ev259 => ?_)
    refine aw_callVI (pc := 885) (R := room_1) (c := 10) (As := [.int v258, .int v259]) (rest := [.int v257]) (st := [.int v259, .int v258, rf E v4, .int v257]) (c' := 86) (s' := 43889) C hE rfl (by decide) cal_X10_book ml_L_119 rfl ⟨(Nat.le_of_ble_eq_true rfl), (Nat.le_of_ble_eq_true rfl)⟩ ⟨(Nat.le_of_ble_eq_true rfl), (Nat.le_of_ble_eq_true rfl)⟩ dL_law_885 (okX10_book E (kL K) v4 v258 v259 h256) rfl (Nat.le_of_ble_eq_true rfl) rfl rfl (fun v261 h260 eh260 => ?_)
    refine aw_icmp_eq (pc := 888) C 1201 dL_law_888 (by decide) (fun c263 => ?_) (fun c263 => ?_)
    · refine aw_iincN (pc := 1201) (L1 := [(0, .ref b), (1, rf E v1), (2, rf E v4)]) (k := 6) C dL_law_1201 3 rfl (by decide) (by decide) rfl (fun v262 ev262 => ?_)
      refine aw_goto (pc := 1204) C 18 dL_law_1204 (by decide) ?_
      exact aw_sub (L' := [(0, .ref b), (1, rf E v1), (2, rf E v4), (3, .int v262)]) [1, 2, 3, 0] rfl (ih10 (v262, h260))
    refine aw_iconst (pc := 891) (v := 0) C dL_law_891 (by decide) ?_
    exact aw_none
  refine aw_case 25 (fun c264 => ?_) (fun c264 => ?_)
  · refine aw_tableIn (pc := 33) C 25 893 c264 dL_law_33 (by decide) (by decide) rfl (by decide) ?_
    refine aw_aload_n (pc := 893) C dL_law_893 rfl 1 rfl ?_
    refine aw_callVI (pc := 894) (R := room_1) (c := 9) (As := []) (rest := []) (st := [rf E v1]) (c' := 86) (s' := 43889) C hE rfl (by decide) cal_X9_looked ml_L_120 rfl ⟨(Nat.le_of_ble_eq_true rfl), (Nat.le_of_ble_eq_true rfl)⟩ ⟨(Nat.le_of_ble_eq_true rfl), (Nat.le_of_ble_eq_true rfl)⟩ dL_law_894 (okX9_looked E (kL K) v1 h8) rfl (Nat.le_of_ble_eq_true rfl) rfl rfl (fun v266 h265 eh265 => ?_)
    refine aw_aload_n (pc := 897) C dL_law_897 rfl 2 rfl ?_
    refine aw_callVI (pc := 898) (R := room_1) (c := 10) (As := []) (rest := [.int v266]) (st := [rf E v4, .int v266]) (c' := 86) (s' := 43889) C hE rfl (by decide) cal_X10_looked ml_L_123 rfl ⟨(Nat.le_of_ble_eq_true rfl), (Nat.le_of_ble_eq_true rfl)⟩ ⟨(Nat.le_of_ble_eq_true rfl), (Nat.le_of_ble_eq_true rfl)⟩ dL_law_898 (okX10_looked E (kL K) v4 h265) rfl (Nat.le_of_ble_eq_true rfl) rfl rfl (fun v268 h267 eh267 => ?_)
    refine aw_icmp_eq (pc := 901) C 1201 dL_law_901 (by decide) (fun c270 => ?_) (fun c270 => ?_)
    · refine aw_iincN (pc := 1201) (L1 := [(0, .ref b), (1, rf E v1), (2, rf E v4)]) (k := 6) C dL_law_1201 3 rfl (by decide) (by decide) rfl (fun v269 ev269 => ?_)
      refine aw_goto (pc := 1204) C 18 dL_law_1204 (by decide) ?_
      exact aw_sub (L' := [(0, .ref b), (1, rf E v1), (2, rf E v4), (3, .int v269)]) [1, 2, 3, 0] rfl (ih10 (v269, h267))
    refine aw_iconst (pc := 904) (v := 0) C dL_law_904 (by decide) ?_
    exact aw_none
  refine aw_case 26 (fun c271 => ?_) (fun c271 => ?_)
  · refine aw_tableIn (pc := 33) C 26 906 c271 dL_law_33 (by decide) (by decide) rfl (by decide) ?_
    refine aw_aload_n (pc := 906) C dL_law_906 rfl 1 rfl ?_
    refine aw_aload_n (pc := 907) C dL_law_907 rfl 0 rfl ?_
    refine aw_iload_n (pc := 908) C dL_law_908 rfl 3 rfl ?_
    refine aw_iconst (pc := 909) (v := 1) C dL_law_909 (by decide) ?_
    refine aw_iadd (pc := 910) C dL_law_910 ?_
    refine aw_sload (pc := 911) C hX hbl hbA dL_law_911 (fun v272 ev272 => ?_)
    refine aw_aload_n (pc := 912) C dL_law_912 rfl 0 rfl ?_
    refine aw_iload_n (pc := 913) C dL_law_913 rfl 3 rfl ?_
    refine aw_iconst (pc := 914) (v := 2) C dL_law_914 (by decide) ?_
    refine aw_iadd (pc := 915) C dL_law_915 ?_
    refine aw_sload (pc := 916) C hX hbl hbA dL_law_916 (fun v273 ev273 => ?_)
    refine aw_callVI (pc := 917) (R := room_1) (c := 9) (As := [.int v272, .int v273]) (rest := []) (st := [.int v273, .int v272, rf E v1]) (c' := 86) (s' := 43889) C hE rfl (by decide) cal_X9_judge ml_L_124 rfl ⟨(Nat.le_of_ble_eq_true rfl), (Nat.le_of_ble_eq_true rfl)⟩ ⟨(Nat.le_of_ble_eq_true rfl), (Nat.le_of_ble_eq_true rfl)⟩ dL_law_917 (okX9_judge E (kL K) v1 v272 v273 h8) rfl (Nat.le_of_ble_eq_true rfl) rfl rfl (fun v275 h274 eh274 => ?_)
    refine aw_aload_n (pc := 920) C dL_law_920 rfl 2 rfl ?_
    refine aw_aload_n (pc := 921) C dL_law_921 rfl 0 rfl ?_
    refine aw_iload_n (pc := 922) C dL_law_922 rfl 3 rfl ?_
    refine aw_iconst (pc := 923) (v := 1) C dL_law_923 (by decide) ?_
    refine aw_iadd (pc := 924) C dL_law_924 ?_
    refine aw_sload (pc := 925) C hX hbl hbA dL_law_925 (fun v276 ev276 => ?_)
    refine aw_aload_n (pc := 926) C dL_law_926 rfl 0 rfl ?_
    refine aw_iload_n (pc := 927) C dL_law_927 rfl 3 rfl ?_
    refine aw_iconst (pc := 928) (v := 2) C dL_law_928 (by decide) ?_
    refine aw_iadd (pc := 929) C dL_law_929 ?_
    refine aw_sload (pc := 930) C hX hbl hbA dL_law_930 (fun v277 ev277 => ?_)
    refine aw_callVI (pc := 931) (R := room_1) (c := 10) (As := [.int v276, .int v277]) (rest := [.int v275]) (st := [.int v277, .int v276, rf E v4, .int v275]) (c' := 86) (s' := 43889) C hE rfl (by decide) cal_X10_judge ml_L_127 rfl ⟨(Nat.le_of_ble_eq_true rfl), (Nat.le_of_ble_eq_true rfl)⟩ ⟨(Nat.le_of_ble_eq_true rfl), (Nat.le_of_ble_eq_true rfl)⟩ dL_law_931 (okX10_judge E (kL K) v4 v276 v277 h274) rfl (Nat.le_of_ble_eq_true rfl) rfl rfl (fun v279 h278 eh278 => ?_)
    refine aw_icmp_eq (pc := 934) C 1201 dL_law_934 (by decide) (fun c281 => ?_) (fun c281 => ?_)
    · refine aw_iincN (pc := 1201) (L1 := [(0, .ref b), (1, rf E v1), (2, rf E v4)]) (k := 6) C dL_law_1201 3 rfl (by decide) (by decide) rfl (fun v280 ev280 => ?_)
      refine aw_goto (pc := 1204) C 18 dL_law_1204 (by decide) ?_
      exact aw_sub (L' := [(0, .ref b), (1, rf E v1), (2, rf E v4), (3, .int v280)]) [1, 2, 3, 0] rfl (ih10 (v280, h278))
    refine aw_iconst (pc := 937) (v := 0) C dL_law_937 (by decide) ?_
    exact aw_none
  refine aw_case 27 (fun c282 => ?_) (fun c282 => ?_)
  · refine aw_tableIn (pc := 33) C 27 939 c282 dL_law_33 (by decide) (by decide) rfl (by decide) ?_
    refine aw_aload_n (pc := 939) C dL_law_939 rfl 1 rfl ?_
    refine aw_callVI (pc := 940) (R := room_1) (c := 9) (As := []) (rest := []) (st := [rf E v1]) (c' := 86) (s' := 43889) C hE rfl (by decide) cal_X9_image ml_L_128 rfl ⟨(Nat.le_of_ble_eq_true rfl), (Nat.le_of_ble_eq_true rfl)⟩ ⟨(Nat.le_of_ble_eq_true rfl), (Nat.le_of_ble_eq_true rfl)⟩ dL_law_940 (okX9_image E (kL K) v1 h8) rfl (Nat.le_of_ble_eq_true rfl) rfl rfl (fun v284 h283 eh283 => ?_)
    refine aw_aload_n (pc := 943) C dL_law_943 rfl 2 rfl ?_
    refine aw_callVI (pc := 944) (R := room_1) (c := 10) (As := []) (rest := [.int v284]) (st := [rf E v4, .int v284]) (c' := 86) (s' := 43889) C hE rfl (by decide) cal_X10_image ml_L_131 rfl ⟨(Nat.le_of_ble_eq_true rfl), (Nat.le_of_ble_eq_true rfl)⟩ ⟨(Nat.le_of_ble_eq_true rfl), (Nat.le_of_ble_eq_true rfl)⟩ dL_law_944 (okX10_image E (kL K) v4 h283) rfl (Nat.le_of_ble_eq_true rfl) rfl rfl (fun v286 h285 eh285 => ?_)
    refine aw_icmp_eq (pc := 947) C 1201 dL_law_947 (by decide) (fun c288 => ?_) (fun c288 => ?_)
    · refine aw_iincN (pc := 1201) (L1 := [(0, .ref b), (1, rf E v1), (2, rf E v4)]) (k := 6) C dL_law_1201 3 rfl (by decide) (by decide) rfl (fun v287 ev287 => ?_)
      refine aw_goto (pc := 1204) C 18 dL_law_1204 (by decide) ?_
      exact aw_sub (L' := [(0, .ref b), (1, rf E v1), (2, rf E v4), (3, .int v287)]) [1, 2, 3, 0] rfl (ih10 (v287, h285))
    refine aw_iconst (pc := 950) (v := 0) C dL_law_950 (by decide) ?_
    exact aw_none
  refine aw_case 28 (fun c289 => ?_) (fun c289 => ?_)
  · refine aw_tableIn (pc := 33) C 28 952 c289 dL_law_33 (by decide) (by decide) rfl (by decide) ?_
    refine aw_aload_n (pc := 952) C dL_law_952 rfl 1 rfl ?_
    refine aw_callVI (pc := 953) (R := room_1) (c := 9) (As := []) (rest := []) (st := [rf E v1]) (c' := 86) (s' := 43889) C hE rfl (by decide) cal_X9_undo ml_L_132 rfl ⟨(Nat.le_of_ble_eq_true rfl), (Nat.le_of_ble_eq_true rfl)⟩ ⟨(Nat.le_of_ble_eq_true rfl), (Nat.le_of_ble_eq_true rfl)⟩ dL_law_953 (okX9_undo E (kL K) v1 h8) rfl (Nat.le_of_ble_eq_true rfl) rfl rfl (fun v291 h290 eh290 => ?_)
    refine aw_aload_n (pc := 956) C dL_law_956 rfl 2 rfl ?_
    refine aw_callVI (pc := 957) (R := room_1) (c := 10) (As := []) (rest := [.int v291]) (st := [rf E v4, .int v291]) (c' := 86) (s' := 43889) C hE rfl (by decide) cal_X10_undo ml_L_135 rfl ⟨(Nat.le_of_ble_eq_true rfl), (Nat.le_of_ble_eq_true rfl)⟩ ⟨(Nat.le_of_ble_eq_true rfl), (Nat.le_of_ble_eq_true rfl)⟩ dL_law_957 (okX10_undo E (kL K) v4 h290) rfl (Nat.le_of_ble_eq_true rfl) rfl rfl (fun v293 h292 eh292 => ?_)
    refine aw_icmp_eq (pc := 960) C 1201 dL_law_960 (by decide) (fun c295 => ?_) (fun c295 => ?_)
    · refine aw_iincN (pc := 1201) (L1 := [(0, .ref b), (1, rf E v1), (2, rf E v4)]) (k := 6) C dL_law_1201 3 rfl (by decide) (by decide) rfl (fun v294 ev294 => ?_)
      refine aw_goto (pc := 1204) C 18 dL_law_1204 (by decide) ?_
      exact aw_sub (L' := [(0, .ref b), (1, rf E v1), (2, rf E v4), (3, .int v294)]) [1, 2, 3, 0] rfl (ih10 (v294, h292))
    refine aw_iconst (pc := 963) (v := 0) C dL_law_963 (by decide) ?_
    exact aw_none
  refine aw_case 29 (fun c296 => ?_) (fun c296 => ?_)
  · refine aw_tableIn (pc := 33) C 29 965 c296 dL_law_33 (by decide) (by decide) rfl (by decide) ?_
    refine aw_aload_n (pc := 965) C dL_law_965 rfl 1 rfl ?_
    refine aw_aload_n (pc := 966) C dL_law_966 rfl 0 rfl ?_
    refine aw_iload_n (pc := 967) C dL_law_967 rfl 3 rfl ?_
    refine aw_iconst (pc := 968) (v := 1) C dL_law_968 (by decide) ?_
    refine aw_iadd (pc := 969) C dL_law_969 ?_
    refine aw_sload (pc := 970) C hX hbl hbA dL_law_970 (fun v297 ev297 => ?_)
    refine aw_callVI (pc := 971) (R := room_1) (c := 9) (As := [.int v297]) (rest := []) (st := [.int v297, rf E v1]) (c' := 86) (s' := 43889) C hE rfl (by decide) cal_X9_count ml_L_136 rfl ⟨(Nat.le_of_ble_eq_true rfl), (Nat.le_of_ble_eq_true rfl)⟩ ⟨(Nat.le_of_ble_eq_true rfl), (Nat.le_of_ble_eq_true rfl)⟩ dL_law_971 (okX9_count E (kL K) v1 v297 h8) rfl (Nat.le_of_ble_eq_true rfl) rfl rfl (fun v299 h298 eh298 => ?_)
    refine aw_aload_n (pc := 974) C dL_law_974 rfl 2 rfl ?_
    refine aw_aload_n (pc := 975) C dL_law_975 rfl 0 rfl ?_
    refine aw_iload_n (pc := 976) C dL_law_976 rfl 3 rfl ?_
    refine aw_iconst (pc := 977) (v := 1) C dL_law_977 (by decide) ?_
    refine aw_iadd (pc := 978) C dL_law_978 ?_
    refine aw_sload (pc := 979) C hX hbl hbA dL_law_979 (fun v300 ev300 => ?_)
    refine aw_callVI (pc := 980) (R := room_1) (c := 10) (As := [.int v300]) (rest := [.int v299]) (st := [.int v300, rf E v4, .int v299]) (c' := 86) (s' := 43889) C hE rfl (by decide) cal_X10_count ml_L_139 rfl ⟨(Nat.le_of_ble_eq_true rfl), (Nat.le_of_ble_eq_true rfl)⟩ ⟨(Nat.le_of_ble_eq_true rfl), (Nat.le_of_ble_eq_true rfl)⟩ dL_law_980 (okX10_count E (kL K) v4 v300 h298) rfl (Nat.le_of_ble_eq_true rfl) rfl rfl (fun v302 h301 eh301 => ?_)
    refine aw_icmp_eq (pc := 983) C 1201 dL_law_983 (by decide) (fun c304 => ?_) (fun c304 => ?_)
    · refine aw_iincN (pc := 1201) (L1 := [(0, .ref b), (1, rf E v1), (2, rf E v4)]) (k := 6) C dL_law_1201 3 rfl (by decide) (by decide) rfl (fun v303 ev303 => ?_)
      refine aw_goto (pc := 1204) C 18 dL_law_1204 (by decide) ?_
      exact aw_sub (L' := [(0, .ref b), (1, rf E v1), (2, rf E v4), (3, .int v303)]) [1, 2, 3, 0] rfl (ih10 (v303, h301))
    refine aw_iconst (pc := 986) (v := 0) C dL_law_986 (by decide) ?_
    exact aw_none
  refine aw_case 30 (fun c305 => ?_) (fun c305 => ?_)
  · refine aw_tableIn (pc := 33) C 30 988 c305 dL_law_33 (by decide) (by decide) rfl (by decide) ?_
    refine aw_aload_n (pc := 988) C dL_law_988 rfl 1 rfl ?_
    refine aw_aload_n (pc := 989) C dL_law_989 rfl 0 rfl ?_
    refine aw_iload_n (pc := 990) C dL_law_990 rfl 3 rfl ?_
    refine aw_iconst (pc := 991) (v := 1) C dL_law_991 (by decide) ?_
    refine aw_iadd (pc := 992) C dL_law_992 ?_
    refine aw_sload (pc := 993) C hX hbl hbA dL_law_993 (fun v306 ev306 => ?_)
    refine aw_aload_n (pc := 994) C dL_law_994 rfl 0 rfl ?_
    refine aw_iload_n (pc := 995) C dL_law_995 rfl 3 rfl ?_
    refine aw_iconst (pc := 996) (v := 2) C dL_law_996 (by decide) ?_
    refine aw_iadd (pc := 997) C dL_law_997 ?_
    refine aw_sload (pc := 998) C hX hbl hbA dL_law_998 (fun v307 ev307 => ?_)
    refine aw_aload_n (pc := 999) C dL_law_999 rfl 0 rfl ?_
    refine aw_iload_n (pc := 1000) C dL_law_1000 rfl 3 rfl ?_
    refine aw_iconst (pc := 1001) (v := 3) C dL_law_1001 (by decide) ?_
    refine aw_iadd (pc := 1002) C dL_law_1002 ?_
    refine aw_sload (pc := 1003) C hX hbl hbA dL_law_1003 (fun v308 ev308 => ?_)
    refine aw_callVI (pc := 1004) (R := room_1) (c := 9) (As := [.int v306, .int v307, .int v308]) (rest := []) (st := [.int v308, .int v307, .int v306, rf E v1]) (c' := 86) (s' := 43889) C hE rfl (by decide) cal_X9_tape ml_L_140 rfl ⟨(Nat.le_of_ble_eq_true rfl), (Nat.le_of_ble_eq_true rfl)⟩ ⟨(Nat.le_of_ble_eq_true rfl), (Nat.le_of_ble_eq_true rfl)⟩ dL_law_1004 (okX9_tape E (kL K) v1 v306 v307 v308 h8) rfl (Nat.le_of_ble_eq_true rfl) rfl rfl (fun v310 h309 eh309 => ?_)
    refine aw_aload_n (pc := 1007) C dL_law_1007 rfl 2 rfl ?_
    refine aw_aload_n (pc := 1008) C dL_law_1008 rfl 0 rfl ?_
    refine aw_iload_n (pc := 1009) C dL_law_1009 rfl 3 rfl ?_
    refine aw_iconst (pc := 1010) (v := 1) C dL_law_1010 (by decide) ?_
    refine aw_iadd (pc := 1011) C dL_law_1011 ?_
    refine aw_sload (pc := 1012) C hX hbl hbA dL_law_1012 (fun v311 ev311 => ?_)
    refine aw_aload_n (pc := 1013) C dL_law_1013 rfl 0 rfl ?_
    refine aw_iload_n (pc := 1014) C dL_law_1014 rfl 3 rfl ?_
    refine aw_iconst (pc := 1015) (v := 2) C dL_law_1015 (by decide) ?_
    refine aw_iadd (pc := 1016) C dL_law_1016 ?_
    refine aw_sload (pc := 1017) C hX hbl hbA dL_law_1017 (fun v312 ev312 => ?_)
    refine aw_aload_n (pc := 1018) C dL_law_1018 rfl 0 rfl ?_
    refine aw_iload_n (pc := 1019) C dL_law_1019 rfl 3 rfl ?_
    refine aw_iconst (pc := 1020) (v := 3) C dL_law_1020 (by decide) ?_
    refine aw_iadd (pc := 1021) C dL_law_1021 ?_
    refine aw_sload (pc := 1022) C hX hbl hbA dL_law_1022 (fun v313 ev313 => ?_)
    refine aw_callVI (pc := 1023) (R := room_1) (c := 10) (As := [.int v311, .int v312, .int v313]) (rest := [.int v310]) (st := [.int v313, .int v312, .int v311, rf E v4, .int v310]) (c' := 86) (s' := 43889) C hE rfl (by decide) cal_X10_tape ml_L_143 rfl ⟨(Nat.le_of_ble_eq_true rfl), (Nat.le_of_ble_eq_true rfl)⟩ ⟨(Nat.le_of_ble_eq_true rfl), (Nat.le_of_ble_eq_true rfl)⟩ dL_law_1023 (okX10_tape E (kL K) v4 v311 v312 v313 h309) rfl (Nat.le_of_ble_eq_true rfl) rfl rfl (fun v315 h314 eh314 => ?_)
    refine aw_icmp_eq (pc := 1026) C 1201 dL_law_1026 (by decide) (fun c317 => ?_) (fun c317 => ?_)
    · refine aw_iincN (pc := 1201) (L1 := [(0, .ref b), (1, rf E v1), (2, rf E v4)]) (k := 6) C dL_law_1201 3 rfl (by decide) (by decide) rfl (fun v316 ev316 => ?_)
      refine aw_goto (pc := 1204) C 18 dL_law_1204 (by decide) ?_
      exact aw_sub (L' := [(0, .ref b), (1, rf E v1), (2, rf E v4), (3, .int v316)]) [1, 2, 3, 0] rfl (ih10 (v316, h314))
    refine aw_iconst (pc := 1029) (v := 0) C dL_law_1029 (by decide) ?_
    exact aw_none
  refine aw_case 31 (fun c318 => ?_) (fun c318 => ?_)
  · refine aw_tableIn (pc := 33) C 31 1031 c318 dL_law_33 (by decide) (by decide) rfl (by decide) ?_
    refine aw_aload_n (pc := 1031) C dL_law_1031 rfl 1 rfl ?_
    refine aw_aload_n (pc := 1032) C dL_law_1032 rfl 0 rfl ?_
    refine aw_iload_n (pc := 1033) C dL_law_1033 rfl 3 rfl ?_
    refine aw_iconst (pc := 1034) (v := 1) C dL_law_1034 (by decide) ?_
    refine aw_iadd (pc := 1035) C dL_law_1035 ?_
    refine aw_sload (pc := 1036) C hX hbl hbA dL_law_1036 (fun v319 ev319 => ?_)
    refine aw_aload_n (pc := 1037) C dL_law_1037 rfl 0 rfl ?_
    refine aw_iload_n (pc := 1038) C dL_law_1038 rfl 3 rfl ?_
    refine aw_iconst (pc := 1039) (v := 2) C dL_law_1039 (by decide) ?_
    refine aw_iadd (pc := 1040) C dL_law_1040 ?_
    refine aw_sload (pc := 1041) C hX hbl hbA dL_law_1041 (fun v320 ev320 => ?_)
    refine aw_aload_n (pc := 1042) C dL_law_1042 rfl 0 rfl ?_
    refine aw_iload_n (pc := 1043) C dL_law_1043 rfl 3 rfl ?_
    refine aw_iconst (pc := 1044) (v := 3) C dL_law_1044 (by decide) ?_
    refine aw_iadd (pc := 1045) C dL_law_1045 ?_
    refine aw_sload (pc := 1046) C hX hbl hbA dL_law_1046 (fun v321 ev321 => ?_)
    refine aw_i2l (pc := 1047) C dL_law_1047 ?_
    refine aw_bipush (pc := 1048) (v := 32) C dL_law_1048 (by decide) ?_
    refine aw_lshl (pc := 1050) C dL_law_1050 ?_
    refine aw_aload_n (pc := 1051) C dL_law_1051 rfl 0 rfl ?_
    refine aw_iload_n (pc := 1052) C dL_law_1052 rfl 3 rfl ?_
    refine aw_iconst (pc := 1053) (v := 4) C dL_law_1053 (by decide) ?_
    refine aw_iadd (pc := 1054) C dL_law_1054 ?_
    refine aw_sload (pc := 1055) C hX hbl hbA dL_law_1055 (fun v322 ev322 => ?_)
    refine aw_i2l (pc := 1056) C dL_law_1056 ?_
    refine aw_ldc2 (pc := 1057) (v := 4294967295) C kc_L_144 dL_law_1057 ?_
    refine aw_land (pc := 1060) C dL_law_1060 ?_
    refine aw_lor (pc := 1061) C dL_law_1061 ?_
    refine aw_callVI (pc := 1062) (R := room_1) (c := 9) (As := [.int v319, .int v320, .long ((v321.toInt64 <<< ((32 : Int32).toInt64 &&& 63)) ||| (v322.toInt64 &&& 4294967295))]) (rest := []) (st := [.long ((v321.toInt64 <<< ((32 : Int32).toInt64 &&& 63)) ||| (v322.toInt64 &&& 4294967295)), .int v320, .int v319, rf E v1]) (c' := 86) (s' := 43889) C hE rfl (by decide) cal_X9_item ml_L_146 rfl ⟨(Nat.le_of_ble_eq_true rfl), (Nat.le_of_ble_eq_true rfl)⟩ ⟨(Nat.le_of_ble_eq_true rfl), (Nat.le_of_ble_eq_true rfl)⟩ dL_law_1062 (okX9_item E (kL K) v1 v319 v320 ((v321.toInt64 <<< ((32 : Int32).toInt64 &&& 63)) ||| (v322.toInt64 &&& 4294967295)) h8) rfl (Nat.le_of_ble_eq_true rfl) rfl rfl (fun v324 h323 eh323 => ?_)
    refine aw_aload_n (pc := 1065) C dL_law_1065 rfl 2 rfl ?_
    refine aw_aload_n (pc := 1066) C dL_law_1066 rfl 0 rfl ?_
    refine aw_iload_n (pc := 1067) C dL_law_1067 rfl 3 rfl ?_
    refine aw_iconst (pc := 1068) (v := 1) C dL_law_1068 (by decide) ?_
    refine aw_iadd (pc := 1069) C dL_law_1069 ?_
    refine aw_sload (pc := 1070) C hX hbl hbA dL_law_1070 (fun v325 ev325 => ?_)
    refine aw_aload_n (pc := 1071) C dL_law_1071 rfl 0 rfl ?_
    refine aw_iload_n (pc := 1072) C dL_law_1072 rfl 3 rfl ?_
    refine aw_iconst (pc := 1073) (v := 2) C dL_law_1073 (by decide) ?_
    refine aw_iadd (pc := 1074) C dL_law_1074 ?_
    refine aw_sload (pc := 1075) C hX hbl hbA dL_law_1075 (fun v326 ev326 => ?_)
    refine aw_aload_n (pc := 1076) C dL_law_1076 rfl 0 rfl ?_
    refine aw_iload_n (pc := 1077) C dL_law_1077 rfl 3 rfl ?_
    refine aw_iconst (pc := 1078) (v := 3) C dL_law_1078 (by decide) ?_
    refine aw_iadd (pc := 1079) C dL_law_1079 ?_
    refine aw_sload (pc := 1080) C hX hbl hbA dL_law_1080 (fun v327 ev327 => ?_)
    refine aw_i2l (pc := 1081) C dL_law_1081 ?_
    refine aw_bipush (pc := 1082) (v := 32) C dL_law_1082 (by decide) ?_
    refine aw_lshl (pc := 1084) C dL_law_1084 ?_
    refine aw_aload_n (pc := 1085) C dL_law_1085 rfl 0 rfl ?_
    refine aw_iload_n (pc := 1086) C dL_law_1086 rfl 3 rfl ?_
    refine aw_iconst (pc := 1087) (v := 4) C dL_law_1087 (by decide) ?_
    refine aw_iadd (pc := 1088) C dL_law_1088 ?_
    refine aw_sload (pc := 1089) C hX hbl hbA dL_law_1089 (fun v328 ev328 => ?_)
    refine aw_i2l (pc := 1090) C dL_law_1090 ?_
    refine aw_ldc2 (pc := 1091) (v := 4294967295) C kc_L_144 dL_law_1091 ?_
    refine aw_land (pc := 1094) C dL_law_1094 ?_
    refine aw_lor (pc := 1095) C dL_law_1095 ?_
    refine aw_callVI (pc := 1096) (R := room_1) (c := 10) (As := [.int v325, .int v326, .long ((v327.toInt64 <<< ((32 : Int32).toInt64 &&& 63)) ||| (v328.toInt64 &&& 4294967295))]) (rest := [.int v324]) (st := [.long ((v327.toInt64 <<< ((32 : Int32).toInt64 &&& 63)) ||| (v328.toInt64 &&& 4294967295)), .int v326, .int v325, rf E v4, .int v324]) (c' := 86) (s' := 43889) C hE rfl (by decide) cal_X10_item ml_L_150 rfl ⟨(Nat.le_of_ble_eq_true rfl), (Nat.le_of_ble_eq_true rfl)⟩ ⟨(Nat.le_of_ble_eq_true rfl), (Nat.le_of_ble_eq_true rfl)⟩ dL_law_1096 (okX10_item E (kL K) v4 v325 v326 ((v327.toInt64 <<< ((32 : Int32).toInt64 &&& 63)) ||| (v328.toInt64 &&& 4294967295)) h323) rfl (Nat.le_of_ble_eq_true rfl) rfl rfl (fun v330 h329 eh329 => ?_)
    refine aw_icmp_eq (pc := 1099) C 1201 dL_law_1099 (by decide) (fun c332 => ?_) (fun c332 => ?_)
    · refine aw_iincN (pc := 1201) (L1 := [(0, .ref b), (1, rf E v1), (2, rf E v4)]) (k := 6) C dL_law_1201 3 rfl (by decide) (by decide) rfl (fun v331 ev331 => ?_)
      refine aw_goto (pc := 1204) C 18 dL_law_1204 (by decide) ?_
      exact aw_sub (L' := [(0, .ref b), (1, rf E v1), (2, rf E v4), (3, .int v331)]) [1, 2, 3, 0] rfl (ih10 (v331, h329))
    refine aw_iconst (pc := 1102) (v := 0) C dL_law_1102 (by decide) ?_
    exact aw_none
  refine aw_case 32 (fun c333 => ?_) (fun c333 => ?_)
  · refine aw_tableIn (pc := 33) C 32 1104 c333 dL_law_33 (by decide) (by decide) rfl (by decide) ?_
    refine aw_aload_n (pc := 1104) C dL_law_1104 rfl 1 rfl ?_
    refine aw_aload_n (pc := 1105) C dL_law_1105 rfl 0 rfl ?_
    refine aw_iload_n (pc := 1106) C dL_law_1106 rfl 3 rfl ?_
    refine aw_iconst (pc := 1107) (v := 1) C dL_law_1107 (by decide) ?_
    refine aw_iadd (pc := 1108) C dL_law_1108 ?_
    refine aw_sload (pc := 1109) C hX hbl hbA dL_law_1109 (fun v334 ev334 => ?_)
    refine aw_aload_n (pc := 1110) C dL_law_1110 rfl 0 rfl ?_
    refine aw_iload_n (pc := 1111) C dL_law_1111 rfl 3 rfl ?_
    refine aw_iconst (pc := 1112) (v := 2) C dL_law_1112 (by decide) ?_
    refine aw_iadd (pc := 1113) C dL_law_1113 ?_
    refine aw_sload (pc := 1114) C hX hbl hbA dL_law_1114 (fun v335 ev335 => ?_)
    refine aw_callVJ (pc := 1115) (R := room_1) (c := 9) (As := [.int v334, .int v335]) (rest := []) (st := [.int v335, .int v334, rf E v1]) (c' := 86) (s' := 43889) C hE rfl (by decide) cal_X9_peek ml_L_151 rfl ⟨(Nat.le_of_ble_eq_true rfl), (Nat.le_of_ble_eq_true rfl)⟩ ⟨(Nat.le_of_ble_eq_true rfl), (Nat.le_of_ble_eq_true rfl)⟩ dL_law_1115 (okX9_peek E (kL K) v1 v334 v335 h8) rfl (Nat.le_of_ble_eq_true rfl) rfl rfl (fun v337 h336 eh336 => ?_)
    refine aw_aload_n (pc := 1118) C dL_law_1118 rfl 2 rfl ?_
    refine aw_aload_n (pc := 1119) C dL_law_1119 rfl 0 rfl ?_
    refine aw_iload_n (pc := 1120) C dL_law_1120 rfl 3 rfl ?_
    refine aw_iconst (pc := 1121) (v := 1) C dL_law_1121 (by decide) ?_
    refine aw_iadd (pc := 1122) C dL_law_1122 ?_
    refine aw_sload (pc := 1123) C hX hbl hbA dL_law_1123 (fun v338 ev338 => ?_)
    refine aw_aload_n (pc := 1124) C dL_law_1124 rfl 0 rfl ?_
    refine aw_iload_n (pc := 1125) C dL_law_1125 rfl 3 rfl ?_
    refine aw_iconst (pc := 1126) (v := 2) C dL_law_1126 (by decide) ?_
    refine aw_iadd (pc := 1127) C dL_law_1127 ?_
    refine aw_sload (pc := 1128) C hX hbl hbA dL_law_1128 (fun v339 ev339 => ?_)
    refine aw_callVJ (pc := 1129) (R := room_1) (c := 10) (As := [.int v338, .int v339]) (rest := [.long v337]) (st := [.int v339, .int v338, rf E v4, .long v337]) (c' := 86) (s' := 43889) C hE rfl (by decide) cal_X10_peek ml_L_154 rfl ⟨(Nat.le_of_ble_eq_true rfl), (Nat.le_of_ble_eq_true rfl)⟩ ⟨(Nat.le_of_ble_eq_true rfl), (Nat.le_of_ble_eq_true rfl)⟩ dL_law_1129 (okX10_peek E (kL K) v4 v338 v339 h336) rfl (Nat.le_of_ble_eq_true rfl) rfl rfl (fun v341 h340 eh340 => ?_)
    refine aw_lcmp (pc := 1132) C dL_law_1132 ?_
    refine aw_if_eq (pc := 1133) C 1201 dL_law_1133 (by decide) (fun c343 => ?_) (fun c343 => ?_)
    · refine aw_iincN (pc := 1201) (L1 := [(0, .ref b), (1, rf E v1), (2, rf E v4)]) (k := 6) C dL_law_1201 3 rfl (by decide) (by decide) rfl (fun v342 ev342 => ?_)
      refine aw_goto (pc := 1204) C 18 dL_law_1204 (by decide) ?_
      exact aw_sub (L' := [(0, .ref b), (1, rf E v1), (2, rf E v4), (3, .int v342)]) [1, 2, 3, 0] rfl (ih10 (v342, h340))
    refine aw_iconst (pc := 1136) (v := 0) C dL_law_1136 (by decide) ?_
    exact aw_none
  refine aw_case 33 (fun c344 => ?_) (fun c344 => ?_)
  · refine aw_tableIn (pc := 33) C 33 1138 c344 dL_law_33 (by decide) (by decide) rfl (by decide) ?_
    refine aw_aload_n (pc := 1138) C dL_law_1138 rfl 1 rfl ?_
    refine aw_aload_n (pc := 1139) C dL_law_1139 rfl 0 rfl ?_
    refine aw_iload_n (pc := 1140) C dL_law_1140 rfl 3 rfl ?_
    refine aw_iconst (pc := 1141) (v := 1) C dL_law_1141 (by decide) ?_
    refine aw_iadd (pc := 1142) C dL_law_1142 ?_
    refine aw_sload (pc := 1143) C hX hbl hbA dL_law_1143 (fun v345 ev345 => ?_)
    refine aw_aload_n (pc := 1144) C dL_law_1144 rfl 0 rfl ?_
    refine aw_iload_n (pc := 1145) C dL_law_1145 rfl 3 rfl ?_
    refine aw_iconst (pc := 1146) (v := 2) C dL_law_1146 (by decide) ?_
    refine aw_iadd (pc := 1147) C dL_law_1147 ?_
    refine aw_sload (pc := 1148) C hX hbl hbA dL_law_1148 (fun v346 ev346 => ?_)
    refine aw_aload_n (pc := 1149) C dL_law_1149 rfl 0 rfl ?_
    refine aw_iload_n (pc := 1150) C dL_law_1150 rfl 3 rfl ?_
    refine aw_iconst (pc := 1151) (v := 3) C dL_law_1151 (by decide) ?_
    refine aw_iadd (pc := 1152) C dL_law_1152 ?_
    refine aw_sload (pc := 1153) C hX hbl hbA dL_law_1153 (fun v347 ev347 => ?_)
    refine aw_aload_n (pc := 1154) C dL_law_1154 rfl 0 rfl ?_
    refine aw_iload_n (pc := 1155) C dL_law_1155 rfl 3 rfl ?_
    refine aw_iconst (pc := 1156) (v := 4) C dL_law_1156 (by decide) ?_
    refine aw_iadd (pc := 1157) C dL_law_1157 ?_
    refine aw_sload (pc := 1158) C hX hbl hbA dL_law_1158 (fun v348 ev348 => ?_)
    refine aw_aload_n (pc := 1159) C dL_law_1159 rfl 0 rfl ?_
    refine aw_iload_n (pc := 1160) C dL_law_1160 rfl 3 rfl ?_
    refine aw_iconst (pc := 1161) (v := 5) C dL_law_1161 (by decide) ?_
    refine aw_iadd (pc := 1162) C dL_law_1162 ?_
    refine aw_sload (pc := 1163) C hX hbl hbA dL_law_1163 (fun v349 ev349 => ?_)
    refine aw_callVI (pc := 1164) (R := room_1) (c := 9) (As := [.int v345, .int v346, .int v347, .int v348, .int v349]) (rest := []) (st := [.int v349, .int v348, .int v347, .int v346, .int v345, rf E v1]) (c' := 86) (s' := 43889) C hE rfl (by decide) cal_X9_shift ml_L_155 rfl ⟨(Nat.le_of_ble_eq_true rfl), (Nat.le_of_ble_eq_true rfl)⟩ ⟨(Nat.le_of_ble_eq_true rfl), (Nat.le_of_ble_eq_true rfl)⟩ dL_law_1164 (okX9_shift E (kL K) v1 v345 v346 v347 v348 v349 h8) rfl (Nat.le_of_ble_eq_true rfl) rfl rfl (fun v351 h350 eh350 => ?_)
    refine aw_aload_n (pc := 1167) C dL_law_1167 rfl 2 rfl ?_
    refine aw_aload_n (pc := 1168) C dL_law_1168 rfl 0 rfl ?_
    refine aw_iload_n (pc := 1169) C dL_law_1169 rfl 3 rfl ?_
    refine aw_iconst (pc := 1170) (v := 1) C dL_law_1170 (by decide) ?_
    refine aw_iadd (pc := 1171) C dL_law_1171 ?_
    refine aw_sload (pc := 1172) C hX hbl hbA dL_law_1172 (fun v352 ev352 => ?_)
    refine aw_aload_n (pc := 1173) C dL_law_1173 rfl 0 rfl ?_
    refine aw_iload_n (pc := 1174) C dL_law_1174 rfl 3 rfl ?_
    refine aw_iconst (pc := 1175) (v := 2) C dL_law_1175 (by decide) ?_
    refine aw_iadd (pc := 1176) C dL_law_1176 ?_
    refine aw_sload (pc := 1177) C hX hbl hbA dL_law_1177 (fun v353 ev353 => ?_)
    refine aw_aload_n (pc := 1178) C dL_law_1178 rfl 0 rfl ?_
    refine aw_iload_n (pc := 1179) C dL_law_1179 rfl 3 rfl ?_
    refine aw_iconst (pc := 1180) (v := 3) C dL_law_1180 (by decide) ?_
    refine aw_iadd (pc := 1181) C dL_law_1181 ?_
    refine aw_sload (pc := 1182) C hX hbl hbA dL_law_1182 (fun v354 ev354 => ?_)
    refine aw_aload_n (pc := 1183) C dL_law_1183 rfl 0 rfl ?_
    refine aw_iload_n (pc := 1184) C dL_law_1184 rfl 3 rfl ?_
    refine aw_iconst (pc := 1185) (v := 4) C dL_law_1185 (by decide) ?_
    refine aw_iadd (pc := 1186) C dL_law_1186 ?_
    refine aw_sload (pc := 1187) C hX hbl hbA dL_law_1187 (fun v355 ev355 => ?_)
    refine aw_aload_n (pc := 1188) C dL_law_1188 rfl 0 rfl ?_
    refine aw_iload_n (pc := 1189) C dL_law_1189 rfl 3 rfl ?_
    refine aw_iconst (pc := 1190) (v := 5) C dL_law_1190 (by decide) ?_
    refine aw_iadd (pc := 1191) C dL_law_1191 ?_
    refine aw_sload (pc := 1192) C hX hbl hbA dL_law_1192 (fun v356 ev356 => ?_)
    refine aw_callVI (pc := 1193) (R := room_1) (c := 10) (As := [.int v352, .int v353, .int v354, .int v355, .int v356]) (rest := [.int v351]) (st := [.int v356, .int v355, .int v354, .int v353, .int v352, rf E v4, .int v351]) (c' := 86) (s' := 43889) C hE rfl (by decide) cal_X10_shift ml_L_159 rfl ⟨(Nat.le_of_ble_eq_true rfl), (Nat.le_of_ble_eq_true rfl)⟩ ⟨(Nat.le_of_ble_eq_true rfl), (Nat.le_of_ble_eq_true rfl)⟩ dL_law_1193 (okX10_shift E (kL K) v4 v352 v353 v354 v355 v356 h350) rfl (Nat.le_of_ble_eq_true rfl) rfl rfl (fun v358 h357 eh357 => ?_)
    refine aw_icmp_eq (pc := 1196) C 1201 dL_law_1196 (by decide) (fun c360 => ?_) (fun c360 => ?_)
    · refine aw_iincN (pc := 1201) (L1 := [(0, .ref b), (1, rf E v1), (2, rf E v4)]) (k := 6) C dL_law_1201 3 rfl (by decide) (by decide) rfl (fun v359 ev359 => ?_)
      refine aw_goto (pc := 1204) C 18 dL_law_1204 (by decide) ?_
      exact aw_sub (L' := [(0, .ref b), (1, rf E v1), (2, rf E v4), (3, .int v359)]) [1, 2, 3, 0] rfl (ih10 (v359, h357))
    refine aw_iconst (pc := 1199) (v := 0) C dL_law_1199 (by decide) ?_
    exact aw_none
  refine aw_tableOut (pc := 33) C 1201 dL_law_33 (by have qc13 := lv_neT c13 (show (0 : Int32).toInt = 0 by decide); have qc22 := lv_neT c22 (show (1 : Int32).toInt = 1 by decide); have qc33 := lv_neT c33 (show (2 : Int32).toInt = 2 by decide); have qc42 := lv_neT c42 (show (3 : Int32).toInt = 3 by decide); have qc51 := lv_neT c51 (show (4 : Int32).toInt = 4 by decide); have qc60 := lv_neT c60 (show (5 : Int32).toInt = 5 by decide); have qc75 := lv_neT c75 (show (6 : Int32).toInt = 6 by decide); have qc84 := lv_neT c84 (show (7 : Int32).toInt = 7 by decide); have qc91 := lv_neT c91 (show (8 : Int32).toInt = 8 by decide); have qc100 := lv_neT c100 (show (9 : Int32).toInt = 9 by decide); have qc109 := lv_neT c109 (show (10 : Int32).toInt = 10 by decide); have qc120 := lv_neT c120 (show (11 : Int32).toInt = 11 by decide); have qc131 := lv_neT c131 (show (12 : Int32).toInt = 12 by decide); have qc142 := lv_neT c142 (show (13 : Int32).toInt = 13 by decide); have qc151 := lv_neT c151 (show (14 : Int32).toInt = 14 by decide); have qc162 := lv_neT c162 (show (15 : Int32).toInt = 15 by decide); have qc171 := lv_neT c171 (show (16 : Int32).toInt = 16 by decide); have qc180 := lv_neT c180 (show (17 : Int32).toInt = 17 by decide); have qc191 := lv_neT c191 (show (18 : Int32).toInt = 18 by decide); have qc204 := lv_neT c204 (show (19 : Int32).toInt = 19 by decide); have qc215 := lv_neT c215 (show (20 : Int32).toInt = 20 by decide); have qc224 := lv_neT c224 (show (21 : Int32).toInt = 21 by decide); have qc233 := lv_neT c233 (show (22 : Int32).toInt = 22 by decide); have qc244 := lv_neT c244 (show (23 : Int32).toInt = 23 by decide); have qc253 := lv_neT c253 (show (24 : Int32).toInt = 24 by decide); have qc264 := lv_neT c264 (show (25 : Int32).toInt = 25 by decide); have qc271 := lv_neT c271 (show (26 : Int32).toInt = 26 by decide); have qc282 := lv_neT c282 (show (27 : Int32).toInt = 27 by decide); have qc289 := lv_neT c289 (show (28 : Int32).toInt = 28 by decide); have qc296 := lv_neT c296 (show (29 : Int32).toInt = 29 by decide); have qc305 := lv_neT c305 (show (30 : Int32).toInt = 30 by decide); have qc318 := lv_neT c318 (show (31 : Int32).toInt = 31 by decide); have qc333 := lv_neT c333 (show (32 : Int32).toInt = 32 by decide); have qc344 := lv_neT c344 (show (33 : Int32).toInt = 33 by decide); omega) (by decide) ?_
  refine aw_iincN (pc := 1201) (L1 := [(0, .ref b), (1, rf E v1), (2, rf E v4)]) (k := 6) C dL_law_1201 3 rfl (by decide) (by decide) rfl (fun v361 ev361 => ?_)
  refine aw_goto (pc := 1204) C 18 dL_law_1204 (by decide) ?_
  exact aw_sub (L' := [(0, .ref b), (1, rf E v1), (2, rf E v4), (3, .int v361)]) [1, 2, 3, 0] rfl (ih10 (v361, h8))
set_option maxHeartbeats 4000000 in
set_option maxRecDepth 100000 in
theorem whole_start {p : Program} {e : Env} {s : State} {m : MethodId} {below : List Frame} {meth : Method} {c : Code} (l : Launch) (hflags : l.flags = flags0) {b L : Nat} {xs : Nat → Int32} (hL : L ≤ 3072) (C0 : lw_At p s m meth c b L xs) : W p l e room_1 s m #[Value.ref b] below meth c s.heap [] 0 0 (lw_Z below #[Value.ref b] s) (entryFrame m ([Value.ref b] : List Value).toArray 4) := by
  obtain ⟨hx, hb, hr, hml, hown, hts, hX, hbl, hlocks, hgv⟩ := id C0
  have hw : ∀ w ∈ WSA, w.before #[Value.ref b] s = true := fun w h => hts w (List.mem_filter.mp h).1
  have ht1 : ∀ w ∈ tables_1, w.before #[Value.ref b] s = true := fun w h => hts w (List.mem_append_right _ h)
  obtain ⟨B, hB⟩ : ∃ B, s.heap.size = B + 1 := ⟨s.heap.size - 1, by omega⟩
  obtain ⟨c0, iS0, hKn0⟩ := u_known (C := RX0) (T := TX0) (N := 6) (n := 6) hw clX0.2.2.1 (hw _ in_0)
  obtain ⟨c1, iS1, hKn1⟩ := u_known (C := RX1) (T := TX1) (N := 3) (n := 3) hw clX1.2.2.1 (hw _ in_1)
  obtain ⟨c2, iS2, hKn2⟩ := u_known (C := RX2) (T := TX2) (N := 4) (n := 4) hw clX2.2.2.1 (hw _ in_2)
  obtain ⟨c3, iS3, hKn3⟩ := u_known (C := RX3) (T := TX3) (N := 6) (n := 6) hw clX3.2.2.1 (hw _ in_3)
  obtain ⟨c4, iS4, hKn4⟩ := u_known (C := RX4) (T := TX4) (N := 2) (n := 2) hw clX4.2.2.1 (hw _ in_4)
  obtain ⟨c5, iS5, hKn5⟩ := u_known (C := RX5) (T := TX5) (N := 6) (n := 6) hw clX5.2.2.1 (hw _ in_5)
  obtain ⟨c6, iS6, hKn6⟩ := u_known (C := RX6) (T := TX6) (N := 4) (n := 4) hw clX6.2.2.1 (hw _ in_6)
  obtain ⟨c7, iS7, hKn7⟩ := u_known (C := RX7) (T := TX7) (N := 3) (n := 3) hw clX7.2.2.1 (hw _ in_7)
  obtain ⟨c8, iS8, hKn8⟩ := u_known (C := RX8) (T := TX8) (N := 2) (n := 2) hw clX8.2.2.1 (hw _ in_8)
  obtain ⟨c9, iS9, hKn9⟩ := u_known (C := RX9) (T := TX9) (N := 9) (n := 9) hw clX9.2.2.1 (hw _ in_9)
  obtain ⟨c10, iS10, hKn10⟩ := u_known (C := RX10) (T := TX10) (N := 39) (n := 39) hw clX10.2.2.1 (hw _ in_10)
  obtain ⟨D, hKc⟩ : ∃ D : va_G, ∀ (k : Nat) (q : vw_C), vwCl[k]? = some q → u_Kn s q.1 q.2.1 q.2.2 (D.1 k) (D.2 k) := by
    refine ⟨(fun k => if k = 0 then c0 else if k = 1 then c1 else if k = 2 then c2 else if k = 3 then c3 else if k = 4 then c4 else if k = 5 then c5 else if k = 6 then c6 else if k = 7 then c7 else if k = 8 then c8 else if k = 9 then c9 else c10, fun k => if k = 0 then iS0 else if k = 1 then iS1 else if k = 2 then iS2 else if k = 3 then iS3 else if k = 4 then iS4 else if k = 5 then iS5 else if k = 6 then iS6 else if k = 7 then iS7 else if k = 8 then iS8 else if k = 9 then iS9 else iS10), ?_⟩
    intro k q hq
    match k, hq with
    | 0, hq => cases hq; exact hKn0
    | 1, hq => cases hq; exact hKn1
    | 2, hq => cases hq; exact hKn2
    | 3, hq => cases hq; exact hKn3
    | 4, hq => cases hq; exact hKn4
    | 5, hq => cases hq; exact hKn5
    | 6, hq => cases hq; exact hKn6
    | 7, hq => cases hq; exact hKn7
    | 8, hq => cases hq; exact hKn8
    | 9, hq => cases hq; exact hKn9
    | 10, hq => cases hq; exact hKn10
    | k + 11, hq => simp at hq
  obtain ⟨cI, kI, pI, fI1, fI2, fI3⟩ := Cond.arrayClass_spec (hw _ ac_I)
  obtain ⟨cJ, kJ, pJ, fJ1, fJ2, fJ3⟩ := Cond.arrayClass_spec (hw _ ac_J)
  obtain ⟨cZ, kZ, pZ, fZ1, fZ2, fZ3⟩ := Cond.arrayClass_spec (hw _ ac_Z)
  have hao : (Cond.arrayOver (.object "TwoLetterForms$Tape")).before #[Value.ref b] s = true := ht1 _ (List.mem_of_getElem? (i := 210) rfl)
  obtain ⟨pT, cT, kT, fT0, -, fT2, fT3, fT1⟩ := Cond.arrayOver_spec hao
  have hA : ∀ a : Nat, a < s.heap.size → ¬ (fun q : Nat => B + 1 ≤ q) a := fun a h1 h2 => by
    have h3 : B + 1 ≤ a := h2
    omega
  obtain ⟨tP, hP1, hP2⟩ := st_P (A := fun q : Nat => B + 1 ≤ q) hgv hA (ht1 _ (List.mem_of_getElem? (i := 585) rfl)) (ht1 _ (List.mem_of_getElem? (i := 1) rfl))
  obtain ⟨tM, hM1, hM2⟩ := st_M (A := fun q : Nat => B + 1 ≤ q) hgv hA (ht1 _ (List.mem_of_getElem? (i := 308) rfl)) (ht1 _ (List.mem_of_getElem? (i := 4) rfl))
  have hKK : va_K D vwCl (tys (B, D, cI, cJ, cZ, cT, tP, tM)) s := by
    refine ⟨hKc, fun k q hq => ?_⟩
    match k, hq with
    | 0, hq => cases hq; exact ⟨fun n z => ⟨fun k h => (by cases h), kI, fI2, pI, fI3⟩, fI1⟩
    | 1, hq => cases hq; exact ⟨fun n z => ⟨fun k h => (by cases h), kJ, fJ2, pJ, fJ3⟩, fJ1⟩
    | 2, hq => cases hq; exact ⟨fun n z => ⟨fun k h => (by cases h), kZ, fZ2, pZ, fZ3⟩, fZ1⟩
    | 3, hq => cases hq; exact ⟨fun n z => ⟨fun k h => (by cases h), kT, fT2, pT, fT3⟩, kT, pT, fT2, fT3, fT0, fT1⟩
    | k + 4, hq => simp at hq
  have hC : CxOK (p, l, e, s, m, #[Value.ref b], below, meth, c) (B, D, cI, cJ, cZ, cT, tP, tM) "TwoLetterFormsLaw" cL_law 4 := by
    refine ⟨hx, hb, hml, hown, hw, hKK, ⟨⟨hP1, hP2⟩, ⟨hM1, hM2⟩⟩, hlocks, fun w h1 h2 => ?_, va_AO.of hao⟩
    refine va_Nw.of ?_ (ht1 w h1)
    cases w <;> first | exact Bool.noConfusion (show false = true from h2) | rfl
  obtain ⟨h', hd⟩ := law_den xs L hL
  have hl := lv_entry ([.ref b]) (n := 4) (Nat.le_of_ble_eq_true rfl)
  rw [lg_entry_eq]
  exact law_aw (E := (B, D, cI, cJ, cZ, cT, tP, tM)) _ rfl hC hB hr hX hbl (hA b hbl) (by show B + 1 ≤ s.heap.size; omega) h00 () h' hd s.heap [] _ (by show s.heap.size + 0 = B + 1 + 0; omega) ⟨fun k q h => by simp [enc, h00, mSz] at h, fun a ha => absurd ha (by simp [h00, mKd])⟩ va_S.rf hl
