/-! ===== the law's cases that write ===== -/
set_option maxHeartbeats 4000000 in
set_option maxRecDepth 100000 in
theorem lc_addThing (l : Launch) {p : Program} {e : Env} {s : State} {m : MethodId} {below : List Frame} {meth : Method} {c : Code} {b N : Nat} {xs : Nat → Int32} {D : va_G} {cI cZ cJ : ClassId} {q r : Nat → Nat} {o i : Nat} {H : Heap} {locs : List Loc} {ls : Array Slot} {cells slots : Nat} {Q : State → Prop} (C : LCtx l p s m c b N xs D cI cZ cJ) (h : LStt s D cI cZ cJ q r o b i H locs ls) (hi : i + 2 < N) (hcl : cells + 9 ≤ 621274) (hsl : slots + 58 ≤ 7232283) (kk : ∀ (H : Heap) (locs : List Loc) (ls : Array Slot), LStt s D cI cZ cJ q r o b i H locs ls → W p l e room_1 s m #[Value.ref b] below meth c H locs (cells + 9) (slots + 58) Q (F0 m 1543 ls [])) : W p l e room_1 s m #[Value.ref b] below meth c H locs cells slots Q (F0 m 184 ls []) := by
  obtain ⟨hx, hb, hml, hown, hts, hX, hbl, hN, hl0, hK, hE0⟩ := C
  obtain ⟨th, tc, nc, ac, ch, U, Z, V, Y, B, L, F, f, hS, hP, hD, htc, hnc, hac, hu, hz, hB, hB0, hl⟩ := h
  have hK2 : va_K D vwCl (tyA cI cZ) s := hK.sub [0, 1] rfl
  have hA : ∀ q : Nat, s.heap.size ≤ q → lA s q := fun _ h => h
  have hbA : ¬ lA s b := Nat.not_le.mpr hbl
  have hpw := pw_in htc
  by_cases h8 : tc = 8
  · skip
    refine lv_aload_n hx hb dL_law_184 rfl (lv_at hl 3 rfl) ?_
    refine lv_aload_n hx hb dL_law_185 rfl (lv_at hl 1 rfl) ?_
    refine sc_b (k := 1) (As := [.ref (q 0), .ref o]) (rest := []) ⟨hx, hb, hml, hown, hts⟩ (wx_L_addThing l hl0 (P_l hP) htc hnc hac  h8) (vx_cwSW 2 hts gL_law_L_addThing rfl rfl rfl hdL_addThing ⟨Nat.le_of_ble_eq_true rfl, Nat.le_of_ble_eq_true rfl⟩) hK (xE_law hE0 hS) hS rfl hl.1 (Nat.le_of_ble_eq_true rfl) rfl dL_law_186 ⟨by show _ ≤ 621274; omega, by show _ ≤ 7232283; omega⟩ (fun H1 locs hz1 hk1 hS => ?_)
    have hP : va_P D vwCl ((wX cI cZ q tc nc ac ch U Z B L F ++ [(o, .inl (cJ, 1, .inr (.inl f)))]) ++ wM cI cZ r th tc nc ac ch V Y B L F) H1 := grow_P hP hk1
    clear hk1 hz1
    generalize H1 = H at hP hS ⊢
    refine lv_istore (lv' := [(5, .int 1), (4, .int (nI i)), (3, .ref o), (2, .ref (r 0)), (1, .ref (q 0)), (0, .ref b)]) hx hb dL_law_189 hl (by decide) rfl (fun ls hl => ?_)
    refine lv_aload_n hx hb dL_law_191 rfl (lv_at hl 3 rfl) ?_
    refine wcV_i (As := []) (rest := []) ⟨hx, hb, hml, hown, hts⟩ (wb_M_addThing l (P_r hP) htc hnc hac (D_r hD)  h8) (cwV 0 hts gL_law_X1_addThing rfl rfl rfl hdX1_addThing ⟨Nat.le_of_ble_eq_true rfl, Nat.le_of_ble_eq_true rfl⟩) (va_recv hK hP (ci := 1) (q0 := 8) rfl rfl) hK2 hS (fr_r hD hS hA) rfl hl.1 (Nat.le_of_ble_eq_true rfl) rfl dL_law_192 ⟨by show _ ≤ 621274; omega, by show _ ≤ 7232283; omega⟩ (fun H1 locs hP1 hz1 hk1 hS => ?_)
    have hP : va_P D vwCl ((wX cI cZ q tc nc ac ch U Z B L F ++ [(o, .inl (cJ, 1, .inr (.inl f)))]) ++ wM cI cZ r 1 tc nc ac ch V Y B L F) H1 := up_r hP hD hk1 hP1
    have hD : va_D (lA s) ((wX cI cZ q tc nc ac ch U Z B L F ++ [(o, .inl (cJ, 1, .inr (.inl f)))]) ++ wM cI cZ r 1 tc nc ac ch V Y B L F) := va_D_re hD rfl
    clear hP1 hk1 hz1
    generalize H1 = H at hP hS ⊢
    refine lv_istore (lv' := [(6, .int 0), (5, .int 1), (4, .int (nI i)), (3, .ref o), (2, .ref (r 0)), (1, .ref (q 0)), (0, .ref b)]) hx hb dL_law_195 hl (by decide) rfl (fun ls hl => ?_)
    refine lv_aload_n hx hb dL_law_197 rfl (lv_at hl 4 rfl) ?_
    refine pcV_i (As := []) (rest := []) ⟨hx, hb, hml, hown, hts⟩ (g_M_thrown l (P_r hP) htc hnc hac) (cwV 0 hts gL_law_X1_thrown rfl rfl rfl hdX1_thrown ⟨Nat.le_of_ble_eq_true rfl, Nat.le_of_ble_eq_true rfl⟩) (va_recv hK hP (ci := 1) (q0 := 8) rfl rfl) hK2 rfl hl.1 (Nat.le_of_ble_eq_true rfl) rfl dL_law_198 ⟨by show _ ≤ 621274; omega, by show _ ≤ 7232283; omega⟩ ?_
    refine lv_iload hx hb dL_law_201 (lv_at hl 1 rfl) ?_
    refine lv_ieq (tgt := 208) hx hb rfl dL_law_203 (by decide) ?_
    refine lv_iload hx hb dL_law_208 (lv_at hl 1 rfl) ?_
    refine lv_if_ne (tgt := 225) hx hb dL_law_210 (by decide) (fun _ => ?_) (fun h0 => absurd h0 (by decide))
    refine lv_goto (tgt := 1543) hx hb dL_law_225 (by decide) ?_
    refine W.widen (k := cells + 9) (n := slots + 58) (by omega) (by omega) ?_
    exact kk _ _ _ ⟨1, tc, nc, ac, ch, U, Z, V, Y, B, L, F, f, hS, hP, hD, htc, hnc, hac, hu, hz, hB, hB0, lv_sub hl [2, 3, 4, 5, 6] rfl⟩
  · skip
    have h8 : tc < 8 := by omega
    refine lv_aload_n hx hb dL_law_184 rfl (lv_at hl 3 rfl) ?_
    refine lv_aload_n hx hb dL_law_185 rfl (lv_at hl 1 rfl) ?_
    refine sc_g (As := [.ref (q 0), .ref o]) (rest := []) ⟨hx, hb, hml, hown, hts⟩ (w_L_addThing l (P_l hP) htc hnc hac (D_l hD)  h8) (vx_cwSW 2 hts gL_law_L_addThing rfl rfl rfl hdL_addThing ⟨Nat.le_of_ble_eq_true rfl, Nat.le_of_ble_eq_true rfl⟩) hK hS (fr_l hD hS hA) rfl hl.1 (Nat.le_of_ble_eq_true rfl) rfl dL_law_186 ⟨by show _ ≤ 621274; omega, by show _ ≤ 7232283; omega⟩ (fun H1 locs hP1 hz1 hk1 hS => ?_)
    have hP : va_P D vwCl ((wX cI cZ q (tc + 1) nc ac ch U Z B L F ++ [(o, .inl (cJ, 1, .inr (.inl (vp_updL f 0 (nI tc).toInt64))))]) ++ wM cI cZ r th tc nc ac ch V Y B L F) H1 := up_l hP hD hk1 hP1
    have hD : va_D (lA s) ((wX cI cZ q (tc + 1) nc ac ch U Z B L F ++ [(o, .inl (cJ, 1, .inr (.inl (vp_updL f 0 (nI tc).toInt64))))]) ++ wM cI cZ r th tc nc ac ch V Y B L F) := va_D_re hD rfl
    clear hP1 hk1 hz1
    generalize H1 = H at hP hS ⊢
    refine lv_istore (lv' := [(5, .int 0), (4, .int (nI i)), (3, .ref o), (2, .ref (r 0)), (1, .ref (q 0)), (0, .ref b)]) hx hb dL_law_189 hl (by decide) rfl (fun ls hl => ?_)
    refine lv_aload_n hx hb dL_law_191 rfl (lv_at hl 3 rfl) ?_
    refine wcV_i (As := []) (rest := []) ⟨hx, hb, hml, hown, hts⟩ (w_M_addThing l (P_r hP) htc hnc hac (D_r hD)  h8) (cwV 0 hts gL_law_X1_addThing rfl rfl rfl hdX1_addThing ⟨Nat.le_of_ble_eq_true rfl, Nat.le_of_ble_eq_true rfl⟩) (va_recv hK hP (ci := 1) (q0 := 8) rfl rfl) hK2 hS (fr_r hD hS hA) rfl hl.1 (Nat.le_of_ble_eq_true rfl) rfl dL_law_192 ⟨by show _ ≤ 621274; omega, by show _ ≤ 7232283; omega⟩ (fun H1 locs hP1 hz1 hk1 hS => ?_)
    have hP : va_P D vwCl ((wX cI cZ q (tc + 1) nc ac ch U Z B L F ++ [(o, .inl (cJ, 1, .inr (.inl (vp_updL f 0 (nI tc).toInt64))))]) ++ wM cI cZ r 0 (tc + 1) nc ac ch V Y B L F) H1 := up_r hP hD hk1 hP1
    have hD : va_D (lA s) ((wX cI cZ q (tc + 1) nc ac ch U Z B L F ++ [(o, .inl (cJ, 1, .inr (.inl (vp_updL f 0 (nI tc).toInt64))))]) ++ wM cI cZ r 0 (tc + 1) nc ac ch V Y B L F) := va_D_re hD rfl
    clear hP1 hk1 hz1
    generalize H1 = H at hP hS ⊢
    refine lv_istore (lv' := [(6, .int (nI tc)), (5, .int 0), (4, .int (nI i)), (3, .ref o), (2, .ref (r 0)), (1, .ref (q 0)), (0, .ref b)]) hx hb dL_law_195 hl (by decide) rfl (fun ls hl => ?_)
    refine lv_aload_n hx hb dL_law_197 rfl (lv_at hl 4 rfl) ?_
    refine pcV_i (As := []) (rest := []) ⟨hx, hb, hml, hown, hts⟩ (g_M_thrown l (P_r hP) (by omega) hnc hac) (cwV 0 hts gL_law_X1_thrown rfl rfl rfl hdX1_thrown ⟨Nat.le_of_ble_eq_true rfl, Nat.le_of_ble_eq_true rfl⟩) (va_recv hK hP (ci := 1) (q0 := 8) rfl rfl) hK2 rfl hl.1 (Nat.le_of_ble_eq_true rfl) rfl dL_law_198 ⟨by show _ ≤ 621274; omega, by show _ ≤ 7232283; omega⟩ ?_
    refine lv_iload hx hb dL_law_201 (lv_at hl 1 rfl) ?_
    refine lv_ieq (tgt := 208) hx hb rfl dL_law_203 (by decide) ?_
    refine lv_iload hx hb dL_law_208 (lv_at hl 1 rfl) ?_
    refine lv_if_ne (tgt := 225) hx hb dL_law_210 (by decide) (fun h0 => absurd rfl h0) (fun _ => ?_)
    refine lv_aload_n hx hb dL_law_213 rfl (lv_at hl 3 rfl) ?_
    refine lv_iconst (v := 0) hx hb dL_law_214 (by decide) ?_
    refine ll_ld hx hb hK hP 7 2 rfl rfl dL_law_215 ?_
    refine lv_iload hx hb dL_law_216 (lv_at hl 0 rfl) ?_
    refine lv_i2l (v := (nI tc).toInt64) hx hb dL_law_218 rfl ?_
    refine lv_leq (tgt := 225) hx hb rfl dL_law_219 dL_law_220 (by decide) ?_
    refine lv_goto (tgt := 1543) hx hb dL_law_225 (by decide) ?_
    refine W.widen (k := cells + 9) (n := slots + 58) (by omega) (by omega) ?_
    exact kk _ _ _ ⟨0, (tc + 1), nc, ac, ch, U, Z, V, Y, B, L, F, (vp_updL f 0 (nI tc).toInt64), hS, hP, hD, (by omega), hnc, hac, hu, hz, hB, hB0, lv_sub hl [2, 3, 4, 5, 6] rfl⟩
set_option maxHeartbeats 4000000 in
set_option maxRecDepth 100000 in
theorem lc_addAstronomer (l : Launch) {p : Program} {e : Env} {s : State} {m : MethodId} {below : List Frame} {meth : Method} {c : Code} {b N : Nat} {xs : Nat → Int32} {D : va_G} {cI cZ cJ : ClassId} {q r : Nat → Nat} {o i : Nat} {H : Heap} {locs : List Loc} {ls : Array Slot} {cells slots : Nat} {Q : State → Prop} (C : LCtx l p s m c b N xs D cI cZ cJ) (h : LStt s D cI cZ cJ q r o b i H locs ls) (hi : i + 2 < N) (hcl : cells + 9 ≤ 621274) (hsl : slots + 58 ≤ 7232283) (kk : ∀ (H : Heap) (locs : List Loc) (ls : Array Slot), LStt s D cI cZ cJ q r o b i H locs ls → W p l e room_1 s m #[Value.ref b] below meth c H locs (cells + 9) (slots + 58) Q (F0 m 1543 ls [])) : W p l e room_1 s m #[Value.ref b] below meth c H locs cells slots Q (F0 m 228 ls []) := by
  obtain ⟨hx, hb, hml, hown, hts, hX, hbl, hN, hl0, hK, hE0⟩ := C
  obtain ⟨th, tc, nc, ac, ch, U, Z, V, Y, B, L, F, f, hS, hP, hD, htc, hnc, hac, hu, hz, hB, hB0, hl⟩ := h
  have hK2 : va_K D vwCl (tyA cI cZ) s := hK.sub [0, 1] rfl
  have hA : ∀ q : Nat, s.heap.size ≤ q → lA s q := fun _ h => h
  have hbA : ¬ lA s b := Nat.not_le.mpr hbl
  have hpw := pw_in htc
  rcases ar_st (xs (i + 1)) with hv | ⟨hv0, hv5⟩
  · skip
    refine lv_aload_n hx hb dL_law_228 rfl (lv_at hl 3 rfl) ?_
    refine lv_aload_n hx hb dL_law_229 rfl (lv_at hl 4 rfl) ?_
    refine lv_iload hx hb dL_law_230 (lv_at hl 0 rfl) ?_
    refine lv_iconst (v := 1) hx hb dL_law_232 (by decide) ?_
    refine lv_iadd hx hb dL_law_233 ?_
    refine lv_cst (y := nI (i + 1)) (nI_add i 1) ?_
    refine s_ld hx hb hX hbl hbA hS (j := i + 1) (by omega) hN dL_law_234 ?_
    refine lv_aload_n hx hb dL_law_235 rfl (lv_at hl 1 rfl) ?_
    refine sc_b (k := 1) (As := [.ref (q 0), .int (xs (i + 1)), .ref o]) (rest := []) ⟨hx, hb, hml, hown, hts⟩ (wx_L_addAstronomer l hl0 (P_l hP) htc hnc hac (v := xs (i + 1)) hv) (vx_cwSW 3 hts gL_law_L_addAstronomer rfl rfl rfl hdL_addAstronomer ⟨Nat.le_of_ble_eq_true rfl, Nat.le_of_ble_eq_true rfl⟩) hK (xE_law hE0 hS) hS rfl hl.1 (Nat.le_of_ble_eq_true rfl) rfl dL_law_236 ⟨by show _ ≤ 621274; omega, by show _ ≤ 7232283; omega⟩ (fun H1 locs hz1 hk1 hS => ?_)
    have hP : va_P D vwCl ((wX cI cZ q tc nc ac ch U Z B L F ++ [(o, .inl (cJ, 1, .inr (.inl f)))]) ++ wM cI cZ r th tc nc ac ch V Y B L F) H1 := grow_P hP hk1
    clear hk1 hz1
    generalize H1 = H at hP hS ⊢
    refine lv_istore (lv' := [(5, .int 1), (4, .int (nI i)), (3, .ref o), (2, .ref (r 0)), (1, .ref (q 0)), (0, .ref b)]) hx hb dL_law_239 hl (by decide) rfl (fun ls hl => ?_)
    refine lv_aload_n hx hb dL_law_241 rfl (lv_at hl 3 rfl) ?_
    refine lv_aload_n hx hb dL_law_242 rfl (lv_at hl 5 rfl) ?_
    refine lv_iload hx hb dL_law_243 (lv_at hl 1 rfl) ?_
    refine lv_iconst (v := 1) hx hb dL_law_245 (by decide) ?_
    refine lv_iadd hx hb dL_law_246 ?_
    refine lv_cst (y := nI (i + 1)) (nI_add i 1) ?_
    refine s_ld hx hb hX hbl hbA hS (j := i + 1) (by omega) hN dL_law_247 ?_
    refine wcV_i (As := [.int (xs (i + 1))]) (rest := []) ⟨hx, hb, hml, hown, hts⟩ (wb_M_addAstronomer l (P_r hP) htc hnc hac (D_r hD) (v := xs (i + 1)) hv) (cwV 1 hts gL_law_X1_addAstronomer rfl rfl rfl hdX1_addAstronomer ⟨Nat.le_of_ble_eq_true rfl, Nat.le_of_ble_eq_true rfl⟩) (va_recv hK hP (ci := 1) (q0 := 8) rfl rfl) hK2 hS (fr_r hD hS hA) rfl hl.1 (Nat.le_of_ble_eq_true rfl) rfl dL_law_248 ⟨by show _ ≤ 621274; omega, by show _ ≤ 7232283; omega⟩ (fun H1 locs hP1 hz1 hk1 hS => ?_)
    have hP : va_P D vwCl ((wX cI cZ q tc nc ac ch U Z B L F ++ [(o, .inl (cJ, 1, .inr (.inl f)))]) ++ wM cI cZ r 1 tc nc ac ch V Y B L F) H1 := up_r hP hD hk1 hP1
    have hD : va_D (lA s) ((wX cI cZ q tc nc ac ch U Z B L F ++ [(o, .inl (cJ, 1, .inr (.inl f)))]) ++ wM cI cZ r 1 tc nc ac ch V Y B L F) := va_D_re hD rfl
    clear hP1 hk1 hz1
    generalize H1 = H at hP hS ⊢
    refine lv_istore (lv' := [(6, .int 0), (5, .int 1), (4, .int (nI i)), (3, .ref o), (2, .ref (r 0)), (1, .ref (q 0)), (0, .ref b)]) hx hb dL_law_251 hl (by decide) rfl (fun ls hl => ?_)
    refine lv_aload_n hx hb dL_law_253 rfl (lv_at hl 4 rfl) ?_
    refine pcV_i (As := []) (rest := []) ⟨hx, hb, hml, hown, hts⟩ (g_M_thrown l (P_r hP) htc hnc hac) (cwV 0 hts gL_law_X1_thrown rfl rfl rfl hdX1_thrown ⟨Nat.le_of_ble_eq_true rfl, Nat.le_of_ble_eq_true rfl⟩) (va_recv hK hP (ci := 1) (q0 := 8) rfl rfl) hK2 rfl hl.1 (Nat.le_of_ble_eq_true rfl) rfl dL_law_254 ⟨by show _ ≤ 621274; omega, by show _ ≤ 7232283; omega⟩ ?_
    refine lv_iload hx hb dL_law_257 (lv_at hl 1 rfl) ?_
    refine lv_ieq (tgt := 264) hx hb rfl dL_law_259 (by decide) ?_
    refine lv_iload hx hb dL_law_264 (lv_at hl 1 rfl) ?_
    refine lv_if_ne (tgt := 281) hx hb dL_law_266 (by decide) (fun _ => ?_) (fun h0 => absurd h0 (by decide))
    refine lv_goto (tgt := 1543) hx hb dL_law_281 (by decide) ?_
    refine W.widen (k := cells + 9) (n := slots + 58) (by omega) (by omega) ?_
    exact kk _ _ _ ⟨1, tc, nc, ac, ch, U, Z, V, Y, B, L, F, f, hS, hP, hD, htc, hnc, hac, hu, hz, hB, hB0, lv_sub hl [2, 3, 4, 5, 6] rfl⟩
  · skip
    by_cases h8 : ac = 8
    · skip
      refine lv_aload_n hx hb dL_law_228 rfl (lv_at hl 3 rfl) ?_
      refine lv_aload_n hx hb dL_law_229 rfl (lv_at hl 4 rfl) ?_
      refine lv_iload hx hb dL_law_230 (lv_at hl 0 rfl) ?_
      refine lv_iconst (v := 1) hx hb dL_law_232 (by decide) ?_
      refine lv_iadd hx hb dL_law_233 ?_
      refine lv_cst (y := nI (i + 1)) (nI_add i 1) ?_
      refine s_ld hx hb hX hbl hbA hS (j := i + 1) (by omega) hN dL_law_234 ?_
      refine lv_aload_n hx hb dL_law_235 rfl (lv_at hl 1 rfl) ?_
      refine sc_b (k := 2) (As := [.ref (q 0), .int (xs (i + 1)), .ref o]) (rest := []) ⟨hx, hb, hml, hown, hts⟩ (wx2_L_addAstronomer l hl0 (P_l hP) htc hnc hac (v := xs (i + 1)) hv0 hv5 h8) (vx_cwSW 3 hts gL_law_L_addAstronomer rfl rfl rfl hdL_addAstronomer ⟨Nat.le_of_ble_eq_true rfl, Nat.le_of_ble_eq_true rfl⟩) hK (xE_law hE0 hS) hS rfl hl.1 (Nat.le_of_ble_eq_true rfl) rfl dL_law_236 ⟨by show _ ≤ 621274; omega, by show _ ≤ 7232283; omega⟩ (fun H1 locs hz1 hk1 hS => ?_)
      have hP : va_P D vwCl ((wX cI cZ q tc nc ac ch U Z B L F ++ [(o, .inl (cJ, 1, .inr (.inl f)))]) ++ wM cI cZ r th tc nc ac ch V Y B L F) H1 := grow_P hP hk1
      clear hk1 hz1
      generalize H1 = H at hP hS ⊢
      refine lv_istore (lv' := [(5, .int 2), (4, .int (nI i)), (3, .ref o), (2, .ref (r 0)), (1, .ref (q 0)), (0, .ref b)]) hx hb dL_law_239 hl (by decide) rfl (fun ls hl => ?_)
      refine lv_aload_n hx hb dL_law_241 rfl (lv_at hl 3 rfl) ?_
      refine lv_aload_n hx hb dL_law_242 rfl (lv_at hl 5 rfl) ?_
      refine lv_iload hx hb dL_law_243 (lv_at hl 1 rfl) ?_
      refine lv_iconst (v := 1) hx hb dL_law_245 (by decide) ?_
      refine lv_iadd hx hb dL_law_246 ?_
      refine lv_cst (y := nI (i + 1)) (nI_add i 1) ?_
      refine s_ld hx hb hX hbl hbA hS (j := i + 1) (by omega) hN dL_law_247 ?_
      refine wcV_i (As := [.int (xs (i + 1))]) (rest := []) ⟨hx, hb, hml, hown, hts⟩ (wb2_M_addAstronomer l (P_r hP) htc hnc hac (D_r hD) (v := xs (i + 1)) hv0 hv5 h8) (cwV 1 hts gL_law_X1_addAstronomer rfl rfl rfl hdX1_addAstronomer ⟨Nat.le_of_ble_eq_true rfl, Nat.le_of_ble_eq_true rfl⟩) (va_recv hK hP (ci := 1) (q0 := 8) rfl rfl) hK2 hS (fr_r hD hS hA) rfl hl.1 (Nat.le_of_ble_eq_true rfl) rfl dL_law_248 ⟨by show _ ≤ 621274; omega, by show _ ≤ 7232283; omega⟩ (fun H1 locs hP1 hz1 hk1 hS => ?_)
      have hP : va_P D vwCl ((wX cI cZ q tc nc ac ch U Z B L F ++ [(o, .inl (cJ, 1, .inr (.inl f)))]) ++ wM cI cZ r 2 tc nc ac ch V Y B L F) H1 := up_r hP hD hk1 hP1
      have hD : va_D (lA s) ((wX cI cZ q tc nc ac ch U Z B L F ++ [(o, .inl (cJ, 1, .inr (.inl f)))]) ++ wM cI cZ r 2 tc nc ac ch V Y B L F) := va_D_re hD rfl
      clear hP1 hk1 hz1
      generalize H1 = H at hP hS ⊢
      refine lv_istore (lv' := [(6, .int 0), (5, .int 2), (4, .int (nI i)), (3, .ref o), (2, .ref (r 0)), (1, .ref (q 0)), (0, .ref b)]) hx hb dL_law_251 hl (by decide) rfl (fun ls hl => ?_)
      refine lv_aload_n hx hb dL_law_253 rfl (lv_at hl 4 rfl) ?_
      refine pcV_i (As := []) (rest := []) ⟨hx, hb, hml, hown, hts⟩ (g_M_thrown l (P_r hP) htc hnc hac) (cwV 0 hts gL_law_X1_thrown rfl rfl rfl hdX1_thrown ⟨Nat.le_of_ble_eq_true rfl, Nat.le_of_ble_eq_true rfl⟩) (va_recv hK hP (ci := 1) (q0 := 8) rfl rfl) hK2 rfl hl.1 (Nat.le_of_ble_eq_true rfl) rfl dL_law_254 ⟨by show _ ≤ 621274; omega, by show _ ≤ 7232283; omega⟩ ?_
      refine lv_iload hx hb dL_law_257 (lv_at hl 1 rfl) ?_
      refine lv_ieq (tgt := 264) hx hb rfl dL_law_259 (by decide) ?_
      refine lv_iload hx hb dL_law_264 (lv_at hl 1 rfl) ?_
      refine lv_if_ne (tgt := 281) hx hb dL_law_266 (by decide) (fun _ => ?_) (fun h0 => absurd h0 (by decide))
      refine lv_goto (tgt := 1543) hx hb dL_law_281 (by decide) ?_
      refine W.widen (k := cells + 9) (n := slots + 58) (by omega) (by omega) ?_
      exact kk _ _ _ ⟨2, tc, nc, ac, ch, U, Z, V, Y, B, L, F, f, hS, hP, hD, htc, hnc, hac, hu, hz, hB, hB0, lv_sub hl [2, 3, 4, 5, 6] rfl⟩
    · skip
      have h8 : ac < 8 := by omega
      refine lv_aload_n hx hb dL_law_228 rfl (lv_at hl 3 rfl) ?_
      refine lv_aload_n hx hb dL_law_229 rfl (lv_at hl 4 rfl) ?_
      refine lv_iload hx hb dL_law_230 (lv_at hl 0 rfl) ?_
      refine lv_iconst (v := 1) hx hb dL_law_232 (by decide) ?_
      refine lv_iadd hx hb dL_law_233 ?_
      refine lv_cst (y := nI (i + 1)) (nI_add i 1) ?_
      refine s_ld hx hb hX hbl hbA hS (j := i + 1) (by omega) hN dL_law_234 ?_
      refine lv_aload_n hx hb dL_law_235 rfl (lv_at hl 1 rfl) ?_
      refine sc_g (As := [.ref (q 0), .int (xs (i + 1)), .ref o]) (rest := []) ⟨hx, hb, hml, hown, hts⟩ (w_L_addAstronomer l (P_l hP) htc hnc hac (D_l hD) (v := xs (i + 1)) hv0 hv5 h8) (vx_cwSW 3 hts gL_law_L_addAstronomer rfl rfl rfl hdL_addAstronomer ⟨Nat.le_of_ble_eq_true rfl, Nat.le_of_ble_eq_true rfl⟩) hK hS (fr_l hD hS hA) rfl hl.1 (Nat.le_of_ble_eq_true rfl) rfl dL_law_236 ⟨by show _ ≤ 621274; omega, by show _ ≤ 7232283; omega⟩ (fun H1 locs hP1 hz1 hk1 hS => ?_)
      have hP : va_P D vwCl ((wX cI cZ q tc nc (ac + 1) ch U Z (upd B ac 0) (upd L ac (upd F ac (xs (i + 1)) ac)) (upd F ac (xs (i + 1))) ++ [(o, .inl (cJ, 1, .inr (.inl (vp_updL f 0 (nI ac).toInt64))))]) ++ wM cI cZ r th tc nc ac ch V Y B L F) H1 := up_l hP hD hk1 hP1
      have hD : va_D (lA s) ((wX cI cZ q tc nc (ac + 1) ch U Z (upd B ac 0) (upd L ac (upd F ac (xs (i + 1)) ac)) (upd F ac (xs (i + 1))) ++ [(o, .inl (cJ, 1, .inr (.inl (vp_updL f 0 (nI ac).toInt64))))]) ++ wM cI cZ r th tc nc ac ch V Y B L F) := va_D_re hD rfl
      clear hP1 hk1 hz1
      generalize H1 = H at hP hS ⊢
      rw [pk_us (f := F) (k := ac) (x := xs (i + 1))] at hP
      have hP : va_P D vwCl ((wX cI cZ q tc nc (ac + 1) ch U Z B (upd L ac (xs (i + 1))) (upd F ac (xs (i + 1))) ++ [(o, .inl (cJ, 1, .inr (.inl (vp_updL f 0 (nI ac).toInt64))))]) ++ wM cI cZ r th tc nc ac ch V Y B L F) H := va_P_arr hP 4 (g := B) rfl (fun j _ => upd0 hB0 j)
      have hD : va_D (lA s) ((wX cI cZ q tc nc (ac + 1) ch U Z B (upd L ac (xs (i + 1))) (upd F ac (xs (i + 1))) ++ [(o, .inl (cJ, 1, .inr (.inl (vp_updL f 0 (nI ac).toInt64))))]) ++ wM cI cZ r th tc nc ac ch V Y B L F) := va_D_re hD rfl
      refine lv_istore (lv' := [(5, .int 0), (4, .int (nI i)), (3, .ref o), (2, .ref (r 0)), (1, .ref (q 0)), (0, .ref b)]) hx hb dL_law_239 hl (by decide) rfl (fun ls hl => ?_)
      refine lv_aload_n hx hb dL_law_241 rfl (lv_at hl 3 rfl) ?_
      refine lv_aload_n hx hb dL_law_242 rfl (lv_at hl 5 rfl) ?_
      refine lv_iload hx hb dL_law_243 (lv_at hl 1 rfl) ?_
      refine lv_iconst (v := 1) hx hb dL_law_245 (by decide) ?_
      refine lv_iadd hx hb dL_law_246 ?_
      refine lv_cst (y := nI (i + 1)) (nI_add i 1) ?_
      refine s_ld hx hb hX hbl hbA hS (j := i + 1) (by omega) hN dL_law_247 ?_
      refine wcV_i (As := [.int (xs (i + 1))]) (rest := []) ⟨hx, hb, hml, hown, hts⟩ (w_M_addAstronomer l (P_r hP) htc hnc hac (D_r hD) (v := xs (i + 1)) hv0 hv5 h8) (cwV 1 hts gL_law_X1_addAstronomer rfl rfl rfl hdX1_addAstronomer ⟨Nat.le_of_ble_eq_true rfl, Nat.le_of_ble_eq_true rfl⟩) (va_recv hK hP (ci := 1) (q0 := 8) rfl rfl) hK2 hS (fr_r hD hS hA) rfl hl.1 (Nat.le_of_ble_eq_true rfl) rfl dL_law_248 ⟨by show _ ≤ 621274; omega, by show _ ≤ 7232283; omega⟩ (fun H1 locs hP1 hz1 hk1 hS => ?_)
      have hP : va_P D vwCl ((wX cI cZ q tc nc (ac + 1) ch U Z B (upd L ac (xs (i + 1))) (upd F ac (xs (i + 1))) ++ [(o, .inl (cJ, 1, .inr (.inl (vp_updL f 0 (nI ac).toInt64))))]) ++ wM cI cZ r 0 tc nc (ac + 1) ch V Y B (upd L ac (xs (i + 1))) (upd F ac (xs (i + 1)))) H1 := up_r hP hD hk1 hP1
      have hD : va_D (lA s) ((wX cI cZ q tc nc (ac + 1) ch U Z B (upd L ac (xs (i + 1))) (upd F ac (xs (i + 1))) ++ [(o, .inl (cJ, 1, .inr (.inl (vp_updL f 0 (nI ac).toInt64))))]) ++ wM cI cZ r 0 tc nc (ac + 1) ch V Y B (upd L ac (xs (i + 1))) (upd F ac (xs (i + 1)))) := va_D_re hD rfl
      clear hP1 hk1 hz1
      generalize H1 = H at hP hS ⊢
      refine lv_istore (lv' := [(6, .int (nI ac)), (5, .int 0), (4, .int (nI i)), (3, .ref o), (2, .ref (r 0)), (1, .ref (q 0)), (0, .ref b)]) hx hb dL_law_251 hl (by decide) rfl (fun ls hl => ?_)
      refine lv_aload_n hx hb dL_law_253 rfl (lv_at hl 4 rfl) ?_
      refine pcV_i (As := []) (rest := []) ⟨hx, hb, hml, hown, hts⟩ (g_M_thrown l (P_r hP) htc hnc (by omega)) (cwV 0 hts gL_law_X1_thrown rfl rfl rfl hdX1_thrown ⟨Nat.le_of_ble_eq_true rfl, Nat.le_of_ble_eq_true rfl⟩) (va_recv hK hP (ci := 1) (q0 := 8) rfl rfl) hK2 rfl hl.1 (Nat.le_of_ble_eq_true rfl) rfl dL_law_254 ⟨by show _ ≤ 621274; omega, by show _ ≤ 7232283; omega⟩ ?_
      refine lv_iload hx hb dL_law_257 (lv_at hl 1 rfl) ?_
      refine lv_ieq (tgt := 264) hx hb rfl dL_law_259 (by decide) ?_
      refine lv_iload hx hb dL_law_264 (lv_at hl 1 rfl) ?_
      refine lv_if_ne (tgt := 281) hx hb dL_law_266 (by decide) (fun h0 => absurd rfl h0) (fun _ => ?_)
      refine lv_aload_n hx hb dL_law_269 rfl (lv_at hl 3 rfl) ?_
      refine lv_iconst (v := 0) hx hb dL_law_270 (by decide) ?_
      refine ll_ld hx hb hK hP 7 2 rfl rfl dL_law_271 ?_
      refine lv_iload hx hb dL_law_272 (lv_at hl 0 rfl) ?_
      refine lv_i2l (v := (nI ac).toInt64) hx hb dL_law_274 rfl ?_
      refine lv_leq (tgt := 281) hx hb rfl dL_law_275 dL_law_276 (by decide) ?_
      refine lv_goto (tgt := 1543) hx hb dL_law_281 (by decide) ?_
      refine W.widen (k := cells + 9) (n := slots + 58) (by omega) (by omega) ?_
      exact kk _ _ _ ⟨0, tc, nc, (ac + 1), ch, U, Z, V, Y, B, (upd L ac (xs (i + 1))), (upd F ac (xs (i + 1))), (vp_updL f 0 (nI ac).toInt64), hS, hP, hD, htc, hnc, (by omega), hu, hz, hB, (fun a ha => hB0 a (by omega)), lv_sub hl [2, 3, 4, 5, 6] rfl⟩
set_option maxHeartbeats 4000000 in
set_option maxRecDepth 100000 in
theorem lc_blame (l : Launch) {p : Program} {e : Env} {s : State} {m : MethodId} {below : List Frame} {meth : Method} {c : Code} {b N : Nat} {xs : Nat → Int32} {D : va_G} {cI cZ cJ : ClassId} {q r : Nat → Nat} {o i : Nat} {H : Heap} {locs : List Loc} {ls : Array Slot} {cells slots : Nat} {Q : State → Prop} (C : LCtx l p s m c b N xs D cI cZ cJ) (h : LStt s D cI cZ cJ q r o b i H locs ls) (hi : i + 2 < N) (hcl : cells + 9 ≤ 621274) (hsl : slots + 58 ≤ 7232283) (kk : ∀ (H : Heap) (locs : List Loc) (ls : Array Slot), LStt s D cI cZ cJ q r o b i H locs ls → W p l e room_1 s m #[Value.ref b] below meth c H locs (cells + 9) (slots + 58) Q (F0 m 1543 ls [])) : W p l e room_1 s m #[Value.ref b] below meth c H locs cells slots Q (F0 m 284 ls []) := by
  obtain ⟨hx, hb, hml, hown, hts, hX, hbl, hN, hl0, hK, hE0⟩ := C
  obtain ⟨th, tc, nc, ac, ch, U, Z, V, Y, B, L, F, f, hS, hP, hD, htc, hnc, hac, hu, hz, hB, hB0, hl⟩ := h
  have hK2 : va_K D vwCl (tyA cI cZ) s := hK.sub [0, 1] rfl
  have hA : ∀ q : Nat, s.heap.size ≤ q → lA s q := fun _ h => h
  have hbA : ¬ lA s b := Nat.not_le.mpr hbl
  have hpw := pw_in htc
  rcases ar_th (xs (i + 1)) ac with hv | ⟨t, ht, ev⟩
  · skip
    refine lv_aload_n hx hb dL_law_284 rfl (lv_at hl 3 rfl) ?_
    refine lv_aload_n hx hb dL_law_285 rfl (lv_at hl 4 rfl) ?_
    refine lv_iload hx hb dL_law_286 (lv_at hl 0 rfl) ?_
    refine lv_iconst (v := 1) hx hb dL_law_288 (by decide) ?_
    refine lv_iadd hx hb dL_law_289 ?_
    refine lv_cst (y := nI (i + 1)) (nI_add i 1) ?_
    refine s_ld hx hb hX hbl hbA hS (j := i + 1) (by omega) hN dL_law_290 ?_
    refine lv_aload_n hx hb dL_law_291 rfl (lv_at hl 4 rfl) ?_
    refine lv_iload hx hb dL_law_292 (lv_at hl 0 rfl) ?_
    refine lv_iconst (v := 2) hx hb dL_law_294 (by decide) ?_
    refine lv_iadd hx hb dL_law_295 ?_
    refine lv_cst (y := nI (i + 2)) (nI_add i 2) ?_
    refine s_ld hx hb hX hbl hbA hS (j := i + 2) (by omega) hN dL_law_296 ?_
    refine lv_aload_n hx hb dL_law_297 rfl (lv_at hl 1 rfl) ?_
    refine sc_b (k := 1) (As := [.ref (q 0), .int (xs (i + 1)), .int (xs (i + 2)), .ref o]) (rest := []) ⟨hx, hb, hml, hown, hts⟩ (wx_L_blame l hl0 (P_l hP) htc hnc hac (v := xs (i + 1)) (v2 := xs (i + 2)) hv) (vx_cwSW 4 hts gL_law_L_blame rfl rfl rfl hdL_blame ⟨Nat.le_of_ble_eq_true rfl, Nat.le_of_ble_eq_true rfl⟩) hK (xE_law hE0 hS) hS rfl hl.1 (Nat.le_of_ble_eq_true rfl) rfl dL_law_298 ⟨by show _ ≤ 621274; omega, by show _ ≤ 7232283; omega⟩ (fun H1 locs hz1 hk1 hS => ?_)
    have hP : va_P D vwCl ((wX cI cZ q tc nc ac ch U Z B L F ++ [(o, .inl (cJ, 1, .inr (.inl f)))]) ++ wM cI cZ r th tc nc ac ch V Y B L F) H1 := grow_P hP hk1
    clear hk1 hz1
    generalize H1 = H at hP hS ⊢
    refine lv_istore (lv' := [(5, .int 1), (4, .int (nI i)), (3, .ref o), (2, .ref (r 0)), (1, .ref (q 0)), (0, .ref b)]) hx hb dL_law_301 hl (by decide) rfl (fun ls hl => ?_)
    refine lv_aload_n hx hb dL_law_303 rfl (lv_at hl 3 rfl) ?_
    refine lv_aload_n hx hb dL_law_304 rfl (lv_at hl 5 rfl) ?_
    refine lv_iload hx hb dL_law_305 (lv_at hl 1 rfl) ?_
    refine lv_iconst (v := 1) hx hb dL_law_307 (by decide) ?_
    refine lv_iadd hx hb dL_law_308 ?_
    refine lv_cst (y := nI (i + 1)) (nI_add i 1) ?_
    refine s_ld hx hb hX hbl hbA hS (j := i + 1) (by omega) hN dL_law_309 ?_
    refine lv_aload_n hx hb dL_law_310 rfl (lv_at hl 5 rfl) ?_
    refine lv_iload hx hb dL_law_311 (lv_at hl 1 rfl) ?_
    refine lv_iconst (v := 2) hx hb dL_law_313 (by decide) ?_
    refine lv_iadd hx hb dL_law_314 ?_
    refine lv_cst (y := nI (i + 2)) (nI_add i 2) ?_
    refine s_ld hx hb hX hbl hbA hS (j := i + 2) (by omega) hN dL_law_315 ?_
    refine wcV_i (As := [.int (xs (i + 1)), .int (xs (i + 2))]) (rest := []) ⟨hx, hb, hml, hown, hts⟩ (wb_M_blame l (P_r hP) htc hnc hac (D_r hD) (v := xs (i + 1)) (v2 := xs (i + 2)) hv) (cwV 2 hts gL_law_X1_blame rfl rfl rfl hdX1_blame ⟨Nat.le_of_ble_eq_true rfl, Nat.le_of_ble_eq_true rfl⟩) (va_recv hK hP (ci := 1) (q0 := 8) rfl rfl) hK2 hS (fr_r hD hS hA) rfl hl.1 (Nat.le_of_ble_eq_true rfl) rfl dL_law_316 ⟨by show _ ≤ 621274; omega, by show _ ≤ 7232283; omega⟩ (fun H1 locs hP1 hz1 hk1 hS => ?_)
    have hP : va_P D vwCl ((wX cI cZ q tc nc ac ch U Z B L F ++ [(o, .inl (cJ, 1, .inr (.inl f)))]) ++ wM cI cZ r 1 tc nc ac ch V Y B L F) H1 := up_r hP hD hk1 hP1
    have hD : va_D (lA s) ((wX cI cZ q tc nc ac ch U Z B L F ++ [(o, .inl (cJ, 1, .inr (.inl f)))]) ++ wM cI cZ r 1 tc nc ac ch V Y B L F) := va_D_re hD rfl
    clear hP1 hk1 hz1
    generalize H1 = H at hP hS ⊢
    refine lv_istore (lv' := [(6, .int 0), (5, .int 1), (4, .int (nI i)), (3, .ref o), (2, .ref (r 0)), (1, .ref (q 0)), (0, .ref b)]) hx hb dL_law_319 hl (by decide) rfl (fun ls hl => ?_)
    refine lv_aload_n hx hb dL_law_321 rfl (lv_at hl 4 rfl) ?_
    refine pcV_i (As := []) (rest := []) ⟨hx, hb, hml, hown, hts⟩ (g_M_thrown l (P_r hP) htc hnc hac) (cwV 0 hts gL_law_X1_thrown rfl rfl rfl hdX1_thrown ⟨Nat.le_of_ble_eq_true rfl, Nat.le_of_ble_eq_true rfl⟩) (va_recv hK hP (ci := 1) (q0 := 8) rfl rfl) hK2 rfl hl.1 (Nat.le_of_ble_eq_true rfl) rfl dL_law_322 ⟨by show _ ≤ 621274; omega, by show _ ≤ 7232283; omega⟩ ?_
    refine lv_iload hx hb dL_law_325 (lv_at hl 1 rfl) ?_
    refine lv_ieq (tgt := 332) hx hb rfl dL_law_327 (by decide) ?_
    refine lv_iload hx hb dL_law_332 (lv_at hl 1 rfl) ?_
    refine lv_if_ne (tgt := 349) hx hb dL_law_334 (by decide) (fun _ => ?_) (fun h0 => absurd h0 (by decide))
    refine lv_goto (tgt := 1543) hx hb dL_law_349 (by decide) ?_
    refine W.widen (k := cells + 9) (n := slots + 58) (by omega) (by omega) ?_
    exact kk _ _ _ ⟨1, tc, nc, ac, ch, U, Z, V, Y, B, L, F, f, hS, hP, hD, htc, hnc, hac, hu, hz, hB, hB0, lv_sub hl [2, 3, 4, 5, 6] rfl⟩
  · skip
    rcases ar_set (xs (i + 2)) hpw.1 with hv | ⟨k, hk, ev2⟩
    · skip
      refine lv_aload_n hx hb dL_law_284 rfl (lv_at hl 3 rfl) ?_
      refine lv_aload_n hx hb dL_law_285 rfl (lv_at hl 4 rfl) ?_
      refine lv_iload hx hb dL_law_286 (lv_at hl 0 rfl) ?_
      refine lv_iconst (v := 1) hx hb dL_law_288 (by decide) ?_
      refine lv_iadd hx hb dL_law_289 ?_
      refine lv_cst (y := nI (i + 1)) (nI_add i 1) ?_
      refine s_ld hx hb hX hbl hbA hS (j := i + 1) (by omega) hN dL_law_290 ?_
      refine lv_cst (y := nI t) ev ?_
      refine lv_aload_n hx hb dL_law_291 rfl (lv_at hl 4 rfl) ?_
      refine lv_iload hx hb dL_law_292 (lv_at hl 0 rfl) ?_
      refine lv_iconst (v := 2) hx hb dL_law_294 (by decide) ?_
      refine lv_iadd hx hb dL_law_295 ?_
      refine lv_cst (y := nI (i + 2)) (nI_add i 2) ?_
      refine s_ld hx hb hX hbl hbA hS (j := i + 2) (by omega) hN dL_law_296 ?_
      refine lv_aload_n hx hb dL_law_297 rfl (lv_at hl 1 rfl) ?_
      refine sc_b (k := 2) (As := [.ref (q 0), .int (nI t), .int (xs (i + 2)), .ref o]) (rest := []) ⟨hx, hb, hml, hown, hts⟩ (wx2_L_blame l hl0 (P_l hP) htc hnc hac (t := t) (v := xs (i + 2)) ht hv) (vx_cwSW 4 hts gL_law_L_blame rfl rfl rfl hdL_blame ⟨Nat.le_of_ble_eq_true rfl, Nat.le_of_ble_eq_true rfl⟩) hK (xE_law hE0 hS) hS rfl hl.1 (Nat.le_of_ble_eq_true rfl) rfl dL_law_298 ⟨by show _ ≤ 621274; omega, by show _ ≤ 7232283; omega⟩ (fun H1 locs hz1 hk1 hS => ?_)
      have hP : va_P D vwCl ((wX cI cZ q tc nc ac ch U Z B L F ++ [(o, .inl (cJ, 1, .inr (.inl f)))]) ++ wM cI cZ r th tc nc ac ch V Y B L F) H1 := grow_P hP hk1
      clear hk1 hz1
      generalize H1 = H at hP hS ⊢
      refine lv_istore (lv' := [(5, .int 2), (4, .int (nI i)), (3, .ref o), (2, .ref (r 0)), (1, .ref (q 0)), (0, .ref b)]) hx hb dL_law_301 hl (by decide) rfl (fun ls hl => ?_)
      refine lv_aload_n hx hb dL_law_303 rfl (lv_at hl 3 rfl) ?_
      refine lv_aload_n hx hb dL_law_304 rfl (lv_at hl 5 rfl) ?_
      refine lv_iload hx hb dL_law_305 (lv_at hl 1 rfl) ?_
      refine lv_iconst (v := 1) hx hb dL_law_307 (by decide) ?_
      refine lv_iadd hx hb dL_law_308 ?_
      refine lv_cst (y := nI (i + 1)) (nI_add i 1) ?_
      refine s_ld hx hb hX hbl hbA hS (j := i + 1) (by omega) hN dL_law_309 ?_
      refine lv_cst (y := nI t) ev ?_
      refine lv_aload_n hx hb dL_law_310 rfl (lv_at hl 5 rfl) ?_
      refine lv_iload hx hb dL_law_311 (lv_at hl 1 rfl) ?_
      refine lv_iconst (v := 2) hx hb dL_law_313 (by decide) ?_
      refine lv_iadd hx hb dL_law_314 ?_
      refine lv_cst (y := nI (i + 2)) (nI_add i 2) ?_
      refine s_ld hx hb hX hbl hbA hS (j := i + 2) (by omega) hN dL_law_315 ?_
      refine wcV_i (As := [.int (nI t), .int (xs (i + 2))]) (rest := []) ⟨hx, hb, hml, hown, hts⟩ (wb2_M_blame l (P_r hP) htc hnc hac (D_r hD) (t := t) (v := xs (i + 2)) ht hv) (cwV 2 hts gL_law_X1_blame rfl rfl rfl hdX1_blame ⟨Nat.le_of_ble_eq_true rfl, Nat.le_of_ble_eq_true rfl⟩) (va_recv hK hP (ci := 1) (q0 := 8) rfl rfl) hK2 hS (fr_r hD hS hA) rfl hl.1 (Nat.le_of_ble_eq_true rfl) rfl dL_law_316 ⟨by show _ ≤ 621274; omega, by show _ ≤ 7232283; omega⟩ (fun H1 locs hP1 hz1 hk1 hS => ?_)
      have hP : va_P D vwCl ((wX cI cZ q tc nc ac ch U Z B L F ++ [(o, .inl (cJ, 1, .inr (.inl f)))]) ++ wM cI cZ r 2 tc nc ac ch V Y B L F) H1 := up_r hP hD hk1 hP1
      have hD : va_D (lA s) ((wX cI cZ q tc nc ac ch U Z B L F ++ [(o, .inl (cJ, 1, .inr (.inl f)))]) ++ wM cI cZ r 2 tc nc ac ch V Y B L F) := va_D_re hD rfl
      clear hP1 hk1 hz1
      generalize H1 = H at hP hS ⊢
      refine lv_istore (lv' := [(6, .int 0), (5, .int 2), (4, .int (nI i)), (3, .ref o), (2, .ref (r 0)), (1, .ref (q 0)), (0, .ref b)]) hx hb dL_law_319 hl (by decide) rfl (fun ls hl => ?_)
      refine lv_aload_n hx hb dL_law_321 rfl (lv_at hl 4 rfl) ?_
      refine pcV_i (As := []) (rest := []) ⟨hx, hb, hml, hown, hts⟩ (g_M_thrown l (P_r hP) htc hnc hac) (cwV 0 hts gL_law_X1_thrown rfl rfl rfl hdX1_thrown ⟨Nat.le_of_ble_eq_true rfl, Nat.le_of_ble_eq_true rfl⟩) (va_recv hK hP (ci := 1) (q0 := 8) rfl rfl) hK2 rfl hl.1 (Nat.le_of_ble_eq_true rfl) rfl dL_law_322 ⟨by show _ ≤ 621274; omega, by show _ ≤ 7232283; omega⟩ ?_
      refine lv_iload hx hb dL_law_325 (lv_at hl 1 rfl) ?_
      refine lv_ieq (tgt := 332) hx hb rfl dL_law_327 (by decide) ?_
      refine lv_iload hx hb dL_law_332 (lv_at hl 1 rfl) ?_
      refine lv_if_ne (tgt := 349) hx hb dL_law_334 (by decide) (fun _ => ?_) (fun h0 => absurd h0 (by decide))
      refine lv_goto (tgt := 1543) hx hb dL_law_349 (by decide) ?_
      refine W.widen (k := cells + 9) (n := slots + 58) (by omega) (by omega) ?_
      exact kk _ _ _ ⟨2, tc, nc, ac, ch, U, Z, V, Y, B, L, F, f, hS, hP, hD, htc, hnc, hac, hu, hz, hB, hB0, lv_sub hl [2, 3, 4, 5, 6] rfl⟩
    · skip
      refine lv_aload_n hx hb dL_law_284 rfl (lv_at hl 3 rfl) ?_
      refine lv_aload_n hx hb dL_law_285 rfl (lv_at hl 4 rfl) ?_
      refine lv_iload hx hb dL_law_286 (lv_at hl 0 rfl) ?_
      refine lv_iconst (v := 1) hx hb dL_law_288 (by decide) ?_
      refine lv_iadd hx hb dL_law_289 ?_
      refine lv_cst (y := nI (i + 1)) (nI_add i 1) ?_
      refine s_ld hx hb hX hbl hbA hS (j := i + 1) (by omega) hN dL_law_290 ?_
      refine lv_cst (y := nI t) ev ?_
      refine lv_aload_n hx hb dL_law_291 rfl (lv_at hl 4 rfl) ?_
      refine lv_iload hx hb dL_law_292 (lv_at hl 0 rfl) ?_
      refine lv_iconst (v := 2) hx hb dL_law_294 (by decide) ?_
      refine lv_iadd hx hb dL_law_295 ?_
      refine lv_cst (y := nI (i + 2)) (nI_add i 2) ?_
      refine s_ld hx hb hX hbl hbA hS (j := i + 2) (by omega) hN dL_law_296 ?_
      refine lv_cst (y := nI k) ev2 ?_
      refine lv_aload_n hx hb dL_law_297 rfl (lv_at hl 1 rfl) ?_
      refine sc_g (As := [.ref (q 0), .int (nI t), .int (nI k), .ref o]) (rest := []) ⟨hx, hb, hml, hown, hts⟩ (w_L_blame l (P_l hP) htc hnc hac (D_l hD) (t := t) (k := k) ht hk) (vx_cwSW 4 hts gL_law_L_blame rfl rfl rfl hdL_blame ⟨Nat.le_of_ble_eq_true rfl, Nat.le_of_ble_eq_true rfl⟩) hK hS (fr_l hD hS hA) rfl hl.1 (Nat.le_of_ble_eq_true rfl) rfl dL_law_298 ⟨by show _ ≤ 621274; omega, by show _ ≤ 7232283; omega⟩ (fun H1 locs hP1 hz1 hk1 hS => ?_)
      have hP : va_P D vwCl ((wX cI cZ q tc nc ac ch U Z (upd B t (nI k)) (upd L t (F t)) F ++ [(o, .inl (cJ, 1, .inr (.inl (vp_updL f 0 (B t).toInt64))))]) ++ wM cI cZ r th tc nc ac ch V Y B L F) H1 := up_l hP hD hk1 hP1
      have hD : va_D (lA s) ((wX cI cZ q tc nc ac ch U Z (upd B t (nI k)) (upd L t (F t)) F ++ [(o, .inl (cJ, 1, .inr (.inl (vp_updL f 0 (B t).toInt64))))]) ++ wM cI cZ r th tc nc ac ch V Y B L F) := va_D_re hD rfl
      clear hP1 hk1 hz1
      generalize H1 = H at hP hS ⊢
      refine lv_istore (lv' := [(5, .int 0), (4, .int (nI i)), (3, .ref o), (2, .ref (r 0)), (1, .ref (q 0)), (0, .ref b)]) hx hb dL_law_301 hl (by decide) rfl (fun ls hl => ?_)
      refine lv_aload_n hx hb dL_law_303 rfl (lv_at hl 3 rfl) ?_
      refine lv_aload_n hx hb dL_law_304 rfl (lv_at hl 5 rfl) ?_
      refine lv_iload hx hb dL_law_305 (lv_at hl 1 rfl) ?_
      refine lv_iconst (v := 1) hx hb dL_law_307 (by decide) ?_
      refine lv_iadd hx hb dL_law_308 ?_
      refine lv_cst (y := nI (i + 1)) (nI_add i 1) ?_
      refine s_ld hx hb hX hbl hbA hS (j := i + 1) (by omega) hN dL_law_309 ?_
      refine lv_cst (y := nI t) ev ?_
      refine lv_aload_n hx hb dL_law_310 rfl (lv_at hl 5 rfl) ?_
      refine lv_iload hx hb dL_law_311 (lv_at hl 1 rfl) ?_
      refine lv_iconst (v := 2) hx hb dL_law_313 (by decide) ?_
      refine lv_iadd hx hb dL_law_314 ?_
      refine lv_cst (y := nI (i + 2)) (nI_add i 2) ?_
      refine s_ld hx hb hX hbl hbA hS (j := i + 2) (by omega) hN dL_law_315 ?_
      refine lv_cst (y := nI k) ev2 ?_
      refine wcV_i (As := [.int (nI t), .int (nI k)]) (rest := []) ⟨hx, hb, hml, hown, hts⟩ (w_M_blame l (P_r hP) htc hnc hac (D_r hD) (t := t) (k := k) ht hk) (cwV 2 hts gL_law_X1_blame rfl rfl rfl hdX1_blame ⟨Nat.le_of_ble_eq_true rfl, Nat.le_of_ble_eq_true rfl⟩) (va_recv hK hP (ci := 1) (q0 := 8) rfl rfl) hK2 hS (fr_r hD hS hA) rfl hl.1 (Nat.le_of_ble_eq_true rfl) rfl dL_law_316 ⟨by show _ ≤ 621274; omega, by show _ ≤ 7232283; omega⟩ (fun H1 locs hP1 hz1 hk1 hS => ?_)
      have hP : va_P D vwCl ((wX cI cZ q tc nc ac ch U Z (upd B t (nI k)) (upd L t (F t)) F ++ [(o, .inl (cJ, 1, .inr (.inl (vp_updL f 0 (B t).toInt64))))]) ++ wM cI cZ r 0 tc nc ac ch V Y (upd B t (nI k)) (upd L t (F t)) F) H1 := up_r hP hD hk1 hP1
      have hD : va_D (lA s) ((wX cI cZ q tc nc ac ch U Z (upd B t (nI k)) (upd L t (F t)) F ++ [(o, .inl (cJ, 1, .inr (.inl (vp_updL f 0 (B t).toInt64))))]) ++ wM cI cZ r 0 tc nc ac ch V Y (upd B t (nI k)) (upd L t (F t)) F) := va_D_re hD rfl
      clear hP1 hk1 hz1
      generalize H1 = H at hP hS ⊢
      refine lv_istore (lv' := [(6, .int (B t)), (5, .int 0), (4, .int (nI i)), (3, .ref o), (2, .ref (r 0)), (1, .ref (q 0)), (0, .ref b)]) hx hb dL_law_319 hl (by decide) rfl (fun ls hl => ?_)
      refine lv_aload_n hx hb dL_law_321 rfl (lv_at hl 4 rfl) ?_
      refine pcV_i (As := []) (rest := []) ⟨hx, hb, hml, hown, hts⟩ (g_M_thrown l (P_r hP) htc hnc hac) (cwV 0 hts gL_law_X1_thrown rfl rfl rfl hdX1_thrown ⟨Nat.le_of_ble_eq_true rfl, Nat.le_of_ble_eq_true rfl⟩) (va_recv hK hP (ci := 1) (q0 := 8) rfl rfl) hK2 rfl hl.1 (Nat.le_of_ble_eq_true rfl) rfl dL_law_322 ⟨by show _ ≤ 621274; omega, by show _ ≤ 7232283; omega⟩ ?_
      refine lv_iload hx hb dL_law_325 (lv_at hl 1 rfl) ?_
      refine lv_ieq (tgt := 332) hx hb rfl dL_law_327 (by decide) ?_
      refine lv_iload hx hb dL_law_332 (lv_at hl 1 rfl) ?_
      refine lv_if_ne (tgt := 349) hx hb dL_law_334 (by decide) (fun h0 => absurd rfl h0) (fun _ => ?_)
      refine lv_aload_n hx hb dL_law_337 rfl (lv_at hl 3 rfl) ?_
      refine lv_iconst (v := 0) hx hb dL_law_338 (by decide) ?_
      refine ll_ld hx hb hK hP 7 2 rfl rfl dL_law_339 ?_
      refine lv_iload hx hb dL_law_340 (lv_at hl 0 rfl) ?_
      refine lv_i2l (v := (B t).toInt64) hx hb dL_law_342 rfl ?_
      refine lv_leq (tgt := 349) hx hb rfl dL_law_343 dL_law_344 (by decide) ?_
      refine lv_goto (tgt := 1543) hx hb dL_law_349 (by decide) ?_
      refine W.widen (k := cells + 9) (n := slots + 58) (by omega) (by omega) ?_
      exact kk _ _ _ ⟨0, tc, nc, ac, ch, U, Z, V, Y, (upd B t (nI k)), (upd L t (F t)), F, (vp_updL f 0 (B t).toInt64), hS, hP, hD, htc, hnc, hac, hu, hz, (updB_k hB (Nat.lt_of_lt_of_le hk hpw.2)), (upd_off hB0 ht), lv_sub hl [2, 3, 4, 5, 6] rfl⟩
set_option maxHeartbeats 4000000 in
set_option maxRecDepth 100000 in
theorem lc_writeDown (l : Launch) {p : Program} {e : Env} {s : State} {m : MethodId} {below : List Frame} {meth : Method} {c : Code} {b N : Nat} {xs : Nat → Int32} {D : va_G} {cI cZ cJ : ClassId} {q r : Nat → Nat} {o i : Nat} {H : Heap} {locs : List Loc} {ls : Array Slot} {cells slots : Nat} {Q : State → Prop} (C : LCtx l p s m c b N xs D cI cZ cJ) (h : LStt s D cI cZ cJ q r o b i H locs ls) (hi : i + 2 < N) (hcl : cells + 9 ≤ 621274) (hsl : slots + 58 ≤ 7232283) (kk : ∀ (H : Heap) (locs : List Loc) (ls : Array Slot), LStt s D cI cZ cJ q r o b i H locs ls → W p l e room_1 s m #[Value.ref b] below meth c H locs (cells + 9) (slots + 58) Q (F0 m 1543 ls [])) : W p l e room_1 s m #[Value.ref b] below meth c H locs cells slots Q (F0 m 352 ls []) := by
  obtain ⟨hx, hb, hml, hown, hts, hX, hbl, hN, hl0, hK, hE0⟩ := C
  obtain ⟨th, tc, nc, ac, ch, U, Z, V, Y, B, L, F, f, hS, hP, hD, htc, hnc, hac, hu, hz, hB, hB0, hl⟩ := h
  have hK2 : va_K D vwCl (tyA cI cZ) s := hK.sub [0, 1] rfl
  have hA : ∀ q : Nat, s.heap.size ≤ q → lA s q := fun _ h => h
  have hbA : ¬ lA s b := Nat.not_le.mpr hbl
  have hpw := pw_in htc
  rcases ar_us (xs (i + 1)) hpw.1 with hv | ⟨k, hk0, hk, ev⟩
  · skip
    refine lv_aload_n hx hb dL_law_352 rfl (lv_at hl 3 rfl) ?_
    refine lv_aload_n hx hb dL_law_353 rfl (lv_at hl 4 rfl) ?_
    refine lv_iload hx hb dL_law_354 (lv_at hl 0 rfl) ?_
    refine lv_iconst (v := 1) hx hb dL_law_356 (by decide) ?_
    refine lv_iadd hx hb dL_law_357 ?_
    refine lv_cst (y := nI (i + 1)) (nI_add i 1) ?_
    refine s_ld hx hb hX hbl hbA hS (j := i + 1) (by omega) hN dL_law_358 ?_
    refine lv_aload_n hx hb dL_law_359 rfl (lv_at hl 4 rfl) ?_
    refine lv_iload hx hb dL_law_360 (lv_at hl 0 rfl) ?_
    refine lv_iconst (v := 2) hx hb dL_law_362 (by decide) ?_
    refine lv_iadd hx hb dL_law_363 ?_
    refine lv_cst (y := nI (i + 2)) (nI_add i 2) ?_
    refine s_ld hx hb hX hbl hbA hS (j := i + 2) (by omega) hN dL_law_364 ?_
    refine lv_bz (t0 := 372) hx hb dL_law_365 dL_law_368 dL_law_369 dL_law_372 (by decide) (by decide) ?_
    refine lv_aload_n hx hb dL_law_373 rfl (lv_at hl 1 rfl) ?_
    refine sc_b (k := 1) (As := [.ref (q 0), .int (xs (i + 1)), .int (bI (!(decide (xs (i + 2) = 0)))), .ref o]) (rest := []) ⟨hx, hb, hml, hown, hts⟩ (wx_L_writeDown l hl0 (P_l hP) htc hnc hac (v := xs (i + 1)) (z := (!(decide (xs (i + 2) = 0)))) hv) (vx_cwSW 4 hts gL_law_L_writeDown rfl rfl rfl hdL_writeDown ⟨Nat.le_of_ble_eq_true rfl, Nat.le_of_ble_eq_true rfl⟩) hK (xE_law hE0 hS) hS rfl hl.1 (Nat.le_of_ble_eq_true rfl) rfl dL_law_374 ⟨by show _ ≤ 621274; omega, by show _ ≤ 7232283; omega⟩ (fun H1 locs hz1 hk1 hS => ?_)
    have hP : va_P D vwCl ((wX cI cZ q tc nc ac ch U Z B L F ++ [(o, .inl (cJ, 1, .inr (.inl f)))]) ++ wM cI cZ r th tc nc ac ch V Y B L F) H1 := grow_P hP hk1
    clear hk1 hz1
    generalize H1 = H at hP hS ⊢
    refine lv_istore (lv' := [(5, .int 1), (4, .int (nI i)), (3, .ref o), (2, .ref (r 0)), (1, .ref (q 0)), (0, .ref b)]) hx hb dL_law_377 hl (by decide) rfl (fun ls hl => ?_)
    refine lv_aload_n hx hb dL_law_379 rfl (lv_at hl 3 rfl) ?_
    refine lv_aload_n hx hb dL_law_380 rfl (lv_at hl 5 rfl) ?_
    refine lv_iload hx hb dL_law_381 (lv_at hl 1 rfl) ?_
    refine lv_iconst (v := 1) hx hb dL_law_383 (by decide) ?_
    refine lv_iadd hx hb dL_law_384 ?_
    refine lv_cst (y := nI (i + 1)) (nI_add i 1) ?_
    refine s_ld hx hb hX hbl hbA hS (j := i + 1) (by omega) hN dL_law_385 ?_
    refine lv_aload_n hx hb dL_law_386 rfl (lv_at hl 5 rfl) ?_
    refine lv_iload hx hb dL_law_387 (lv_at hl 1 rfl) ?_
    refine lv_iconst (v := 2) hx hb dL_law_389 (by decide) ?_
    refine lv_iadd hx hb dL_law_390 ?_
    refine lv_cst (y := nI (i + 2)) (nI_add i 2) ?_
    refine s_ld hx hb hX hbl hbA hS (j := i + 2) (by omega) hN dL_law_391 ?_
    refine lv_bz (t0 := 399) hx hb dL_law_392 dL_law_395 dL_law_396 dL_law_399 (by decide) (by decide) ?_
    refine wcV_i (As := [.int (xs (i + 1)), .int (bI (!(decide (xs (i + 2) = 0))))]) (rest := []) ⟨hx, hb, hml, hown, hts⟩ (wb_M_writeDown l (P_r hP) htc hnc hac (D_r hD) (v := xs (i + 1)) (z := (!(decide (xs (i + 2) = 0)))) hv) (cwV 2 hts gL_law_X1_writeDown rfl rfl rfl hdX1_writeDown ⟨Nat.le_of_ble_eq_true rfl, Nat.le_of_ble_eq_true rfl⟩) (va_recv hK hP (ci := 1) (q0 := 8) rfl rfl) hK2 hS (fr_r hD hS hA) rfl hl.1 (Nat.le_of_ble_eq_true rfl) rfl dL_law_400 ⟨by show _ ≤ 621274; omega, by show _ ≤ 7232283; omega⟩ (fun H1 locs hP1 hz1 hk1 hS => ?_)
    have hP : va_P D vwCl ((wX cI cZ q tc nc ac ch U Z B L F ++ [(o, .inl (cJ, 1, .inr (.inl f)))]) ++ wM cI cZ r 1 tc nc ac ch V Y B L F) H1 := up_r hP hD hk1 hP1
    have hD : va_D (lA s) ((wX cI cZ q tc nc ac ch U Z B L F ++ [(o, .inl (cJ, 1, .inr (.inl f)))]) ++ wM cI cZ r 1 tc nc ac ch V Y B L F) := va_D_re hD rfl
    clear hP1 hk1 hz1
    generalize H1 = H at hP hS ⊢
    refine lv_istore (lv' := [(6, .int 0), (5, .int 1), (4, .int (nI i)), (3, .ref o), (2, .ref (r 0)), (1, .ref (q 0)), (0, .ref b)]) hx hb dL_law_403 hl (by decide) rfl (fun ls hl => ?_)
    refine lv_aload_n hx hb dL_law_405 rfl (lv_at hl 4 rfl) ?_
    refine pcV_i (As := []) (rest := []) ⟨hx, hb, hml, hown, hts⟩ (g_M_thrown l (P_r hP) htc hnc hac) (cwV 0 hts gL_law_X1_thrown rfl rfl rfl hdX1_thrown ⟨Nat.le_of_ble_eq_true rfl, Nat.le_of_ble_eq_true rfl⟩) (va_recv hK hP (ci := 1) (q0 := 8) rfl rfl) hK2 rfl hl.1 (Nat.le_of_ble_eq_true rfl) rfl dL_law_406 ⟨by show _ ≤ 621274; omega, by show _ ≤ 7232283; omega⟩ ?_
    refine lv_iload hx hb dL_law_409 (lv_at hl 1 rfl) ?_
    refine lv_ieq (tgt := 416) hx hb rfl dL_law_411 (by decide) ?_
    refine lv_iload hx hb dL_law_416 (lv_at hl 1 rfl) ?_
    refine lv_if_ne (tgt := 433) hx hb dL_law_418 (by decide) (fun _ => ?_) (fun h0 => absurd h0 (by decide))
    refine lv_goto (tgt := 1543) hx hb dL_law_433 (by decide) ?_
    refine W.widen (k := cells + 9) (n := slots + 58) (by omega) (by omega) ?_
    exact kk _ _ _ ⟨1, tc, nc, ac, ch, U, Z, V, Y, B, L, F, f, hS, hP, hD, htc, hnc, hac, hu, hz, hB, hB0, lv_sub hl [2, 3, 4, 5, 6] rfl⟩
  · skip
    by_cases h40 : nc = 40
    · skip
      refine lv_aload_n hx hb dL_law_352 rfl (lv_at hl 3 rfl) ?_
      refine lv_aload_n hx hb dL_law_353 rfl (lv_at hl 4 rfl) ?_
      refine lv_iload hx hb dL_law_354 (lv_at hl 0 rfl) ?_
      refine lv_iconst (v := 1) hx hb dL_law_356 (by decide) ?_
      refine lv_iadd hx hb dL_law_357 ?_
      refine lv_cst (y := nI (i + 1)) (nI_add i 1) ?_
      refine s_ld hx hb hX hbl hbA hS (j := i + 1) (by omega) hN dL_law_358 ?_
      refine lv_cst (y := nI k) ev ?_
      refine lv_aload_n hx hb dL_law_359 rfl (lv_at hl 4 rfl) ?_
      refine lv_iload hx hb dL_law_360 (lv_at hl 0 rfl) ?_
      refine lv_iconst (v := 2) hx hb dL_law_362 (by decide) ?_
      refine lv_iadd hx hb dL_law_363 ?_
      refine lv_cst (y := nI (i + 2)) (nI_add i 2) ?_
      refine s_ld hx hb hX hbl hbA hS (j := i + 2) (by omega) hN dL_law_364 ?_
      refine lv_bz (t0 := 372) hx hb dL_law_365 dL_law_368 dL_law_369 dL_law_372 (by decide) (by decide) ?_
      refine lv_aload_n hx hb dL_law_373 rfl (lv_at hl 1 rfl) ?_
      refine sc_b (k := 2) (As := [.ref (q 0), .int (nI k), .int (bI (!(decide (xs (i + 2) = 0)))), .ref o]) (rest := []) ⟨hx, hb, hml, hown, hts⟩ (wx2_L_writeDown l hl0 (P_l hP) htc hnc hac (k := k) (z := (!(decide (xs (i + 2) = 0)))) hk0 hk h40) (vx_cwSW 4 hts gL_law_L_writeDown rfl rfl rfl hdL_writeDown ⟨Nat.le_of_ble_eq_true rfl, Nat.le_of_ble_eq_true rfl⟩) hK (xE_law hE0 hS) hS rfl hl.1 (Nat.le_of_ble_eq_true rfl) rfl dL_law_374 ⟨by show _ ≤ 621274; omega, by show _ ≤ 7232283; omega⟩ (fun H1 locs hz1 hk1 hS => ?_)
      have hP : va_P D vwCl ((wX cI cZ q tc nc ac ch U Z B L F ++ [(o, .inl (cJ, 1, .inr (.inl f)))]) ++ wM cI cZ r th tc nc ac ch V Y B L F) H1 := grow_P hP hk1
      clear hk1 hz1
      generalize H1 = H at hP hS ⊢
      refine lv_istore (lv' := [(5, .int 2), (4, .int (nI i)), (3, .ref o), (2, .ref (r 0)), (1, .ref (q 0)), (0, .ref b)]) hx hb dL_law_377 hl (by decide) rfl (fun ls hl => ?_)
      refine lv_aload_n hx hb dL_law_379 rfl (lv_at hl 3 rfl) ?_
      refine lv_aload_n hx hb dL_law_380 rfl (lv_at hl 5 rfl) ?_
      refine lv_iload hx hb dL_law_381 (lv_at hl 1 rfl) ?_
      refine lv_iconst (v := 1) hx hb dL_law_383 (by decide) ?_
      refine lv_iadd hx hb dL_law_384 ?_
      refine lv_cst (y := nI (i + 1)) (nI_add i 1) ?_
      refine s_ld hx hb hX hbl hbA hS (j := i + 1) (by omega) hN dL_law_385 ?_
      refine lv_cst (y := nI k) ev ?_
      refine lv_aload_n hx hb dL_law_386 rfl (lv_at hl 5 rfl) ?_
      refine lv_iload hx hb dL_law_387 (lv_at hl 1 rfl) ?_
      refine lv_iconst (v := 2) hx hb dL_law_389 (by decide) ?_
      refine lv_iadd hx hb dL_law_390 ?_
      refine lv_cst (y := nI (i + 2)) (nI_add i 2) ?_
      refine s_ld hx hb hX hbl hbA hS (j := i + 2) (by omega) hN dL_law_391 ?_
      refine lv_bz (t0 := 399) hx hb dL_law_392 dL_law_395 dL_law_396 dL_law_399 (by decide) (by decide) ?_
      refine wcV_i (As := [.int (nI k), .int (bI (!(decide (xs (i + 2) = 0))))]) (rest := []) ⟨hx, hb, hml, hown, hts⟩ (wb2_M_writeDown l (P_r hP) htc hnc hac (D_r hD) (k := k) (z := (!(decide (xs (i + 2) = 0)))) hk0 hk h40) (cwV 2 hts gL_law_X1_writeDown rfl rfl rfl hdX1_writeDown ⟨Nat.le_of_ble_eq_true rfl, Nat.le_of_ble_eq_true rfl⟩) (va_recv hK hP (ci := 1) (q0 := 8) rfl rfl) hK2 hS (fr_r hD hS hA) rfl hl.1 (Nat.le_of_ble_eq_true rfl) rfl dL_law_400 ⟨by show _ ≤ 621274; omega, by show _ ≤ 7232283; omega⟩ (fun H1 locs hP1 hz1 hk1 hS => ?_)
      have hP : va_P D vwCl ((wX cI cZ q tc nc ac ch U Z B L F ++ [(o, .inl (cJ, 1, .inr (.inl f)))]) ++ wM cI cZ r 2 tc nc ac ch V Y B L F) H1 := up_r hP hD hk1 hP1
      have hD : va_D (lA s) ((wX cI cZ q tc nc ac ch U Z B L F ++ [(o, .inl (cJ, 1, .inr (.inl f)))]) ++ wM cI cZ r 2 tc nc ac ch V Y B L F) := va_D_re hD rfl
      clear hP1 hk1 hz1
      generalize H1 = H at hP hS ⊢
      refine lv_istore (lv' := [(6, .int 0), (5, .int 2), (4, .int (nI i)), (3, .ref o), (2, .ref (r 0)), (1, .ref (q 0)), (0, .ref b)]) hx hb dL_law_403 hl (by decide) rfl (fun ls hl => ?_)
      refine lv_aload_n hx hb dL_law_405 rfl (lv_at hl 4 rfl) ?_
      refine pcV_i (As := []) (rest := []) ⟨hx, hb, hml, hown, hts⟩ (g_M_thrown l (P_r hP) htc hnc hac) (cwV 0 hts gL_law_X1_thrown rfl rfl rfl hdX1_thrown ⟨Nat.le_of_ble_eq_true rfl, Nat.le_of_ble_eq_true rfl⟩) (va_recv hK hP (ci := 1) (q0 := 8) rfl rfl) hK2 rfl hl.1 (Nat.le_of_ble_eq_true rfl) rfl dL_law_406 ⟨by show _ ≤ 621274; omega, by show _ ≤ 7232283; omega⟩ ?_
      refine lv_iload hx hb dL_law_409 (lv_at hl 1 rfl) ?_
      refine lv_ieq (tgt := 416) hx hb rfl dL_law_411 (by decide) ?_
      refine lv_iload hx hb dL_law_416 (lv_at hl 1 rfl) ?_
      refine lv_if_ne (tgt := 433) hx hb dL_law_418 (by decide) (fun _ => ?_) (fun h0 => absurd h0 (by decide))
      refine lv_goto (tgt := 1543) hx hb dL_law_433 (by decide) ?_
      refine W.widen (k := cells + 9) (n := slots + 58) (by omega) (by omega) ?_
      exact kk _ _ _ ⟨2, tc, nc, ac, ch, U, Z, V, Y, B, L, F, f, hS, hP, hD, htc, hnc, hac, hu, hz, hB, hB0, lv_sub hl [2, 3, 4, 5, 6] rfl⟩
    · skip
      have h40 : nc < 40 := by omega
      refine lv_aload_n hx hb dL_law_352 rfl (lv_at hl 3 rfl) ?_
      refine lv_aload_n hx hb dL_law_353 rfl (lv_at hl 4 rfl) ?_
      refine lv_iload hx hb dL_law_354 (lv_at hl 0 rfl) ?_
      refine lv_iconst (v := 1) hx hb dL_law_356 (by decide) ?_
      refine lv_iadd hx hb dL_law_357 ?_
      refine lv_cst (y := nI (i + 1)) (nI_add i 1) ?_
      refine s_ld hx hb hX hbl hbA hS (j := i + 1) (by omega) hN dL_law_358 ?_
      refine lv_cst (y := nI k) ev ?_
      refine lv_aload_n hx hb dL_law_359 rfl (lv_at hl 4 rfl) ?_
      refine lv_iload hx hb dL_law_360 (lv_at hl 0 rfl) ?_
      refine lv_iconst (v := 2) hx hb dL_law_362 (by decide) ?_
      refine lv_iadd hx hb dL_law_363 ?_
      refine lv_cst (y := nI (i + 2)) (nI_add i 2) ?_
      refine s_ld hx hb hX hbl hbA hS (j := i + 2) (by omega) hN dL_law_364 ?_
      refine lv_bz (t0 := 372) hx hb dL_law_365 dL_law_368 dL_law_369 dL_law_372 (by decide) (by decide) ?_
      refine lv_aload_n hx hb dL_law_373 rfl (lv_at hl 1 rfl) ?_
      refine sc_g (As := [.ref (q 0), .int (nI k), .int (bI (!(decide (xs (i + 2) = 0)))), .ref o]) (rest := []) ⟨hx, hb, hml, hown, hts⟩ (w_L_writeDown l (P_l hP) htc hnc hac (D_l hD) (k := k) (z := (!(decide (xs (i + 2) = 0)))) hk0 hk h40) (vx_cwSW 4 hts gL_law_L_writeDown rfl rfl rfl hdL_writeDown ⟨Nat.le_of_ble_eq_true rfl, Nat.le_of_ble_eq_true rfl⟩) hK hS (fr_l hD hS hA) rfl hl.1 (Nat.le_of_ble_eq_true rfl) rfl dL_law_374 ⟨by show _ ≤ 621274; omega, by show _ ≤ 7232283; omega⟩ (fun H1 locs hP1 hz1 hk1 hS => ?_)
      have hP : va_P D vwCl ((wX cI cZ q tc (nc + 1) ac (ch + nI (ct (sC B L (nI k) (!(decide (xs (i + 2) = 0))) ((spx (fun j => zz (upd U nc (nI k)) (updB Z nc (!(decide (xs (i + 2) = 0)))) (nc + 1) j) (pw tc)).1)) ac)) (upd U nc (nI k)) (updB Z nc (!(decide (xs (i + 2) = 0)))) (mrg (sB B L (nI k) (!(decide (xs (i + 2) = 0))) ((spx (fun j => zz (upd U nc (nI k)) (updB Z nc (!(decide (xs (i + 2) = 0)))) (nc + 1) j) (pw tc)).1)) B ac) (mrg (sL B L F (nI k) (!(decide (xs (i + 2) = 0))) ((spx (fun j => zz (upd U nc (nI k)) (updB Z nc (!(decide (xs (i + 2) = 0)))) (nc + 1) j) (pw tc)).1)) L ac) F ++ [(o, .inl (cJ, 1, .inr (.inl (vp_updL f 0 (nI (ct (sC B L (nI k) (!(decide (xs (i + 2) = 0))) ((spx (fun j => zz (upd U nc (nI k)) (updB Z nc (!(decide (xs (i + 2) = 0)))) (nc + 1) j) (pw tc)).1)) ac)).toInt64))))]) ++ wM cI cZ r th tc nc ac ch V Y B L F) H1 := up_l hP hD hk1 hP1
      have hD : va_D (lA s) ((wX cI cZ q tc (nc + 1) ac (ch + nI (ct (sC B L (nI k) (!(decide (xs (i + 2) = 0))) ((spx (fun j => zz (upd U nc (nI k)) (updB Z nc (!(decide (xs (i + 2) = 0)))) (nc + 1) j) (pw tc)).1)) ac)) (upd U nc (nI k)) (updB Z nc (!(decide (xs (i + 2) = 0)))) (mrg (sB B L (nI k) (!(decide (xs (i + 2) = 0))) ((spx (fun j => zz (upd U nc (nI k)) (updB Z nc (!(decide (xs (i + 2) = 0)))) (nc + 1) j) (pw tc)).1)) B ac) (mrg (sL B L F (nI k) (!(decide (xs (i + 2) = 0))) ((spx (fun j => zz (upd U nc (nI k)) (updB Z nc (!(decide (xs (i + 2) = 0)))) (nc + 1) j) (pw tc)).1)) L ac) F ++ [(o, .inl (cJ, 1, .inr (.inl (vp_updL f 0 (nI (ct (sC B L (nI k) (!(decide (xs (i + 2) = 0))) ((spx (fun j => zz (upd U nc (nI k)) (updB Z nc (!(decide (xs (i + 2) = 0)))) (nc + 1) j) (pw tc)).1)) ac)).toInt64))))]) ++ wM cI cZ r th tc nc ac ch V Y B L F) := va_D_re hD rfl
      clear hP1 hk1 hz1
      generalize H1 = H at hP hS ⊢
      refine lv_istore (lv' := [(5, .int 0), (4, .int (nI i)), (3, .ref o), (2, .ref (r 0)), (1, .ref (q 0)), (0, .ref b)]) hx hb dL_law_377 hl (by decide) rfl (fun ls hl => ?_)
      refine lv_aload_n hx hb dL_law_379 rfl (lv_at hl 3 rfl) ?_
      refine lv_aload_n hx hb dL_law_380 rfl (lv_at hl 5 rfl) ?_
      refine lv_iload hx hb dL_law_381 (lv_at hl 1 rfl) ?_
      refine lv_iconst (v := 1) hx hb dL_law_383 (by decide) ?_
      refine lv_iadd hx hb dL_law_384 ?_
      refine lv_cst (y := nI (i + 1)) (nI_add i 1) ?_
      refine s_ld hx hb hX hbl hbA hS (j := i + 1) (by omega) hN dL_law_385 ?_
      refine lv_cst (y := nI k) ev ?_
      refine lv_aload_n hx hb dL_law_386 rfl (lv_at hl 5 rfl) ?_
      refine lv_iload hx hb dL_law_387 (lv_at hl 1 rfl) ?_
      refine lv_iconst (v := 2) hx hb dL_law_389 (by decide) ?_
      refine lv_iadd hx hb dL_law_390 ?_
      refine lv_cst (y := nI (i + 2)) (nI_add i 2) ?_
      refine s_ld hx hb hX hbl hbA hS (j := i + 2) (by omega) hN dL_law_391 ?_
      refine lv_bz (t0 := 399) hx hb dL_law_392 dL_law_395 dL_law_396 dL_law_399 (by decide) (by decide) ?_
      refine wcV_i (As := [.int (nI k), .int (bI (!(decide (xs (i + 2) = 0))))]) (rest := []) ⟨hx, hb, hml, hown, hts⟩ (w_M_writeDown l (P_r hP) htc hnc hac (D_r hD) (k := k) (z := (!(decide (xs (i + 2) = 0)))) hk0 hk h40) (cwV 2 hts gL_law_X1_writeDown rfl rfl rfl hdX1_writeDown ⟨Nat.le_of_ble_eq_true rfl, Nat.le_of_ble_eq_true rfl⟩) (va_recv hK hP (ci := 1) (q0 := 8) rfl rfl) hK2 hS (fr_r hD hS hA) rfl hl.1 (Nat.le_of_ble_eq_true rfl) rfl dL_law_400 ⟨by show _ ≤ 621274; omega, by show _ ≤ 7232283; omega⟩ (fun H1 locs hP1 hz1 hk1 hS => ?_)
      rw [em_eq hu hz htc (nI k) (!(decide (xs (i + 2) = 0)))] at hP1
      have hP : va_P D vwCl ((wX cI cZ q tc (nc + 1) ac (ch + nI (ct (sC B L (nI k) (!(decide (xs (i + 2) = 0))) ((spx (fun j => zz (upd U nc (nI k)) (updB Z nc (!(decide (xs (i + 2) = 0)))) (nc + 1) j) (pw tc)).1)) ac)) (upd U nc (nI k)) (updB Z nc (!(decide (xs (i + 2) = 0)))) (mrg (sB B L (nI k) (!(decide (xs (i + 2) = 0))) ((spx (fun j => zz (upd U nc (nI k)) (updB Z nc (!(decide (xs (i + 2) = 0)))) (nc + 1) j) (pw tc)).1)) B ac) (mrg (sL B L F (nI k) (!(decide (xs (i + 2) = 0))) ((spx (fun j => zz (upd U nc (nI k)) (updB Z nc (!(decide (xs (i + 2) = 0)))) (nc + 1) j) (pw tc)).1)) L ac) F ++ [(o, .inl (cJ, 1, .inr (.inl (vp_updL f 0 (nI (ct (sC B L (nI k) (!(decide (xs (i + 2) = 0))) ((spx (fun j => zz (upd U nc (nI k)) (updB Z nc (!(decide (xs (i + 2) = 0)))) (nc + 1) j) (pw tc)).1)) ac)).toInt64))))]) ++ wM cI cZ r 0 tc (nc + 1) ac (ch + nI (ct (sC B L (nI k) (!(decide (xs (i + 2) = 0))) ((spx (fun j => zz (upd U nc (nI k)) (updB Z nc (!(decide (xs (i + 2) = 0)))) (nc + 1) j) (pw tc)).1)) ac)) (upd V nc (nI k)) (updB Y nc (!(decide (xs (i + 2) = 0)))) (mrg (sB B L (nI k) (!(decide (xs (i + 2) = 0))) ((spx (fun j => zz (upd U nc (nI k)) (updB Z nc (!(decide (xs (i + 2) = 0)))) (nc + 1) j) (pw tc)).1)) B ac) (mrg (sL B L F (nI k) (!(decide (xs (i + 2) = 0))) ((spx (fun j => zz (upd U nc (nI k)) (updB Z nc (!(decide (xs (i + 2) = 0)))) (nc + 1) j) (pw tc)).1)) L ac) F) H1 := up_r hP hD hk1 hP1
      have hD : va_D (lA s) ((wX cI cZ q tc (nc + 1) ac (ch + nI (ct (sC B L (nI k) (!(decide (xs (i + 2) = 0))) ((spx (fun j => zz (upd U nc (nI k)) (updB Z nc (!(decide (xs (i + 2) = 0)))) (nc + 1) j) (pw tc)).1)) ac)) (upd U nc (nI k)) (updB Z nc (!(decide (xs (i + 2) = 0)))) (mrg (sB B L (nI k) (!(decide (xs (i + 2) = 0))) ((spx (fun j => zz (upd U nc (nI k)) (updB Z nc (!(decide (xs (i + 2) = 0)))) (nc + 1) j) (pw tc)).1)) B ac) (mrg (sL B L F (nI k) (!(decide (xs (i + 2) = 0))) ((spx (fun j => zz (upd U nc (nI k)) (updB Z nc (!(decide (xs (i + 2) = 0)))) (nc + 1) j) (pw tc)).1)) L ac) F ++ [(o, .inl (cJ, 1, .inr (.inl (vp_updL f 0 (nI (ct (sC B L (nI k) (!(decide (xs (i + 2) = 0))) ((spx (fun j => zz (upd U nc (nI k)) (updB Z nc (!(decide (xs (i + 2) = 0)))) (nc + 1) j) (pw tc)).1)) ac)).toInt64))))]) ++ wM cI cZ r 0 tc (nc + 1) ac (ch + nI (ct (sC B L (nI k) (!(decide (xs (i + 2) = 0))) ((spx (fun j => zz (upd U nc (nI k)) (updB Z nc (!(decide (xs (i + 2) = 0)))) (nc + 1) j) (pw tc)).1)) ac)) (upd V nc (nI k)) (updB Y nc (!(decide (xs (i + 2) = 0)))) (mrg (sB B L (nI k) (!(decide (xs (i + 2) = 0))) ((spx (fun j => zz (upd U nc (nI k)) (updB Z nc (!(decide (xs (i + 2) = 0)))) (nc + 1) j) (pw tc)).1)) B ac) (mrg (sL B L F (nI k) (!(decide (xs (i + 2) = 0))) ((spx (fun j => zz (upd U nc (nI k)) (updB Z nc (!(decide (xs (i + 2) = 0)))) (nc + 1) j) (pw tc)).1)) L ac) F) := va_D_re hD rfl
      clear hP1 hk1 hz1
      generalize H1 = H at hP hS ⊢
      refine lv_cst (y := nI (ct (sC B L (nI k) (!(decide (xs (i + 2) = 0))) ((spx (fun j => zz (upd U nc (nI k)) (updB Z nc (!(decide (xs (i + 2) = 0)))) (nc + 1) j) (pw tc)).1)) ac)) (by rw [em_eq hu hz htc (nI k) (!(decide (xs (i + 2) = 0)))]) ?_
      refine lv_istore (lv' := [(6, .int (nI (ct (sC B L (nI k) (!(decide (xs (i + 2) = 0))) ((spx (fun j => zz (upd U nc (nI k)) (updB Z nc (!(decide (xs (i + 2) = 0)))) (nc + 1) j) (pw tc)).1)) ac))), (5, .int 0), (4, .int (nI i)), (3, .ref o), (2, .ref (r 0)), (1, .ref (q 0)), (0, .ref b)]) hx hb dL_law_403 hl (by decide) rfl (fun ls hl => ?_)
      refine lv_aload_n hx hb dL_law_405 rfl (lv_at hl 4 rfl) ?_
      refine pcV_i (As := []) (rest := []) ⟨hx, hb, hml, hown, hts⟩ (g_M_thrown l (P_r hP) htc (by omega) hac) (cwV 0 hts gL_law_X1_thrown rfl rfl rfl hdX1_thrown ⟨Nat.le_of_ble_eq_true rfl, Nat.le_of_ble_eq_true rfl⟩) (va_recv hK hP (ci := 1) (q0 := 8) rfl rfl) hK2 rfl hl.1 (Nat.le_of_ble_eq_true rfl) rfl dL_law_406 ⟨by show _ ≤ 621274; omega, by show _ ≤ 7232283; omega⟩ ?_
      refine lv_iload hx hb dL_law_409 (lv_at hl 1 rfl) ?_
      refine lv_ieq (tgt := 416) hx hb rfl dL_law_411 (by decide) ?_
      refine lv_iload hx hb dL_law_416 (lv_at hl 1 rfl) ?_
      refine lv_if_ne (tgt := 433) hx hb dL_law_418 (by decide) (fun h0 => absurd rfl h0) (fun _ => ?_)
      refine lv_aload_n hx hb dL_law_421 rfl (lv_at hl 3 rfl) ?_
      refine lv_iconst (v := 0) hx hb dL_law_422 (by decide) ?_
      refine ll_ld hx hb hK hP 7 2 rfl rfl dL_law_423 ?_
      refine lv_iload hx hb dL_law_424 (lv_at hl 0 rfl) ?_
      refine lv_i2l (v := (nI (ct (sC B L (nI k) (!(decide (xs (i + 2) = 0))) ((spx (fun j => zz (upd U nc (nI k)) (updB Z nc (!(decide (xs (i + 2) = 0)))) (nc + 1) j) (pw tc)).1)) ac)).toInt64) hx hb dL_law_426 rfl ?_
      refine lv_leq (tgt := 433) hx hb rfl dL_law_427 dL_law_428 (by decide) ?_
      refine lv_goto (tgt := 1543) hx hb dL_law_433 (by decide) ?_
      refine W.widen (k := cells + 9) (n := slots + 58) (by omega) (by omega) ?_
      exact kk _ _ _ ⟨0, tc, (nc + 1), ac, (ch + nI (ct (sC B L (nI k) (!(decide (xs (i + 2) = 0))) ((spx (fun j => zz (upd U nc (nI k)) (updB Z nc (!(decide (xs (i + 2) = 0)))) (nc + 1) j) (pw tc)).1)) ac)), (upd U nc (nI k)), (updB Z nc (!(decide (xs (i + 2) = 0)))), (upd V nc (nI k)), (updB Y nc (!(decide (xs (i + 2) = 0)))), (mrg (sB B L (nI k) (!(decide (xs (i + 2) = 0))) ((spx (fun j => zz (upd U nc (nI k)) (updB Z nc (!(decide (xs (i + 2) = 0)))) (nc + 1) j) (pw tc)).1)) B ac), (mrg (sL B L F (nI k) (!(decide (xs (i + 2) = 0))) ((spx (fun j => zz (upd U nc (nI k)) (updB Z nc (!(decide (xs (i + 2) = 0)))) (nc + 1) j) (pw tc)).1)) L ac), F, (vp_updL f 0 (nI (ct (sC B L (nI k) (!(decide (xs (i + 2) = 0))) ((spx (fun j => zz (upd U nc (nI k)) (updB Z nc (!(decide (xs (i + 2) = 0)))) (nc + 1) j) (pw tc)).1)) ac)).toInt64), hS, hP, hD, htc, (by omega), hac, (up_cong hu (nI k)), (upB_cong hz _), (sB_k hB (spx_k hpw.2)), (fun a ha => (mrg_off ha).trans (hB0 a ha)), lv_sub hl [2, 3, 4, 5, 6] rfl⟩
set_option maxHeartbeats 4000000 in
set_option maxRecDepth 100000 in
theorem lc_strike (l : Launch) {p : Program} {e : Env} {s : State} {m : MethodId} {below : List Frame} {meth : Method} {c : Code} {b N : Nat} {xs : Nat → Int32} {D : va_G} {cI cZ cJ : ClassId} {q r : Nat → Nat} {o i : Nat} {H : Heap} {locs : List Loc} {ls : Array Slot} {cells slots : Nat} {Q : State → Prop} (C : LCtx l p s m c b N xs D cI cZ cJ) (h : LStt s D cI cZ cJ q r o b i H locs ls) (hi : i + 2 < N) (hcl : cells + 9 ≤ 621274) (hsl : slots + 58 ≤ 7232283) (kk : ∀ (H : Heap) (locs : List Loc) (ls : Array Slot), LStt s D cI cZ cJ q r o b i H locs ls → W p l e room_1 s m #[Value.ref b] below meth c H locs (cells + 9) (slots + 58) Q (F0 m 1543 ls [])) : W p l e room_1 s m #[Value.ref b] below meth c H locs cells slots Q (F0 m 436 ls []) := by
  obtain ⟨hx, hb, hml, hown, hts, hX, hbl, hN, hl0, hK, hE0⟩ := C
  obtain ⟨th, tc, nc, ac, ch, U, Z, V, Y, B, L, F, f, hS, hP, hD, htc, hnc, hac, hu, hz, hB, hB0, hl⟩ := h
  have hK2 : va_K D vwCl (tyA cI cZ) s := hK.sub [0, 1] rfl
  have hA : ∀ q : Nat, s.heap.size ≤ q → lA s q := fun _ h => h
  have hbA : ¬ lA s b := Nat.not_le.mpr hbl
  have hpw := pw_in htc
  rcases ar_th (xs (i + 1)) nc with hv | ⟨t, ht, ev⟩
  · skip
    refine lv_aload_n hx hb dL_law_436 rfl (lv_at hl 3 rfl) ?_
    refine lv_aload_n hx hb dL_law_437 rfl (lv_at hl 4 rfl) ?_
    refine lv_iload hx hb dL_law_438 (lv_at hl 0 rfl) ?_
    refine lv_iconst (v := 1) hx hb dL_law_440 (by decide) ?_
    refine lv_iadd hx hb dL_law_441 ?_
    refine lv_cst (y := nI (i + 1)) (nI_add i 1) ?_
    refine s_ld hx hb hX hbl hbA hS (j := i + 1) (by omega) hN dL_law_442 ?_
    refine lv_aload_n hx hb dL_law_443 rfl (lv_at hl 1 rfl) ?_
    refine sc_b (k := 1) (As := [.ref (q 0), .int (xs (i + 1)), .ref o]) (rest := []) ⟨hx, hb, hml, hown, hts⟩ (wx_L_strike l hl0 (P_l hP) htc hnc hac (v := xs (i + 1)) hv) (vx_cwSW 3 hts gL_law_L_strike rfl rfl rfl hdL_strike ⟨Nat.le_of_ble_eq_true rfl, Nat.le_of_ble_eq_true rfl⟩) hK (xE_law hE0 hS) hS rfl hl.1 (Nat.le_of_ble_eq_true rfl) rfl dL_law_444 ⟨by show _ ≤ 621274; omega, by show _ ≤ 7232283; omega⟩ (fun H1 locs hz1 hk1 hS => ?_)
    have hP : va_P D vwCl ((wX cI cZ q tc nc ac ch U Z B L F ++ [(o, .inl (cJ, 1, .inr (.inl f)))]) ++ wM cI cZ r th tc nc ac ch V Y B L F) H1 := grow_P hP hk1
    clear hk1 hz1
    generalize H1 = H at hP hS ⊢
    refine lv_istore (lv' := [(5, .int 1), (4, .int (nI i)), (3, .ref o), (2, .ref (r 0)), (1, .ref (q 0)), (0, .ref b)]) hx hb dL_law_447 hl (by decide) rfl (fun ls hl => ?_)
    refine lv_aload_n hx hb dL_law_449 rfl (lv_at hl 3 rfl) ?_
    refine lv_aload_n hx hb dL_law_450 rfl (lv_at hl 5 rfl) ?_
    refine lv_iload hx hb dL_law_451 (lv_at hl 1 rfl) ?_
    refine lv_iconst (v := 1) hx hb dL_law_453 (by decide) ?_
    refine lv_iadd hx hb dL_law_454 ?_
    refine lv_cst (y := nI (i + 1)) (nI_add i 1) ?_
    refine s_ld hx hb hX hbl hbA hS (j := i + 1) (by omega) hN dL_law_455 ?_
    refine wcV_i (As := [.int (xs (i + 1))]) (rest := []) ⟨hx, hb, hml, hown, hts⟩ (wb_M_strike l (P_r hP) htc hnc hac (D_r hD) (v := xs (i + 1)) hv) (cwV 1 hts gL_law_X1_strike rfl rfl rfl hdX1_strike ⟨Nat.le_of_ble_eq_true rfl, Nat.le_of_ble_eq_true rfl⟩) (va_recv hK hP (ci := 1) (q0 := 8) rfl rfl) hK2 hS (fr_r hD hS hA) rfl hl.1 (Nat.le_of_ble_eq_true rfl) rfl dL_law_456 ⟨by show _ ≤ 621274; omega, by show _ ≤ 7232283; omega⟩ (fun H1 locs hP1 hz1 hk1 hS => ?_)
    have hP : va_P D vwCl ((wX cI cZ q tc nc ac ch U Z B L F ++ [(o, .inl (cJ, 1, .inr (.inl f)))]) ++ wM cI cZ r 1 tc nc ac ch V Y B L F) H1 := up_r hP hD hk1 hP1
    have hD : va_D (lA s) ((wX cI cZ q tc nc ac ch U Z B L F ++ [(o, .inl (cJ, 1, .inr (.inl f)))]) ++ wM cI cZ r 1 tc nc ac ch V Y B L F) := va_D_re hD rfl
    clear hP1 hk1 hz1
    generalize H1 = H at hP hS ⊢
    refine lv_istore (lv' := [(6, .int 0), (5, .int 1), (4, .int (nI i)), (3, .ref o), (2, .ref (r 0)), (1, .ref (q 0)), (0, .ref b)]) hx hb dL_law_459 hl (by decide) rfl (fun ls hl => ?_)
    refine lv_aload_n hx hb dL_law_461 rfl (lv_at hl 4 rfl) ?_
    refine pcV_i (As := []) (rest := []) ⟨hx, hb, hml, hown, hts⟩ (g_M_thrown l (P_r hP) htc hnc hac) (cwV 0 hts gL_law_X1_thrown rfl rfl rfl hdX1_thrown ⟨Nat.le_of_ble_eq_true rfl, Nat.le_of_ble_eq_true rfl⟩) (va_recv hK hP (ci := 1) (q0 := 8) rfl rfl) hK2 rfl hl.1 (Nat.le_of_ble_eq_true rfl) rfl dL_law_462 ⟨by show _ ≤ 621274; omega, by show _ ≤ 7232283; omega⟩ ?_
    refine lv_iload hx hb dL_law_465 (lv_at hl 1 rfl) ?_
    refine lv_ieq (tgt := 472) hx hb rfl dL_law_467 (by decide) ?_
    refine lv_iload hx hb dL_law_472 (lv_at hl 1 rfl) ?_
    refine lv_if_ne (tgt := 489) hx hb dL_law_474 (by decide) (fun _ => ?_) (fun h0 => absurd h0 (by decide))
    refine lv_goto (tgt := 1543) hx hb dL_law_489 (by decide) ?_
    refine W.widen (k := cells + 9) (n := slots + 58) (by omega) (by omega) ?_
    exact kk _ _ _ ⟨1, tc, nc, ac, ch, U, Z, V, Y, B, L, F, f, hS, hP, hD, htc, hnc, hac, hu, hz, hB, hB0, lv_sub hl [2, 3, 4, 5, 6] rfl⟩
  · skip
    refine lv_aload_n hx hb dL_law_436 rfl (lv_at hl 3 rfl) ?_
    refine lv_aload_n hx hb dL_law_437 rfl (lv_at hl 4 rfl) ?_
    refine lv_iload hx hb dL_law_438 (lv_at hl 0 rfl) ?_
    refine lv_iconst (v := 1) hx hb dL_law_440 (by decide) ?_
    refine lv_iadd hx hb dL_law_441 ?_
    refine lv_cst (y := nI (i + 1)) (nI_add i 1) ?_
    refine s_ld hx hb hX hbl hbA hS (j := i + 1) (by omega) hN dL_law_442 ?_
    refine lv_cst (y := nI t) ev ?_
    refine lv_aload_n hx hb dL_law_443 rfl (lv_at hl 1 rfl) ?_
    refine sc_g (As := [.ref (q 0), .int (nI t), .ref o]) (rest := []) ⟨hx, hb, hml, hown, hts⟩ (w_L_strike l (P_l hP) htc hnc hac (D_l hD) (t := t) ht) (vx_cwSW 3 hts gL_law_L_strike rfl rfl rfl hdL_strike ⟨Nat.le_of_ble_eq_true rfl, Nat.le_of_ble_eq_true rfl⟩) hK hS (fr_l hD hS hA) rfl hl.1 (Nat.le_of_ble_eq_true rfl) rfl dL_law_444 ⟨by show _ ≤ 621274; omega, by show _ ≤ 7232283; omega⟩ (fun H1 locs hP1 hz1 hk1 hS => ?_)
    have hP : va_P D vwCl ((wX cI cZ q tc (nc - 1) ac ch (shf U t (nc - 1)) (shf Z t (nc - 1)) B L F ++ [(o, .inl (cJ, 1, .inr (.inl (vp_updL f 0 (nI (nc - 1)).toInt64))))]) ++ wM cI cZ r th tc nc ac ch V Y B L F) H1 := up_l hP hD hk1 hP1
    have hD : va_D (lA s) ((wX cI cZ q tc (nc - 1) ac ch (shf U t (nc - 1)) (shf Z t (nc - 1)) B L F ++ [(o, .inl (cJ, 1, .inr (.inl (vp_updL f 0 (nI (nc - 1)).toInt64))))]) ++ wM cI cZ r th tc nc ac ch V Y B L F) := va_D_re hD rfl
    clear hP1 hk1 hz1
    generalize H1 = H at hP hS ⊢
    refine lv_istore (lv' := [(5, .int 0), (4, .int (nI i)), (3, .ref o), (2, .ref (r 0)), (1, .ref (q 0)), (0, .ref b)]) hx hb dL_law_447 hl (by decide) rfl (fun ls hl => ?_)
    refine lv_aload_n hx hb dL_law_449 rfl (lv_at hl 3 rfl) ?_
    refine lv_aload_n hx hb dL_law_450 rfl (lv_at hl 5 rfl) ?_
    refine lv_iload hx hb dL_law_451 (lv_at hl 1 rfl) ?_
    refine lv_iconst (v := 1) hx hb dL_law_453 (by decide) ?_
    refine lv_iadd hx hb dL_law_454 ?_
    refine lv_cst (y := nI (i + 1)) (nI_add i 1) ?_
    refine s_ld hx hb hX hbl hbA hS (j := i + 1) (by omega) hN dL_law_455 ?_
    refine lv_cst (y := nI t) ev ?_
    refine wcV_i (As := [.int (nI t)]) (rest := []) ⟨hx, hb, hml, hown, hts⟩ (w_M_strike l (P_r hP) htc hnc hac (D_r hD) (t := t) ht) (cwV 1 hts gL_law_X1_strike rfl rfl rfl hdX1_strike ⟨Nat.le_of_ble_eq_true rfl, Nat.le_of_ble_eq_true rfl⟩) (va_recv hK hP (ci := 1) (q0 := 8) rfl rfl) hK2 hS (fr_r hD hS hA) rfl hl.1 (Nat.le_of_ble_eq_true rfl) rfl dL_law_456 ⟨by show _ ≤ 621274; omega, by show _ ≤ 7232283; omega⟩ (fun H1 locs hP1 hz1 hk1 hS => ?_)
    have hP : va_P D vwCl ((wX cI cZ q tc (nc - 1) ac ch (shf U t (nc - 1)) (shf Z t (nc - 1)) B L F ++ [(o, .inl (cJ, 1, .inr (.inl (vp_updL f 0 (nI (nc - 1)).toInt64))))]) ++ wM cI cZ r 0 tc (nc - 1) ac ch (shf V t (nc - 1)) (shf Y t (nc - 1)) B L F) H1 := up_r hP hD hk1 hP1
    have hD : va_D (lA s) ((wX cI cZ q tc (nc - 1) ac ch (shf U t (nc - 1)) (shf Z t (nc - 1)) B L F ++ [(o, .inl (cJ, 1, .inr (.inl (vp_updL f 0 (nI (nc - 1)).toInt64))))]) ++ wM cI cZ r 0 tc (nc - 1) ac ch (shf V t (nc - 1)) (shf Y t (nc - 1)) B L F) := va_D_re hD rfl
    clear hP1 hk1 hz1
    generalize H1 = H at hP hS ⊢
    refine lv_istore (lv' := [(6, .int (nI (nc - 1))), (5, .int 0), (4, .int (nI i)), (3, .ref o), (2, .ref (r 0)), (1, .ref (q 0)), (0, .ref b)]) hx hb dL_law_459 hl (by decide) rfl (fun ls hl => ?_)
    refine lv_aload_n hx hb dL_law_461 rfl (lv_at hl 4 rfl) ?_
    refine pcV_i (As := []) (rest := []) ⟨hx, hb, hml, hown, hts⟩ (g_M_thrown l (P_r hP) htc (by omega) hac) (cwV 0 hts gL_law_X1_thrown rfl rfl rfl hdX1_thrown ⟨Nat.le_of_ble_eq_true rfl, Nat.le_of_ble_eq_true rfl⟩) (va_recv hK hP (ci := 1) (q0 := 8) rfl rfl) hK2 rfl hl.1 (Nat.le_of_ble_eq_true rfl) rfl dL_law_462 ⟨by show _ ≤ 621274; omega, by show _ ≤ 7232283; omega⟩ ?_
    refine lv_iload hx hb dL_law_465 (lv_at hl 1 rfl) ?_
    refine lv_ieq (tgt := 472) hx hb rfl dL_law_467 (by decide) ?_
    refine lv_iload hx hb dL_law_472 (lv_at hl 1 rfl) ?_
    refine lv_if_ne (tgt := 489) hx hb dL_law_474 (by decide) (fun h0 => absurd rfl h0) (fun _ => ?_)
    refine lv_aload_n hx hb dL_law_477 rfl (lv_at hl 3 rfl) ?_
    refine lv_iconst (v := 0) hx hb dL_law_478 (by decide) ?_
    refine ll_ld hx hb hK hP 7 2 rfl rfl dL_law_479 ?_
    refine lv_iload hx hb dL_law_480 (lv_at hl 0 rfl) ?_
    refine lv_i2l (v := (nI (nc - 1)).toInt64) hx hb dL_law_482 rfl ?_
    refine lv_leq (tgt := 489) hx hb rfl dL_law_483 dL_law_484 (by decide) ?_
    refine lv_goto (tgt := 1543) hx hb dL_law_489 (by decide) ?_
    refine W.widen (k := cells + 9) (n := slots + 58) (by omega) (by omega) ?_
    exact kk _ _ _ ⟨0, tc, (nc - 1), ac, ch, (shf U t (nc - 1)), (shf Z t (nc - 1)), (shf V t (nc - 1)), (shf Y t (nc - 1)), B, L, F, (vp_updL f 0 (nI (nc - 1)).toInt64), hS, hP, hD, htc, (by omega), hac, (sh_cong hu), (sh_cong hz), hB, hB0, lv_sub hl [2, 3, 4, 5, 6] rfl⟩
set_option maxHeartbeats 4000000 in
set_option maxRecDepth 100000 in
theorem lc_wouldChange (l : Launch) {p : Program} {e : Env} {s : State} {m : MethodId} {below : List Frame} {meth : Method} {c : Code} {b N : Nat} {xs : Nat → Int32} {D : va_G} {cI cZ cJ : ClassId} {q r : Nat → Nat} {o i : Nat} {H : Heap} {locs : List Loc} {ls : Array Slot} {cells slots : Nat} {Q : State → Prop} (C : LCtx l p s m c b N xs D cI cZ cJ) (h : LStt s D cI cZ cJ q r o b i H locs ls) (hi : i + 2 < N) (hcl : cells + 9 ≤ 621274) (hsl : slots + 58 ≤ 7232283) (kk : ∀ (H : Heap) (locs : List Loc) (ls : Array Slot), LStt s D cI cZ cJ q r o b i H locs ls → W p l e room_1 s m #[Value.ref b] below meth c H locs (cells + 9) (slots + 58) Q (F0 m 1543 ls [])) : W p l e room_1 s m #[Value.ref b] below meth c H locs cells slots Q (F0 m 1404 ls []) := by
  obtain ⟨hx, hb, hml, hown, hts, hX, hbl, hN, hl0, hK, hE0⟩ := C
  obtain ⟨th, tc, nc, ac, ch, U, Z, V, Y, B, L, F, f, hS, hP, hD, htc, hnc, hac, hu, hz, hB, hB0, hl⟩ := h
  have hK2 : va_K D vwCl (tyA cI cZ) s := hK.sub [0, 1] rfl
  have hA : ∀ q : Nat, s.heap.size ≤ q → lA s q := fun _ h => h
  have hbA : ¬ lA s b := Nat.not_le.mpr hbl
  have hpw := pw_in htc
  rcases ar_us (xs (i + 1)) hpw.1 with hv | ⟨k, hk0, hk, ev⟩
  · skip
    refine lv_aload_n hx hb dL_law_1404 rfl (lv_at hl 3 rfl) ?_
    refine lv_aload_n hx hb dL_law_1405 rfl (lv_at hl 4 rfl) ?_
    refine lv_iload hx hb dL_law_1406 (lv_at hl 0 rfl) ?_
    refine lv_iconst (v := 1) hx hb dL_law_1408 (by decide) ?_
    refine lv_iadd hx hb dL_law_1409 ?_
    refine lv_cst (y := nI (i + 1)) (nI_add i 1) ?_
    refine s_ld hx hb hX hbl hbA hS (j := i + 1) (by omega) hN dL_law_1410 ?_
    refine lv_aload_n hx hb dL_law_1411 rfl (lv_at hl 4 rfl) ?_
    refine lv_iload hx hb dL_law_1412 (lv_at hl 0 rfl) ?_
    refine lv_iconst (v := 2) hx hb dL_law_1414 (by decide) ?_
    refine lv_iadd hx hb dL_law_1415 ?_
    refine lv_cst (y := nI (i + 2)) (nI_add i 2) ?_
    refine s_ld hx hb hX hbl hbA hS (j := i + 2) (by omega) hN dL_law_1416 ?_
    refine lv_bz (t0 := 1424) hx hb dL_law_1417 dL_law_1420 dL_law_1421 dL_law_1424 (by decide) (by decide) ?_
    refine lv_aload_n hx hb dL_law_1425 rfl (lv_at hl 1 rfl) ?_
    refine sc_b (k := 1) (As := [.ref (q 0), .int (xs (i + 1)), .int (bI (!(decide (xs (i + 2) = 0)))), .ref o]) (rest := []) ⟨hx, hb, hml, hown, hts⟩ (wx_L_wouldChange l hl0 (P_l hP) htc hnc hac (v := xs (i + 1)) (z := (!(decide (xs (i + 2) = 0)))) hv) (vx_cwSW 4 hts gL_law_L_wouldChange rfl rfl rfl hdL_wouldChange ⟨Nat.le_of_ble_eq_true rfl, Nat.le_of_ble_eq_true rfl⟩) hK (xE_law hE0 hS) hS rfl hl.1 (Nat.le_of_ble_eq_true rfl) rfl dL_law_1426 ⟨by show _ ≤ 621274; omega, by show _ ≤ 7232283; omega⟩ (fun H1 locs hz1 hk1 hS => ?_)
    have hP : va_P D vwCl ((wX cI cZ q tc nc ac ch U Z B L F ++ [(o, .inl (cJ, 1, .inr (.inl f)))]) ++ wM cI cZ r th tc nc ac ch V Y B L F) H1 := grow_P hP hk1
    clear hk1 hz1
    generalize H1 = H at hP hS ⊢
    refine lv_istore (lv' := [(5, .int 1), (4, .int (nI i)), (3, .ref o), (2, .ref (r 0)), (1, .ref (q 0)), (0, .ref b)]) hx hb dL_law_1429 hl (by decide) rfl (fun ls hl => ?_)
    refine lv_aload_n hx hb dL_law_1431 rfl (lv_at hl 3 rfl) ?_
    refine lv_aload_n hx hb dL_law_1432 rfl (lv_at hl 5 rfl) ?_
    refine lv_iload hx hb dL_law_1433 (lv_at hl 1 rfl) ?_
    refine lv_iconst (v := 1) hx hb dL_law_1435 (by decide) ?_
    refine lv_iadd hx hb dL_law_1436 ?_
    refine lv_cst (y := nI (i + 1)) (nI_add i 1) ?_
    refine s_ld hx hb hX hbl hbA hS (j := i + 1) (by omega) hN dL_law_1437 ?_
    refine lv_aload_n hx hb dL_law_1438 rfl (lv_at hl 5 rfl) ?_
    refine lv_iload hx hb dL_law_1439 (lv_at hl 1 rfl) ?_
    refine lv_iconst (v := 2) hx hb dL_law_1441 (by decide) ?_
    refine lv_iadd hx hb dL_law_1442 ?_
    refine lv_cst (y := nI (i + 2)) (nI_add i 2) ?_
    refine s_ld hx hb hX hbl hbA hS (j := i + 2) (by omega) hN dL_law_1443 ?_
    refine lv_bz (t0 := 1451) hx hb dL_law_1444 dL_law_1447 dL_law_1448 dL_law_1451 (by decide) (by decide) ?_
    refine wcV_i (As := [.int (xs (i + 1)), .int (bI (!(decide (xs (i + 2) = 0))))]) (rest := []) ⟨hx, hb, hml, hown, hts⟩ (wb_M_wouldChange l (P_r hP) htc hnc hac (D_r hD) (v := xs (i + 1)) (z := (!(decide (xs (i + 2) = 0)))) hv) (cwV 2 hts gL_law_X1_wouldChange rfl rfl rfl hdX1_wouldChange ⟨Nat.le_of_ble_eq_true rfl, Nat.le_of_ble_eq_true rfl⟩) (va_recv hK hP (ci := 1) (q0 := 8) rfl rfl) hK2 hS (fr_r hD hS hA) rfl hl.1 (Nat.le_of_ble_eq_true rfl) rfl dL_law_1452 ⟨by show _ ≤ 621274; omega, by show _ ≤ 7232283; omega⟩ (fun H1 locs hP1 hz1 hk1 hS => ?_)
    have hP : va_P D vwCl ((wX cI cZ q tc nc ac ch U Z B L F ++ [(o, .inl (cJ, 1, .inr (.inl f)))]) ++ wM cI cZ r 1 tc nc ac ch V Y B L F) H1 := up_r hP hD hk1 hP1
    have hD : va_D (lA s) ((wX cI cZ q tc nc ac ch U Z B L F ++ [(o, .inl (cJ, 1, .inr (.inl f)))]) ++ wM cI cZ r 1 tc nc ac ch V Y B L F) := va_D_re hD rfl
    clear hP1 hk1 hz1
    generalize H1 = H at hP hS ⊢
    refine lv_istore (lv' := [(6, .int 0), (5, .int 1), (4, .int (nI i)), (3, .ref o), (2, .ref (r 0)), (1, .ref (q 0)), (0, .ref b)]) hx hb dL_law_1455 hl (by decide) rfl (fun ls hl => ?_)
    refine lv_aload_n hx hb dL_law_1457 rfl (lv_at hl 4 rfl) ?_
    refine pcV_i (As := []) (rest := []) ⟨hx, hb, hml, hown, hts⟩ (g_M_thrown l (P_r hP) htc hnc hac) (cwV 0 hts gL_law_X1_thrown rfl rfl rfl hdX1_thrown ⟨Nat.le_of_ble_eq_true rfl, Nat.le_of_ble_eq_true rfl⟩) (va_recv hK hP (ci := 1) (q0 := 8) rfl rfl) hK2 rfl hl.1 (Nat.le_of_ble_eq_true rfl) rfl dL_law_1458 ⟨by show _ ≤ 621274; omega, by show _ ≤ 7232283; omega⟩ ?_
    refine lv_iload hx hb dL_law_1461 (lv_at hl 1 rfl) ?_
    refine lv_ieq (tgt := 1468) hx hb rfl dL_law_1463 (by decide) ?_
    refine lv_iload hx hb dL_law_1468 (lv_at hl 1 rfl) ?_
    refine lv_if_ne (tgt := 1485) hx hb dL_law_1470 (by decide) (fun _ => ?_) (fun h0 => absurd h0 (by decide))
    refine lv_goto (tgt := 1543) hx hb dL_law_1485 (by decide) ?_
    refine W.widen (k := cells + 9) (n := slots + 58) (by omega) (by omega) ?_
    exact kk _ _ _ ⟨1, tc, nc, ac, ch, U, Z, V, Y, B, L, F, f, hS, hP, hD, htc, hnc, hac, hu, hz, hB, hB0, lv_sub hl [2, 3, 4, 5, 6] rfl⟩
  · skip
    by_cases h40 : nc = 40
    · skip
      refine lv_aload_n hx hb dL_law_1404 rfl (lv_at hl 3 rfl) ?_
      refine lv_aload_n hx hb dL_law_1405 rfl (lv_at hl 4 rfl) ?_
      refine lv_iload hx hb dL_law_1406 (lv_at hl 0 rfl) ?_
      refine lv_iconst (v := 1) hx hb dL_law_1408 (by decide) ?_
      refine lv_iadd hx hb dL_law_1409 ?_
      refine lv_cst (y := nI (i + 1)) (nI_add i 1) ?_
      refine s_ld hx hb hX hbl hbA hS (j := i + 1) (by omega) hN dL_law_1410 ?_
      refine lv_cst (y := nI k) ev ?_
      refine lv_aload_n hx hb dL_law_1411 rfl (lv_at hl 4 rfl) ?_
      refine lv_iload hx hb dL_law_1412 (lv_at hl 0 rfl) ?_
      refine lv_iconst (v := 2) hx hb dL_law_1414 (by decide) ?_
      refine lv_iadd hx hb dL_law_1415 ?_
      refine lv_cst (y := nI (i + 2)) (nI_add i 2) ?_
      refine s_ld hx hb hX hbl hbA hS (j := i + 2) (by omega) hN dL_law_1416 ?_
      refine lv_bz (t0 := 1424) hx hb dL_law_1417 dL_law_1420 dL_law_1421 dL_law_1424 (by decide) (by decide) ?_
      refine lv_aload_n hx hb dL_law_1425 rfl (lv_at hl 1 rfl) ?_
      refine sc_b (k := 2) (As := [.ref (q 0), .int (nI k), .int (bI (!(decide (xs (i + 2) = 0)))), .ref o]) (rest := []) ⟨hx, hb, hml, hown, hts⟩ (wx2_L_wouldChange l hl0 (P_l hP) htc hnc hac (k := k) (z := (!(decide (xs (i + 2) = 0)))) hk0 hk h40) (vx_cwSW 4 hts gL_law_L_wouldChange rfl rfl rfl hdL_wouldChange ⟨Nat.le_of_ble_eq_true rfl, Nat.le_of_ble_eq_true rfl⟩) hK (xE_law hE0 hS) hS rfl hl.1 (Nat.le_of_ble_eq_true rfl) rfl dL_law_1426 ⟨by show _ ≤ 621274; omega, by show _ ≤ 7232283; omega⟩ (fun H1 locs hz1 hk1 hS => ?_)
      have hP : va_P D vwCl ((wX cI cZ q tc nc ac ch U Z B L F ++ [(o, .inl (cJ, 1, .inr (.inl f)))]) ++ wM cI cZ r th tc nc ac ch V Y B L F) H1 := grow_P hP hk1
      clear hk1 hz1
      generalize H1 = H at hP hS ⊢
      refine lv_istore (lv' := [(5, .int 2), (4, .int (nI i)), (3, .ref o), (2, .ref (r 0)), (1, .ref (q 0)), (0, .ref b)]) hx hb dL_law_1429 hl (by decide) rfl (fun ls hl => ?_)
      refine lv_aload_n hx hb dL_law_1431 rfl (lv_at hl 3 rfl) ?_
      refine lv_aload_n hx hb dL_law_1432 rfl (lv_at hl 5 rfl) ?_
      refine lv_iload hx hb dL_law_1433 (lv_at hl 1 rfl) ?_
      refine lv_iconst (v := 1) hx hb dL_law_1435 (by decide) ?_
      refine lv_iadd hx hb dL_law_1436 ?_
      refine lv_cst (y := nI (i + 1)) (nI_add i 1) ?_
      refine s_ld hx hb hX hbl hbA hS (j := i + 1) (by omega) hN dL_law_1437 ?_
      refine lv_cst (y := nI k) ev ?_
      refine lv_aload_n hx hb dL_law_1438 rfl (lv_at hl 5 rfl) ?_
      refine lv_iload hx hb dL_law_1439 (lv_at hl 1 rfl) ?_
      refine lv_iconst (v := 2) hx hb dL_law_1441 (by decide) ?_
      refine lv_iadd hx hb dL_law_1442 ?_
      refine lv_cst (y := nI (i + 2)) (nI_add i 2) ?_
      refine s_ld hx hb hX hbl hbA hS (j := i + 2) (by omega) hN dL_law_1443 ?_
      refine lv_bz (t0 := 1451) hx hb dL_law_1444 dL_law_1447 dL_law_1448 dL_law_1451 (by decide) (by decide) ?_
      refine wcV_i (As := [.int (nI k), .int (bI (!(decide (xs (i + 2) = 0))))]) (rest := []) ⟨hx, hb, hml, hown, hts⟩ (wb2_M_wouldChange l (P_r hP) htc hnc hac (D_r hD) (k := k) (z := (!(decide (xs (i + 2) = 0)))) hk0 hk h40) (cwV 2 hts gL_law_X1_wouldChange rfl rfl rfl hdX1_wouldChange ⟨Nat.le_of_ble_eq_true rfl, Nat.le_of_ble_eq_true rfl⟩) (va_recv hK hP (ci := 1) (q0 := 8) rfl rfl) hK2 hS (fr_r hD hS hA) rfl hl.1 (Nat.le_of_ble_eq_true rfl) rfl dL_law_1452 ⟨by show _ ≤ 621274; omega, by show _ ≤ 7232283; omega⟩ (fun H1 locs hP1 hz1 hk1 hS => ?_)
      have hP : va_P D vwCl ((wX cI cZ q tc nc ac ch U Z B L F ++ [(o, .inl (cJ, 1, .inr (.inl f)))]) ++ wM cI cZ r 2 tc nc ac ch V Y B L F) H1 := up_r hP hD hk1 hP1
      have hD : va_D (lA s) ((wX cI cZ q tc nc ac ch U Z B L F ++ [(o, .inl (cJ, 1, .inr (.inl f)))]) ++ wM cI cZ r 2 tc nc ac ch V Y B L F) := va_D_re hD rfl
      clear hP1 hk1 hz1
      generalize H1 = H at hP hS ⊢
      refine lv_istore (lv' := [(6, .int 0), (5, .int 2), (4, .int (nI i)), (3, .ref o), (2, .ref (r 0)), (1, .ref (q 0)), (0, .ref b)]) hx hb dL_law_1455 hl (by decide) rfl (fun ls hl => ?_)
      refine lv_aload_n hx hb dL_law_1457 rfl (lv_at hl 4 rfl) ?_
      refine pcV_i (As := []) (rest := []) ⟨hx, hb, hml, hown, hts⟩ (g_M_thrown l (P_r hP) htc hnc hac) (cwV 0 hts gL_law_X1_thrown rfl rfl rfl hdX1_thrown ⟨Nat.le_of_ble_eq_true rfl, Nat.le_of_ble_eq_true rfl⟩) (va_recv hK hP (ci := 1) (q0 := 8) rfl rfl) hK2 rfl hl.1 (Nat.le_of_ble_eq_true rfl) rfl dL_law_1458 ⟨by show _ ≤ 621274; omega, by show _ ≤ 7232283; omega⟩ ?_
      refine lv_iload hx hb dL_law_1461 (lv_at hl 1 rfl) ?_
      refine lv_ieq (tgt := 1468) hx hb rfl dL_law_1463 (by decide) ?_
      refine lv_iload hx hb dL_law_1468 (lv_at hl 1 rfl) ?_
      refine lv_if_ne (tgt := 1485) hx hb dL_law_1470 (by decide) (fun _ => ?_) (fun h0 => absurd h0 (by decide))
      refine lv_goto (tgt := 1543) hx hb dL_law_1485 (by decide) ?_
      refine W.widen (k := cells + 9) (n := slots + 58) (by omega) (by omega) ?_
      exact kk _ _ _ ⟨2, tc, nc, ac, ch, U, Z, V, Y, B, L, F, f, hS, hP, hD, htc, hnc, hac, hu, hz, hB, hB0, lv_sub hl [2, 3, 4, 5, 6] rfl⟩
    · skip
      have h40 : nc < 40 := by omega
      refine lv_aload_n hx hb dL_law_1404 rfl (lv_at hl 3 rfl) ?_
      refine lv_aload_n hx hb dL_law_1405 rfl (lv_at hl 4 rfl) ?_
      refine lv_iload hx hb dL_law_1406 (lv_at hl 0 rfl) ?_
      refine lv_iconst (v := 1) hx hb dL_law_1408 (by decide) ?_
      refine lv_iadd hx hb dL_law_1409 ?_
      refine lv_cst (y := nI (i + 1)) (nI_add i 1) ?_
      refine s_ld hx hb hX hbl hbA hS (j := i + 1) (by omega) hN dL_law_1410 ?_
      refine lv_cst (y := nI k) ev ?_
      refine lv_aload_n hx hb dL_law_1411 rfl (lv_at hl 4 rfl) ?_
      refine lv_iload hx hb dL_law_1412 (lv_at hl 0 rfl) ?_
      refine lv_iconst (v := 2) hx hb dL_law_1414 (by decide) ?_
      refine lv_iadd hx hb dL_law_1415 ?_
      refine lv_cst (y := nI (i + 2)) (nI_add i 2) ?_
      refine s_ld hx hb hX hbl hbA hS (j := i + 2) (by omega) hN dL_law_1416 ?_
      refine lv_bz (t0 := 1424) hx hb dL_law_1417 dL_law_1420 dL_law_1421 dL_law_1424 (by decide) (by decide) ?_
      refine lv_aload_n hx hb dL_law_1425 rfl (lv_at hl 1 rfl) ?_
      refine sc_g (As := [.ref (q 0), .int (nI k), .int (bI (!(decide (xs (i + 2) = 0)))), .ref o]) (rest := []) ⟨hx, hb, hml, hown, hts⟩ (w_L_wouldChange l (P_l hP) htc hnc hac (D_l hD) (k := k) (z := (!(decide (xs (i + 2) = 0)))) hk0 hk h40) (vx_cwSW 4 hts gL_law_L_wouldChange rfl rfl rfl hdL_wouldChange ⟨Nat.le_of_ble_eq_true rfl, Nat.le_of_ble_eq_true rfl⟩) hK hS (fr_l hD hS hA) rfl hl.1 (Nat.le_of_ble_eq_true rfl) rfl dL_law_1426 ⟨by show _ ≤ 621274; omega, by show _ ≤ 7232283; omega⟩ (fun H1 locs hP1 hz1 hk1 hS => ?_)
      have hP : va_P D vwCl ((wX cI cZ q tc nc ac ch U Z B L F ++ [(o, .inl (cJ, 1, .inr (.inl (vp_updL f 0 (if anyb (fun j => zz U Z nc j && sx (nI j) (nI k) (!(decide (xs (i + 2) = 0)))) (pw tc) = true then nI (ct (fun a => !(sx (B a) (nI k) (!(decide (xs (i + 2) = 0)))) && decide (L a = 0)) ac) else 0).toInt64))))]) ++ wM cI cZ r th tc nc ac ch V Y B L F) H1 := up_l hP hD hk1 hP1
      have hD : va_D (lA s) ((wX cI cZ q tc nc ac ch U Z B L F ++ [(o, .inl (cJ, 1, .inr (.inl (vp_updL f 0 (if anyb (fun j => zz U Z nc j && sx (nI j) (nI k) (!(decide (xs (i + 2) = 0)))) (pw tc) = true then nI (ct (fun a => !(sx (B a) (nI k) (!(decide (xs (i + 2) = 0)))) && decide (L a = 0)) ac) else 0).toInt64))))]) ++ wM cI cZ r th tc nc ac ch V Y B L F) := va_D_re hD rfl
      clear hP1 hk1 hz1
      generalize H1 = H at hP hS ⊢
      refine lv_istore (lv' := [(5, .int 0), (4, .int (nI i)), (3, .ref o), (2, .ref (r 0)), (1, .ref (q 0)), (0, .ref b)]) hx hb dL_law_1429 hl (by decide) rfl (fun ls hl => ?_)
      refine lv_aload_n hx hb dL_law_1431 rfl (lv_at hl 3 rfl) ?_
      refine lv_aload_n hx hb dL_law_1432 rfl (lv_at hl 5 rfl) ?_
      refine lv_iload hx hb dL_law_1433 (lv_at hl 1 rfl) ?_
      refine lv_iconst (v := 1) hx hb dL_law_1435 (by decide) ?_
      refine lv_iadd hx hb dL_law_1436 ?_
      refine lv_cst (y := nI (i + 1)) (nI_add i 1) ?_
      refine s_ld hx hb hX hbl hbA hS (j := i + 1) (by omega) hN dL_law_1437 ?_
      refine lv_cst (y := nI k) ev ?_
      refine lv_aload_n hx hb dL_law_1438 rfl (lv_at hl 5 rfl) ?_
      refine lv_iload hx hb dL_law_1439 (lv_at hl 1 rfl) ?_
      refine lv_iconst (v := 2) hx hb dL_law_1441 (by decide) ?_
      refine lv_iadd hx hb dL_law_1442 ?_
      refine lv_cst (y := nI (i + 2)) (nI_add i 2) ?_
      refine s_ld hx hb hX hbl hbA hS (j := i + 2) (by omega) hN dL_law_1443 ?_
      refine lv_bz (t0 := 1451) hx hb dL_law_1444 dL_law_1447 dL_law_1448 dL_law_1451 (by decide) (by decide) ?_
      refine wcV_i (As := [.int (nI k), .int (bI (!(decide (xs (i + 2) = 0))))]) (rest := []) ⟨hx, hb, hml, hown, hts⟩ (w_M_wouldChange l (P_r hP) htc hnc hac (D_r hD) (k := k) (z := (!(decide (xs (i + 2) = 0)))) hk0 hk h40) (cwV 2 hts gL_law_X1_wouldChange rfl rfl rfl hdX1_wouldChange ⟨Nat.le_of_ble_eq_true rfl, Nat.le_of_ble_eq_true rfl⟩) (va_recv hK hP (ci := 1) (q0 := 8) rfl rfl) hK2 hS (fr_r hD hS hA) rfl hl.1 (Nat.le_of_ble_eq_true rfl) rfl dL_law_1452 ⟨by show _ ≤ 621274; omega, by show _ ≤ 7232283; omega⟩ (fun H1 locs hP1 hz1 hk1 hS => ?_)
      have hP : va_P D vwCl ((wX cI cZ q tc nc ac ch U Z B L F ++ [(o, .inl (cJ, 1, .inr (.inl (vp_updL f 0 (if anyb (fun j => zz U Z nc j && sx (nI j) (nI k) (!(decide (xs (i + 2) = 0)))) (pw tc) = true then nI (ct (fun a => !(sx (B a) (nI k) (!(decide (xs (i + 2) = 0)))) && decide (L a = 0)) ac) else 0).toInt64))))]) ++ wM cI cZ r 0 tc nc ac ch (upd V nc (nI k)) (updB Y nc (!(decide (xs (i + 2) = 0)))) B L F) H1 := up_r hP hD hk1 hP1
      have hD : va_D (lA s) ((wX cI cZ q tc nc ac ch U Z B L F ++ [(o, .inl (cJ, 1, .inr (.inl (vp_updL f 0 (if anyb (fun j => zz U Z nc j && sx (nI j) (nI k) (!(decide (xs (i + 2) = 0)))) (pw tc) = true then nI (ct (fun a => !(sx (B a) (nI k) (!(decide (xs (i + 2) = 0)))) && decide (L a = 0)) ac) else 0).toInt64))))]) ++ wM cI cZ r 0 tc nc ac ch (upd V nc (nI k)) (updB Y nc (!(decide (xs (i + 2) = 0)))) B L F) := va_D_re hD rfl
      clear hP1 hk1 hz1
      generalize H1 = H at hP hS ⊢
      refine lv_cst (y := (if anyb (fun j => zz U Z nc j && sx (nI j) (nI k) (!(decide (xs (i + 2) = 0)))) (pw tc) = true then nI (ct (fun a => !(sx (B a) (nI k) (!(decide (xs (i + 2) = 0)))) && decide (L a = 0)) ac) else 0)) (wc_eq hu hz h40 htc (nI k) (!(decide (xs (i + 2) = 0))) B L) ?_
      refine lv_istore (lv' := [(6, .int (if anyb (fun j => zz U Z nc j && sx (nI j) (nI k) (!(decide (xs (i + 2) = 0)))) (pw tc) = true then nI (ct (fun a => !(sx (B a) (nI k) (!(decide (xs (i + 2) = 0)))) && decide (L a = 0)) ac) else 0)), (5, .int 0), (4, .int (nI i)), (3, .ref o), (2, .ref (r 0)), (1, .ref (q 0)), (0, .ref b)]) hx hb dL_law_1455 hl (by decide) rfl (fun ls hl => ?_)
      refine lv_aload_n hx hb dL_law_1457 rfl (lv_at hl 4 rfl) ?_
      refine pcV_i (As := []) (rest := []) ⟨hx, hb, hml, hown, hts⟩ (g_M_thrown l (P_r hP) htc hnc hac) (cwV 0 hts gL_law_X1_thrown rfl rfl rfl hdX1_thrown ⟨Nat.le_of_ble_eq_true rfl, Nat.le_of_ble_eq_true rfl⟩) (va_recv hK hP (ci := 1) (q0 := 8) rfl rfl) hK2 rfl hl.1 (Nat.le_of_ble_eq_true rfl) rfl dL_law_1458 ⟨by show _ ≤ 621274; omega, by show _ ≤ 7232283; omega⟩ ?_
      refine lv_iload hx hb dL_law_1461 (lv_at hl 1 rfl) ?_
      refine lv_ieq (tgt := 1468) hx hb rfl dL_law_1463 (by decide) ?_
      refine lv_iload hx hb dL_law_1468 (lv_at hl 1 rfl) ?_
      refine lv_if_ne (tgt := 1485) hx hb dL_law_1470 (by decide) (fun h0 => absurd rfl h0) (fun _ => ?_)
      refine lv_aload_n hx hb dL_law_1473 rfl (lv_at hl 3 rfl) ?_
      refine lv_iconst (v := 0) hx hb dL_law_1474 (by decide) ?_
      refine ll_ld hx hb hK hP 7 2 rfl rfl dL_law_1475 ?_
      refine lv_iload hx hb dL_law_1476 (lv_at hl 0 rfl) ?_
      refine lv_i2l (v := (if anyb (fun j => zz U Z nc j && sx (nI j) (nI k) (!(decide (xs (i + 2) = 0)))) (pw tc) = true then nI (ct (fun a => !(sx (B a) (nI k) (!(decide (xs (i + 2) = 0)))) && decide (L a = 0)) ac) else 0).toInt64) hx hb dL_law_1478 rfl ?_
      refine lv_leq (tgt := 1485) hx hb rfl dL_law_1479 dL_law_1480 (by decide) ?_
      refine lv_goto (tgt := 1543) hx hb dL_law_1485 (by decide) ?_
      refine W.widen (k := cells + 9) (n := slots + 58) (by omega) (by omega) ?_
      exact kk _ _ _ ⟨0, tc, nc, ac, ch, U, Z, (upd V nc (nI k)), (updB Y nc (!(decide (xs (i + 2) = 0)))), B, L, F, (vp_updL f 0 (if anyb (fun j => zz U Z nc j && sx (nI j) (nI k) (!(decide (xs (i + 2) = 0)))) (pw tc) = true then nI (ct (fun a => !(sx (B a) (nI k) (!(decide (xs (i + 2) = 0)))) && decide (L a = 0)) ac) else 0).toInt64), hS, hP, hD, htc, hnc, hac, (upd_in hu (fun j hj => if_neg (by omega))), (upd_in hz (fun j hj => if_neg (by omega))), hB, hB0, lv_sub hl [2, 3, 4, 5, 6] rfl⟩
